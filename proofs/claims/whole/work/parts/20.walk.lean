theorem dX0_besidesOf_0 : decode cX0_besidesOf 0 = .ok (.iload_n 1, 1) := by decide +kernel
theorem dX0_besidesOf_1 : decode cX0_besidesOf 1 = .ok (.ifCond .lt 18, 3) := by decide +kernel
theorem dX0_besidesOf_4 : decode cX0_besidesOf 4 = .ok (.iload_n 1, 1) := by decide +kernel
theorem dX0_besidesOf_5 : decode cX0_besidesOf 5 = .ok (.bipush 64, 2) := by decide +kernel
theorem dX0_besidesOf_7 : decode cX0_besidesOf 7 = .ok (.if_icmp .ge 12, 3) := by decide +kernel
theorem dX0_besidesOf_10 : decode cX0_besidesOf 10 = .ok (.aload_n 0, 1) := by decide +kernel
theorem dX0_besidesOf_11 : decode cX0_besidesOf 11 = .ok (.getfield 48, 3) := by decide +kernel
theorem dX0_besidesOf_14 : decode cX0_besidesOf 14 = .ok (.iload_n 1, 1) := by decide +kernel
theorem dX0_besidesOf_15 : decode cX0_besidesOf 15 = .ok (.laload, 1) := by decide +kernel
theorem dX0_besidesOf_16 : decode cX0_besidesOf 16 = .ok (.goto 4, 3) := by decide +kernel
theorem dX0_besidesOf_19 : decode cX0_besidesOf 19 = .ok (.lconst 0, 1) := by decide +kernel
theorem dX0_besidesOf_20 : decode cX0_besidesOf 20 = .ok (.lreturn, 1) := by decide +kernel
theorem dX0_fileAt_0 : decode cX0_fileAt 0 = .ok (.iload_n 1, 1) := by decide +kernel
theorem dX0_fileAt_1 : decode cX0_fileAt 1 = .ok (.ifCond .lt 18, 3) := by decide +kernel
theorem dX0_fileAt_4 : decode cX0_fileAt 4 = .ok (.iload_n 1, 1) := by decide +kernel
theorem dX0_fileAt_5 : decode cX0_fileAt 5 = .ok (.bipush 64, 2) := by decide +kernel
theorem dX0_fileAt_7 : decode cX0_fileAt 7 = .ok (.if_icmp .ge 12, 3) := by decide +kernel
theorem dX0_fileAt_10 : decode cX0_fileAt 10 = .ok (.aload_n 0, 1) := by decide +kernel
theorem dX0_fileAt_11 : decode cX0_fileAt 11 = .ok (.getfield 25, 3) := by decide +kernel
theorem dX0_fileAt_14 : decode cX0_fileAt 14 = .ok (.iload_n 1, 1) := by decide +kernel
theorem dX0_fileAt_15 : decode cX0_fileAt 15 = .ok (.iaload, 1) := by decide +kernel
theorem dX0_fileAt_16 : decode cX0_fileAt 16 = .ok (.goto 4, 3) := by decide +kernel
theorem dX0_fileAt_19 : decode cX0_fileAt 19 = .ok (.iconst (-1), 1) := by decide +kernel
theorem dX0_fileAt_20 : decode cX0_fileAt 20 = .ok (.ireturn, 1) := by decide +kernel
theorem dX0_has_0 : decode cX0_has 0 = .ok (.iload_n 1, 1) := by decide +kernel
theorem dX0_has_1 : decode cX0_has 1 = .ok (.ifCond .lt 21, 3) := by decide +kernel
theorem dX0_has_4 : decode cX0_has 4 = .ok (.iload_n 1, 1) := by decide +kernel
theorem dX0_has_5 : decode cX0_has 5 = .ok (.aload_n 0, 1) := by decide +kernel
theorem dX0_has_6 : decode cX0_has 6 = .ok (.getfield 18, 3) := by decide +kernel
theorem dX0_has_9 : decode cX0_has 9 = .ok (.if_icmp .ge 13, 3) := by decide +kernel
theorem dX0_has_12 : decode cX0_has 12 = .ok (.iload_n 1, 1) := by decide +kernel
theorem dX0_has_13 : decode cX0_has 13 = .ok (.bipush 64, 2) := by decide +kernel
theorem dX0_has_15 : decode cX0_has 15 = .ok (.if_icmp .ge 7, 3) := by decide +kernel
theorem dX0_has_18 : decode cX0_has 18 = .ok (.iconst 1, 1) := by decide +kernel
theorem dX0_has_19 : decode cX0_has 19 = .ok (.goto 4, 3) := by decide +kernel
theorem dX0_has_22 : decode cX0_has 22 = .ok (.iconst 0, 1) := by decide +kernel
theorem dX0_has_23 : decode cX0_has 23 = .ok (.ireturn, 1) := by decide +kernel
theorem dX0_setOf_0 : decode cX0_setOf 0 = .ok (.iload_n 1, 1) := by decide +kernel
theorem dX0_setOf_1 : decode cX0_setOf 1 = .ok (.ifCond .lt 27, 3) := by decide +kernel
theorem dX0_setOf_4 : decode cX0_setOf 4 = .ok (.iload_n 1, 1) := by decide +kernel
theorem dX0_setOf_5 : decode cX0_setOf 5 = .ok (.aload_n 0, 1) := by decide +kernel
theorem dX0_setOf_6 : decode cX0_setOf 6 = .ok (.getfield 9, 3) := by decide +kernel
theorem dX0_setOf_9 : decode cX0_setOf 9 = .ok (.if_icmp .ge 19, 3) := by decide +kernel
theorem dX0_setOf_12 : decode cX0_setOf 12 = .ok (.iload_n 2, 1) := by decide +kernel
theorem dX0_setOf_13 : decode cX0_setOf 13 = .ok (.ifCond .lt 15, 3) := by decide +kernel
theorem dX0_setOf_16 : decode cX0_setOf 16 = .ok (.iload_n 2, 1) := by decide +kernel
theorem dX0_setOf_17 : decode cX0_setOf 17 = .ok (.aload_n 0, 1) := by decide +kernel
theorem dX0_setOf_18 : decode cX0_setOf 18 = .ok (.getfield 15, 3) := by decide +kernel
theorem dX0_setOf_21 : decode cX0_setOf 21 = .ok (.if_icmp .ge 7, 3) := by decide +kernel
theorem dX0_setOf_24 : decode cX0_setOf 24 = .ok (.iconst 1, 1) := by decide +kernel
theorem dX0_setOf_25 : decode cX0_setOf 25 = .ok (.goto 4, 3) := by decide +kernel
theorem dX0_setOf_28 : decode cX0_setOf 28 = .ok (.iconst 0, 1) := by decide +kernel
theorem dX0_setOf_29 : decode cX0_setOf 29 = .ok (.istore_n 3, 1) := by decide +kernel
theorem dX0_setOf_30 : decode cX0_setOf 30 = .ok (.iload_n 3, 1) := by decide +kernel
theorem dX0_setOf_31 : decode cX0_setOf 31 = .ok (.ifCond .eq 16, 3) := by decide +kernel
theorem dX0_setOf_34 : decode cX0_setOf 34 = .ok (.lconst 1, 1) := by decide +kernel
theorem dX0_setOf_35 : decode cX0_setOf 35 = .ok (.iload_n 2, 1) := by decide +kernel
theorem dX0_setOf_36 : decode cX0_setOf 36 = .ok (.aload_n 0, 1) := by decide +kernel
theorem dX0_setOf_37 : decode cX0_setOf 37 = .ok (.getfield 9, 3) := by decide +kernel
theorem dX0_setOf_40 : decode cX0_setOf 40 = .ok (.imul, 1) := by decide +kernel
theorem dX0_setOf_41 : decode cX0_setOf 41 = .ok (.iload_n 1, 1) := by decide +kernel
theorem dX0_setOf_42 : decode cX0_setOf 42 = .ok (.iadd, 1) := by decide +kernel
theorem dX0_setOf_43 : decode cX0_setOf 43 = .ok (.lshl, 1) := by decide +kernel
theorem dX0_setOf_44 : decode cX0_setOf 44 = .ok (.goto 4, 3) := by decide +kernel
theorem dX0_setOf_47 : decode cX0_setOf 47 = .ok (.lconst 0, 1) := by decide +kernel
theorem dX0_setOf_48 : decode cX0_setOf 48 = .ok (.lreturn, 1) := by decide +kernel
theorem dX0_ray_0 : decode cX0_ray 0 = .ok (.lconst 0, 1) := by decide +kernel
theorem dX0_ray_1 : decode cX0_ray 1 = .ok (.lstore 5, 2) := by decide +kernel
theorem dX0_ray_3 : decode cX0_ray 3 = .ok (.iconst 1, 1) := by decide +kernel
theorem dX0_ray_4 : decode cX0_ray 4 = .ok (.istore 7, 2) := by decide +kernel
theorem dX0_ray_6 : decode cX0_ray 6 = .ok (.iload 7, 2) := by decide +kernel
theorem dX0_ray_8 : decode cX0_ray 8 = .ok (.bipush 8, 2) := by decide +kernel
theorem dX0_ray_10 : decode cX0_ray 10 = .ok (.if_icmp .ge 31, 3) := by decide +kernel
theorem dX0_ray_13 : decode cX0_ray 13 = .ok (.lload 5, 2) := by decide +kernel
theorem dX0_ray_15 : decode cX0_ray 15 = .ok (.aload_n 0, 1) := by decide +kernel
theorem dX0_ray_16 : decode cX0_ray 16 = .ok (.iload_n 1, 1) := by decide +kernel
theorem dX0_ray_17 : decode cX0_ray 17 = .ok (.iload 7, 2) := by decide +kernel
theorem dX0_ray_19 : decode cX0_ray 19 = .ok (.iload_n 3, 1) := by decide +kernel
theorem dX0_ray_20 : decode cX0_ray 20 = .ok (.imul, 1) := by decide +kernel
theorem dX0_ray_21 : decode cX0_ray 21 = .ok (.iadd, 1) := by decide +kernel
theorem dX0_ray_22 : decode cX0_ray 22 = .ok (.iload_n 2, 1) := by decide +kernel
theorem dX0_ray_23 : decode cX0_ray 23 = .ok (.iload 7, 2) := by decide +kernel
theorem dX0_ray_25 : decode cX0_ray 25 = .ok (.iload 4, 2) := by decide +kernel
theorem dX0_ray_27 : decode cX0_ray 27 = .ok (.imul, 1) := by decide +kernel
theorem dX0_ray_28 : decode cX0_ray 28 = .ok (.iadd, 1) := by decide +kernel
theorem dX0_ray_29 : decode cX0_ray 29 = .ok (.invokevirtual 75, 3) := by decide +kernel
theorem dX0_ray_32 : decode cX0_ray 32 = .ok (.lor, 1) := by decide +kernel
theorem dX0_ray_33 : decode cX0_ray 33 = .ok (.lstore 5, 2) := by decide +kernel
theorem dX0_ray_35 : decode cX0_ray 35 = .ok (.iinc 7 1, 3) := by decide +kernel
theorem dX0_ray_38 : decode cX0_ray 38 = .ok (.goto (-32), 3) := by decide +kernel
theorem dX0_ray_41 : decode cX0_ray 41 = .ok (.lload 5, 2) := by decide +kernel
theorem dX0_ray_43 : decode cX0_ray 43 = .ok (.lreturn, 1) := by decide +kernel
theorem dX0_pawnAimsOf_0 : decode cX0_pawnAimsOf 0 = .ok (.iload_n 1, 1) := by decide +kernel
theorem dX0_pawnAimsOf_1 : decode cX0_pawnAimsOf 1 = .ok (.ifCond .lt 9, 3) := by decide +kernel
theorem dX0_pawnAimsOf_4 : decode cX0_pawnAimsOf 4 = .ok (.iload_n 1, 1) := by decide +kernel
theorem dX0_pawnAimsOf_5 : decode cX0_pawnAimsOf 5 = .ok (.bipush 64, 2) := by decide +kernel
theorem dX0_pawnAimsOf_7 : decode cX0_pawnAimsOf 7 = .ok (.if_icmp .lt 5, 3) := by decide +kernel
theorem dX0_pawnAimsOf_10 : decode cX0_pawnAimsOf 10 = .ok (.lconst 0, 1) := by decide +kernel
theorem dX0_pawnAimsOf_11 : decode cX0_pawnAimsOf 11 = .ok (.lreturn, 1) := by decide +kernel
theorem dX0_pawnAimsOf_12 : decode cX0_pawnAimsOf 12 = .ok (.iload_n 2, 1) := by decide +kernel
theorem dX0_pawnAimsOf_13 : decode cX0_pawnAimsOf 13 = .ok (.ifCond .eq 12, 3) := by decide +kernel
theorem dX0_pawnAimsOf_16 : decode cX0_pawnAimsOf 16 = .ok (.aload_n 0, 1) := by decide +kernel
theorem dX0_pawnAimsOf_17 : decode cX0_pawnAimsOf 17 = .ok (.getfield 42, 3) := by decide +kernel
theorem dX0_pawnAimsOf_20 : decode cX0_pawnAimsOf 20 = .ok (.iload_n 1, 1) := by decide +kernel
theorem dX0_pawnAimsOf_21 : decode cX0_pawnAimsOf 21 = .ok (.laload, 1) := by decide +kernel
theorem dX0_pawnAimsOf_22 : decode cX0_pawnAimsOf 22 = .ok (.goto 9, 3) := by decide +kernel
theorem dX0_pawnAimsOf_25 : decode cX0_pawnAimsOf 25 = .ok (.aload_n 0, 1) := by decide +kernel
theorem dX0_pawnAimsOf_26 : decode cX0_pawnAimsOf 26 = .ok (.getfield 45, 3) := by decide +kernel
theorem dX0_pawnAimsOf_29 : decode cX0_pawnAimsOf 29 = .ok (.iload_n 1, 1) := by decide +kernel
theorem dX0_pawnAimsOf_30 : decode cX0_pawnAimsOf 30 = .ok (.laload, 1) := by decide +kernel
theorem dX0_pawnAimsOf_31 : decode cX0_pawnAimsOf 31 = .ok (.lreturn, 1) := by decide +kernel
theorem dX0_rankAt_0 : decode cX0_rankAt 0 = .ok (.iload_n 1, 1) := by decide +kernel
theorem dX0_rankAt_1 : decode cX0_rankAt 1 = .ok (.ifCond .lt 18, 3) := by decide +kernel
theorem dX0_rankAt_4 : decode cX0_rankAt 4 = .ok (.iload_n 1, 1) := by decide +kernel
theorem dX0_rankAt_5 : decode cX0_rankAt 5 = .ok (.bipush 64, 2) := by decide +kernel
theorem dX0_rankAt_7 : decode cX0_rankAt 7 = .ok (.if_icmp .ge 12, 3) := by decide +kernel
theorem dX0_rankAt_10 : decode cX0_rankAt 10 = .ok (.aload_n 0, 1) := by decide +kernel
theorem dX0_rankAt_11 : decode cX0_rankAt 11 = .ok (.getfield 29, 3) := by decide +kernel
theorem dX0_rankAt_14 : decode cX0_rankAt 14 = .ok (.iload_n 1, 1) := by decide +kernel
theorem dX0_rankAt_15 : decode cX0_rankAt 15 = .ok (.iaload, 1) := by decide +kernel
theorem dX0_rankAt_16 : decode cX0_rankAt 16 = .ok (.goto 4, 3) := by decide +kernel
theorem dX0_rankAt_19 : decode cX0_rankAt 19 = .ok (.iconst (-1), 1) := by decide +kernel
theorem dX0_rankAt_20 : decode cX0_rankAt 20 = .ok (.ireturn, 1) := by decide +kernel
theorem dX0_slides_0 : decode cX0_slides 0 = .ok (.iload_n 1, 1) := by decide +kernel
theorem dX0_slides_1 : decode cX0_slides 1 = .ok (.ifCond .lt 9, 3) := by decide +kernel
theorem dX0_slides_4 : decode cX0_slides 4 = .ok (.iload_n 1, 1) := by decide +kernel
theorem dX0_slides_5 : decode cX0_slides 5 = .ok (.bipush 64, 2) := by decide +kernel
theorem dX0_slides_7 : decode cX0_slides 7 = .ok (.if_icmp .lt 5, 3) := by decide +kernel
theorem dX0_slides_10 : decode cX0_slides 10 = .ok (.lconst 0, 1) := by decide +kernel
theorem dX0_slides_11 : decode cX0_slides 11 = .ok (.lreturn, 1) := by decide +kernel
theorem dX0_slides_12 : decode cX0_slides 12 = .ok (.lconst 0, 1) := by decide +kernel
theorem dX0_slides_13 : decode cX0_slides 13 = .ok (.lstore 5, 2) := by decide +kernel
theorem dX0_slides_15 : decode cX0_slides 15 = .ok (.iload_n 2, 1) := by decide +kernel
theorem dX0_slides_16 : decode cX0_slides 16 = .ok (.ifCond .eq 7, 3) := by decide +kernel
theorem dX0_slides_19 : decode cX0_slides 19 = .ok (.iconst 0, 1) := by decide +kernel
theorem dX0_slides_20 : decode cX0_slides 20 = .ok (.goto 4, 3) := by decide +kernel
theorem dX0_slides_23 : decode cX0_slides 23 = .ok (.iconst 4, 1) := by decide +kernel
theorem dX0_slides_24 : decode cX0_slides 24 = .ok (.istore 7, 2) := by decide +kernel
theorem dX0_slides_26 : decode cX0_slides 26 = .ok (.iconst 0, 1) := by decide +kernel
theorem dX0_slides_27 : decode cX0_slides 27 = .ok (.istore 8, 2) := by decide +kernel
theorem dX0_slides_29 : decode cX0_slides 29 = .ok (.iload 8, 2) := by decide +kernel
theorem dX0_slides_31 : decode cX0_slides 31 = .ok (.iconst 4, 1) := by decide +kernel
theorem dX0_slides_32 : decode cX0_slides 32 = .ok (.if_icmp .ge 130, 3) := by decide +kernel
theorem dX0_slides_35 : decode cX0_slides 35 = .ok (.aload_n 0, 1) := by decide +kernel
theorem dX0_slides_36 : decode cX0_slides 36 = .ok (.getfield 32, 3) := by decide +kernel
theorem dX0_slides_39 : decode cX0_slides 39 = .ok (.iload_n 1, 1) := by decide +kernel
theorem dX0_slides_40 : decode cX0_slides 40 = .ok (.bipush 8, 2) := by decide +kernel
theorem dX0_slides_42 : decode cX0_slides 42 = .ok (.imul, 1) := by decide +kernel
theorem dX0_slides_43 : decode cX0_slides 43 = .ok (.iload 7, 2) := by decide +kernel
theorem dX0_slides_45 : decode cX0_slides 45 = .ok (.iadd, 1) := by decide +kernel
theorem dX0_slides_46 : decode cX0_slides 46 = .ok (.iload 8, 2) := by decide +kernel
theorem dX0_slides_48 : decode cX0_slides 48 = .ok (.iadd, 1) := by decide +kernel
theorem dX0_slides_49 : decode cX0_slides 49 = .ok (.laload, 1) := by decide +kernel
theorem dX0_slides_50 : decode cX0_slides 50 = .ok (.lstore 9, 2) := by decide +kernel
theorem dX0_slides_52 : decode cX0_slides 52 = .ok (.lload 9, 2) := by decide +kernel
theorem dX0_slides_54 : decode cX0_slides 54 = .ok (.lload_n 3, 1) := by decide +kernel
theorem dX0_slides_55 : decode cX0_slides 55 = .ok (.land, 1) := by decide +kernel
theorem dX0_slides_56 : decode cX0_slides 56 = .ok (.lstore 11, 2) := by decide +kernel
theorem dX0_slides_58 : decode cX0_slides 58 = .ok (.iload 8, 2) := by decide +kernel
theorem dX0_slides_60 : decode cX0_slides 60 = .ok (.iconst 2, 1) := by decide +kernel
theorem dX0_slides_61 : decode cX0_slides 61 = .ok (.if_icmp .ge 18, 3) := by decide +kernel
theorem dX0_slides_64 : decode cX0_slides 64 = .ok (.lload 9, 2) := by decide +kernel
theorem dX0_slides_66 : decode cX0_slides 66 = .ok (.lload 11, 2) := by decide +kernel
theorem dX0_slides_68 : decode cX0_slides 68 = .ok (.lload 11, 2) := by decide +kernel
theorem dX0_slides_70 : decode cX0_slides 70 = .ok (.lconst 1, 1) := by decide +kernel
theorem dX0_slides_71 : decode cX0_slides 71 = .ok (.lsub, 1) := by decide +kernel
theorem dX0_slides_72 : decode cX0_slides 72 = .ok (.lxor, 1) := by decide +kernel
theorem dX0_slides_73 : decode cX0_slides 73 = .ok (.land, 1) := by decide +kernel
theorem dX0_slides_74 : decode cX0_slides 74 = .ok (.lstore 9, 2) := by decide +kernel
theorem dX0_slides_76 : decode cX0_slides 76 = .ok (.goto 73, 3) := by decide +kernel
theorem dX0_slides_79 : decode cX0_slides 79 = .ok (.lload 11, 2) := by decide +kernel
theorem dX0_slides_81 : decode cX0_slides 81 = .ok (.lload 11, 2) := by decide +kernel
theorem dX0_slides_83 : decode cX0_slides 83 = .ok (.iconst 1, 1) := by decide +kernel
theorem dX0_slides_84 : decode cX0_slides 84 = .ok (.lushr, 1) := by decide +kernel
theorem dX0_slides_85 : decode cX0_slides 85 = .ok (.lor, 1) := by decide +kernel
theorem dX0_slides_86 : decode cX0_slides 86 = .ok (.lstore 11, 2) := by decide +kernel
theorem dX0_slides_88 : decode cX0_slides 88 = .ok (.lload 11, 2) := by decide +kernel
theorem dX0_slides_90 : decode cX0_slides 90 = .ok (.lload 11, 2) := by decide +kernel
theorem dX0_slides_92 : decode cX0_slides 92 = .ok (.iconst 2, 1) := by decide +kernel
theorem dX0_slides_93 : decode cX0_slides 93 = .ok (.lushr, 1) := by decide +kernel
theorem dX0_slides_94 : decode cX0_slides 94 = .ok (.lor, 1) := by decide +kernel
theorem dX0_slides_95 : decode cX0_slides 95 = .ok (.lstore 11, 2) := by decide +kernel
theorem dX0_slides_97 : decode cX0_slides 97 = .ok (.lload 11, 2) := by decide +kernel
theorem dX0_slides_99 : decode cX0_slides 99 = .ok (.lload 11, 2) := by decide +kernel
theorem dX0_slides_101 : decode cX0_slides 101 = .ok (.iconst 4, 1) := by decide +kernel
theorem dX0_slides_102 : decode cX0_slides 102 = .ok (.lushr, 1) := by decide +kernel
theorem dX0_slides_103 : decode cX0_slides 103 = .ok (.lor, 1) := by decide +kernel
theorem dX0_slides_104 : decode cX0_slides 104 = .ok (.lstore 11, 2) := by decide +kernel
theorem dX0_slides_106 : decode cX0_slides 106 = .ok (.lload 11, 2) := by decide +kernel
theorem dX0_slides_108 : decode cX0_slides 108 = .ok (.lload 11, 2) := by decide +kernel
theorem dX0_slides_110 : decode cX0_slides 110 = .ok (.bipush 8, 2) := by decide +kernel
theorem dX0_slides_112 : decode cX0_slides 112 = .ok (.lushr, 1) := by decide +kernel
theorem dX0_slides_113 : decode cX0_slides 113 = .ok (.lor, 1) := by decide +kernel
theorem dX0_slides_114 : decode cX0_slides 114 = .ok (.lstore 11, 2) := by decide +kernel
theorem dX0_slides_116 : decode cX0_slides 116 = .ok (.lload 11, 2) := by decide +kernel
theorem dX0_slides_118 : decode cX0_slides 118 = .ok (.lload 11, 2) := by decide +kernel
theorem dX0_slides_120 : decode cX0_slides 120 = .ok (.bipush 16, 2) := by decide +kernel
theorem dX0_slides_122 : decode cX0_slides 122 = .ok (.lushr, 1) := by decide +kernel
theorem dX0_slides_123 : decode cX0_slides 123 = .ok (.lor, 1) := by decide +kernel
theorem dX0_slides_124 : decode cX0_slides 124 = .ok (.lstore 11, 2) := by decide +kernel
theorem dX0_slides_126 : decode cX0_slides 126 = .ok (.lload 11, 2) := by decide +kernel
theorem dX0_slides_128 : decode cX0_slides 128 = .ok (.lload 11, 2) := by decide +kernel
theorem dX0_slides_130 : decode cX0_slides 130 = .ok (.bipush 32, 2) := by decide +kernel
theorem dX0_slides_132 : decode cX0_slides 132 = .ok (.lushr, 1) := by decide +kernel
theorem dX0_slides_133 : decode cX0_slides 133 = .ok (.lor, 1) := by decide +kernel
theorem dX0_slides_134 : decode cX0_slides 134 = .ok (.lstore 11, 2) := by decide +kernel
theorem dX0_slides_136 : decode cX0_slides 136 = .ok (.lload 9, 2) := by decide +kernel
theorem dX0_slides_138 : decode cX0_slides 138 = .ok (.lload 11, 2) := by decide +kernel
theorem dX0_slides_140 : decode cX0_slides 140 = .ok (.iconst 1, 1) := by decide +kernel
theorem dX0_slides_141 : decode cX0_slides 141 = .ok (.lushr, 1) := by decide +kernel
theorem dX0_slides_142 : decode cX0_slides 142 = .ok (.ldc2_w 89, 3) := by decide +kernel
theorem dX0_slides_145 : decode cX0_slides 145 = .ok (.lxor, 1) := by decide +kernel
theorem dX0_slides_146 : decode cX0_slides 146 = .ok (.land, 1) := by decide +kernel
theorem dX0_slides_147 : decode cX0_slides 147 = .ok (.lstore 9, 2) := by decide +kernel
theorem dX0_slides_149 : decode cX0_slides 149 = .ok (.lload 5, 2) := by decide +kernel
theorem dX0_slides_151 : decode cX0_slides 151 = .ok (.lload 9, 2) := by decide +kernel
theorem dX0_slides_153 : decode cX0_slides 153 = .ok (.lor, 1) := by decide +kernel
theorem dX0_slides_154 : decode cX0_slides 154 = .ok (.lstore 5, 2) := by decide +kernel
theorem dX0_slides_156 : decode cX0_slides 156 = .ok (.iinc 8 1, 3) := by decide +kernel
theorem dX0_slides_159 : decode cX0_slides 159 = .ok (.goto (-130), 3) := by decide +kernel
theorem dX0_slides_162 : decode cX0_slides 162 = .ok (.lload 5, 2) := by decide +kernel
theorem dX0_slides_164 : decode cX0_slides 164 = .ok (.lreturn, 1) := by decide +kernel
theorem dX0_reach_0 : decode cX0_reach 0 = .ok (.aload_n 0, 1) := by decide +kernel
theorem dX0_reach_1 : decode cX0_reach 1 = .ok (.iload_n 2, 1) := by decide +kernel
theorem dX0_reach_2 : decode cX0_reach 2 = .ok (.invokevirtual 61, 3) := by decide +kernel
theorem dX0_reach_5 : decode cX0_reach 5 = .ok (.ifCond .ne 5, 3) := by decide +kernel
theorem dX0_reach_8 : decode cX0_reach 8 = .ok (.lconst 0, 1) := by decide +kernel
theorem dX0_reach_9 : decode cX0_reach 9 = .ok (.lreturn, 1) := by decide +kernel
theorem dX0_reach_10 : decode cX0_reach 10 = .ok (.iload_n 1, 1) := by decide +kernel
theorem dX0_reach_11 : decode cX0_reach 11 = .ok (.tableswitch 79 1 5 #[33, 47, 63, 71, 40], 33) := by decide +kernel
theorem dX0_reach_44 : decode cX0_reach 44 = .ok (.aload_n 0, 1) := by decide +kernel
theorem dX0_reach_45 : decode cX0_reach 45 = .ok (.getfield 36, 3) := by decide +kernel
theorem dX0_reach_48 : decode cX0_reach 48 = .ok (.iload_n 2, 1) := by decide +kernel
theorem dX0_reach_49 : decode cX0_reach 49 = .ok (.laload, 1) := by decide +kernel
theorem dX0_reach_50 : decode cX0_reach 50 = .ok (.lreturn, 1) := by decide +kernel
theorem dX0_reach_51 : decode cX0_reach 51 = .ok (.aload_n 0, 1) := by decide +kernel
theorem dX0_reach_52 : decode cX0_reach 52 = .ok (.getfield 39, 3) := by decide +kernel
theorem dX0_reach_55 : decode cX0_reach 55 = .ok (.iload_n 2, 1) := by decide +kernel
theorem dX0_reach_56 : decode cX0_reach 56 = .ok (.laload, 1) := by decide +kernel
theorem dX0_reach_57 : decode cX0_reach 57 = .ok (.lreturn, 1) := by decide +kernel
theorem dX0_reach_58 : decode cX0_reach 58 = .ok (.aload_n 0, 1) := by decide +kernel
theorem dX0_reach_59 : decode cX0_reach 59 = .ok (.iload_n 2, 1) := by decide +kernel
theorem dX0_reach_60 : decode cX0_reach 60 = .ok (.iconst 1, 1) := by decide +kernel
theorem dX0_reach_61 : decode cX0_reach 61 = .ok (.lload_n 3, 1) := by decide +kernel
theorem dX0_reach_62 : decode cX0_reach 62 = .ok (.invokevirtual 85, 3) := by decide +kernel
theorem dX0_reach_65 : decode cX0_reach 65 = .ok (.aload_n 0, 1) := by decide +kernel
theorem dX0_reach_66 : decode cX0_reach 66 = .ok (.iload_n 2, 1) := by decide +kernel
theorem dX0_reach_67 : decode cX0_reach 67 = .ok (.iconst 0, 1) := by decide +kernel
theorem dX0_reach_68 : decode cX0_reach 68 = .ok (.lload_n 3, 1) := by decide +kernel
theorem dX0_reach_69 : decode cX0_reach 69 = .ok (.invokevirtual 85, 3) := by decide +kernel
theorem dX0_reach_72 : decode cX0_reach 72 = .ok (.lor, 1) := by decide +kernel
theorem dX0_reach_73 : decode cX0_reach 73 = .ok (.lreturn, 1) := by decide +kernel
theorem dX0_reach_74 : decode cX0_reach 74 = .ok (.aload_n 0, 1) := by decide +kernel
theorem dX0_reach_75 : decode cX0_reach 75 = .ok (.iload_n 2, 1) := by decide +kernel
theorem dX0_reach_76 : decode cX0_reach 76 = .ok (.iconst 1, 1) := by decide +kernel
theorem dX0_reach_77 : decode cX0_reach 77 = .ok (.lload_n 3, 1) := by decide +kernel
theorem dX0_reach_78 : decode cX0_reach 78 = .ok (.invokevirtual 85, 3) := by decide +kernel
theorem dX0_reach_81 : decode cX0_reach 81 = .ok (.lreturn, 1) := by decide +kernel
theorem dX0_reach_82 : decode cX0_reach 82 = .ok (.aload_n 0, 1) := by decide +kernel
theorem dX0_reach_83 : decode cX0_reach 83 = .ok (.iload_n 2, 1) := by decide +kernel
theorem dX0_reach_84 : decode cX0_reach 84 = .ok (.iconst 0, 1) := by decide +kernel
theorem dX0_reach_85 : decode cX0_reach 85 = .ok (.lload_n 3, 1) := by decide +kernel
theorem dX0_reach_86 : decode cX0_reach 86 = .ok (.invokevirtual 85, 3) := by decide +kernel
theorem dX0_reach_89 : decode cX0_reach 89 = .ok (.lreturn, 1) := by decide +kernel
theorem dX0_reach_90 : decode cX0_reach 90 = .ok (.lconst 0, 1) := by decide +kernel
theorem dX0_reach_91 : decode cX0_reach 91 = .ok (.lreturn, 1) := by decide +kernel
theorem dX0_squaresOfFile_0 : decode cX0_squaresOfFile 0 = .ok (.lconst 0, 1) := by decide +kernel
theorem dX0_squaresOfFile_1 : decode cX0_squaresOfFile 1 = .ok (.lstore_n 2, 1) := by decide +kernel
theorem dX0_squaresOfFile_2 : decode cX0_squaresOfFile 2 = .ok (.iconst 0, 1) := by decide +kernel
theorem dX0_squaresOfFile_3 : decode cX0_squaresOfFile 3 = .ok (.istore 4, 2) := by decide +kernel
theorem dX0_squaresOfFile_5 : decode cX0_squaresOfFile 5 = .ok (.iload 4, 2) := by decide +kernel
theorem dX0_squaresOfFile_7 : decode cX0_squaresOfFile 7 = .ok (.aload_n 0, 1) := by decide +kernel
theorem dX0_squaresOfFile_8 : decode cX0_squaresOfFile 8 = .ok (.getfield 15, 3) := by decide +kernel
theorem dX0_squaresOfFile_11 : decode cX0_squaresOfFile 11 = .ok (.if_icmp .ge 19, 3) := by decide +kernel
theorem dX0_squaresOfFile_14 : decode cX0_squaresOfFile 14 = .ok (.lload_n 2, 1) := by decide +kernel
theorem dX0_squaresOfFile_15 : decode cX0_squaresOfFile 15 = .ok (.aload_n 0, 1) := by decide +kernel
theorem dX0_squaresOfFile_16 : decode cX0_squaresOfFile 16 = .ok (.iload_n 1, 1) := by decide +kernel
theorem dX0_squaresOfFile_17 : decode cX0_squaresOfFile 17 = .ok (.iload 4, 2) := by decide +kernel
theorem dX0_squaresOfFile_19 : decode cX0_squaresOfFile 19 = .ok (.invokevirtual 75, 3) := by decide +kernel
theorem dX0_squaresOfFile_22 : decode cX0_squaresOfFile 22 = .ok (.lor, 1) := by decide +kernel
theorem dX0_squaresOfFile_23 : decode cX0_squaresOfFile 23 = .ok (.lstore_n 2, 1) := by decide +kernel
theorem dX0_squaresOfFile_24 : decode cX0_squaresOfFile 24 = .ok (.iinc 4 1, 3) := by decide +kernel
theorem dX0_squaresOfFile_27 : decode cX0_squaresOfFile 27 = .ok (.goto (-22), 3) := by decide +kernel
theorem dX0_squaresOfFile_30 : decode cX0_squaresOfFile 30 = .ok (.lload_n 2, 1) := by decide +kernel
theorem dX0_squaresOfFile_31 : decode cX0_squaresOfFile 31 = .ok (.lreturn, 1) := by decide +kernel
theorem dX3_planeAt_0 : decode cX3_planeAt 0 = .ok (.iload_n 1, 1) := by decide +kernel
theorem dX3_planeAt_1 : decode cX3_planeAt 1 = .ok (.iconst 5, 1) := by decide +kernel
theorem dX3_planeAt_2 : decode cX3_planeAt 2 = .ok (.imul, 1) := by decide +kernel
theorem dX3_planeAt_3 : decode cX3_planeAt 3 = .ok (.iload_n 2, 1) := by decide +kernel
theorem dX3_planeAt_4 : decode cX3_planeAt 4 = .ok (.iadd, 1) := by decide +kernel
theorem dX3_planeAt_5 : decode cX3_planeAt 5 = .ok (.istore_n 3, 1) := by decide +kernel
theorem dX3_planeAt_6 : decode cX3_planeAt 6 = .ok (.iload_n 3, 1) := by decide +kernel
theorem dX3_planeAt_7 : decode cX3_planeAt 7 = .ok (.ifCond .lt 21, 3) := by decide +kernel
theorem dX3_planeAt_10 : decode cX3_planeAt 10 = .ok (.iload_n 3, 1) := by decide +kernel
theorem dX3_planeAt_11 : decode cX3_planeAt 11 = .ok (.aload_n 0, 1) := by decide +kernel
theorem dX3_planeAt_12 : decode cX3_planeAt 12 = .ok (.getfield 36, 3) := by decide +kernel
theorem dX3_planeAt_15 : decode cX3_planeAt 15 = .ok (.arraylength, 1) := by decide +kernel
theorem dX3_planeAt_16 : decode cX3_planeAt 16 = .ok (.if_icmp .ge 12, 3) := by decide +kernel
theorem dX3_planeAt_19 : decode cX3_planeAt 19 = .ok (.aload_n 0, 1) := by decide +kernel
theorem dX3_planeAt_20 : decode cX3_planeAt 20 = .ok (.getfield 36, 3) := by decide +kernel
theorem dX3_planeAt_23 : decode cX3_planeAt 23 = .ok (.iload_n 3, 1) := by decide +kernel
theorem dX3_planeAt_24 : decode cX3_planeAt 24 = .ok (.laload, 1) := by decide +kernel
theorem dX3_planeAt_25 : decode cX3_planeAt 25 = .ok (.goto 4, 3) := by decide +kernel
theorem dX3_planeAt_28 : decode cX3_planeAt 28 = .ok (.lconst 0, 1) := by decide +kernel
theorem dX3_planeAt_29 : decode cX3_planeAt 29 = .ok (.lreturn, 1) := by decide +kernel
theorem dX3_isSameAt_0 : decode cX3_isSameAt 0 = .ok (.iconst 0, 1) := by decide +kernel
theorem dX3_isSameAt_1 : decode cX3_isSameAt 1 = .ok (.istore 4, 2) := by decide +kernel
theorem dX3_isSameAt_3 : decode cX3_isSameAt 3 = .ok (.iload 4, 2) := by decide +kernel
theorem dX3_isSameAt_5 : decode cX3_isSameAt 5 = .ok (.iconst 5, 1) := by decide +kernel
theorem dX3_isSameAt_6 : decode cX3_isSameAt 6 = .ok (.if_icmp .ge 29, 3) := by decide +kernel
theorem dX3_isSameAt_9 : decode cX3_isSameAt 9 = .ok (.aload_n 0, 1) := by decide +kernel
theorem dX3_isSameAt_10 : decode cX3_isSameAt 10 = .ok (.iload_n 1, 1) := by decide +kernel
theorem dX3_isSameAt_11 : decode cX3_isSameAt 11 = .ok (.iload 4, 2) := by decide +kernel
theorem dX3_isSameAt_13 : decode cX3_isSameAt 13 = .ok (.invokevirtual 65, 3) := by decide +kernel
theorem dX3_isSameAt_16 : decode cX3_isSameAt 16 = .ok (.aload_n 2, 1) := by decide +kernel
theorem dX3_isSameAt_17 : decode cX3_isSameAt 17 = .ok (.iload_n 3, 1) := by decide +kernel
theorem dX3_isSameAt_18 : decode cX3_isSameAt 18 = .ok (.iload 4, 2) := by decide +kernel
theorem dX3_isSameAt_20 : decode cX3_isSameAt 20 = .ok (.invokevirtual 65, 3) := by decide +kernel
theorem dX3_isSameAt_23 : decode cX3_isSameAt 23 = .ok (.lcmp, 1) := by decide +kernel
theorem dX3_isSameAt_24 : decode cX3_isSameAt 24 = .ok (.ifCond .eq 5, 3) := by decide +kernel
theorem dX3_isSameAt_27 : decode cX3_isSameAt 27 = .ok (.iconst 0, 1) := by decide +kernel
theorem dX3_isSameAt_28 : decode cX3_isSameAt 28 = .ok (.ireturn, 1) := by decide +kernel
theorem dX3_isSameAt_29 : decode cX3_isSameAt 29 = .ok (.iinc 4 1, 3) := by decide +kernel
theorem dX3_isSameAt_32 : decode cX3_isSameAt 32 = .ok (.goto (-29), 3) := by decide +kernel
theorem dX3_isSameAt_35 : decode cX3_isSameAt 35 = .ok (.iconst 1, 1) := by decide +kernel
theorem dX3_isSameAt_36 : decode cX3_isSameAt 36 = .ok (.ireturn, 1) := by decide +kernel
theorem dX3_setFresh_0 : decode cX3_setFresh 0 = .ok (.iload_n 1, 1) := by decide +kernel
theorem dX3_setFresh_1 : decode cX3_setFresh 1 = .ok (.ifCond .lt 19, 3) := by decide +kernel
theorem dX3_setFresh_4 : decode cX3_setFresh 4 = .ok (.iload_n 1, 1) := by decide +kernel
theorem dX3_setFresh_5 : decode cX3_setFresh 5 = .ok (.aload_n 0, 1) := by decide +kernel
theorem dX3_setFresh_6 : decode cX3_setFresh 6 = .ok (.getfield 44, 3) := by decide +kernel
theorem dX3_setFresh_9 : decode cX3_setFresh 9 = .ok (.arraylength, 1) := by decide +kernel
theorem dX3_setFresh_10 : decode cX3_setFresh 10 = .ok (.if_icmp .ge 10, 3) := by decide +kernel
theorem dX3_setFresh_13 : decode cX3_setFresh 13 = .ok (.aload_n 0, 1) := by decide +kernel
theorem dX3_setFresh_14 : decode cX3_setFresh 14 = .ok (.getfield 44, 3) := by decide +kernel
theorem dX3_setFresh_17 : decode cX3_setFresh 17 = .ok (.iload_n 1, 1) := by decide +kernel
theorem dX3_setFresh_18 : decode cX3_setFresh 18 = .ok (.iload_n 2, 1) := by decide +kernel
theorem dX3_setFresh_19 : decode cX3_setFresh 19 = .ok (.bastore, 1) := by decide +kernel
theorem dX3_setFresh_20 : decode cX3_setFresh 20 = .ok (.return_, 1) := by decide +kernel
theorem dX3_isFreshAt_0 : decode cX3_isFreshAt 0 = .ok (.iload_n 1, 1) := by decide +kernel
theorem dX3_isFreshAt_1 : decode cX3_isFreshAt 1 = .ok (.ifCond .lt 25, 3) := by decide +kernel
theorem dX3_isFreshAt_4 : decode cX3_isFreshAt 4 = .ok (.iload_n 1, 1) := by decide +kernel
theorem dX3_isFreshAt_5 : decode cX3_isFreshAt 5 = .ok (.aload_n 0, 1) := by decide +kernel
theorem dX3_isFreshAt_6 : decode cX3_isFreshAt 6 = .ok (.getfield 44, 3) := by decide +kernel
theorem dX3_isFreshAt_9 : decode cX3_isFreshAt 9 = .ok (.arraylength, 1) := by decide +kernel
theorem dX3_isFreshAt_10 : decode cX3_isFreshAt 10 = .ok (.if_icmp .ge 16, 3) := by decide +kernel
theorem dX3_isFreshAt_13 : decode cX3_isFreshAt 13 = .ok (.aload_n 0, 1) := by decide +kernel
theorem dX3_isFreshAt_14 : decode cX3_isFreshAt 14 = .ok (.getfield 44, 3) := by decide +kernel
theorem dX3_isFreshAt_17 : decode cX3_isFreshAt 17 = .ok (.iload_n 1, 1) := by decide +kernel
theorem dX3_isFreshAt_18 : decode cX3_isFreshAt 18 = .ok (.baload, 1) := by decide +kernel
theorem dX3_isFreshAt_19 : decode cX3_isFreshAt 19 = .ok (.ifCond .eq 7, 3) := by decide +kernel
theorem dX3_isFreshAt_22 : decode cX3_isFreshAt 22 = .ok (.iconst 1, 1) := by decide +kernel
theorem dX3_isFreshAt_23 : decode cX3_isFreshAt 23 = .ok (.goto 4, 3) := by decide +kernel
theorem dX3_isFreshAt_26 : decode cX3_isFreshAt 26 = .ok (.iconst 0, 1) := by decide +kernel
theorem dX3_isFreshAt_27 : decode cX3_isFreshAt 27 = .ok (.ireturn, 1) := by decide +kernel
theorem dX3_moveAt_0 : decode cX3_moveAt 0 = .ok (.iload_n 1, 1) := by decide +kernel
theorem dX3_moveAt_1 : decode cX3_moveAt 1 = .ok (.ifCond .lt 29, 3) := by decide +kernel
theorem dX3_moveAt_4 : decode cX3_moveAt 4 = .ok (.iload_n 1, 1) := by decide +kernel
theorem dX3_moveAt_5 : decode cX3_moveAt 5 = .ok (.aload_n 0, 1) := by decide +kernel
theorem dX3_moveAt_6 : decode cX3_moveAt 6 = .ok (.getfield 9, 3) := by decide +kernel
theorem dX3_moveAt_9 : decode cX3_moveAt 9 = .ok (.if_icmp .ge 21, 3) := by decide +kernel
theorem dX3_moveAt_12 : decode cX3_moveAt 12 = .ok (.iload_n 1, 1) := by decide +kernel
theorem dX3_moveAt_13 : decode cX3_moveAt 13 = .ok (.aload_n 0, 1) := by decide +kernel
theorem dX3_moveAt_14 : decode cX3_moveAt 14 = .ok (.getfield 40, 3) := by decide +kernel
theorem dX3_moveAt_17 : decode cX3_moveAt 17 = .ok (.arraylength, 1) := by decide +kernel
theorem dX3_moveAt_18 : decode cX3_moveAt 18 = .ok (.if_icmp .ge 12, 3) := by decide +kernel
theorem dX3_moveAt_21 : decode cX3_moveAt 21 = .ok (.aload_n 0, 1) := by decide +kernel
theorem dX3_moveAt_22 : decode cX3_moveAt 22 = .ok (.getfield 40, 3) := by decide +kernel
theorem dX3_moveAt_25 : decode cX3_moveAt 25 = .ok (.iload_n 1, 1) := by decide +kernel
theorem dX3_moveAt_26 : decode cX3_moveAt 26 = .ok (.iaload, 1) := by decide +kernel
theorem dX3_moveAt_27 : decode cX3_moveAt 27 = .ok (.goto 4, 3) := by decide +kernel
theorem dX3_moveAt_30 : decode cX3_moveAt 30 = .ok (.iconst 0, 1) := by decide +kernel
theorem dX3_moveAt_31 : decode cX3_moveAt 31 = .ok (.ireturn, 1) := by decide +kernel
theorem dX3_isLike_0 : decode cX3_isLike 0 = .ok (.aload_n 0, 1) := by decide +kernel
theorem dX3_isLike_1 : decode cX3_isLike 1 = .ok (.getfield 9, 3) := by decide +kernel
theorem dX3_isLike_4 : decode cX3_isLike 4 = .ok (.aload_n 1, 1) := by decide +kernel
theorem dX3_isLike_5 : decode cX3_isLike 5 = .ok (.getfield 9, 3) := by decide +kernel
theorem dX3_isLike_8 : decode cX3_isLike 8 = .ok (.if_icmp .ne 13, 3) := by decide +kernel
theorem dX3_isLike_11 : decode cX3_isLike 11 = .ok (.aload_n 0, 1) := by decide +kernel
theorem dX3_isLike_12 : decode cX3_isLike 12 = .ok (.iconst 0, 1) := by decide +kernel
theorem dX3_isLike_13 : decode cX3_isLike 13 = .ok (.aload_n 1, 1) := by decide +kernel
theorem dX3_isLike_14 : decode cX3_isLike 14 = .ok (.iconst 0, 1) := by decide +kernel
theorem dX3_isLike_15 : decode cX3_isLike 15 = .ok (.invokevirtual 89, 3) := by decide +kernel
theorem dX3_isLike_18 : decode cX3_isLike 18 = .ok (.ifCond .ne 5, 3) := by decide +kernel
theorem dX3_isLike_21 : decode cX3_isLike 21 = .ok (.iconst 0, 1) := by decide +kernel
theorem dX3_isLike_22 : decode cX3_isLike 22 = .ok (.ireturn, 1) := by decide +kernel
theorem dX3_isLike_23 : decode cX3_isLike 23 = .ok (.iconst 0, 1) := by decide +kernel
theorem dX3_isLike_24 : decode cX3_isLike 24 = .ok (.istore_n 2, 1) := by decide +kernel
theorem dX3_isLike_25 : decode cX3_isLike 25 = .ok (.iload_n 2, 1) := by decide +kernel
theorem dX3_isLike_26 : decode cX3_isLike 26 = .ok (.aload_n 0, 1) := by decide +kernel
theorem dX3_isLike_27 : decode cX3_isLike 27 = .ok (.getfield 9, 3) := by decide +kernel
theorem dX3_isLike_30 : decode cX3_isLike 30 = .ok (.if_icmp .ge 24, 3) := by decide +kernel
theorem dX3_isLike_33 : decode cX3_isLike 33 = .ok (.aload_n 0, 1) := by decide +kernel
theorem dX3_isLike_34 : decode cX3_isLike 34 = .ok (.iload_n 2, 1) := by decide +kernel
theorem dX3_isLike_35 : decode cX3_isLike 35 = .ok (.invokevirtual 69, 3) := by decide +kernel
theorem dX3_isLike_38 : decode cX3_isLike 38 = .ok (.aload_n 1, 1) := by decide +kernel
theorem dX3_isLike_39 : decode cX3_isLike 39 = .ok (.iload_n 2, 1) := by decide +kernel
theorem dX3_isLike_40 : decode cX3_isLike 40 = .ok (.invokevirtual 69, 3) := by decide +kernel
theorem dX3_isLike_43 : decode cX3_isLike 43 = .ok (.if_icmp .eq 5, 3) := by decide +kernel
theorem dX3_isLike_46 : decode cX3_isLike 46 = .ok (.iconst 0, 1) := by decide +kernel
theorem dX3_isLike_47 : decode cX3_isLike 47 = .ok (.ireturn, 1) := by decide +kernel
theorem dX3_isLike_48 : decode cX3_isLike 48 = .ok (.iinc 2 1, 3) := by decide +kernel
theorem dX3_isLike_51 : decode cX3_isLike 51 = .ok (.goto (-26), 3) := by decide +kernel
theorem dX3_isLike_54 : decode cX3_isLike 54 = .ok (.iconst 1, 1) := by decide +kernel
theorem dX3_isLike_55 : decode cX3_isLike 55 = .ok (.ireturn, 1) := by decide +kernel
theorem dX7_rest_0 : decode cX7_rest 0 = .ok (.aload_n 0, 1) := by decide +kernel
theorem dX7_rest_1 : decode cX7_rest 1 = .ok (.getfield 24, 3) := by decide +kernel
theorem dX7_rest_4 : decode cX7_rest 4 = .ok (.ifCond .eq 7, 3) := by decide +kernel
theorem dX7_rest_7 : decode cX7_rest 7 = .ok (.iconst 1, 1) := by decide +kernel
theorem dX7_rest_8 : decode cX7_rest 8 = .ok (.goto 4, 3) := by decide +kernel
theorem dX7_rest_11 : decode cX7_rest 11 = .ok (.iconst 0, 1) := by decide +kernel
theorem dX7_rest_12 : decode cX7_rest 12 = .ok (.aload_n 0, 1) := by decide +kernel
theorem dX7_rest_13 : decode cX7_rest 13 = .ok (.getfield 28, 3) := by decide +kernel
theorem dX7_rest_16 : decode cX7_rest 16 = .ok (.iconst 2, 1) := by decide +kernel
theorem dX7_rest_17 : decode cX7_rest 17 = .ok (.imul, 1) := by decide +kernel
theorem dX7_rest_18 : decode cX7_rest 18 = .ok (.iadd, 1) := by decide +kernel
theorem dX7_rest_19 : decode cX7_rest 19 = .ok (.i2l, 1) := by decide +kernel
theorem dX7_rest_20 : decode cX7_rest 20 = .ok (.aload_n 0, 1) := by decide +kernel
theorem dX7_rest_21 : decode cX7_rest 21 = .ok (.getfield 32, 3) := by decide +kernel
theorem dX7_rest_24 : decode cX7_rest 24 = .ok (.iconst 1, 1) := by decide +kernel
theorem dX7_rest_25 : decode cX7_rest 25 = .ok (.iadd, 1) := by decide +kernel
theorem dX7_rest_26 : decode cX7_rest 26 = .ok (.i2l, 1) := by decide +kernel
theorem dX7_rest_27 : decode cX7_rest 27 = .ok (.ldc2_w 68, 3) := by decide +kernel
theorem dX7_rest_30 : decode cX7_rest 30 = .ok (.lmul, 1) := by decide +kernel
theorem dX7_rest_31 : decode cX7_rest 31 = .ok (.ladd, 1) := by decide +kernel
theorem dX7_rest_32 : decode cX7_rest 32 = .ok (.lreturn, 1) := by decide +kernel
theorem dX7_isSavedAt_0 : decode cX7_isSavedAt 0 = .ok (.iload_n 2, 1) := by decide +kernel
theorem dX7_isSavedAt_1 : decode cX7_isSavedAt 1 = .ok (.iconst 5, 1) := by decide +kernel
theorem dX7_isSavedAt_2 : decode cX7_isSavedAt 2 = .ok (.imul, 1) := by decide +kernel
theorem dX7_isSavedAt_3 : decode cX7_isSavedAt 3 = .ok (.istore_n 3, 1) := by decide +kernel
theorem dX7_isSavedAt_4 : decode cX7_isSavedAt 4 = .ok (.iload_n 2, 1) := by decide +kernel
theorem dX7_isSavedAt_5 : decode cX7_isSavedAt 5 = .ok (.ifCond .lt 15, 3) := by decide +kernel
theorem dX7_isSavedAt_8 : decode cX7_isSavedAt 8 = .ok (.iload_n 3, 1) := by decide +kernel
theorem dX7_isSavedAt_9 : decode cX7_isSavedAt 9 = .ok (.ifCond .lt 11, 3) := by decide +kernel
theorem dX7_isSavedAt_12 : decode cX7_isSavedAt 12 = .ok (.iload_n 3, 1) := by decide +kernel
theorem dX7_isSavedAt_13 : decode cX7_isSavedAt 13 = .ok (.iconst 5, 1) := by decide +kernel
theorem dX7_isSavedAt_14 : decode cX7_isSavedAt 14 = .ok (.iadd, 1) := by decide +kernel
theorem dX7_isSavedAt_15 : decode cX7_isSavedAt 15 = .ok (.aload_n 1, 1) := by decide +kernel
theorem dX7_isSavedAt_16 : decode cX7_isSavedAt 16 = .ok (.arraylength, 1) := by decide +kernel
theorem dX7_isSavedAt_17 : decode cX7_isSavedAt 17 = .ok (.if_icmp .le 5, 3) := by decide +kernel
theorem dX7_isSavedAt_20 : decode cX7_isSavedAt 20 = .ok (.iconst 0, 1) := by decide +kernel
theorem dX7_isSavedAt_21 : decode cX7_isSavedAt 21 = .ok (.ireturn, 1) := by decide +kernel
theorem dX7_isSavedAt_22 : decode cX7_isSavedAt 22 = .ok (.aload_n 1, 1) := by decide +kernel
theorem dX7_isSavedAt_23 : decode cX7_isSavedAt 23 = .ok (.iload_n 3, 1) := by decide +kernel
theorem dX7_isSavedAt_24 : decode cX7_isSavedAt 24 = .ok (.laload, 1) := by decide +kernel
theorem dX7_isSavedAt_25 : decode cX7_isSavedAt 25 = .ok (.aload_n 0, 1) := by decide +kernel
theorem dX7_isSavedAt_26 : decode cX7_isSavedAt 26 = .ok (.getfield 9, 3) := by decide +kernel
theorem dX7_isSavedAt_29 : decode cX7_isSavedAt 29 = .ok (.lcmp, 1) := by decide +kernel
theorem dX7_isSavedAt_30 : decode cX7_isSavedAt 30 = .ok (.ifCond .ne 59, 3) := by decide +kernel
theorem dX7_isSavedAt_33 : decode cX7_isSavedAt 33 = .ok (.aload_n 1, 1) := by decide +kernel
theorem dX7_isSavedAt_34 : decode cX7_isSavedAt 34 = .ok (.iload_n 3, 1) := by decide +kernel
theorem dX7_isSavedAt_35 : decode cX7_isSavedAt 35 = .ok (.iconst 1, 1) := by decide +kernel
theorem dX7_isSavedAt_36 : decode cX7_isSavedAt 36 = .ok (.iadd, 1) := by decide +kernel
theorem dX7_isSavedAt_37 : decode cX7_isSavedAt 37 = .ok (.laload, 1) := by decide +kernel
theorem dX7_isSavedAt_38 : decode cX7_isSavedAt 38 = .ok (.aload_n 0, 1) := by decide +kernel
theorem dX7_isSavedAt_39 : decode cX7_isSavedAt 39 = .ok (.getfield 15, 3) := by decide +kernel
theorem dX7_isSavedAt_42 : decode cX7_isSavedAt 42 = .ok (.lcmp, 1) := by decide +kernel
theorem dX7_isSavedAt_43 : decode cX7_isSavedAt 43 = .ok (.ifCond .ne 46, 3) := by decide +kernel
theorem dX7_isSavedAt_46 : decode cX7_isSavedAt 46 = .ok (.aload_n 1, 1) := by decide +kernel
theorem dX7_isSavedAt_47 : decode cX7_isSavedAt 47 = .ok (.iload_n 3, 1) := by decide +kernel
theorem dX7_isSavedAt_48 : decode cX7_isSavedAt 48 = .ok (.iconst 2, 1) := by decide +kernel
theorem dX7_isSavedAt_49 : decode cX7_isSavedAt 49 = .ok (.iadd, 1) := by decide +kernel
theorem dX7_isSavedAt_50 : decode cX7_isSavedAt 50 = .ok (.laload, 1) := by decide +kernel
theorem dX7_isSavedAt_51 : decode cX7_isSavedAt 51 = .ok (.aload_n 0, 1) := by decide +kernel
theorem dX7_isSavedAt_52 : decode cX7_isSavedAt 52 = .ok (.getfield 18, 3) := by decide +kernel
theorem dX7_isSavedAt_55 : decode cX7_isSavedAt 55 = .ok (.lcmp, 1) := by decide +kernel
theorem dX7_isSavedAt_56 : decode cX7_isSavedAt 56 = .ok (.ifCond .ne 33, 3) := by decide +kernel
theorem dX7_isSavedAt_59 : decode cX7_isSavedAt 59 = .ok (.aload_n 1, 1) := by decide +kernel
theorem dX7_isSavedAt_60 : decode cX7_isSavedAt 60 = .ok (.iload_n 3, 1) := by decide +kernel
theorem dX7_isSavedAt_61 : decode cX7_isSavedAt 61 = .ok (.iconst 3, 1) := by decide +kernel
theorem dX7_isSavedAt_62 : decode cX7_isSavedAt 62 = .ok (.iadd, 1) := by decide +kernel
theorem dX7_isSavedAt_63 : decode cX7_isSavedAt 63 = .ok (.laload, 1) := by decide +kernel
theorem dX7_isSavedAt_64 : decode cX7_isSavedAt 64 = .ok (.aload_n 0, 1) := by decide +kernel
theorem dX7_isSavedAt_65 : decode cX7_isSavedAt 65 = .ok (.getfield 21, 3) := by decide +kernel
theorem dX7_isSavedAt_68 : decode cX7_isSavedAt 68 = .ok (.lcmp, 1) := by decide +kernel
theorem dX7_isSavedAt_69 : decode cX7_isSavedAt 69 = .ok (.ifCond .ne 20, 3) := by decide +kernel
theorem dX7_isSavedAt_72 : decode cX7_isSavedAt 72 = .ok (.aload_n 1, 1) := by decide +kernel
theorem dX7_isSavedAt_73 : decode cX7_isSavedAt 73 = .ok (.iload_n 3, 1) := by decide +kernel
theorem dX7_isSavedAt_74 : decode cX7_isSavedAt 74 = .ok (.iconst 4, 1) := by decide +kernel
theorem dX7_isSavedAt_75 : decode cX7_isSavedAt 75 = .ok (.iadd, 1) := by decide +kernel
theorem dX7_isSavedAt_76 : decode cX7_isSavedAt 76 = .ok (.laload, 1) := by decide +kernel
theorem dX7_isSavedAt_77 : decode cX7_isSavedAt 77 = .ok (.aload_n 0, 1) := by decide +kernel
theorem dX7_isSavedAt_78 : decode cX7_isSavedAt 78 = .ok (.invokevirtual 64, 3) := by decide +kernel
theorem dX7_isSavedAt_81 : decode cX7_isSavedAt 81 = .ok (.lcmp, 1) := by decide +kernel
theorem dX7_isSavedAt_82 : decode cX7_isSavedAt 82 = .ok (.ifCond .ne 7, 3) := by decide +kernel
theorem dX7_isSavedAt_85 : decode cX7_isSavedAt 85 = .ok (.iconst 1, 1) := by decide +kernel
theorem dX7_isSavedAt_86 : decode cX7_isSavedAt 86 = .ok (.goto 4, 3) := by decide +kernel
theorem dX7_isSavedAt_89 : decode cX7_isSavedAt 89 = .ok (.iconst 0, 1) := by decide +kernel
theorem dX7_isSavedAt_90 : decode cX7_isSavedAt 90 = .ok (.ireturn, 1) := by decide +kernel
theorem dX3_indexFrom_0 : decode cX3_indexFrom 0 = .ok (.iload_n 2, 1) := by decide +kernel
theorem dX3_indexFrom_1 : decode cX3_indexFrom 1 = .ok (.istore_n 3, 1) := by decide +kernel
theorem dX3_indexFrom_2 : decode cX3_indexFrom 2 = .ok (.iload_n 3, 1) := by decide +kernel
theorem dX3_indexFrom_3 : decode cX3_indexFrom 3 = .ok (.aload_n 0, 1) := by decide +kernel
theorem dX3_indexFrom_4 : decode cX3_indexFrom 4 = .ok (.getfield 9, 3) := by decide +kernel
theorem dX3_indexFrom_7 : decode cX3_indexFrom 7 = .ok (.if_icmp .gt 23, 3) := by decide +kernel
theorem dX3_indexFrom_10 : decode cX3_indexFrom 10 = .ok (.aload_n 1, 1) := by decide +kernel
theorem dX3_indexFrom_11 : decode cX3_indexFrom 11 = .ok (.aload_n 0, 1) := by decide +kernel
theorem dX3_indexFrom_12 : decode cX3_indexFrom 12 = .ok (.getfield 36, 3) := by decide +kernel
theorem dX3_indexFrom_15 : decode cX3_indexFrom 15 = .ok (.iload_n 3, 1) := by decide +kernel
theorem dX3_indexFrom_16 : decode cX3_indexFrom 16 = .ok (.invokevirtual 61, 3) := by decide +kernel
theorem dX3_indexFrom_19 : decode cX3_indexFrom 19 = .ok (.ifCond .eq 5, 3) := by decide +kernel
theorem dX3_indexFrom_22 : decode cX3_indexFrom 22 = .ok (.iload_n 3, 1) := by decide +kernel
theorem dX3_indexFrom_23 : decode cX3_indexFrom 23 = .ok (.ireturn, 1) := by decide +kernel
theorem dX3_indexFrom_24 : decode cX3_indexFrom 24 = .ok (.iinc 3 1, 3) := by decide +kernel
theorem dX3_indexFrom_27 : decode cX3_indexFrom 27 = .ok (.goto (-25), 3) := by decide +kernel
theorem dX3_indexFrom_30 : decode cX3_indexFrom 30 = .ok (.iconst (-1), 1) := by decide +kernel
theorem dX3_indexFrom_31 : decode cX3_indexFrom 31 = .ok (.ireturn, 1) := by decide +kernel
theorem dX3_passesThrough_0 : decode cX3_passesThrough 0 = .ok (.aload_n 0, 1) := by decide +kernel
theorem dX3_passesThrough_1 : decode cX3_passesThrough 1 = .ok (.aload_n 1, 1) := by decide +kernel
theorem dX3_passesThrough_2 : decode cX3_passesThrough 2 = .ok (.iconst 0, 1) := by decide +kernel
theorem dX3_passesThrough_3 : decode cX3_passesThrough 3 = .ok (.invokevirtual 57, 3) := by decide +kernel
theorem dX3_passesThrough_6 : decode cX3_passesThrough 6 = .ok (.iconst (-1), 1) := by decide +kernel
theorem dX3_passesThrough_7 : decode cX3_passesThrough 7 = .ok (.if_icmp .eq 7, 3) := by decide +kernel
theorem dX3_passesThrough_10 : decode cX3_passesThrough 10 = .ok (.iconst 1, 1) := by decide +kernel
theorem dX3_passesThrough_11 : decode cX3_passesThrough 11 = .ok (.goto 4, 3) := by decide +kernel
theorem dX3_passesThrough_14 : decode cX3_passesThrough 14 = .ok (.iconst 0, 1) := by decide +kernel
theorem dX3_passesThrough_15 : decode cX3_passesThrough 15 = .ok (.ireturn, 1) := by decide +kernel
theorem dX11_contains_0 : decode cX11_contains 0 = .ok (.lload_n 0, 1) := by decide +kernel
theorem dX11_contains_1 : decode cX11_contains 1 = .ok (.iload_n 2, 1) := by decide +kernel
theorem dX11_contains_2 : decode cX11_contains 2 = .ok (.lushr, 1) := by decide +kernel
theorem dX11_contains_3 : decode cX11_contains 3 = .ok (.lconst 1, 1) := by decide +kernel
theorem dX11_contains_4 : decode cX11_contains 4 = .ok (.land, 1) := by decide +kernel
theorem dX11_contains_5 : decode cX11_contains 5 = .ok (.lconst 0, 1) := by decide +kernel
theorem dX11_contains_6 : decode cX11_contains 6 = .ok (.lcmp, 1) := by decide +kernel
theorem dX11_contains_7 : decode cX11_contains 7 = .ok (.ifCond .eq 7, 3) := by decide +kernel
theorem dX11_contains_10 : decode cX11_contains 10 = .ok (.iconst 1, 1) := by decide +kernel
theorem dX11_contains_11 : decode cX11_contains 11 = .ok (.goto 4, 3) := by decide +kernel
theorem dX11_contains_14 : decode cX11_contains 14 = .ok (.iconst 0, 1) := by decide +kernel
theorem dX11_contains_15 : decode cX11_contains 15 = .ok (.ireturn, 1) := by decide +kernel
theorem dX7_kindOn_0 : decode cX7_kindOn 0 = .ok (.aload_n 0, 1) := by decide +kernel
theorem dX7_kindOn_1 : decode cX7_kindOn 1 = .ok (.getfield 15, 3) := by decide +kernel
theorem dX7_kindOn_4 : decode cX7_kindOn 4 = .ok (.iload_n 1, 1) := by decide +kernel
theorem dX7_kindOn_5 : decode cX7_kindOn 5 = .ok (.lushr, 1) := by decide +kernel
theorem dX7_kindOn_6 : decode cX7_kindOn 6 = .ok (.lconst 1, 1) := by decide +kernel
theorem dX7_kindOn_7 : decode cX7_kindOn 7 = .ok (.land, 1) := by decide +kernel
theorem dX7_kindOn_8 : decode cX7_kindOn 8 = .ok (.aload_n 0, 1) := by decide +kernel
theorem dX7_kindOn_9 : decode cX7_kindOn 9 = .ok (.getfield 18, 3) := by decide +kernel
theorem dX7_kindOn_12 : decode cX7_kindOn 12 = .ok (.iload_n 1, 1) := by decide +kernel
theorem dX7_kindOn_13 : decode cX7_kindOn 13 = .ok (.lushr, 1) := by decide +kernel
theorem dX7_kindOn_14 : decode cX7_kindOn 14 = .ok (.lconst 1, 1) := by decide +kernel
theorem dX7_kindOn_15 : decode cX7_kindOn 15 = .ok (.land, 1) := by decide +kernel
theorem dX7_kindOn_16 : decode cX7_kindOn 16 = .ok (.ldc2_w 72, 3) := by decide +kernel
theorem dX7_kindOn_19 : decode cX7_kindOn 19 = .ok (.lmul, 1) := by decide +kernel
theorem dX7_kindOn_20 : decode cX7_kindOn 20 = .ok (.ladd, 1) := by decide +kernel
theorem dX7_kindOn_21 : decode cX7_kindOn 21 = .ok (.aload_n 0, 1) := by decide +kernel
theorem dX7_kindOn_22 : decode cX7_kindOn 22 = .ok (.getfield 21, 3) := by decide +kernel
theorem dX7_kindOn_25 : decode cX7_kindOn 25 = .ok (.iload_n 1, 1) := by decide +kernel
theorem dX7_kindOn_26 : decode cX7_kindOn 26 = .ok (.lushr, 1) := by decide +kernel
theorem dX7_kindOn_27 : decode cX7_kindOn 27 = .ok (.lconst 1, 1) := by decide +kernel
theorem dX7_kindOn_28 : decode cX7_kindOn 28 = .ok (.land, 1) := by decide +kernel
theorem dX7_kindOn_29 : decode cX7_kindOn 29 = .ok (.ldc2_w 74, 3) := by decide +kernel
theorem dX7_kindOn_32 : decode cX7_kindOn 32 = .ok (.lmul, 1) := by decide +kernel
theorem dX7_kindOn_33 : decode cX7_kindOn 33 = .ok (.ladd, 1) := by decide +kernel
theorem dX7_kindOn_34 : decode cX7_kindOn 34 = .ok (.l2i, 1) := by decide +kernel
theorem dX7_kindOn_35 : decode cX7_kindOn 35 = .ok (.ireturn, 1) := by decide +kernel
theorem dX7_pieceOn_0 : decode cX7_pieceOn 0 = .ok (.aload_n 0, 1) := by decide +kernel
theorem dX7_pieceOn_1 : decode cX7_pieceOn 1 = .ok (.iload_n 1, 1) := by decide +kernel
theorem dX7_pieceOn_2 : decode cX7_pieceOn 2 = .ok (.invokevirtual 76, 3) := by decide +kernel
theorem dX7_pieceOn_5 : decode cX7_pieceOn 5 = .ok (.istore_n 2, 1) := by decide +kernel
theorem dX7_pieceOn_6 : decode cX7_pieceOn 6 = .ok (.iload_n 2, 1) := by decide +kernel
theorem dX7_pieceOn_7 : decode cX7_pieceOn 7 = .ok (.ifCond .eq 14, 3) := by decide +kernel
theorem dX7_pieceOn_10 : decode cX7_pieceOn 10 = .ok (.aload_n 0, 1) := by decide +kernel
theorem dX7_pieceOn_11 : decode cX7_pieceOn 11 = .ok (.getfield 9, 3) := by decide +kernel
theorem dX7_pieceOn_14 : decode cX7_pieceOn 14 = .ok (.iload_n 1, 1) := by decide +kernel
theorem dX7_pieceOn_15 : decode cX7_pieceOn 15 = .ok (.invokestatic 79, 3) := by decide +kernel
theorem dX7_pieceOn_18 : decode cX7_pieceOn 18 = .ok (.ifCond .eq 7, 3) := by decide +kernel
theorem dX7_pieceOn_21 : decode cX7_pieceOn 21 = .ok (.iload_n 2, 1) := by decide +kernel
theorem dX7_pieceOn_22 : decode cX7_pieceOn 22 = .ok (.goto 7, 3) := by decide +kernel
theorem dX7_pieceOn_25 : decode cX7_pieceOn 25 = .ok (.iload_n 2, 1) := by decide +kernel
theorem dX7_pieceOn_26 : decode cX7_pieceOn 26 = .ok (.bipush 6, 2) := by decide +kernel
theorem dX7_pieceOn_28 : decode cX7_pieceOn 28 = .ok (.iadd, 1) := by decide +kernel
theorem dX7_pieceOn_29 : decode cX7_pieceOn 29 = .ok (.ireturn, 1) := by decide +kernel
theorem dX7_fits_0 : decode cX7_fits 0 = .ok (.iconst 0, 1) := by decide +kernel
theorem dX7_fits_1 : decode cX7_fits 1 = .ok (.istore_n 2, 1) := by decide +kernel
theorem dX7_fits_2 : decode cX7_fits 2 = .ok (.iload_n 2, 1) := by decide +kernel
theorem dX7_fits_3 : decode cX7_fits 3 = .ok (.aload_n 0, 1) := by decide +kernel
theorem dX7_fits_4 : decode cX7_fits 4 = .ok (.getfield 35, 3) := by decide +kernel
theorem dX7_fits_7 : decode cX7_fits 7 = .ok (.getfield 135, 3) := by decide +kernel
theorem dX7_fits_10 : decode cX7_fits 10 = .ok (.if_icmp .ge 104, 3) := by decide +kernel
theorem dX7_fits_13 : decode cX7_fits 13 = .ok (.iload_n 2, 1) := by decide +kernel
theorem dX7_fits_14 : decode cX7_fits 14 = .ok (.aload_n 1, 1) := by decide +kernel
theorem dX7_fits_15 : decode cX7_fits 15 = .ok (.arraylength, 1) := by decide +kernel
theorem dX7_fits_16 : decode cX7_fits 16 = .ok (.if_icmp .ge 98, 3) := by decide +kernel
theorem dX7_fits_19 : decode cX7_fits 19 = .ok (.aload_n 1, 1) := by decide +kernel
theorem dX7_fits_20 : decode cX7_fits 20 = .ok (.iload_n 2, 1) := by decide +kernel
theorem dX7_fits_21 : decode cX7_fits 21 = .ok (.iaload, 1) := by decide +kernel
theorem dX7_fits_22 : decode cX7_fits 22 = .ok (.istore_n 3, 1) := by decide +kernel
theorem dX7_fits_23 : decode cX7_fits 23 = .ok (.aload_n 0, 1) := by decide +kernel
theorem dX7_fits_24 : decode cX7_fits 24 = .ok (.iload_n 2, 1) := by decide +kernel
theorem dX7_fits_25 : decode cX7_fits 25 = .ok (.invokevirtual 141, 3) := by decide +kernel
theorem dX7_fits_28 : decode cX7_fits 28 = .ok (.istore 4, 2) := by decide +kernel
theorem dX7_fits_30 : decode cX7_fits 30 = .ok (.iload_n 3, 1) := by decide +kernel
theorem dX7_fits_31 : decode cX7_fits 31 = .ok (.bipush 13, 2) := by decide +kernel
theorem dX7_fits_33 : decode cX7_fits 33 = .ok (.if_icmp .ne 26, 3) := by decide +kernel
theorem dX7_fits_36 : decode cX7_fits 36 = .ok (.iload 4, 2) := by decide +kernel
theorem dX7_fits_38 : decode cX7_fits 38 = .ok (.iconst 1, 1) := by decide +kernel
theorem dX7_fits_39 : decode cX7_fits 39 = .ok (.if_icmp .lt 14, 3) := by decide +kernel
theorem dX7_fits_42 : decode cX7_fits 42 = .ok (.iload 4, 2) := by decide +kernel
theorem dX7_fits_44 : decode cX7_fits 44 = .ok (.bipush 6, 2) := by decide +kernel
theorem dX7_fits_46 : decode cX7_fits 46 = .ok (.if_icmp .gt 7, 3) := by decide +kernel
theorem dX7_fits_49 : decode cX7_fits 49 = .ok (.iconst 1, 1) := by decide +kernel
theorem dX7_fits_50 : decode cX7_fits 50 = .ok (.goto 4, 3) := by decide +kernel
theorem dX7_fits_53 : decode cX7_fits 53 = .ok (.iconst 0, 1) := by decide +kernel
theorem dX7_fits_54 : decode cX7_fits 54 = .ok (.istore 5, 2) := by decide +kernel
theorem dX7_fits_56 : decode cX7_fits 56 = .ok (.goto 45, 3) := by decide +kernel
theorem dX7_fits_59 : decode cX7_fits 59 = .ok (.iload_n 3, 1) := by decide +kernel
theorem dX7_fits_60 : decode cX7_fits 60 = .ok (.bipush 14, 2) := by decide +kernel
theorem dX7_fits_62 : decode cX7_fits 62 = .ok (.if_icmp .ne 20, 3) := by decide +kernel
theorem dX7_fits_65 : decode cX7_fits 65 = .ok (.iload 4, 2) := by decide +kernel
theorem dX7_fits_67 : decode cX7_fits 67 = .ok (.bipush 6, 2) := by decide +kernel
theorem dX7_fits_69 : decode cX7_fits 69 = .ok (.if_icmp .le 7, 3) := by decide +kernel
theorem dX7_fits_72 : decode cX7_fits 72 = .ok (.iconst 1, 1) := by decide +kernel
theorem dX7_fits_73 : decode cX7_fits 73 = .ok (.goto 4, 3) := by decide +kernel
theorem dX7_fits_76 : decode cX7_fits 76 = .ok (.iconst 0, 1) := by decide +kernel
theorem dX7_fits_77 : decode cX7_fits 77 = .ok (.istore 5, 2) := by decide +kernel
theorem dX7_fits_79 : decode cX7_fits 79 = .ok (.goto 22, 3) := by decide +kernel
theorem dX7_fits_82 : decode cX7_fits 82 = .ok (.iload_n 3, 1) := by decide +kernel
theorem dX7_fits_83 : decode cX7_fits 83 = .ok (.bipush 15, 2) := by decide +kernel
theorem dX7_fits_85 : decode cX7_fits 85 = .ok (.if_icmp .eq 9, 3) := by decide +kernel
theorem dX7_fits_88 : decode cX7_fits 88 = .ok (.iload_n 3, 1) := by decide +kernel
theorem dX7_fits_89 : decode cX7_fits 89 = .ok (.iload 4, 2) := by decide +kernel
theorem dX7_fits_91 : decode cX7_fits 91 = .ok (.if_icmp .ne 7, 3) := by decide +kernel
theorem dX7_fits_94 : decode cX7_fits 94 = .ok (.iconst 1, 1) := by decide +kernel
theorem dX7_fits_95 : decode cX7_fits 95 = .ok (.goto 4, 3) := by decide +kernel
theorem dX7_fits_98 : decode cX7_fits 98 = .ok (.iconst 0, 1) := by decide +kernel
theorem dX7_fits_99 : decode cX7_fits 99 = .ok (.istore 5, 2) := by decide +kernel
theorem dX7_fits_101 : decode cX7_fits 101 = .ok (.iload 5, 2) := by decide +kernel
theorem dX7_fits_103 : decode cX7_fits 103 = .ok (.ifCond .ne 5, 3) := by decide +kernel
theorem dX7_fits_106 : decode cX7_fits 106 = .ok (.iconst 0, 1) := by decide +kernel
theorem dX7_fits_107 : decode cX7_fits 107 = .ok (.ireturn, 1) := by decide +kernel
theorem dX7_fits_108 : decode cX7_fits 108 = .ok (.iinc 2 1, 3) := by decide +kernel
theorem dX7_fits_111 : decode cX7_fits 111 = .ok (.goto (-109), 3) := by decide +kernel
theorem dX7_fits_114 : decode cX7_fits 114 = .ok (.iconst 1, 1) := by decide +kernel
theorem dX7_fits_115 : decode cX7_fits 115 = .ok (.ireturn, 1) := by decide +kernel
theorem dX7_load_0 : decode cX7_load 0 = .ok (.iload_n 2, 1) := by decide +kernel
theorem dX7_load_1 : decode cX7_load 1 = .ok (.iconst 5, 1) := by decide +kernel
theorem dX7_load_2 : decode cX7_load 2 = .ok (.imul, 1) := by decide +kernel
theorem dX7_load_3 : decode cX7_load 3 = .ok (.istore_n 3, 1) := by decide +kernel
theorem dX7_load_4 : decode cX7_load 4 = .ok (.iload_n 2, 1) := by decide +kernel
theorem dX7_load_5 : decode cX7_load 5 = .ok (.ifCond .lt 15, 3) := by decide +kernel
theorem dX7_load_8 : decode cX7_load 8 = .ok (.iload_n 3, 1) := by decide +kernel
theorem dX7_load_9 : decode cX7_load 9 = .ok (.ifCond .lt 11, 3) := by decide +kernel
theorem dX7_load_12 : decode cX7_load 12 = .ok (.iload_n 3, 1) := by decide +kernel
theorem dX7_load_13 : decode cX7_load 13 = .ok (.iconst 5, 1) := by decide +kernel
theorem dX7_load_14 : decode cX7_load 14 = .ok (.iadd, 1) := by decide +kernel
theorem dX7_load_15 : decode cX7_load 15 = .ok (.aload_n 1, 1) := by decide +kernel
theorem dX7_load_16 : decode cX7_load 16 = .ok (.arraylength, 1) := by decide +kernel
theorem dX7_load_17 : decode cX7_load 17 = .ok (.if_icmp .le 4, 3) := by decide +kernel
theorem dX7_load_20 : decode cX7_load 20 = .ok (.return_, 1) := by decide +kernel
theorem dX7_load_21 : decode cX7_load 21 = .ok (.aload_n 0, 1) := by decide +kernel
theorem dX7_load_22 : decode cX7_load 22 = .ok (.aload_n 1, 1) := by decide +kernel
theorem dX7_load_23 : decode cX7_load 23 = .ok (.iload_n 3, 1) := by decide +kernel
theorem dX7_load_24 : decode cX7_load 24 = .ok (.laload, 1) := by decide +kernel
theorem dX7_load_25 : decode cX7_load 25 = .ok (.putfield 9, 3) := by decide +kernel
theorem dX7_load_28 : decode cX7_load 28 = .ok (.aload_n 0, 1) := by decide +kernel
theorem dX7_load_29 : decode cX7_load 29 = .ok (.aload_n 1, 1) := by decide +kernel
theorem dX7_load_30 : decode cX7_load 30 = .ok (.iload_n 3, 1) := by decide +kernel
theorem dX7_load_31 : decode cX7_load 31 = .ok (.iconst 1, 1) := by decide +kernel
theorem dX7_load_32 : decode cX7_load 32 = .ok (.iadd, 1) := by decide +kernel
theorem dX7_load_33 : decode cX7_load 33 = .ok (.laload, 1) := by decide +kernel
theorem dX7_load_34 : decode cX7_load 34 = .ok (.putfield 15, 3) := by decide +kernel
theorem dX7_load_37 : decode cX7_load 37 = .ok (.aload_n 0, 1) := by decide +kernel
theorem dX7_load_38 : decode cX7_load 38 = .ok (.aload_n 1, 1) := by decide +kernel
theorem dX7_load_39 : decode cX7_load 39 = .ok (.iload_n 3, 1) := by decide +kernel
theorem dX7_load_40 : decode cX7_load 40 = .ok (.iconst 2, 1) := by decide +kernel
theorem dX7_load_41 : decode cX7_load 41 = .ok (.iadd, 1) := by decide +kernel
theorem dX7_load_42 : decode cX7_load 42 = .ok (.laload, 1) := by decide +kernel
theorem dX7_load_43 : decode cX7_load 43 = .ok (.putfield 18, 3) := by decide +kernel
theorem dX7_load_46 : decode cX7_load 46 = .ok (.aload_n 0, 1) := by decide +kernel
theorem dX7_load_47 : decode cX7_load 47 = .ok (.aload_n 1, 1) := by decide +kernel
theorem dX7_load_48 : decode cX7_load 48 = .ok (.iload_n 3, 1) := by decide +kernel
theorem dX7_load_49 : decode cX7_load 49 = .ok (.iconst 3, 1) := by decide +kernel
theorem dX7_load_50 : decode cX7_load 50 = .ok (.iadd, 1) := by decide +kernel
theorem dX7_load_51 : decode cX7_load 51 = .ok (.laload, 1) := by decide +kernel
theorem dX7_load_52 : decode cX7_load 52 = .ok (.putfield 21, 3) := by decide +kernel
theorem dX7_load_55 : decode cX7_load 55 = .ok (.aload_n 1, 1) := by decide +kernel
theorem dX7_load_56 : decode cX7_load 56 = .ok (.iload_n 3, 1) := by decide +kernel
theorem dX7_load_57 : decode cX7_load 57 = .ok (.iconst 4, 1) := by decide +kernel
theorem dX7_load_58 : decode cX7_load 58 = .ok (.iadd, 1) := by decide +kernel
theorem dX7_load_59 : decode cX7_load 59 = .ok (.laload, 1) := by decide +kernel
theorem dX7_load_60 : decode cX7_load 60 = .ok (.l2i, 1) := by decide +kernel
theorem dX7_load_61 : decode cX7_load 61 = .ok (.istore 4, 2) := by decide +kernel
theorem dX7_load_63 : decode cX7_load 63 = .ok (.aload_n 0, 1) := by decide +kernel
theorem dX7_load_64 : decode cX7_load 64 = .ok (.iload 4, 2) := by decide +kernel
theorem dX7_load_66 : decode cX7_load 66 = .ok (.iconst 1, 1) := by decide +kernel
theorem dX7_load_67 : decode cX7_load 67 = .ok (.iand, 1) := by decide +kernel
theorem dX7_load_68 : decode cX7_load 68 = .ok (.ifCond .eq 7, 3) := by decide +kernel
theorem dX7_load_71 : decode cX7_load 71 = .ok (.iconst 1, 1) := by decide +kernel
theorem dX7_load_72 : decode cX7_load 72 = .ok (.goto 4, 3) := by decide +kernel
theorem dX7_load_75 : decode cX7_load 75 = .ok (.iconst 0, 1) := by decide +kernel
theorem dX7_load_76 : decode cX7_load 76 = .ok (.putfield 24, 3) := by decide +kernel
theorem dX7_load_79 : decode cX7_load 79 = .ok (.aload_n 0, 1) := by decide +kernel
theorem dX7_load_80 : decode cX7_load 80 = .ok (.iload 4, 2) := by decide +kernel
theorem dX7_load_82 : decode cX7_load 82 = .ok (.iconst 1, 1) := by decide +kernel
theorem dX7_load_83 : decode cX7_load 83 = .ok (.iushr, 1) := by decide +kernel
theorem dX7_load_84 : decode cX7_load 84 = .ok (.bipush 15, 2) := by decide +kernel
theorem dX7_load_86 : decode cX7_load 86 = .ok (.iand, 1) := by decide +kernel
theorem dX7_load_87 : decode cX7_load 87 = .ok (.putfield 28, 3) := by decide +kernel
theorem dX7_load_90 : decode cX7_load 90 = .ok (.aload_n 0, 1) := by decide +kernel
theorem dX7_load_91 : decode cX7_load 91 = .ok (.iload 4, 2) := by decide +kernel
theorem dX7_load_93 : decode cX7_load 93 = .ok (.iconst 5, 1) := by decide +kernel
theorem dX7_load_94 : decode cX7_load 94 = .ok (.iushr, 1) := by decide +kernel
theorem dX7_load_95 : decode cX7_load 95 = .ok (.iconst 1, 1) := by decide +kernel
theorem dX7_load_96 : decode cX7_load 96 = .ok (.isub, 1) := by decide +kernel
theorem dX7_load_97 : decode cX7_load 97 = .ok (.putfield 32, 3) := by decide +kernel
theorem dX7_load_100 : decode cX7_load 100 = .ok (.return_, 1) := by decide +kernel
theorem dX11_becomesOf_0 : decode cX11_becomesOf 0 = .ok (.iload_n 0, 1) := by decide +kernel
theorem dX11_becomesOf_1 : decode cX11_becomesOf 1 = .ok (.bipush 12, 2) := by decide +kernel
theorem dX11_becomesOf_3 : decode cX11_becomesOf 3 = .ok (.iushr, 1) := by decide +kernel
theorem dX11_becomesOf_4 : decode cX11_becomesOf 4 = .ok (.bipush 7, 2) := by decide +kernel
theorem dX11_becomesOf_6 : decode cX11_becomesOf 6 = .ok (.iand, 1) := by decide +kernel
theorem dX11_becomesOf_7 : decode cX11_becomesOf 7 = .ok (.ireturn, 1) := by decide +kernel
theorem dX11_fromOf_0 : decode cX11_fromOf 0 = .ok (.iload_n 0, 1) := by decide +kernel
theorem dX11_fromOf_1 : decode cX11_fromOf 1 = .ok (.bipush 63, 2) := by decide +kernel
theorem dX11_fromOf_3 : decode cX11_fromOf 3 = .ok (.iand, 1) := by decide +kernel
theorem dX11_fromOf_4 : decode cX11_fromOf 4 = .ok (.ireturn, 1) := by decide +kernel
theorem dX11_toOf_0 : decode cX11_toOf 0 = .ok (.iload_n 0, 1) := by decide +kernel
theorem dX11_toOf_1 : decode cX11_toOf 1 = .ok (.bipush 6, 2) := by decide +kernel
theorem dX11_toOf_3 : decode cX11_toOf 3 = .ok (.iushr, 1) := by decide +kernel
theorem dX11_toOf_4 : decode cX11_toOf 4 = .ok (.bipush 63, 2) := by decide +kernel
theorem dX11_toOf_6 : decode cX11_toOf 6 = .ok (.iand, 1) := by decide +kernel
theorem dX11_toOf_7 : decode cX11_toOf 7 = .ok (.ireturn, 1) := by decide +kernel
theorem dX7_loseRights_0 : decode cX7_loseRights 0 = .ok (.iload_n 3, 1) := by decide +kernel
theorem dX7_loseRights_1 : decode cX7_loseRights 1 = .ok (.iconst 1, 1) := by decide +kernel
theorem dX7_loseRights_2 : decode cX7_loseRights 2 = .ok (.if_icmp .ne 25, 3) := by decide +kernel
theorem dX7_loseRights_5 : decode cX7_loseRights 5 = .ok (.aload_n 0, 1) := by decide +kernel
theorem dX7_loseRights_6 : decode cX7_loseRights 6 = .ok (.dup, 1) := by decide +kernel
theorem dX7_loseRights_7 : decode cX7_loseRights 7 = .ok (.getfield 28, 3) := by decide +kernel
theorem dX7_loseRights_10 : decode cX7_loseRights 10 = .ok (.aload_n 0, 1) := by decide +kernel
theorem dX7_loseRights_11 : decode cX7_loseRights 11 = .ok (.getfield 24, 3) := by decide +kernel
theorem dX7_loseRights_14 : decode cX7_loseRights 14 = .ok (.ifCond .eq 8, 3) := by decide +kernel
theorem dX7_loseRights_17 : decode cX7_loseRights 17 = .ok (.bipush 12, 2) := by decide +kernel
theorem dX7_loseRights_19 : decode cX7_loseRights 19 = .ok (.goto 4, 3) := by decide +kernel
theorem dX7_loseRights_22 : decode cX7_loseRights 22 = .ok (.iconst 3, 1) := by decide +kernel
theorem dX7_loseRights_23 : decode cX7_loseRights 23 = .ok (.iand, 1) := by decide +kernel
theorem dX7_loseRights_24 : decode cX7_loseRights 24 = .ok (.putfield 28, 3) := by decide +kernel
theorem dX7_loseRights_27 : decode cX7_loseRights 27 = .ok (.lconst 1, 1) := by decide +kernel
theorem dX7_loseRights_28 : decode cX7_loseRights 28 = .ok (.iload_n 1, 1) := by decide +kernel
theorem dX7_loseRights_29 : decode cX7_loseRights 29 = .ok (.lshl, 1) := by decide +kernel
theorem dX7_loseRights_30 : decode cX7_loseRights 30 = .ok (.lconst 1, 1) := by decide +kernel
theorem dX7_loseRights_31 : decode cX7_loseRights 31 = .ok (.iload_n 2, 1) := by decide +kernel
theorem dX7_loseRights_32 : decode cX7_loseRights 32 = .ok (.lshl, 1) := by decide +kernel
theorem dX7_loseRights_33 : decode cX7_loseRights 33 = .ok (.lor, 1) := by decide +kernel
theorem dX7_loseRights_34 : decode cX7_loseRights 34 = .ok (.lstore 4, 2) := by decide +kernel
theorem dX7_loseRights_36 : decode cX7_loseRights 36 = .ok (.iconst 0, 1) := by decide +kernel
theorem dX7_loseRights_37 : decode cX7_loseRights 37 = .ok (.istore 6, 2) := by decide +kernel
theorem dX7_loseRights_39 : decode cX7_loseRights 39 = .ok (.iload 6, 2) := by decide +kernel
theorem dX7_loseRights_41 : decode cX7_loseRights 41 = .ok (.iconst 4, 1) := by decide +kernel
theorem dX7_loseRights_42 : decode cX7_loseRights 42 = .ok (.if_icmp .ge 75, 3) := by decide +kernel
theorem dX7_loseRights_45 : decode cX7_loseRights 45 = .ok (.iload 6, 2) := by decide +kernel
theorem dX7_loseRights_47 : decode cX7_loseRights 47 = .ok (.iconst 2, 1) := by decide +kernel
theorem dX7_loseRights_48 : decode cX7_loseRights 48 = .ok (.if_icmp .ge 7, 3) := by decide +kernel
theorem dX7_loseRights_51 : decode cX7_loseRights 51 = .ok (.iconst 0, 1) := by decide +kernel
theorem dX7_loseRights_52 : decode cX7_loseRights 52 = .ok (.goto 13, 3) := by decide +kernel
theorem dX7_loseRights_55 : decode cX7_loseRights 55 = .ok (.aload_n 0, 1) := by decide +kernel
theorem dX7_loseRights_56 : decode cX7_loseRights 56 = .ok (.getfield 35, 3) := by decide +kernel
theorem dX7_loseRights_59 : decode cX7_loseRights 59 = .ok (.getfield 135, 3) := by decide +kernel
theorem dX7_loseRights_62 : decode cX7_loseRights 62 = .ok (.bipush 8, 2) := by decide +kernel
theorem dX7_loseRights_64 : decode cX7_loseRights 64 = .ok (.isub, 1) := by decide +kernel
theorem dX7_loseRights_65 : decode cX7_loseRights 65 = .ok (.istore 7, 2) := by decide +kernel
theorem dX7_loseRights_67 : decode cX7_loseRights 67 = .ok (.iload 6, 2) := by decide +kernel
theorem dX7_loseRights_69 : decode cX7_loseRights 69 = .ok (.iconst 1, 1) := by decide +kernel
theorem dX7_loseRights_70 : decode cX7_loseRights 70 = .ok (.iand, 1) := by decide +kernel
theorem dX7_loseRights_71 : decode cX7_loseRights 71 = .ok (.ifCond .ne 11, 3) := by decide +kernel
theorem dX7_loseRights_74 : decode cX7_loseRights 74 = .ok (.iload 7, 2) := by decide +kernel
theorem dX7_loseRights_76 : decode cX7_loseRights 76 = .ok (.bipush 7, 2) := by decide +kernel
theorem dX7_loseRights_78 : decode cX7_loseRights 78 = .ok (.iadd, 1) := by decide +kernel
theorem dX7_loseRights_79 : decode cX7_loseRights 79 = .ok (.goto 5, 3) := by decide +kernel
theorem dX7_loseRights_82 : decode cX7_loseRights 82 = .ok (.iload 7, 2) := by decide +kernel
theorem dX7_loseRights_84 : decode cX7_loseRights 84 = .ok (.istore 8, 2) := by decide +kernel
theorem dX7_loseRights_86 : decode cX7_loseRights 86 = .ok (.lload 4, 2) := by decide +kernel
theorem dX7_loseRights_88 : decode cX7_loseRights 88 = .ok (.iload 8, 2) := by decide +kernel
theorem dX7_loseRights_90 : decode cX7_loseRights 90 = .ok (.invokestatic 79, 3) := by decide +kernel
theorem dX7_loseRights_93 : decode cX7_loseRights 93 = .ok (.ifCond .eq 18, 3) := by decide +kernel
theorem dX7_loseRights_96 : decode cX7_loseRights 96 = .ok (.aload_n 0, 1) := by decide +kernel
theorem dX7_loseRights_97 : decode cX7_loseRights 97 = .ok (.dup, 1) := by decide +kernel
theorem dX7_loseRights_98 : decode cX7_loseRights 98 = .ok (.getfield 28, 3) := by decide +kernel
theorem dX7_loseRights_101 : decode cX7_loseRights 101 = .ok (.iconst 1, 1) := by decide +kernel
theorem dX7_loseRights_102 : decode cX7_loseRights 102 = .ok (.iload 6, 2) := by decide +kernel
theorem dX7_loseRights_104 : decode cX7_loseRights 104 = .ok (.ishl, 1) := by decide +kernel
theorem dX7_loseRights_105 : decode cX7_loseRights 105 = .ok (.iconst (-1), 1) := by decide +kernel
theorem dX7_loseRights_106 : decode cX7_loseRights 106 = .ok (.ixor, 1) := by decide +kernel
theorem dX7_loseRights_107 : decode cX7_loseRights 107 = .ok (.iand, 1) := by decide +kernel
theorem dX7_loseRights_108 : decode cX7_loseRights 108 = .ok (.putfield 28, 3) := by decide +kernel
theorem dX7_loseRights_111 : decode cX7_loseRights 111 = .ok (.iinc 6 1, 3) := by decide +kernel
theorem dX7_loseRights_114 : decode cX7_loseRights 114 = .ok (.goto (-75), 3) := by decide +kernel
theorem dX7_loseRights_117 : decode cX7_loseRights 117 = .ok (.return_, 1) := by decide +kernel
def wp_X0_besidesOf_20 (D : wD) (post : Int64 → wS → Prop)  (S : wS) (t0 : Int64) : Prop :=
post t0 S
def wp_X0_besidesOf_19 (D : wD) (post : Int64 → wS → Prop)  (S : wS) : Prop :=
wp_X0_besidesOf_20 D post S (0 : Int64)
def wp_X0_besidesOf_0 (D : wD) (post : Int64 → wS → Prop)  (S : wS) (a0 : Nat) (x1 : Int32) : Prop :=
((x1 < 0 → wp_X0_besidesOf_19 D post S) ∧
 (¬ x1 < 0 → (((64 : Int32) ≤ x1 → wp_X0_besidesOf_19 D post S) ∧
 (¬ (64 : Int32) ≤ x1 → ∃ y_3 : Nat, sR S a0 11 = some y_3 ∧ wM D S y_3 ∧ sK S y_3 = 22 ∧
vp_in x1 (sN S y_3) ∧
wp_X0_besidesOf_20 D post S (sJ S y_3 (x1).toNatClampNeg)))))
abbrev r_X0_besidesOf : Room := { frames := 0, cells := 0, slots := 0, locals := 0 }
def wp_X0_besidesOf (D : wD) (post : Int64 → wS → Prop) (S : wS) (a0 : Nat) (x1 : Int32) : Prop := wp_X0_besidesOf_0 D post S a0 x1
set_option maxHeartbeats 4000000 in
set_option maxRecDepth 100000 in
theorem t_X0_besidesOf_20 {p : Program} {l : Launch} {e : Env} {s : State} {m : MethodId} {args : Array Value} {below : List Frame} {meth : Method} {c : Code} {D : wD} {cy : Nat → ClassId} {X : va_W} {A : Nat → Prop} {S0 : wS} {post : Int64 → wS → Prop} (F : CallFix p m c cX0_besidesOf 2 s args wz_X0_besidesOf RX0) (hr : meth.sig.returnType = (some .long)) (hlocks : meth.locks = false) (hK : wK D cy A s) : ∀ {S : wS} {H : Heap} {locs : List Loc} {ls : Array Slot} {t0 : Int64}, wp_X0_besidesOf_20 D post S t0 → wO D cy X A s.heap S H locs → wX D S0 S → lv_has ls 2 [] → W p l e r_X0_besidesOf s m args below meth c H locs 0 0 (MQ below (va_Ql (fun r S9 => wX D S0 S9 ∧ post r S9) (wB D cy X A) A) args s 0 0 A) (F0 m 20 ls [.long t0]) := by
  obtain ⟨hx, hb, hml, hown, hts⟩ := id F
  have hwg : ∀ w ∈ WG, w.before args s = true := fun w h => hts w (List.mem_cons_of_mem _ h)
  intro S H locs ls t0 hp hW hE hl
  unfold wp_X0_besidesOf_20 at hp
  exact w_lret hx hb hr hlocks hW ⟨hE, hp⟩ dX0_besidesOf_20
set_option maxHeartbeats 4000000 in
set_option maxRecDepth 100000 in
theorem t_X0_besidesOf_19 {p : Program} {l : Launch} {e : Env} {s : State} {m : MethodId} {args : Array Value} {below : List Frame} {meth : Method} {c : Code} {D : wD} {cy : Nat → ClassId} {X : va_W} {A : Nat → Prop} {S0 : wS} {post : Int64 → wS → Prop} (F : CallFix p m c cX0_besidesOf 2 s args wz_X0_besidesOf RX0) (hr : meth.sig.returnType = (some .long)) (hlocks : meth.locks = false) (hK : wK D cy A s) : ∀ {S : wS} {H : Heap} {locs : List Loc} {ls : Array Slot}, wp_X0_besidesOf_19 D post S → wO D cy X A s.heap S H locs → wX D S0 S → lv_has ls 2 [] → W p l e r_X0_besidesOf s m args below meth c H locs 0 0 (MQ below (va_Ql (fun r S9 => wX D S0 S9 ∧ post r S9) (wB D cy X A) A) args s 0 0 A) (F0 m 19 ls []) := by
  obtain ⟨hx, hb, hml, hown, hts⟩ := id F
  have hwg : ∀ w ∈ WG, w.before args s = true := fun w h => hts w (List.mem_cons_of_mem _ h)
  intro S H locs ls hp hW hE hl
  unfold wp_X0_besidesOf_19 at hp
  refine lv_lconst (v := 0) hx hb dX0_besidesOf_19 (by decide) ?_
  exact t_X0_besidesOf_20 F hr hlocks hK hp hW hE (lv_sub hl [] rfl)
set_option maxHeartbeats 4000000 in
set_option maxRecDepth 100000 in
theorem t_X0_besidesOf_0 {p : Program} {l : Launch} {e : Env} {s : State} {m : MethodId} {args : Array Value} {below : List Frame} {meth : Method} {c : Code} {D : wD} {cy : Nat → ClassId} {X : va_W} {A : Nat → Prop} {S0 : wS} {post : Int64 → wS → Prop} (F : CallFix p m c cX0_besidesOf 2 s args wz_X0_besidesOf RX0) (hr : meth.sig.returnType = (some .long)) (hlocks : meth.locks = false) (hK : wK D cy A s) : ∀ {S : wS} {H : Heap} {locs : List Loc} {ls : Array Slot} {a0 : Nat} {x1 : Int32}, wp_X0_besidesOf_0 D post S a0 x1 → wO D cy X A s.heap S H locs → wX D S0 S → lv_has ls 2 [(0, .ref a0), (1, .int x1)] → wM D S a0 → sK S a0 = 5 → W p l e r_X0_besidesOf s m args below meth c H locs 0 0 (MQ below (va_Ql (fun r S9 => wX D S0 S9 ∧ post r S9) (wB D cy X A) A) args s 0 0 A) (F0 m 0 ls []) := by
  obtain ⟨hx, hb, hml, hown, hts⟩ := id F
  have hwg : ∀ w ∈ WG, w.before args s = true := fun w h => hts w (List.mem_cons_of_mem _ h)
  have i_5 : ∀ w ∈ u_ws RX0 TX0 12, w ∈ wz_X0_besidesOf := fun w h => List.mem_cons_of_mem _ (wu_5 w h)
  have k_48 := hwg _ wf_RX0_48
  intro S H locs ls a0 x1 hp hW hE hl hL_a0 hK_a0
  unfold wp_X0_besidesOf_0 at hp
  refine lv_iload_n hx hb dX0_besidesOf_0 rfl (lv_at hl 1 rfl) ?_
  refine lv_if_lt (tgt := 19) hx hb dX0_besidesOf_1 (by decide) (fun c_1 => ?_) (fun c_1 => ?_)
  · replace hp := hp.1 c_1
    exact t_X0_besidesOf_19 F hr hlocks hK hp hW hE (lv_sub hl [] rfl)
  · replace hp := hp.2 c_1
    refine lv_iload_n hx hb dX0_besidesOf_4 rfl (lv_at hl 1 rfl) ?_
    refine lv_bipush (v := 64) hx hb dX0_besidesOf_5 (by decide) ?_
    refine lv_icmp_ge (tgt := 19) hx hb dX0_besidesOf_7 (by decide) (fun c_2 => ?_) (fun c_2 => ?_)
    · replace hp := hp.1 c_2
      exact t_X0_besidesOf_19 F hr hlocks hK hp hW hE (lv_sub hl [] rfl)
    · replace hp := hp.2 c_2
      refine lv_aload_n hx hb dX0_besidesOf_10 rfl (lv_at hl 0 rfl) ?_
      obtain ⟨y_3, ey_3, hL_y_3, hK_y_3, hp⟩ := hp
      refine w_get (k := 5) (f := 11) (T := TX0) (v := .ref y_3) F hK hW hL_a0 hK_a0 (by decide) rfl rfl (by decide) i_5 k_48 (by rw [show wv 5 11 S a0 = va_rf (sR S a0 11) from rfl, ey_3]; rfl) dX0_besidesOf_11 ?_
      refine lv_iload_n hx hb dX0_besidesOf_14 rfl (lv_at hl 1 rfl) ?_
      obtain ⟨h_4, hp⟩ := hp
      refine w_lld F hK hW hL_y_3 hK_y_3 h_4 dX0_besidesOf_15 ?_
      refine lv_goto (tgt := 20) hx hb dX0_besidesOf_16 (by decide) ?_
      exact t_X0_besidesOf_20 F hr hlocks hK hp hW hE (lv_sub hl [] rfl)
set_option maxHeartbeats 4000000 in
set_option maxRecDepth 100000 in
theorem c_X0_besidesOf (l : Launch) {D : wD} {cy : Nat → ClassId} {X : va_W} {S0 : wS} {post : Int64 → wS → Prop} {a0 : Nat} {x1 : Int32} (hL_a0 : wM D S0 a0) (hK_a0 : sK S0 a0 = 5) (hp : wp_X0_besidesOf D post S0 a0 x1) : mJ D cy X l yX0_besidesOf wz_X0_besidesOf r_X0_besidesOf [.ref a0, .int x1] S0 (fun r S9 => wX D S0 S9 ∧ post r S9) := by
  intro sz
  refine Met.ofW (cc := cX0_besidesOf) (maxL := 2) (ret := (some .long)) (by decide) rfl ?_
  intro p e s m args below meth c s₁ B hml hv
  obtain ⟨rfl, hsz, hP, hK, hD0, hRO⟩ := hv
  have hts := atoms_spec (ws := wz_X0_besidesOf) B.pre
  have hown : s.vm.findClass RX0 = some m.cls := findClass_of_methodNamed B.named
  subst hsz
  have hD := hD0.self (sz := s.heap.size)
  have F : CallFix p m c cX0_besidesOf 2 s _ wz_X0_besidesOf RX0 := ⟨B.exec, B.bytes, hml, hown, hts⟩
  have hr := B.returns
  have hlocks := B.notSynchronized
  generalize hAe : va_A (wL cy X S0) s.heap.size = A at hD hK ⊢
  have hA : ∀ q, s.heap.size ≤ q → A q := fun q h => by rw [← hAe]; exact Or.inr h
  have hW : wO D cy X A s.heap S0 s.heap [] := ⟨hP, hD, va_S.rf, hA, hRO⟩
  have hl := lv_entry ([.ref a0, .int x1]) (n := 2) (Nat.le_of_ble_eq_true rfl)
  rw [lg_entry_eq]
  generalize (lg_sl ([.ref a0, .int x1]) ++ List.replicate (2 - (lg_sl ([.ref a0, .int x1])).length) Slot.unset).toArray = ls at hl ⊢
  have hl : lv_has ls 2 [(0, .ref a0), (1, .int x1)] := hl
  unfold wp_X0_besidesOf at hp
  exact t_X0_besidesOf_0 F hr hlocks hK hp hW wX.rf (lv_sub hl [0, 1] rfl) hL_a0 hK_a0
def wp_X0_fileAt_20 (D : wD) (post : Int32 → wS → Prop)  (S : wS) (t0 : Int32) : Prop :=
post t0 S
def wp_X0_fileAt_19 (D : wD) (post : Int32 → wS → Prop)  (S : wS) : Prop :=
wp_X0_fileAt_20 D post S (-1 : Int32)
def wp_X0_fileAt_0 (D : wD) (post : Int32 → wS → Prop)  (S : wS) (a0 : Nat) (x1 : Int32) : Prop :=
((x1 < 0 → wp_X0_fileAt_19 D post S) ∧
 (¬ x1 < 0 → (((64 : Int32) ≤ x1 → wp_X0_fileAt_19 D post S) ∧
 (¬ (64 : Int32) ≤ x1 → ∃ y_3 : Nat, sR S a0 4 = some y_3 ∧ wM D S y_3 ∧ sK S y_3 = 21 ∧
vp_in x1 (sN S y_3) ∧
wp_X0_fileAt_20 D post S (sI S y_3 (x1).toNatClampNeg)))))
abbrev r_X0_fileAt : Room := { frames := 0, cells := 0, slots := 0, locals := 0 }
def wp_X0_fileAt (D : wD) (post : Int32 → wS → Prop) (S : wS) (a0 : Nat) (x1 : Int32) : Prop := wp_X0_fileAt_0 D post S a0 x1
set_option maxHeartbeats 4000000 in
set_option maxRecDepth 100000 in
theorem t_X0_fileAt_20 {p : Program} {l : Launch} {e : Env} {s : State} {m : MethodId} {args : Array Value} {below : List Frame} {meth : Method} {c : Code} {D : wD} {cy : Nat → ClassId} {X : va_W} {A : Nat → Prop} {S0 : wS} {post : Int32 → wS → Prop} (F : CallFix p m c cX0_fileAt 2 s args wz_X0_fileAt RX0) (hr : meth.sig.returnType = (some .int)) (hlocks : meth.locks = false) (hK : wK D cy A s) : ∀ {S : wS} {H : Heap} {locs : List Loc} {ls : Array Slot} {t0 : Int32}, wp_X0_fileAt_20 D post S t0 → wO D cy X A s.heap S H locs → wX D S0 S → lv_has ls 2 [] → W p l e r_X0_fileAt s m args below meth c H locs 0 0 (MQ below (va_Qi (fun r S9 => wX D S0 S9 ∧ post r S9) (wB D cy X A) A) args s 0 0 A) (F0 m 20 ls [.int t0]) := by
  obtain ⟨hx, hb, hml, hown, hts⟩ := id F
  have hwg : ∀ w ∈ WG, w.before args s = true := fun w h => hts w (List.mem_cons_of_mem _ h)
  intro S H locs ls t0 hp hW hE hl
  unfold wp_X0_fileAt_20 at hp
  exact w_iret hx hb hr hlocks hW ⟨hE, hp⟩ dX0_fileAt_20
set_option maxHeartbeats 4000000 in
set_option maxRecDepth 100000 in
theorem t_X0_fileAt_19 {p : Program} {l : Launch} {e : Env} {s : State} {m : MethodId} {args : Array Value} {below : List Frame} {meth : Method} {c : Code} {D : wD} {cy : Nat → ClassId} {X : va_W} {A : Nat → Prop} {S0 : wS} {post : Int32 → wS → Prop} (F : CallFix p m c cX0_fileAt 2 s args wz_X0_fileAt RX0) (hr : meth.sig.returnType = (some .int)) (hlocks : meth.locks = false) (hK : wK D cy A s) : ∀ {S : wS} {H : Heap} {locs : List Loc} {ls : Array Slot}, wp_X0_fileAt_19 D post S → wO D cy X A s.heap S H locs → wX D S0 S → lv_has ls 2 [] → W p l e r_X0_fileAt s m args below meth c H locs 0 0 (MQ below (va_Qi (fun r S9 => wX D S0 S9 ∧ post r S9) (wB D cy X A) A) args s 0 0 A) (F0 m 19 ls []) := by
  obtain ⟨hx, hb, hml, hown, hts⟩ := id F
  have hwg : ∀ w ∈ WG, w.before args s = true := fun w h => hts w (List.mem_cons_of_mem _ h)
  intro S H locs ls hp hW hE hl
  unfold wp_X0_fileAt_19 at hp
  refine lv_iconst (v := (-1)) hx hb dX0_fileAt_19 (by decide) ?_
  exact t_X0_fileAt_20 F hr hlocks hK hp hW hE (lv_sub hl [] rfl)
set_option maxHeartbeats 4000000 in
set_option maxRecDepth 100000 in
theorem t_X0_fileAt_0 {p : Program} {l : Launch} {e : Env} {s : State} {m : MethodId} {args : Array Value} {below : List Frame} {meth : Method} {c : Code} {D : wD} {cy : Nat → ClassId} {X : va_W} {A : Nat → Prop} {S0 : wS} {post : Int32 → wS → Prop} (F : CallFix p m c cX0_fileAt 2 s args wz_X0_fileAt RX0) (hr : meth.sig.returnType = (some .int)) (hlocks : meth.locks = false) (hK : wK D cy A s) : ∀ {S : wS} {H : Heap} {locs : List Loc} {ls : Array Slot} {a0 : Nat} {x1 : Int32}, wp_X0_fileAt_0 D post S a0 x1 → wO D cy X A s.heap S H locs → wX D S0 S → lv_has ls 2 [(0, .ref a0), (1, .int x1)] → wM D S a0 → sK S a0 = 5 → W p l e r_X0_fileAt s m args below meth c H locs 0 0 (MQ below (va_Qi (fun r S9 => wX D S0 S9 ∧ post r S9) (wB D cy X A) A) args s 0 0 A) (F0 m 0 ls []) := by
  obtain ⟨hx, hb, hml, hown, hts⟩ := id F
  have hwg : ∀ w ∈ WG, w.before args s = true := fun w h => hts w (List.mem_cons_of_mem _ h)
  have i_5 : ∀ w ∈ u_ws RX0 TX0 12, w ∈ wz_X0_fileAt := fun w h => List.mem_cons_of_mem _ (wu_5 w h)
  have k_25 := hwg _ wf_RX0_25
  intro S H locs ls a0 x1 hp hW hE hl hL_a0 hK_a0
  unfold wp_X0_fileAt_0 at hp
  refine lv_iload_n hx hb dX0_fileAt_0 rfl (lv_at hl 1 rfl) ?_
  refine lv_if_lt (tgt := 19) hx hb dX0_fileAt_1 (by decide) (fun c_1 => ?_) (fun c_1 => ?_)
  · replace hp := hp.1 c_1
    exact t_X0_fileAt_19 F hr hlocks hK hp hW hE (lv_sub hl [] rfl)
  · replace hp := hp.2 c_1
    refine lv_iload_n hx hb dX0_fileAt_4 rfl (lv_at hl 1 rfl) ?_
    refine lv_bipush (v := 64) hx hb dX0_fileAt_5 (by decide) ?_
    refine lv_icmp_ge (tgt := 19) hx hb dX0_fileAt_7 (by decide) (fun c_2 => ?_) (fun c_2 => ?_)
    · replace hp := hp.1 c_2
      exact t_X0_fileAt_19 F hr hlocks hK hp hW hE (lv_sub hl [] rfl)
    · replace hp := hp.2 c_2
      refine lv_aload_n hx hb dX0_fileAt_10 rfl (lv_at hl 0 rfl) ?_
      obtain ⟨y_3, ey_3, hL_y_3, hK_y_3, hp⟩ := hp
      refine w_get (k := 5) (f := 4) (T := TX0) (v := .ref y_3) F hK hW hL_a0 hK_a0 (by decide) rfl rfl (by decide) i_5 k_25 (by rw [show wv 5 4 S a0 = va_rf (sR S a0 4) from rfl, ey_3]; rfl) dX0_fileAt_11 ?_
      refine lv_iload_n hx hb dX0_fileAt_14 rfl (lv_at hl 1 rfl) ?_
      obtain ⟨h_4, hp⟩ := hp
      refine w_ild F hK hW hL_y_3 hK_y_3 h_4 dX0_fileAt_15 ?_
      refine lv_goto (tgt := 20) hx hb dX0_fileAt_16 (by decide) ?_
      exact t_X0_fileAt_20 F hr hlocks hK hp hW hE (lv_sub hl [] rfl)
set_option maxHeartbeats 4000000 in
set_option maxRecDepth 100000 in
theorem c_X0_fileAt (l : Launch) {D : wD} {cy : Nat → ClassId} {X : va_W} {S0 : wS} {post : Int32 → wS → Prop} {a0 : Nat} {x1 : Int32} (hL_a0 : wM D S0 a0) (hK_a0 : sK S0 a0 = 5) (hp : wp_X0_fileAt D post S0 a0 x1) : mI D cy X l yX0_fileAt wz_X0_fileAt r_X0_fileAt [.ref a0, .int x1] S0 (fun r S9 => wX D S0 S9 ∧ post r S9) := by
  intro sz
  refine Met.ofW (cc := cX0_fileAt) (maxL := 2) (ret := (some .int)) (by decide) rfl ?_
  intro p e s m args below meth c s₁ B hml hv
  obtain ⟨rfl, hsz, hP, hK, hD0, hRO⟩ := hv
  have hts := atoms_spec (ws := wz_X0_fileAt) B.pre
  have hown : s.vm.findClass RX0 = some m.cls := findClass_of_methodNamed B.named
  subst hsz
  have hD := hD0.self (sz := s.heap.size)
  have F : CallFix p m c cX0_fileAt 2 s _ wz_X0_fileAt RX0 := ⟨B.exec, B.bytes, hml, hown, hts⟩
  have hr := B.returns
  have hlocks := B.notSynchronized
  generalize hAe : va_A (wL cy X S0) s.heap.size = A at hD hK ⊢
  have hA : ∀ q, s.heap.size ≤ q → A q := fun q h => by rw [← hAe]; exact Or.inr h
  have hW : wO D cy X A s.heap S0 s.heap [] := ⟨hP, hD, va_S.rf, hA, hRO⟩
  have hl := lv_entry ([.ref a0, .int x1]) (n := 2) (Nat.le_of_ble_eq_true rfl)
  rw [lg_entry_eq]
  generalize (lg_sl ([.ref a0, .int x1]) ++ List.replicate (2 - (lg_sl ([.ref a0, .int x1])).length) Slot.unset).toArray = ls at hl ⊢
  have hl : lv_has ls 2 [(0, .ref a0), (1, .int x1)] := hl
  unfold wp_X0_fileAt at hp
  exact t_X0_fileAt_0 F hr hlocks hK hp hW wX.rf (lv_sub hl [0, 1] rfl) hL_a0 hK_a0
def wp_X0_has_23 (D : wD) (post : Int32 → wS → Prop)  (S : wS) (t0 : Int32) : Prop :=
narrow .boolean (.int t0) = .int t0 ∧ post t0 S
def wp_X0_has_22 (D : wD) (post : Int32 → wS → Prop)  (S : wS) : Prop :=
wp_X0_has_23 D post S (0 : Int32)
def wp_X0_has_0 (D : wD) (post : Int32 → wS → Prop)  (S : wS) (a0 : Nat) (x1 : Int32) : Prop :=
((x1 < 0 → wp_X0_has_22 D post S) ∧
 (¬ x1 < 0 → (((sI S a0 2) ≤ x1 → wp_X0_has_22 D post S) ∧
 (¬ (sI S a0 2) ≤ x1 → (((64 : Int32) ≤ x1 → wp_X0_has_22 D post S) ∧
 (¬ (64 : Int32) ≤ x1 → wp_X0_has_23 D post S (1 : Int32)))))))
abbrev r_X0_has : Room := { frames := 0, cells := 0, slots := 0, locals := 0 }
def wp_X0_has (D : wD) (post : Int32 → wS → Prop) (S : wS) (a0 : Nat) (x1 : Int32) : Prop := wp_X0_has_0 D post S a0 x1
set_option maxHeartbeats 4000000 in
set_option maxRecDepth 100000 in
theorem t_X0_has_23 {p : Program} {l : Launch} {e : Env} {s : State} {m : MethodId} {args : Array Value} {below : List Frame} {meth : Method} {c : Code} {D : wD} {cy : Nat → ClassId} {X : va_W} {A : Nat → Prop} {S0 : wS} {post : Int32 → wS → Prop} (F : CallFix p m c cX0_has 2 s args wz_X0_has RX0) (hr : meth.sig.returnType = (some .boolean)) (hlocks : meth.locks = false) (hK : wK D cy A s) : ∀ {S : wS} {H : Heap} {locs : List Loc} {ls : Array Slot} {t0 : Int32}, wp_X0_has_23 D post S t0 → wO D cy X A s.heap S H locs → wX D S0 S → lv_has ls 2 [] → W p l e r_X0_has s m args below meth c H locs 0 0 (MQ below (va_Qi (fun r S9 => wX D S0 S9 ∧ post r S9) (wB D cy X A) A) args s 0 0 A) (F0 m 23 ls [.int t0]) := by
  obtain ⟨hx, hb, hml, hown, hts⟩ := id F
  have hwg : ∀ w ∈ WG, w.before args s = true := fun w h => hts w (List.mem_cons_of_mem _ h)
  intro S H locs ls t0 hp hW hE hl
  unfold wp_X0_has_23 at hp
  exact w_zret hx hb hr hlocks hW hp.1 ⟨hE, hp.2⟩ dX0_has_23
set_option maxHeartbeats 4000000 in
set_option maxRecDepth 100000 in
theorem t_X0_has_22 {p : Program} {l : Launch} {e : Env} {s : State} {m : MethodId} {args : Array Value} {below : List Frame} {meth : Method} {c : Code} {D : wD} {cy : Nat → ClassId} {X : va_W} {A : Nat → Prop} {S0 : wS} {post : Int32 → wS → Prop} (F : CallFix p m c cX0_has 2 s args wz_X0_has RX0) (hr : meth.sig.returnType = (some .boolean)) (hlocks : meth.locks = false) (hK : wK D cy A s) : ∀ {S : wS} {H : Heap} {locs : List Loc} {ls : Array Slot}, wp_X0_has_22 D post S → wO D cy X A s.heap S H locs → wX D S0 S → lv_has ls 2 [] → W p l e r_X0_has s m args below meth c H locs 0 0 (MQ below (va_Qi (fun r S9 => wX D S0 S9 ∧ post r S9) (wB D cy X A) A) args s 0 0 A) (F0 m 22 ls []) := by
  obtain ⟨hx, hb, hml, hown, hts⟩ := id F
  have hwg : ∀ w ∈ WG, w.before args s = true := fun w h => hts w (List.mem_cons_of_mem _ h)
  intro S H locs ls hp hW hE hl
  unfold wp_X0_has_22 at hp
  refine lv_iconst (v := 0) hx hb dX0_has_22 (by decide) ?_
  exact t_X0_has_23 F hr hlocks hK hp hW hE (lv_sub hl [] rfl)
set_option maxHeartbeats 4000000 in
set_option maxRecDepth 100000 in
theorem t_X0_has_0 {p : Program} {l : Launch} {e : Env} {s : State} {m : MethodId} {args : Array Value} {below : List Frame} {meth : Method} {c : Code} {D : wD} {cy : Nat → ClassId} {X : va_W} {A : Nat → Prop} {S0 : wS} {post : Int32 → wS → Prop} (F : CallFix p m c cX0_has 2 s args wz_X0_has RX0) (hr : meth.sig.returnType = (some .boolean)) (hlocks : meth.locks = false) (hK : wK D cy A s) : ∀ {S : wS} {H : Heap} {locs : List Loc} {ls : Array Slot} {a0 : Nat} {x1 : Int32}, wp_X0_has_0 D post S a0 x1 → wO D cy X A s.heap S H locs → wX D S0 S → lv_has ls 2 [(0, .ref a0), (1, .int x1)] → wM D S a0 → sK S a0 = 5 → W p l e r_X0_has s m args below meth c H locs 0 0 (MQ below (va_Qi (fun r S9 => wX D S0 S9 ∧ post r S9) (wB D cy X A) A) args s 0 0 A) (F0 m 0 ls []) := by
  obtain ⟨hx, hb, hml, hown, hts⟩ := id F
  have hwg : ∀ w ∈ WG, w.before args s = true := fun w h => hts w (List.mem_cons_of_mem _ h)
  have i_5 : ∀ w ∈ u_ws RX0 TX0 12, w ∈ wz_X0_has := fun w h => List.mem_cons_of_mem _ (wu_5 w h)
  have k_18 := hwg _ wf_RX0_18
  intro S H locs ls a0 x1 hp hW hE hl hL_a0 hK_a0
  unfold wp_X0_has_0 at hp
  refine lv_iload_n hx hb dX0_has_0 rfl (lv_at hl 1 rfl) ?_
  refine lv_if_lt (tgt := 22) hx hb dX0_has_1 (by decide) (fun c_1 => ?_) (fun c_1 => ?_)
  · replace hp := hp.1 c_1
    exact t_X0_has_22 F hr hlocks hK hp hW hE (lv_sub hl [] rfl)
  · replace hp := hp.2 c_1
    refine lv_iload_n hx hb dX0_has_4 rfl (lv_at hl 1 rfl) ?_
    refine lv_aload_n hx hb dX0_has_5 rfl (lv_at hl 0 rfl) ?_
    refine w_get (k := 5) (f := 2) (T := TX0) (v := .int (sI S a0 2)) F hK hW hL_a0 hK_a0 (by decide) rfl rfl (by decide) i_5 k_18 rfl dX0_has_6 ?_
    refine lv_icmp_ge (tgt := 22) hx hb dX0_has_9 (by decide) (fun c_2 => ?_) (fun c_2 => ?_)
    · replace hp := hp.1 c_2
      exact t_X0_has_22 F hr hlocks hK hp hW hE (lv_sub hl [] rfl)
    · replace hp := hp.2 c_2
      refine lv_iload_n hx hb dX0_has_12 rfl (lv_at hl 1 rfl) ?_
      refine lv_bipush (v := 64) hx hb dX0_has_13 (by decide) ?_
      refine lv_icmp_ge (tgt := 22) hx hb dX0_has_15 (by decide) (fun c_3 => ?_) (fun c_3 => ?_)
      · replace hp := hp.1 c_3
        exact t_X0_has_22 F hr hlocks hK hp hW hE (lv_sub hl [] rfl)
      · replace hp := hp.2 c_3
        refine lv_iconst (v := 1) hx hb dX0_has_18 (by decide) ?_
        refine lv_goto (tgt := 23) hx hb dX0_has_19 (by decide) ?_
        exact t_X0_has_23 F hr hlocks hK hp hW hE (lv_sub hl [] rfl)
set_option maxHeartbeats 4000000 in
set_option maxRecDepth 100000 in
theorem c_X0_has (l : Launch) {D : wD} {cy : Nat → ClassId} {X : va_W} {S0 : wS} {post : Int32 → wS → Prop} {a0 : Nat} {x1 : Int32} (hL_a0 : wM D S0 a0) (hK_a0 : sK S0 a0 = 5) (hp : wp_X0_has D post S0 a0 x1) : mI D cy X l yX0_has wz_X0_has r_X0_has [.ref a0, .int x1] S0 (fun r S9 => wX D S0 S9 ∧ post r S9) := by
  intro sz
  refine Met.ofW (cc := cX0_has) (maxL := 2) (ret := (some .boolean)) (by decide) rfl ?_
  intro p e s m args below meth c s₁ B hml hv
  obtain ⟨rfl, hsz, hP, hK, hD0, hRO⟩ := hv
  have hts := atoms_spec (ws := wz_X0_has) B.pre
  have hown : s.vm.findClass RX0 = some m.cls := findClass_of_methodNamed B.named
  subst hsz
  have hD := hD0.self (sz := s.heap.size)
  have F : CallFix p m c cX0_has 2 s _ wz_X0_has RX0 := ⟨B.exec, B.bytes, hml, hown, hts⟩
  have hr := B.returns
  have hlocks := B.notSynchronized
  generalize hAe : va_A (wL cy X S0) s.heap.size = A at hD hK ⊢
  have hA : ∀ q, s.heap.size ≤ q → A q := fun q h => by rw [← hAe]; exact Or.inr h
  have hW : wO D cy X A s.heap S0 s.heap [] := ⟨hP, hD, va_S.rf, hA, hRO⟩
  have hl := lv_entry ([.ref a0, .int x1]) (n := 2) (Nat.le_of_ble_eq_true rfl)
  rw [lg_entry_eq]
  generalize (lg_sl ([.ref a0, .int x1]) ++ List.replicate (2 - (lg_sl ([.ref a0, .int x1])).length) Slot.unset).toArray = ls at hl ⊢
  have hl : lv_has ls 2 [(0, .ref a0), (1, .int x1)] := hl
  unfold wp_X0_has at hp
  exact t_X0_has_0 F hr hlocks hK hp hW wX.rf (lv_sub hl [0, 1] rfl) hL_a0 hK_a0
def wp_X0_setOf_48 (D : wD) (post : Int64 → wS → Prop)  (S : wS) (t0 : Int64) : Prop :=
post t0 S
def wp_X0_setOf_29 (D : wD) (post : Int64 → wS → Prop)  (S : wS) (a0 : Nat) (x1 : Int32) (x2 : Int32) (t0 : Int32) : Prop :=
((t0 = 0 → wp_X0_setOf_48 D post S (0 : Int64)) ∧
 (¬ t0 = 0 → wp_X0_setOf_48 D post S (jlshl (1 : Int64) ((x2 * (sI S a0 0)) + x1))))
def wp_X0_setOf_28 (D : wD) (post : Int64 → wS → Prop)  (S : wS) (a0 : Nat) (x1 : Int32) (x2 : Int32) : Prop :=
wp_X0_setOf_29 D post S a0 x1 x2 (0 : Int32)
def wp_X0_setOf_0 (D : wD) (post : Int64 → wS → Prop)  (S : wS) (a0 : Nat) (x1 : Int32) (x2 : Int32) : Prop :=
((x1 < 0 → wp_X0_setOf_28 D post S a0 x1 x2) ∧
 (¬ x1 < 0 → (((sI S a0 0) ≤ x1 → wp_X0_setOf_28 D post S a0 x1 x2) ∧
 (¬ (sI S a0 0) ≤ x1 → ((x2 < 0 → wp_X0_setOf_28 D post S a0 x1 x2) ∧
 (¬ x2 < 0 → (((sI S a0 1) ≤ x2 → wp_X0_setOf_28 D post S a0 x1 x2) ∧
 (¬ (sI S a0 1) ≤ x2 → wp_X0_setOf_29 D post S a0 x1 x2 (1 : Int32)))))))))
abbrev r_X0_setOf : Room := { frames := 0, cells := 0, slots := 0, locals := 0 }
def wp_X0_setOf (D : wD) (post : Int64 → wS → Prop) (S : wS) (a0 : Nat) (x1 : Int32) (x2 : Int32) : Prop := wp_X0_setOf_0 D post S a0 x1 x2
set_option maxHeartbeats 4000000 in
set_option maxRecDepth 100000 in
theorem t_X0_setOf_48 {p : Program} {l : Launch} {e : Env} {s : State} {m : MethodId} {args : Array Value} {below : List Frame} {meth : Method} {c : Code} {D : wD} {cy : Nat → ClassId} {X : va_W} {A : Nat → Prop} {S0 : wS} {post : Int64 → wS → Prop} (F : CallFix p m c cX0_setOf 4 s args wz_X0_setOf RX0) (hr : meth.sig.returnType = (some .long)) (hlocks : meth.locks = false) (hK : wK D cy A s) : ∀ {S : wS} {H : Heap} {locs : List Loc} {ls : Array Slot} {t0 : Int64}, wp_X0_setOf_48 D post S t0 → wO D cy X A s.heap S H locs → wX D S0 S → lv_has ls 4 [] → W p l e r_X0_setOf s m args below meth c H locs 0 0 (MQ below (va_Ql (fun r S9 => wX D S0 S9 ∧ post r S9) (wB D cy X A) A) args s 0 0 A) (F0 m 48 ls [.long t0]) := by
  obtain ⟨hx, hb, hml, hown, hts⟩ := id F
  have hwg : ∀ w ∈ WG, w.before args s = true := fun w h => hts w (List.mem_cons_of_mem _ h)
  intro S H locs ls t0 hp hW hE hl
  unfold wp_X0_setOf_48 at hp
  exact w_lret hx hb hr hlocks hW ⟨hE, hp⟩ dX0_setOf_48
set_option maxHeartbeats 4000000 in
set_option maxRecDepth 100000 in
theorem t_X0_setOf_29 {p : Program} {l : Launch} {e : Env} {s : State} {m : MethodId} {args : Array Value} {below : List Frame} {meth : Method} {c : Code} {D : wD} {cy : Nat → ClassId} {X : va_W} {A : Nat → Prop} {S0 : wS} {post : Int64 → wS → Prop} (F : CallFix p m c cX0_setOf 4 s args wz_X0_setOf RX0) (hr : meth.sig.returnType = (some .long)) (hlocks : meth.locks = false) (hK : wK D cy A s) : ∀ {S : wS} {H : Heap} {locs : List Loc} {ls : Array Slot} {a0 : Nat} {x1 : Int32} {x2 : Int32} {t0 : Int32}, wp_X0_setOf_29 D post S a0 x1 x2 t0 → wO D cy X A s.heap S H locs → wX D S0 S → lv_has ls 4 [(0, .ref a0), (1, .int x1), (2, .int x2)] → wM D S a0 → sK S a0 = 5 → W p l e r_X0_setOf s m args below meth c H locs 0 0 (MQ below (va_Ql (fun r S9 => wX D S0 S9 ∧ post r S9) (wB D cy X A) A) args s 0 0 A) (F0 m 29 ls [.int t0]) := by
  obtain ⟨hx, hb, hml, hown, hts⟩ := id F
  have hwg : ∀ w ∈ WG, w.before args s = true := fun w h => hts w (List.mem_cons_of_mem _ h)
  have i_5 : ∀ w ∈ u_ws RX0 TX0 12, w ∈ wz_X0_setOf := fun w h => List.mem_cons_of_mem _ (wu_5 w h)
  have k_9 := hwg _ wf_RX0_9
  intro S H locs ls a0 x1 x2 t0 hp hW hE hl hL_a0 hK_a0
  unfold wp_X0_setOf_29 at hp
  refine lv_istore_n (lv' := [(3, .int t0), (0, .ref a0), (1, .int x1), (2, .int x2)]) hx hb dX0_setOf_29 rfl hl (by decide) rfl (fun ls hl => ?_)
  refine lv_iload_n hx hb dX0_setOf_30 rfl (lv_at hl 0 rfl) ?_
  refine lv_if_eq (tgt := 47) hx hb dX0_setOf_31 (by decide) (fun c_1 => ?_) (fun c_1 => ?_)
  · replace hp := hp.1 c_1
    refine lv_lconst (v := 0) hx hb dX0_setOf_47 (by decide) ?_
    exact t_X0_setOf_48 F hr hlocks hK hp hW hE (lv_sub hl [] rfl)
  · replace hp := hp.2 c_1
    refine lv_lconst (v := 1) hx hb dX0_setOf_34 (by decide) ?_
    refine lv_iload_n hx hb dX0_setOf_35 rfl (lv_at hl 3 rfl) ?_
    refine lv_aload_n hx hb dX0_setOf_36 rfl (lv_at hl 1 rfl) ?_
    refine w_get (k := 5) (f := 0) (T := TX0) (v := .int (sI S a0 0)) F hK hW hL_a0 hK_a0 (by decide) rfl rfl (by decide) i_5 k_9 rfl dX0_setOf_37 ?_
    refine lv_imul hx hb dX0_setOf_40 ?_
    refine lv_iload_n hx hb dX0_setOf_41 rfl (lv_at hl 2 rfl) ?_
    refine lv_iadd hx hb dX0_setOf_42 ?_
    refine lv_lshl (v := (jlshl (1 : Int64) ((x2 * (sI S a0 0)) + x1))) hx hb dX0_setOf_43 rfl ?_
    refine lv_goto (tgt := 48) hx hb dX0_setOf_44 (by decide) ?_
    exact t_X0_setOf_48 F hr hlocks hK hp hW hE (lv_sub hl [] rfl)
set_option maxHeartbeats 4000000 in
set_option maxRecDepth 100000 in
theorem t_X0_setOf_28 {p : Program} {l : Launch} {e : Env} {s : State} {m : MethodId} {args : Array Value} {below : List Frame} {meth : Method} {c : Code} {D : wD} {cy : Nat → ClassId} {X : va_W} {A : Nat → Prop} {S0 : wS} {post : Int64 → wS → Prop} (F : CallFix p m c cX0_setOf 4 s args wz_X0_setOf RX0) (hr : meth.sig.returnType = (some .long)) (hlocks : meth.locks = false) (hK : wK D cy A s) : ∀ {S : wS} {H : Heap} {locs : List Loc} {ls : Array Slot} {a0 : Nat} {x1 : Int32} {x2 : Int32}, wp_X0_setOf_28 D post S a0 x1 x2 → wO D cy X A s.heap S H locs → wX D S0 S → lv_has ls 4 [(0, .ref a0), (1, .int x1), (2, .int x2)] → wM D S a0 → sK S a0 = 5 → W p l e r_X0_setOf s m args below meth c H locs 0 0 (MQ below (va_Ql (fun r S9 => wX D S0 S9 ∧ post r S9) (wB D cy X A) A) args s 0 0 A) (F0 m 28 ls []) := by
  obtain ⟨hx, hb, hml, hown, hts⟩ := id F
  have hwg : ∀ w ∈ WG, w.before args s = true := fun w h => hts w (List.mem_cons_of_mem _ h)
  intro S H locs ls a0 x1 x2 hp hW hE hl hL_a0 hK_a0
  unfold wp_X0_setOf_28 at hp
  refine lv_iconst (v := 0) hx hb dX0_setOf_28 (by decide) ?_
  exact t_X0_setOf_29 F hr hlocks hK hp hW hE (lv_sub hl [0, 1, 2] rfl) hL_a0 hK_a0
set_option maxHeartbeats 4000000 in
set_option maxRecDepth 100000 in
theorem t_X0_setOf_0 {p : Program} {l : Launch} {e : Env} {s : State} {m : MethodId} {args : Array Value} {below : List Frame} {meth : Method} {c : Code} {D : wD} {cy : Nat → ClassId} {X : va_W} {A : Nat → Prop} {S0 : wS} {post : Int64 → wS → Prop} (F : CallFix p m c cX0_setOf 4 s args wz_X0_setOf RX0) (hr : meth.sig.returnType = (some .long)) (hlocks : meth.locks = false) (hK : wK D cy A s) : ∀ {S : wS} {H : Heap} {locs : List Loc} {ls : Array Slot} {a0 : Nat} {x1 : Int32} {x2 : Int32}, wp_X0_setOf_0 D post S a0 x1 x2 → wO D cy X A s.heap S H locs → wX D S0 S → lv_has ls 4 [(0, .ref a0), (1, .int x1), (2, .int x2)] → wM D S a0 → sK S a0 = 5 → W p l e r_X0_setOf s m args below meth c H locs 0 0 (MQ below (va_Ql (fun r S9 => wX D S0 S9 ∧ post r S9) (wB D cy X A) A) args s 0 0 A) (F0 m 0 ls []) := by
  obtain ⟨hx, hb, hml, hown, hts⟩ := id F
  have hwg : ∀ w ∈ WG, w.before args s = true := fun w h => hts w (List.mem_cons_of_mem _ h)
  have i_5 : ∀ w ∈ u_ws RX0 TX0 12, w ∈ wz_X0_setOf := fun w h => List.mem_cons_of_mem _ (wu_5 w h)
  have k_15 := hwg _ wf_RX0_15
  have k_9 := hwg _ wf_RX0_9
  intro S H locs ls a0 x1 x2 hp hW hE hl hL_a0 hK_a0
  unfold wp_X0_setOf_0 at hp
  refine lv_iload_n hx hb dX0_setOf_0 rfl (lv_at hl 1 rfl) ?_
  refine lv_if_lt (tgt := 28) hx hb dX0_setOf_1 (by decide) (fun c_1 => ?_) (fun c_1 => ?_)
  · replace hp := hp.1 c_1
    exact t_X0_setOf_28 F hr hlocks hK hp hW hE (lv_sub hl [0, 1, 2] rfl) hL_a0 hK_a0
  · replace hp := hp.2 c_1
    refine lv_iload_n hx hb dX0_setOf_4 rfl (lv_at hl 1 rfl) ?_
    refine lv_aload_n hx hb dX0_setOf_5 rfl (lv_at hl 0 rfl) ?_
    refine w_get (k := 5) (f := 0) (T := TX0) (v := .int (sI S a0 0)) F hK hW hL_a0 hK_a0 (by decide) rfl rfl (by decide) i_5 k_9 rfl dX0_setOf_6 ?_
    refine lv_icmp_ge (tgt := 28) hx hb dX0_setOf_9 (by decide) (fun c_2 => ?_) (fun c_2 => ?_)
    · replace hp := hp.1 c_2
      exact t_X0_setOf_28 F hr hlocks hK hp hW hE (lv_sub hl [0, 1, 2] rfl) hL_a0 hK_a0
    · replace hp := hp.2 c_2
      refine lv_iload_n hx hb dX0_setOf_12 rfl (lv_at hl 2 rfl) ?_
      refine lv_if_lt (tgt := 28) hx hb dX0_setOf_13 (by decide) (fun c_3 => ?_) (fun c_3 => ?_)
      · replace hp := hp.1 c_3
        exact t_X0_setOf_28 F hr hlocks hK hp hW hE (lv_sub hl [0, 1, 2] rfl) hL_a0 hK_a0
      · replace hp := hp.2 c_3
        refine lv_iload_n hx hb dX0_setOf_16 rfl (lv_at hl 2 rfl) ?_
        refine lv_aload_n hx hb dX0_setOf_17 rfl (lv_at hl 0 rfl) ?_
        refine w_get (k := 5) (f := 1) (T := TX0) (v := .int (sI S a0 1)) F hK hW hL_a0 hK_a0 (by decide) rfl rfl (by decide) i_5 k_15 rfl dX0_setOf_18 ?_
        refine lv_icmp_ge (tgt := 28) hx hb dX0_setOf_21 (by decide) (fun c_4 => ?_) (fun c_4 => ?_)
        · replace hp := hp.1 c_4
          exact t_X0_setOf_28 F hr hlocks hK hp hW hE (lv_sub hl [0, 1, 2] rfl) hL_a0 hK_a0
        · replace hp := hp.2 c_4
          refine lv_iconst (v := 1) hx hb dX0_setOf_24 (by decide) ?_
          refine lv_goto (tgt := 29) hx hb dX0_setOf_25 (by decide) ?_
          exact t_X0_setOf_29 F hr hlocks hK hp hW hE (lv_sub hl [0, 1, 2] rfl) hL_a0 hK_a0
set_option maxHeartbeats 4000000 in
set_option maxRecDepth 100000 in
theorem c_X0_setOf (l : Launch) {D : wD} {cy : Nat → ClassId} {X : va_W} {S0 : wS} {post : Int64 → wS → Prop} {a0 : Nat} {x1 : Int32} {x2 : Int32} (hL_a0 : wM D S0 a0) (hK_a0 : sK S0 a0 = 5) (hp : wp_X0_setOf D post S0 a0 x1 x2) : mJ D cy X l yX0_setOf wz_X0_setOf r_X0_setOf [.ref a0, .int x1, .int x2] S0 (fun r S9 => wX D S0 S9 ∧ post r S9) := by
  intro sz
  refine Met.ofW (cc := cX0_setOf) (maxL := 4) (ret := (some .long)) (by decide) rfl ?_
  intro p e s m args below meth c s₁ B hml hv
  obtain ⟨rfl, hsz, hP, hK, hD0, hRO⟩ := hv
  have hts := atoms_spec (ws := wz_X0_setOf) B.pre
  have hown : s.vm.findClass RX0 = some m.cls := findClass_of_methodNamed B.named
  subst hsz
  have hD := hD0.self (sz := s.heap.size)
  have F : CallFix p m c cX0_setOf 4 s _ wz_X0_setOf RX0 := ⟨B.exec, B.bytes, hml, hown, hts⟩
  have hr := B.returns
  have hlocks := B.notSynchronized
  generalize hAe : va_A (wL cy X S0) s.heap.size = A at hD hK ⊢
  have hA : ∀ q, s.heap.size ≤ q → A q := fun q h => by rw [← hAe]; exact Or.inr h
  have hW : wO D cy X A s.heap S0 s.heap [] := ⟨hP, hD, va_S.rf, hA, hRO⟩
  have hl := lv_entry ([.ref a0, .int x1, .int x2]) (n := 4) (Nat.le_of_ble_eq_true rfl)
  rw [lg_entry_eq]
  generalize (lg_sl ([.ref a0, .int x1, .int x2]) ++ List.replicate (4 - (lg_sl ([.ref a0, .int x1, .int x2])).length) Slot.unset).toArray = ls at hl ⊢
  have hl : lv_has ls 4 [(0, .ref a0), (1, .int x1), (2, .int x2)] := hl
  unfold wp_X0_setOf at hp
  exact t_X0_setOf_0 F hr hlocks hK hp hW wX.rf (lv_sub hl [0, 1, 2] rfl) hL_a0 hK_a0
def wp_X0_ray_6 (D : wD) (post : Int64 → wS → Prop)  : Nat → wS → Nat → Int32 → Int32 → Int32 → Int32 → Int64 → Int32 → Prop
  | 0, _, _, _, _, _, _, _, _ => False
  | n + 1, S, a0, x1, x2, x3, x4, x5, x7 =>
    (((8 : Int32) ≤ x7 → post x5 S) ∧
     (¬ (8 : Int32) ≤ x7 → wp_X0_setOf D (fun r_2 S_3 => 
    ∀ x_4 : Int64, x_4 = (x5 ||| r_2) →
    ∀ x_5 : Int32, x_5 = x7 + 1 →
    wp_X0_ray_6 D post n S_3 a0 x1 x2 x3 x4 x_4 x_5) S a0 (x1 + (x7 * x3)) (x2 + (x7 * x4))))
def wp_X0_ray_0 (D : wD) (post : Int64 → wS → Prop)  (S : wS) (a0 : Nat) (x1 : Int32) (x2 : Int32) (x3 : Int32) (x4 : Int32) : Prop :=
∃ n_1 : Nat, wp_X0_ray_6 D post n_1 S a0 x1 x2 x3 x4 (0 : Int64) (1 : Int32)
abbrev r_X0_ray : Room := { frames := 1, cells := 0, slots := 0, locals := 23 }
def wp_X0_ray (D : wD) (post : Int64 → wS → Prop) (S : wS) (a0 : Nat) (x1 : Int32) (x2 : Int32) (x3 : Int32) (x4 : Int32) : Prop := wp_X0_ray_0 D post S a0 x1 x2 x3 x4
set_option maxHeartbeats 4000000 in
set_option maxRecDepth 100000 in
theorem t_X0_ray_6 {p : Program} {l : Launch} {e : Env} {s : State} {m : MethodId} {args : Array Value} {below : List Frame} {meth : Method} {c : Code} {D : wD} {cy : Nat → ClassId} {X : va_W} {A : Nat → Prop} {S0 : wS} {post : Int64 → wS → Prop} (F : CallFix p m c cX0_ray 8 s args wz_X0_ray RX0) (hr : meth.sig.returnType = (some .long)) (hlocks : meth.locks = false) (hK : wK D cy A s) : ∀ (n : Nat) {S : wS} {H : Heap} {locs : List Loc} {ls : Array Slot} {a0 : Nat} {x1 : Int32} {x2 : Int32} {x3 : Int32} {x4 : Int32} {x5 : Int64} {x7 : Int32}, wp_X0_ray_6 D post n S a0 x1 x2 x3 x4 x5 x7 → wO D cy X A s.heap S H locs → wX D S0 S → lv_has ls 8 [(0, .ref a0), (1, .int x1), (2, .int x2), (3, .int x3), (4, .int x4), (5, .long x5), (7, .int x7)] → wM D S a0 → sK S a0 = 5 → W p l e r_X0_ray s m args below meth c H locs 0 0 (MQ below (va_Ql (fun r S9 => wX D S0 S9 ∧ post r S9) (wB D cy X A) A) args s 0 0 A) (F0 m 6 ls []) := by
  obtain ⟨hx, hb, hml, hown, hts⟩ := id F
  have hwg : ∀ w ∈ WG, w.before args s = true := fun w h => hts w (List.mem_cons_of_mem _ h)
  intro n
  induction n with
  | zero =>
    intro S H locs ls a0 x1 x2 x3 x4 x5 x7 hp
    exact hp.elim
  | succ n ih =>
    intro S H locs ls a0 x1 x2 x3 x4 x5 x7 hp hW hE hl hL_a0 hK_a0
    unfold wp_X0_ray_6 at hp
    refine lv_iload hx hb dX0_ray_6 (lv_at hl 6 rfl) ?_
    refine lv_bipush (v := 8) hx hb dX0_ray_8 (by decide) ?_
    refine lv_icmp_ge (tgt := 41) hx hb dX0_ray_10 (by decide) (fun c_1 => ?_) (fun c_1 => ?_)
    · replace hp := hp.1 c_1
      refine lv_lload hx hb dX0_ray_41 (lv_at hl 5 rfl) ?_
      exact w_lret hx hb hr hlocks hW ⟨hE, hp⟩ dX0_ray_43
    · replace hp := hp.2 c_1
      refine lv_lload hx hb dX0_ray_13 (lv_at hl 5 rfl) ?_
      refine lv_aload_n hx hb dX0_ray_15 rfl (lv_at hl 0 rfl) ?_
      refine lv_iload_n hx hb dX0_ray_16 rfl (lv_at hl 1 rfl) ?_
      refine lv_iload hx hb dX0_ray_17 (lv_at hl 6 rfl) ?_
      refine lv_iload_n hx hb dX0_ray_19 rfl (lv_at hl 3 rfl) ?_
      refine lv_imul hx hb dX0_ray_20 ?_
      refine lv_iadd hx hb dX0_ray_21 ?_
      refine lv_iload_n hx hb dX0_ray_22 rfl (lv_at hl 2 rfl) ?_
      refine lv_iload hx hb dX0_ray_23 (lv_at hl 6 rfl) ?_
      refine lv_iload hx hb dX0_ray_25 (lv_at hl 4 rfl) ?_
      refine lv_imul hx hb dX0_ray_27 ?_
      refine lv_iadd hx hb dX0_ray_28 ?_
      refine w_callJ (va_runV (As := [.int (x1 + (x7 * x3)), .int (x2 + (x7 * x4))]) (rest := [.long x5]) F (c_X0_setOf l hL_a0 hK_a0 hp H.size) (cwV (C := RX0) 2 hts (wg_V wm_RX0_75 wy_X0_setOf) rfl rfl rfl (by decide +kernel) ⟨Nat.le_of_ble_eq_true rfl, Nat.le_of_ble_eq_true rfl⟩) (w_preV hK hW hL_a0 hK_a0 (by decide) rfl) rfl rfl hl.1 rfl (lv_room (Nat.le_of_ble_eq_true rfl)) dX0_ray_29 ⟨Nat.le_of_ble_eq_true rfl, Nat.le_of_ble_eq_true rfl⟩) hW (fun r_2 S_3 H locs hp hW => ?_)
      obtain ⟨hX_S_3, hp⟩ := hp
      refine W.widen (k := 0) (n := 0) (by decide) (by decide) ?_
      have hE := hE.trans hX_S_3
      have hK_a0 : sK S_3 a0 = 5 := (hX_S_3.2 a0 hL_a0).1.trans hK_a0
      have hL_a0 : wM D S_3 a0 := hX_S_3.M hL_a0
      refine lv_lor hx hb dX0_ray_32 ?_
      refine lv_topl (fun x_4 ex_4 => ?_)
      replace hp := hp x_4 ex_4
      refine lv_lstore (lv' := [(5, .long x_4), (0, .ref a0), (1, .int x1), (2, .int x2), (3, .int x3), (4, .int x4), (7, .int x7)]) hx hb dX0_ray_33 hl (by decide) rfl (fun ls hl => ?_)
      obtain ⟨x_5, ex_5⟩ : ∃ z : Int32, z = x7 + 1 := ⟨_, rfl⟩
      replace hp := hp x_5 ex_5
      refine lv_iinc (v := x_5) (lv' := [(7, .int x_5), (5, .long x_4), (0, .ref a0), (1, .int x1), (2, .int x2), (3, .int x3), (4, .int x4)]) hx hb dX0_ray_35 hl (k := 6) rfl (by rw [ex_5]; rfl) (by decide) rfl (fun ls hl => ?_)
      refine lv_goto (tgt := 6) hx hb dX0_ray_38 (by decide) ?_
      exact ih hp hW hE (lv_sub hl [2, 3, 4, 5, 6, 1, 0] rfl) hL_a0 hK_a0
set_option maxHeartbeats 4000000 in
set_option maxRecDepth 100000 in
theorem t_X0_ray_0 {p : Program} {l : Launch} {e : Env} {s : State} {m : MethodId} {args : Array Value} {below : List Frame} {meth : Method} {c : Code} {D : wD} {cy : Nat → ClassId} {X : va_W} {A : Nat → Prop} {S0 : wS} {post : Int64 → wS → Prop} (F : CallFix p m c cX0_ray 8 s args wz_X0_ray RX0) (hr : meth.sig.returnType = (some .long)) (hlocks : meth.locks = false) (hK : wK D cy A s) : ∀ {S : wS} {H : Heap} {locs : List Loc} {ls : Array Slot} {a0 : Nat} {x1 : Int32} {x2 : Int32} {x3 : Int32} {x4 : Int32}, wp_X0_ray_0 D post S a0 x1 x2 x3 x4 → wO D cy X A s.heap S H locs → wX D S0 S → lv_has ls 8 [(0, .ref a0), (1, .int x1), (2, .int x2), (3, .int x3), (4, .int x4)] → wM D S a0 → sK S a0 = 5 → W p l e r_X0_ray s m args below meth c H locs 0 0 (MQ below (va_Ql (fun r S9 => wX D S0 S9 ∧ post r S9) (wB D cy X A) A) args s 0 0 A) (F0 m 0 ls []) := by
  obtain ⟨hx, hb, hml, hown, hts⟩ := id F
  have hwg : ∀ w ∈ WG, w.before args s = true := fun w h => hts w (List.mem_cons_of_mem _ h)
  intro S H locs ls a0 x1 x2 x3 x4 hp hW hE hl hL_a0 hK_a0
  unfold wp_X0_ray_0 at hp
  refine lv_lconst (v := 0) hx hb dX0_ray_0 (by decide) ?_
  refine lv_lstore (lv' := [(5, .long (0 : Int64)), (0, .ref a0), (1, .int x1), (2, .int x2), (3, .int x3), (4, .int x4)]) hx hb dX0_ray_1 hl (by decide) rfl (fun ls hl => ?_)
  refine lv_iconst (v := 1) hx hb dX0_ray_3 (by decide) ?_
  refine lv_istore (lv' := [(7, .int (1 : Int32)), (5, .long (0 : Int64)), (0, .ref a0), (1, .int x1), (2, .int x2), (3, .int x3), (4, .int x4)]) hx hb dX0_ray_4 hl (by decide) rfl (fun ls hl => ?_)
  obtain ⟨n_1, hp⟩ := hp
  exact t_X0_ray_6 F hr hlocks hK n_1 hp hW hE (lv_sub hl [2, 3, 4, 5, 6, 1, 0] rfl) hL_a0 hK_a0
set_option maxHeartbeats 4000000 in
set_option maxRecDepth 100000 in
theorem c_X0_ray (l : Launch) {D : wD} {cy : Nat → ClassId} {X : va_W} {S0 : wS} {post : Int64 → wS → Prop} {a0 : Nat} {x1 : Int32} {x2 : Int32} {x3 : Int32} {x4 : Int32} (hL_a0 : wM D S0 a0) (hK_a0 : sK S0 a0 = 5) (hp : wp_X0_ray D post S0 a0 x1 x2 x3 x4) : mJ D cy X l yX0_ray wz_X0_ray r_X0_ray [.ref a0, .int x1, .int x2, .int x3, .int x4] S0 (fun r S9 => wX D S0 S9 ∧ post r S9) := by
  intro sz
  refine Met.ofW (cc := cX0_ray) (maxL := 8) (ret := (some .long)) (by decide) rfl ?_
  intro p e s m args below meth c s₁ B hml hv
  obtain ⟨rfl, hsz, hP, hK, hD0, hRO⟩ := hv
  have hts := atoms_spec (ws := wz_X0_ray) B.pre
  have hown : s.vm.findClass RX0 = some m.cls := findClass_of_methodNamed B.named
  subst hsz
  have hD := hD0.self (sz := s.heap.size)
  have F : CallFix p m c cX0_ray 8 s _ wz_X0_ray RX0 := ⟨B.exec, B.bytes, hml, hown, hts⟩
  have hr := B.returns
  have hlocks := B.notSynchronized
  generalize hAe : va_A (wL cy X S0) s.heap.size = A at hD hK ⊢
  have hA : ∀ q, s.heap.size ≤ q → A q := fun q h => by rw [← hAe]; exact Or.inr h
  have hW : wO D cy X A s.heap S0 s.heap [] := ⟨hP, hD, va_S.rf, hA, hRO⟩
  have hl := lv_entry ([.ref a0, .int x1, .int x2, .int x3, .int x4]) (n := 8) (Nat.le_of_ble_eq_true rfl)
  rw [lg_entry_eq]
  generalize (lg_sl ([.ref a0, .int x1, .int x2, .int x3, .int x4]) ++ List.replicate (8 - (lg_sl ([.ref a0, .int x1, .int x2, .int x3, .int x4])).length) Slot.unset).toArray = ls at hl ⊢
  have hl : lv_has ls 8 [(0, .ref a0), (1, .int x1), (2, .int x2), (3, .int x3), (4, .int x4)] := hl
  unfold wp_X0_ray at hp
  exact t_X0_ray_0 F hr hlocks hK hp hW wX.rf (lv_sub hl [0, 1, 2, 3, 4] rfl) hL_a0 hK_a0
def wp_X0_pawnAimsOf_31 (D : wD) (post : Int64 → wS → Prop)  (S : wS) (t0 : Int64) : Prop :=
post t0 S
def wp_X0_pawnAimsOf_10 (D : wD) (post : Int64 → wS → Prop)  (S : wS) : Prop :=
post (0 : Int64) S
def wp_X0_pawnAimsOf_0 (D : wD) (post : Int64 → wS → Prop)  (S : wS) (a0 : Nat) (x1 : Int32) (x2 : Int32) : Prop :=
((x1 < 0 → wp_X0_pawnAimsOf_10 D post S) ∧
 (¬ x1 < 0 → ((x1 < (64 : Int32) → ((x2 = 0 → ∃ y_4 : Nat, sR S a0 10 = some y_4 ∧ wM D S y_4 ∧ sK S y_4 = 22 ∧
vp_in x1 (sN S y_4) ∧
wp_X0_pawnAimsOf_31 D post S (sJ S y_4 (x1).toNatClampNeg)) ∧
 (¬ x2 = 0 → ∃ y_6 : Nat, sR S a0 9 = some y_6 ∧ wM D S y_6 ∧ sK S y_6 = 22 ∧
vp_in x1 (sN S y_6) ∧
wp_X0_pawnAimsOf_31 D post S (sJ S y_6 (x1).toNatClampNeg)))) ∧
 (¬ x1 < (64 : Int32) → wp_X0_pawnAimsOf_10 D post S))))
abbrev r_X0_pawnAimsOf : Room := { frames := 0, cells := 0, slots := 0, locals := 0 }
def wp_X0_pawnAimsOf (D : wD) (post : Int64 → wS → Prop) (S : wS) (a0 : Nat) (x1 : Int32) (x2 : Int32) : Prop := wp_X0_pawnAimsOf_0 D post S a0 x1 x2
set_option maxHeartbeats 4000000 in
set_option maxRecDepth 100000 in
theorem t_X0_pawnAimsOf_31 {p : Program} {l : Launch} {e : Env} {s : State} {m : MethodId} {args : Array Value} {below : List Frame} {meth : Method} {c : Code} {D : wD} {cy : Nat → ClassId} {X : va_W} {A : Nat → Prop} {S0 : wS} {post : Int64 → wS → Prop} (F : CallFix p m c cX0_pawnAimsOf 3 s args wz_X0_pawnAimsOf RX0) (hr : meth.sig.returnType = (some .long)) (hlocks : meth.locks = false) (hK : wK D cy A s) : ∀ {S : wS} {H : Heap} {locs : List Loc} {ls : Array Slot} {t0 : Int64}, wp_X0_pawnAimsOf_31 D post S t0 → wO D cy X A s.heap S H locs → wX D S0 S → lv_has ls 3 [] → W p l e r_X0_pawnAimsOf s m args below meth c H locs 0 0 (MQ below (va_Ql (fun r S9 => wX D S0 S9 ∧ post r S9) (wB D cy X A) A) args s 0 0 A) (F0 m 31 ls [.long t0]) := by
  obtain ⟨hx, hb, hml, hown, hts⟩ := id F
  have hwg : ∀ w ∈ WG, w.before args s = true := fun w h => hts w (List.mem_cons_of_mem _ h)
  intro S H locs ls t0 hp hW hE hl
  unfold wp_X0_pawnAimsOf_31 at hp
  exact w_lret hx hb hr hlocks hW ⟨hE, hp⟩ dX0_pawnAimsOf_31
set_option maxHeartbeats 4000000 in
set_option maxRecDepth 100000 in
theorem t_X0_pawnAimsOf_10 {p : Program} {l : Launch} {e : Env} {s : State} {m : MethodId} {args : Array Value} {below : List Frame} {meth : Method} {c : Code} {D : wD} {cy : Nat → ClassId} {X : va_W} {A : Nat → Prop} {S0 : wS} {post : Int64 → wS → Prop} (F : CallFix p m c cX0_pawnAimsOf 3 s args wz_X0_pawnAimsOf RX0) (hr : meth.sig.returnType = (some .long)) (hlocks : meth.locks = false) (hK : wK D cy A s) : ∀ {S : wS} {H : Heap} {locs : List Loc} {ls : Array Slot}, wp_X0_pawnAimsOf_10 D post S → wO D cy X A s.heap S H locs → wX D S0 S → lv_has ls 3 [] → W p l e r_X0_pawnAimsOf s m args below meth c H locs 0 0 (MQ below (va_Ql (fun r S9 => wX D S0 S9 ∧ post r S9) (wB D cy X A) A) args s 0 0 A) (F0 m 10 ls []) := by
  obtain ⟨hx, hb, hml, hown, hts⟩ := id F
  have hwg : ∀ w ∈ WG, w.before args s = true := fun w h => hts w (List.mem_cons_of_mem _ h)
  intro S H locs ls hp hW hE hl
  unfold wp_X0_pawnAimsOf_10 at hp
  refine lv_lconst (v := 0) hx hb dX0_pawnAimsOf_10 (by decide) ?_
  exact w_lret hx hb hr hlocks hW ⟨hE, hp⟩ dX0_pawnAimsOf_11
set_option maxHeartbeats 4000000 in
set_option maxRecDepth 100000 in
theorem t_X0_pawnAimsOf_0 {p : Program} {l : Launch} {e : Env} {s : State} {m : MethodId} {args : Array Value} {below : List Frame} {meth : Method} {c : Code} {D : wD} {cy : Nat → ClassId} {X : va_W} {A : Nat → Prop} {S0 : wS} {post : Int64 → wS → Prop} (F : CallFix p m c cX0_pawnAimsOf 3 s args wz_X0_pawnAimsOf RX0) (hr : meth.sig.returnType = (some .long)) (hlocks : meth.locks = false) (hK : wK D cy A s) : ∀ {S : wS} {H : Heap} {locs : List Loc} {ls : Array Slot} {a0 : Nat} {x1 : Int32} {x2 : Int32}, wp_X0_pawnAimsOf_0 D post S a0 x1 x2 → wO D cy X A s.heap S H locs → wX D S0 S → lv_has ls 3 [(0, .ref a0), (1, .int x1), (2, .int x2)] → wM D S a0 → sK S a0 = 5 → W p l e r_X0_pawnAimsOf s m args below meth c H locs 0 0 (MQ below (va_Ql (fun r S9 => wX D S0 S9 ∧ post r S9) (wB D cy X A) A) args s 0 0 A) (F0 m 0 ls []) := by
  obtain ⟨hx, hb, hml, hown, hts⟩ := id F
  have hwg : ∀ w ∈ WG, w.before args s = true := fun w h => hts w (List.mem_cons_of_mem _ h)
  have i_5 : ∀ w ∈ u_ws RX0 TX0 12, w ∈ wz_X0_pawnAimsOf := fun w h => List.mem_cons_of_mem _ (wu_5 w h)
  have k_42 := hwg _ wf_RX0_42
  have k_45 := hwg _ wf_RX0_45
  intro S H locs ls a0 x1 x2 hp hW hE hl hL_a0 hK_a0
  unfold wp_X0_pawnAimsOf_0 at hp
  refine lv_iload_n hx hb dX0_pawnAimsOf_0 rfl (lv_at hl 1 rfl) ?_
  refine lv_if_lt (tgt := 10) hx hb dX0_pawnAimsOf_1 (by decide) (fun c_1 => ?_) (fun c_1 => ?_)
  · replace hp := hp.1 c_1
    exact t_X0_pawnAimsOf_10 F hr hlocks hK hp hW hE (lv_sub hl [] rfl)
  · replace hp := hp.2 c_1
    refine lv_iload_n hx hb dX0_pawnAimsOf_4 rfl (lv_at hl 1 rfl) ?_
    refine lv_bipush (v := 64) hx hb dX0_pawnAimsOf_5 (by decide) ?_
    refine lv_icmp_lt (tgt := 12) hx hb dX0_pawnAimsOf_7 (by decide) (fun c_2 => ?_) (fun c_2 => ?_)
    · replace hp := hp.1 c_2
      refine lv_iload_n hx hb dX0_pawnAimsOf_12 rfl (lv_at hl 2 rfl) ?_
      refine lv_if_eq (tgt := 25) hx hb dX0_pawnAimsOf_13 (by decide) (fun c_3 => ?_) (fun c_3 => ?_)
      · replace hp := hp.1 c_3
        refine lv_aload_n hx hb dX0_pawnAimsOf_25 rfl (lv_at hl 0 rfl) ?_
        obtain ⟨y_4, ey_4, hL_y_4, hK_y_4, hp⟩ := hp
        refine w_get (k := 5) (f := 10) (T := TX0) (v := .ref y_4) F hK hW hL_a0 hK_a0 (by decide) rfl rfl (by decide) i_5 k_45 (by rw [show wv 5 10 S a0 = va_rf (sR S a0 10) from rfl, ey_4]; rfl) dX0_pawnAimsOf_26 ?_
        refine lv_iload_n hx hb dX0_pawnAimsOf_29 rfl (lv_at hl 1 rfl) ?_
        obtain ⟨h_5, hp⟩ := hp
        refine w_lld F hK hW hL_y_4 hK_y_4 h_5 dX0_pawnAimsOf_30 ?_
        exact t_X0_pawnAimsOf_31 F hr hlocks hK hp hW hE (lv_sub hl [] rfl)
      · replace hp := hp.2 c_3
        refine lv_aload_n hx hb dX0_pawnAimsOf_16 rfl (lv_at hl 0 rfl) ?_
        obtain ⟨y_6, ey_6, hL_y_6, hK_y_6, hp⟩ := hp
        refine w_get (k := 5) (f := 9) (T := TX0) (v := .ref y_6) F hK hW hL_a0 hK_a0 (by decide) rfl rfl (by decide) i_5 k_42 (by rw [show wv 5 9 S a0 = va_rf (sR S a0 9) from rfl, ey_6]; rfl) dX0_pawnAimsOf_17 ?_
        refine lv_iload_n hx hb dX0_pawnAimsOf_20 rfl (lv_at hl 1 rfl) ?_
        obtain ⟨h_7, hp⟩ := hp
        refine w_lld F hK hW hL_y_6 hK_y_6 h_7 dX0_pawnAimsOf_21 ?_
        refine lv_goto (tgt := 31) hx hb dX0_pawnAimsOf_22 (by decide) ?_
        exact t_X0_pawnAimsOf_31 F hr hlocks hK hp hW hE (lv_sub hl [] rfl)
    · replace hp := hp.2 c_2
      exact t_X0_pawnAimsOf_10 F hr hlocks hK hp hW hE (lv_sub hl [] rfl)
set_option maxHeartbeats 4000000 in
set_option maxRecDepth 100000 in
theorem c_X0_pawnAimsOf (l : Launch) {D : wD} {cy : Nat → ClassId} {X : va_W} {S0 : wS} {post : Int64 → wS → Prop} {a0 : Nat} {x1 : Int32} {x2 : Int32} (hL_a0 : wM D S0 a0) (hK_a0 : sK S0 a0 = 5) (hp : wp_X0_pawnAimsOf D post S0 a0 x1 x2) : mJ D cy X l yX0_pawnAimsOf wz_X0_pawnAimsOf r_X0_pawnAimsOf [.ref a0, .int x1, .int x2] S0 (fun r S9 => wX D S0 S9 ∧ post r S9) := by
  intro sz
  refine Met.ofW (cc := cX0_pawnAimsOf) (maxL := 3) (ret := (some .long)) (by decide) rfl ?_
  intro p e s m args below meth c s₁ B hml hv
  obtain ⟨rfl, hsz, hP, hK, hD0, hRO⟩ := hv
  have hts := atoms_spec (ws := wz_X0_pawnAimsOf) B.pre
  have hown : s.vm.findClass RX0 = some m.cls := findClass_of_methodNamed B.named
  subst hsz
  have hD := hD0.self (sz := s.heap.size)
  have F : CallFix p m c cX0_pawnAimsOf 3 s _ wz_X0_pawnAimsOf RX0 := ⟨B.exec, B.bytes, hml, hown, hts⟩
  have hr := B.returns
  have hlocks := B.notSynchronized
  generalize hAe : va_A (wL cy X S0) s.heap.size = A at hD hK ⊢
  have hA : ∀ q, s.heap.size ≤ q → A q := fun q h => by rw [← hAe]; exact Or.inr h
  have hW : wO D cy X A s.heap S0 s.heap [] := ⟨hP, hD, va_S.rf, hA, hRO⟩
  have hl := lv_entry ([.ref a0, .int x1, .int x2]) (n := 3) (Nat.le_of_ble_eq_true rfl)
  rw [lg_entry_eq]
  generalize (lg_sl ([.ref a0, .int x1, .int x2]) ++ List.replicate (3 - (lg_sl ([.ref a0, .int x1, .int x2])).length) Slot.unset).toArray = ls at hl ⊢
  have hl : lv_has ls 3 [(0, .ref a0), (1, .int x1), (2, .int x2)] := hl
  unfold wp_X0_pawnAimsOf at hp
  exact t_X0_pawnAimsOf_0 F hr hlocks hK hp hW wX.rf (lv_sub hl [0, 1, 2] rfl) hL_a0 hK_a0
def wp_X0_rankAt_20 (D : wD) (post : Int32 → wS → Prop)  (S : wS) (t0 : Int32) : Prop :=
post t0 S
def wp_X0_rankAt_19 (D : wD) (post : Int32 → wS → Prop)  (S : wS) : Prop :=
wp_X0_rankAt_20 D post S (-1 : Int32)
def wp_X0_rankAt_0 (D : wD) (post : Int32 → wS → Prop)  (S : wS) (a0 : Nat) (x1 : Int32) : Prop :=
((x1 < 0 → wp_X0_rankAt_19 D post S) ∧
 (¬ x1 < 0 → (((64 : Int32) ≤ x1 → wp_X0_rankAt_19 D post S) ∧
 (¬ (64 : Int32) ≤ x1 → ∃ y_3 : Nat, sR S a0 5 = some y_3 ∧ wM D S y_3 ∧ sK S y_3 = 21 ∧
vp_in x1 (sN S y_3) ∧
wp_X0_rankAt_20 D post S (sI S y_3 (x1).toNatClampNeg)))))
abbrev r_X0_rankAt : Room := { frames := 0, cells := 0, slots := 0, locals := 0 }
def wp_X0_rankAt (D : wD) (post : Int32 → wS → Prop) (S : wS) (a0 : Nat) (x1 : Int32) : Prop := wp_X0_rankAt_0 D post S a0 x1
set_option maxHeartbeats 4000000 in
set_option maxRecDepth 100000 in
theorem t_X0_rankAt_20 {p : Program} {l : Launch} {e : Env} {s : State} {m : MethodId} {args : Array Value} {below : List Frame} {meth : Method} {c : Code} {D : wD} {cy : Nat → ClassId} {X : va_W} {A : Nat → Prop} {S0 : wS} {post : Int32 → wS → Prop} (F : CallFix p m c cX0_rankAt 2 s args wz_X0_rankAt RX0) (hr : meth.sig.returnType = (some .int)) (hlocks : meth.locks = false) (hK : wK D cy A s) : ∀ {S : wS} {H : Heap} {locs : List Loc} {ls : Array Slot} {t0 : Int32}, wp_X0_rankAt_20 D post S t0 → wO D cy X A s.heap S H locs → wX D S0 S → lv_has ls 2 [] → W p l e r_X0_rankAt s m args below meth c H locs 0 0 (MQ below (va_Qi (fun r S9 => wX D S0 S9 ∧ post r S9) (wB D cy X A) A) args s 0 0 A) (F0 m 20 ls [.int t0]) := by
  obtain ⟨hx, hb, hml, hown, hts⟩ := id F
  have hwg : ∀ w ∈ WG, w.before args s = true := fun w h => hts w (List.mem_cons_of_mem _ h)
  intro S H locs ls t0 hp hW hE hl
  unfold wp_X0_rankAt_20 at hp
  exact w_iret hx hb hr hlocks hW ⟨hE, hp⟩ dX0_rankAt_20
set_option maxHeartbeats 4000000 in
set_option maxRecDepth 100000 in
theorem t_X0_rankAt_19 {p : Program} {l : Launch} {e : Env} {s : State} {m : MethodId} {args : Array Value} {below : List Frame} {meth : Method} {c : Code} {D : wD} {cy : Nat → ClassId} {X : va_W} {A : Nat → Prop} {S0 : wS} {post : Int32 → wS → Prop} (F : CallFix p m c cX0_rankAt 2 s args wz_X0_rankAt RX0) (hr : meth.sig.returnType = (some .int)) (hlocks : meth.locks = false) (hK : wK D cy A s) : ∀ {S : wS} {H : Heap} {locs : List Loc} {ls : Array Slot}, wp_X0_rankAt_19 D post S → wO D cy X A s.heap S H locs → wX D S0 S → lv_has ls 2 [] → W p l e r_X0_rankAt s m args below meth c H locs 0 0 (MQ below (va_Qi (fun r S9 => wX D S0 S9 ∧ post r S9) (wB D cy X A) A) args s 0 0 A) (F0 m 19 ls []) := by
  obtain ⟨hx, hb, hml, hown, hts⟩ := id F
  have hwg : ∀ w ∈ WG, w.before args s = true := fun w h => hts w (List.mem_cons_of_mem _ h)
  intro S H locs ls hp hW hE hl
  unfold wp_X0_rankAt_19 at hp
  refine lv_iconst (v := (-1)) hx hb dX0_rankAt_19 (by decide) ?_
  exact t_X0_rankAt_20 F hr hlocks hK hp hW hE (lv_sub hl [] rfl)
set_option maxHeartbeats 4000000 in
set_option maxRecDepth 100000 in
theorem t_X0_rankAt_0 {p : Program} {l : Launch} {e : Env} {s : State} {m : MethodId} {args : Array Value} {below : List Frame} {meth : Method} {c : Code} {D : wD} {cy : Nat → ClassId} {X : va_W} {A : Nat → Prop} {S0 : wS} {post : Int32 → wS → Prop} (F : CallFix p m c cX0_rankAt 2 s args wz_X0_rankAt RX0) (hr : meth.sig.returnType = (some .int)) (hlocks : meth.locks = false) (hK : wK D cy A s) : ∀ {S : wS} {H : Heap} {locs : List Loc} {ls : Array Slot} {a0 : Nat} {x1 : Int32}, wp_X0_rankAt_0 D post S a0 x1 → wO D cy X A s.heap S H locs → wX D S0 S → lv_has ls 2 [(0, .ref a0), (1, .int x1)] → wM D S a0 → sK S a0 = 5 → W p l e r_X0_rankAt s m args below meth c H locs 0 0 (MQ below (va_Qi (fun r S9 => wX D S0 S9 ∧ post r S9) (wB D cy X A) A) args s 0 0 A) (F0 m 0 ls []) := by
  obtain ⟨hx, hb, hml, hown, hts⟩ := id F
  have hwg : ∀ w ∈ WG, w.before args s = true := fun w h => hts w (List.mem_cons_of_mem _ h)
  have i_5 : ∀ w ∈ u_ws RX0 TX0 12, w ∈ wz_X0_rankAt := fun w h => List.mem_cons_of_mem _ (wu_5 w h)
  have k_29 := hwg _ wf_RX0_29
  intro S H locs ls a0 x1 hp hW hE hl hL_a0 hK_a0
  unfold wp_X0_rankAt_0 at hp
  refine lv_iload_n hx hb dX0_rankAt_0 rfl (lv_at hl 1 rfl) ?_
  refine lv_if_lt (tgt := 19) hx hb dX0_rankAt_1 (by decide) (fun c_1 => ?_) (fun c_1 => ?_)
  · replace hp := hp.1 c_1
    exact t_X0_rankAt_19 F hr hlocks hK hp hW hE (lv_sub hl [] rfl)
  · replace hp := hp.2 c_1
    refine lv_iload_n hx hb dX0_rankAt_4 rfl (lv_at hl 1 rfl) ?_
    refine lv_bipush (v := 64) hx hb dX0_rankAt_5 (by decide) ?_
    refine lv_icmp_ge (tgt := 19) hx hb dX0_rankAt_7 (by decide) (fun c_2 => ?_) (fun c_2 => ?_)
    · replace hp := hp.1 c_2
      exact t_X0_rankAt_19 F hr hlocks hK hp hW hE (lv_sub hl [] rfl)
    · replace hp := hp.2 c_2
      refine lv_aload_n hx hb dX0_rankAt_10 rfl (lv_at hl 0 rfl) ?_
      obtain ⟨y_3, ey_3, hL_y_3, hK_y_3, hp⟩ := hp
      refine w_get (k := 5) (f := 5) (T := TX0) (v := .ref y_3) F hK hW hL_a0 hK_a0 (by decide) rfl rfl (by decide) i_5 k_29 (by rw [show wv 5 5 S a0 = va_rf (sR S a0 5) from rfl, ey_3]; rfl) dX0_rankAt_11 ?_
      refine lv_iload_n hx hb dX0_rankAt_14 rfl (lv_at hl 1 rfl) ?_
      obtain ⟨h_4, hp⟩ := hp
      refine w_ild F hK hW hL_y_3 hK_y_3 h_4 dX0_rankAt_15 ?_
      refine lv_goto (tgt := 20) hx hb dX0_rankAt_16 (by decide) ?_
      exact t_X0_rankAt_20 F hr hlocks hK hp hW hE (lv_sub hl [] rfl)
set_option maxHeartbeats 4000000 in
set_option maxRecDepth 100000 in
theorem c_X0_rankAt (l : Launch) {D : wD} {cy : Nat → ClassId} {X : va_W} {S0 : wS} {post : Int32 → wS → Prop} {a0 : Nat} {x1 : Int32} (hL_a0 : wM D S0 a0) (hK_a0 : sK S0 a0 = 5) (hp : wp_X0_rankAt D post S0 a0 x1) : mI D cy X l yX0_rankAt wz_X0_rankAt r_X0_rankAt [.ref a0, .int x1] S0 (fun r S9 => wX D S0 S9 ∧ post r S9) := by
  intro sz
  refine Met.ofW (cc := cX0_rankAt) (maxL := 2) (ret := (some .int)) (by decide) rfl ?_
  intro p e s m args below meth c s₁ B hml hv
  obtain ⟨rfl, hsz, hP, hK, hD0, hRO⟩ := hv
  have hts := atoms_spec (ws := wz_X0_rankAt) B.pre
  have hown : s.vm.findClass RX0 = some m.cls := findClass_of_methodNamed B.named
  subst hsz
  have hD := hD0.self (sz := s.heap.size)
  have F : CallFix p m c cX0_rankAt 2 s _ wz_X0_rankAt RX0 := ⟨B.exec, B.bytes, hml, hown, hts⟩
  have hr := B.returns
  have hlocks := B.notSynchronized
  generalize hAe : va_A (wL cy X S0) s.heap.size = A at hD hK ⊢
  have hA : ∀ q, s.heap.size ≤ q → A q := fun q h => by rw [← hAe]; exact Or.inr h
  have hW : wO D cy X A s.heap S0 s.heap [] := ⟨hP, hD, va_S.rf, hA, hRO⟩
  have hl := lv_entry ([.ref a0, .int x1]) (n := 2) (Nat.le_of_ble_eq_true rfl)
  rw [lg_entry_eq]
  generalize (lg_sl ([.ref a0, .int x1]) ++ List.replicate (2 - (lg_sl ([.ref a0, .int x1])).length) Slot.unset).toArray = ls at hl ⊢
  have hl : lv_has ls 2 [(0, .ref a0), (1, .int x1)] := hl
  unfold wp_X0_rankAt at hp
  exact t_X0_rankAt_0 F hr hlocks hK hp hW wX.rf (lv_sub hl [0, 1] rfl) hL_a0 hK_a0
def wp_X0_slides_149 (D : wD) (post : Int64 → wS → Prop) (k_29 : wS → Nat → Int32 → Int64 → Int64 → Int32 → Int32 → Prop) (S : wS) (a0 : Nat) (x1 : Int32) (x3 : Int64) (x5 : Int64) (x7 : Int32) (x8 : Int32) (x9 : Int64) : Prop :=
∀ x_1 : Int64, x_1 = (x5 ||| x9) →
∀ x_2 : Int32, x_2 = x8 + 1 →
k_29 S a0 x1 x3 x_1 x7 x_2
def wp_X0_slides_29 (D : wD) (post : Int64 → wS → Prop)  : Nat → wS → Nat → Int32 → Int64 → Int64 → Int32 → Int32 → Prop
  | 0, _, _, _, _, _, _, _ => False
  | n + 1, S, a0, x1, x3, x5, x7, x8 =>
    (((4 : Int32) ≤ x8 → post x5 S) ∧
     (¬ (4 : Int32) ≤ x8 → ∃ y_2 : Nat, sR S a0 6 = some y_2 ∧ wM D S y_2 ∧ sK S y_2 = 22 ∧
    vp_in (((x1 * (8 : Int32)) + x7) + x8) (sN S y_2) ∧
    ∀ x_4 : Int64, x_4 = (sJ S y_2 ((((x1 * (8 : Int32)) + x7) + x8)).toNatClampNeg) →
    ∀ x_5 : Int64, x_5 = (x_4 &&& x3) →
    (((2 : Int32) ≤ x8 → ∀ x_7 : Int64, x_7 = (x_5 ||| (jlushr x_5 (1 : Int32))) →
    ∀ x_8 : Int64, x_8 = (x_7 ||| (jlushr x_7 (2 : Int32))) →
    ∀ x_9 : Int64, x_9 = (x_8 ||| (jlushr x_8 (4 : Int32))) →
    ∀ x_10 : Int64, x_10 = (x_9 ||| (jlushr x_9 (8 : Int32))) →
    ∀ x_11 : Int64, x_11 = (x_10 ||| (jlushr x_10 (16 : Int32))) →
    ∀ x_12 : Int64, x_12 = (x_11 ||| (jlushr x_11 (32 : Int32))) →
    ∀ x_13 : Int64, x_13 = (x_4 &&& ((jlushr x_12 (1 : Int32)) ^^^ (-1 : Int64))) →
    wp_X0_slides_149 D post (wp_X0_slides_29 D post n) S a0 x1 x3 x5 x7 x8 x_13) ∧
     (¬ (2 : Int32) ≤ x8 → ∀ x_14 : Int64, x_14 = (x_4 &&& (x_5 ^^^ (x_5 - (1 : Int64)))) →
    wp_X0_slides_149 D post (wp_X0_slides_29 D post n) S a0 x1 x3 x5 x7 x8 x_14))))
def wp_X0_slides_24 (D : wD) (post : Int64 → wS → Prop)  (S : wS) (a0 : Nat) (x1 : Int32) (x3 : Int64) (x5 : Int64) (t0 : Int32) : Prop :=
∃ n_1 : Nat, wp_X0_slides_29 D post n_1 S a0 x1 x3 x5 t0 (0 : Int32)
def wp_X0_slides_10 (D : wD) (post : Int64 → wS → Prop)  (S : wS) : Prop :=
post (0 : Int64) S
def wp_X0_slides_0 (D : wD) (post : Int64 → wS → Prop)  (S : wS) (a0 : Nat) (x1 : Int32) (x2 : Int32) (x3 : Int64) : Prop :=
((x1 < 0 → wp_X0_slides_10 D post S) ∧
 (¬ x1 < 0 → ((x1 < (64 : Int32) → ((x2 = 0 → wp_X0_slides_24 D post S a0 x1 x3 (0 : Int64) (4 : Int32)) ∧
 (¬ x2 = 0 → wp_X0_slides_24 D post S a0 x1 x3 (0 : Int64) (0 : Int32)))) ∧
 (¬ x1 < (64 : Int32) → wp_X0_slides_10 D post S))))
abbrev r_X0_slides : Room := { frames := 0, cells := 0, slots := 0, locals := 0 }
def wp_X0_slides (D : wD) (post : Int64 → wS → Prop) (S : wS) (a0 : Nat) (x1 : Int32) (x2 : Int32) (x3 : Int64) : Prop := wp_X0_slides_0 D post S a0 x1 x2 x3
set_option maxHeartbeats 4000000 in
set_option maxRecDepth 100000 in
theorem t_X0_slides_149 {p : Program} {l : Launch} {e : Env} {s : State} {m : MethodId} {args : Array Value} {below : List Frame} {meth : Method} {c : Code} {D : wD} {cy : Nat → ClassId} {X : va_W} {A : Nat → Prop} {S0 : wS} {post : Int64 → wS → Prop} (F : CallFix p m c cX0_slides 13 s args wz_X0_slides RX0) (hr : meth.sig.returnType = (some .long)) (hlocks : meth.locks = false) (hK : wK D cy A s) {k_29 : wS → Nat → Int32 → Int64 → Int64 → Int32 → Int32 → Prop} (q_29 : ∀ {S : wS} {H : Heap} {locs : List Loc} {ls : Array Slot} {a0 : Nat} {x1 : Int32} {x3 : Int64} {x5 : Int64} {x7 : Int32} {x8 : Int32}, k_29 S a0 x1 x3 x5 x7 x8 → wO D cy X A s.heap S H locs → wX D S0 S → lv_has ls 13 [(0, .ref a0), (1, .int x1), (3, .long x3), (5, .long x5), (7, .int x7), (8, .int x8)] → wM D S a0 → sK S a0 = 5 → W p l e r_X0_slides s m args below meth c H locs 0 0 (MQ below (va_Ql (fun r S9 => wX D S0 S9 ∧ post r S9) (wB D cy X A) A) args s 0 0 A) (F0 m 29 ls [])) : ∀ {S : wS} {H : Heap} {locs : List Loc} {ls : Array Slot} {a0 : Nat} {x1 : Int32} {x3 : Int64} {x5 : Int64} {x7 : Int32} {x8 : Int32} {x9 : Int64}, wp_X0_slides_149 D post k_29 S a0 x1 x3 x5 x7 x8 x9 → wO D cy X A s.heap S H locs → wX D S0 S → lv_has ls 13 [(0, .ref a0), (1, .int x1), (3, .long x3), (5, .long x5), (7, .int x7), (8, .int x8), (9, .long x9)] → wM D S a0 → sK S a0 = 5 → W p l e r_X0_slides s m args below meth c H locs 0 0 (MQ below (va_Ql (fun r S9 => wX D S0 S9 ∧ post r S9) (wB D cy X A) A) args s 0 0 A) (F0 m 149 ls []) := by
  obtain ⟨hx, hb, hml, hown, hts⟩ := id F
  have hwg : ∀ w ∈ WG, w.before args s = true := fun w h => hts w (List.mem_cons_of_mem _ h)
  intro S H locs ls a0 x1 x3 x5 x7 x8 x9 hp hW hE hl hL_a0 hK_a0
  unfold wp_X0_slides_149 at hp
  refine lv_lload hx hb dX0_slides_149 (lv_at hl 3 rfl) ?_
  refine lv_lload hx hb dX0_slides_151 (lv_at hl 6 rfl) ?_
  refine lv_lor hx hb dX0_slides_153 ?_
  refine lv_topl (fun x_1 ex_1 => ?_)
  replace hp := hp x_1 ex_1
  refine lv_lstore (lv' := [(5, .long x_1), (0, .ref a0), (1, .int x1), (3, .long x3), (7, .int x7), (8, .int x8), (9, .long x9)]) hx hb dX0_slides_154 hl (by decide) rfl (fun ls hl => ?_)
  obtain ⟨x_2, ex_2⟩ : ∃ z : Int32, z = x8 + 1 := ⟨_, rfl⟩
  replace hp := hp x_2 ex_2
  refine lv_iinc (v := x_2) (lv' := [(8, .int x_2), (5, .long x_1), (0, .ref a0), (1, .int x1), (3, .long x3), (7, .int x7), (9, .long x9)]) hx hb dX0_slides_156 hl (k := 5) rfl (by rw [ex_2]; rfl) (by decide) rfl (fun ls hl => ?_)
  refine lv_goto (tgt := 29) hx hb dX0_slides_159 (by decide) ?_
  exact q_29 hp hW hE (lv_sub hl [2, 3, 4, 1, 5, 0] rfl) hL_a0 hK_a0
set_option maxHeartbeats 4000000 in
set_option maxRecDepth 100000 in
theorem t_X0_slides_29 {p : Program} {l : Launch} {e : Env} {s : State} {m : MethodId} {args : Array Value} {below : List Frame} {meth : Method} {c : Code} {D : wD} {cy : Nat → ClassId} {X : va_W} {A : Nat → Prop} {S0 : wS} {post : Int64 → wS → Prop} (F : CallFix p m c cX0_slides 13 s args wz_X0_slides RX0) (hr : meth.sig.returnType = (some .long)) (hlocks : meth.locks = false) (hK : wK D cy A s) : ∀ (n : Nat) {S : wS} {H : Heap} {locs : List Loc} {ls : Array Slot} {a0 : Nat} {x1 : Int32} {x3 : Int64} {x5 : Int64} {x7 : Int32} {x8 : Int32}, wp_X0_slides_29 D post n S a0 x1 x3 x5 x7 x8 → wO D cy X A s.heap S H locs → wX D S0 S → lv_has ls 13 [(0, .ref a0), (1, .int x1), (3, .long x3), (5, .long x5), (7, .int x7), (8, .int x8)] → wM D S a0 → sK S a0 = 5 → W p l e r_X0_slides s m args below meth c H locs 0 0 (MQ below (va_Ql (fun r S9 => wX D S0 S9 ∧ post r S9) (wB D cy X A) A) args s 0 0 A) (F0 m 29 ls []) := by
  obtain ⟨hx, hb, hml, hown, hts⟩ := id F
  have hwg : ∀ w ∈ WG, w.before args s = true := fun w h => hts w (List.mem_cons_of_mem _ h)
  have i_5 : ∀ w ∈ u_ws RX0 TX0 12, w ∈ wz_X0_slides := fun w h => List.mem_cons_of_mem _ (wu_5 w h)
  have k_32 := hwg _ wf_RX0_32
  intro n
  induction n with
  | zero =>
    intro S H locs ls a0 x1 x3 x5 x7 x8 hp
    exact hp.elim
  | succ n ih =>
    intro S H locs ls a0 x1 x3 x5 x7 x8 hp hW hE hl hL_a0 hK_a0
    unfold wp_X0_slides_29 at hp
    refine lv_iload hx hb dX0_slides_29 (lv_at hl 5 rfl) ?_
    refine lv_iconst (v := 4) hx hb dX0_slides_31 (by decide) ?_
    refine lv_icmp_ge (tgt := 162) hx hb dX0_slides_32 (by decide) (fun c_1 => ?_) (fun c_1 => ?_)
    · replace hp := hp.1 c_1
      refine lv_lload hx hb dX0_slides_162 (lv_at hl 3 rfl) ?_
      exact w_lret hx hb hr hlocks hW ⟨hE, hp⟩ dX0_slides_164
    · replace hp := hp.2 c_1
      refine lv_aload_n hx hb dX0_slides_35 rfl (lv_at hl 0 rfl) ?_
      obtain ⟨y_2, ey_2, hL_y_2, hK_y_2, hp⟩ := hp
      refine w_get (k := 5) (f := 6) (T := TX0) (v := .ref y_2) F hK hW hL_a0 hK_a0 (by decide) rfl rfl (by decide) i_5 k_32 (by rw [show wv 5 6 S a0 = va_rf (sR S a0 6) from rfl, ey_2]; rfl) dX0_slides_36 ?_
      refine lv_iload_n hx hb dX0_slides_39 rfl (lv_at hl 1 rfl) ?_
      refine lv_bipush (v := 8) hx hb dX0_slides_40 (by decide) ?_
      refine lv_imul hx hb dX0_slides_42 ?_
      refine lv_iload hx hb dX0_slides_43 (lv_at hl 4 rfl) ?_
      refine lv_iadd hx hb dX0_slides_45 ?_
      refine lv_iload hx hb dX0_slides_46 (lv_at hl 5 rfl) ?_
      refine lv_iadd hx hb dX0_slides_48 ?_
      obtain ⟨h_3, hp⟩ := hp
      refine w_lld F hK hW hL_y_2 hK_y_2 h_3 dX0_slides_49 ?_
      refine lv_topl (fun x_4 ex_4 => ?_)
      replace hp := hp x_4 ex_4
      refine lv_lstore (lv' := [(9, .long x_4), (0, .ref a0), (1, .int x1), (3, .long x3), (5, .long x5), (7, .int x7), (8, .int x8)]) hx hb dX0_slides_50 hl (by decide) rfl (fun ls hl => ?_)
      refine lv_lload hx hb dX0_slides_52 (lv_at hl 0 rfl) ?_
      refine lv_lload_n hx hb dX0_slides_54 rfl (lv_at hl 3 rfl) ?_
      refine lv_land hx hb dX0_slides_55 ?_
      refine lv_topl (fun x_5 ex_5 => ?_)
      replace hp := hp x_5 ex_5
      refine lv_lstore (lv' := [(11, .long x_5), (9, .long x_4), (0, .ref a0), (1, .int x1), (3, .long x3), (5, .long x5), (7, .int x7), (8, .int x8)]) hx hb dX0_slides_56 hl (by decide) rfl (fun ls hl => ?_)
      refine lv_iload hx hb dX0_slides_58 (lv_at hl 7 rfl) ?_
      refine lv_iconst (v := 2) hx hb dX0_slides_60 (by decide) ?_
      refine lv_icmp_ge (tgt := 79) hx hb dX0_slides_61 (by decide) (fun c_6 => ?_) (fun c_6 => ?_)
      · replace hp := hp.1 c_6
        refine lv_lload hx hb dX0_slides_79 (lv_at hl 0 rfl) ?_
        refine lv_lload hx hb dX0_slides_81 (lv_at hl 0 rfl) ?_
        refine lv_iconst (v := 1) hx hb dX0_slides_83 (by decide) ?_
        refine lv_lushr (v := (jlushr x_5 (1 : Int32))) hx hb dX0_slides_84 rfl ?_
        refine lv_lor hx hb dX0_slides_85 ?_
        refine lv_topl (fun x_7 ex_7 => ?_)
        replace hp := hp x_7 ex_7
        refine lv_lstore (lv' := [(11, .long x_7), (9, .long x_4), (0, .ref a0), (1, .int x1), (3, .long x3), (5, .long x5), (7, .int x7), (8, .int x8)]) hx hb dX0_slides_86 hl (by decide) rfl (fun ls hl => ?_)
        refine lv_lload hx hb dX0_slides_88 (lv_at hl 0 rfl) ?_
        refine lv_lload hx hb dX0_slides_90 (lv_at hl 0 rfl) ?_
        refine lv_iconst (v := 2) hx hb dX0_slides_92 (by decide) ?_
        refine lv_lushr (v := (jlushr x_7 (2 : Int32))) hx hb dX0_slides_93 rfl ?_
        refine lv_lor hx hb dX0_slides_94 ?_
        refine lv_topl (fun x_8 ex_8 => ?_)
        replace hp := hp x_8 ex_8
        refine lv_lstore (lv' := [(11, .long x_8), (9, .long x_4), (0, .ref a0), (1, .int x1), (3, .long x3), (5, .long x5), (7, .int x7), (8, .int x8)]) hx hb dX0_slides_95 hl (by decide) rfl (fun ls hl => ?_)
        refine lv_lload hx hb dX0_slides_97 (lv_at hl 0 rfl) ?_
        refine lv_lload hx hb dX0_slides_99 (lv_at hl 0 rfl) ?_
        refine lv_iconst (v := 4) hx hb dX0_slides_101 (by decide) ?_
        refine lv_lushr (v := (jlushr x_8 (4 : Int32))) hx hb dX0_slides_102 rfl ?_
        refine lv_lor hx hb dX0_slides_103 ?_
        refine lv_topl (fun x_9 ex_9 => ?_)
        replace hp := hp x_9 ex_9
        refine lv_lstore (lv' := [(11, .long x_9), (9, .long x_4), (0, .ref a0), (1, .int x1), (3, .long x3), (5, .long x5), (7, .int x7), (8, .int x8)]) hx hb dX0_slides_104 hl (by decide) rfl (fun ls hl => ?_)
        refine lv_lload hx hb dX0_slides_106 (lv_at hl 0 rfl) ?_
        refine lv_lload hx hb dX0_slides_108 (lv_at hl 0 rfl) ?_
        refine lv_bipush (v := 8) hx hb dX0_slides_110 (by decide) ?_
        refine lv_lushr (v := (jlushr x_9 (8 : Int32))) hx hb dX0_slides_112 rfl ?_
        refine lv_lor hx hb dX0_slides_113 ?_
        refine lv_topl (fun x_10 ex_10 => ?_)
        replace hp := hp x_10 ex_10
        refine lv_lstore (lv' := [(11, .long x_10), (9, .long x_4), (0, .ref a0), (1, .int x1), (3, .long x3), (5, .long x5), (7, .int x7), (8, .int x8)]) hx hb dX0_slides_114 hl (by decide) rfl (fun ls hl => ?_)
        refine lv_lload hx hb dX0_slides_116 (lv_at hl 0 rfl) ?_
        refine lv_lload hx hb dX0_slides_118 (lv_at hl 0 rfl) ?_
        refine lv_bipush (v := 16) hx hb dX0_slides_120 (by decide) ?_
        refine lv_lushr (v := (jlushr x_10 (16 : Int32))) hx hb dX0_slides_122 rfl ?_
        refine lv_lor hx hb dX0_slides_123 ?_
        refine lv_topl (fun x_11 ex_11 => ?_)
        replace hp := hp x_11 ex_11
        refine lv_lstore (lv' := [(11, .long x_11), (9, .long x_4), (0, .ref a0), (1, .int x1), (3, .long x3), (5, .long x5), (7, .int x7), (8, .int x8)]) hx hb dX0_slides_124 hl (by decide) rfl (fun ls hl => ?_)
        refine lv_lload hx hb dX0_slides_126 (lv_at hl 0 rfl) ?_
        refine lv_lload hx hb dX0_slides_128 (lv_at hl 0 rfl) ?_
        refine lv_bipush (v := 32) hx hb dX0_slides_130 (by decide) ?_
        refine lv_lushr (v := (jlushr x_11 (32 : Int32))) hx hb dX0_slides_132 rfl ?_
        refine lv_lor hx hb dX0_slides_133 ?_
        refine lv_topl (fun x_12 ex_12 => ?_)
        replace hp := hp x_12 ex_12
        refine lv_lstore (lv' := [(11, .long x_12), (9, .long x_4), (0, .ref a0), (1, .int x1), (3, .long x3), (5, .long x5), (7, .int x7), (8, .int x8)]) hx hb dX0_slides_134 hl (by decide) rfl (fun ls hl => ?_)
        refine lv_lload hx hb dX0_slides_136 (lv_at hl 1 rfl) ?_
        refine lv_lload hx hb dX0_slides_138 (lv_at hl 0 rfl) ?_
        refine lv_iconst (v := 1) hx hb dX0_slides_140 (by decide) ?_
        refine lv_lushr (v := (jlushr x_12 (1 : Int32))) hx hb dX0_slides_141 rfl ?_
        refine lv_ldc2 (v := (-1)) hx hb hown (hwg _ wJ_RX0_89) dX0_slides_142 ?_
        refine lv_lxor hx hb dX0_slides_145 ?_
        refine lv_land hx hb dX0_slides_146 ?_
        refine lv_topl (fun x_13 ex_13 => ?_)
        replace hp := hp x_13 ex_13
        refine lv_lstore (lv' := [(9, .long x_13), (11, .long x_12), (0, .ref a0), (1, .int x1), (3, .long x3), (5, .long x5), (7, .int x7), (8, .int x8)]) hx hb dX0_slides_147 hl (by decide) rfl (fun ls hl => ?_)
        exact t_X0_slides_149 F hr hlocks hK ih hp hW hE (lv_sub hl [2, 3, 4, 5, 6, 7, 0] rfl) hL_a0 hK_a0
      · replace hp := hp.2 c_6
        refine lv_lload hx hb dX0_slides_64 (lv_at hl 1 rfl) ?_
        refine lv_lload hx hb dX0_slides_66 (lv_at hl 0 rfl) ?_
        refine lv_lload hx hb dX0_slides_68 (lv_at hl 0 rfl) ?_
        refine lv_lconst (v := 1) hx hb dX0_slides_70 (by decide) ?_
        refine lv_lsub hx hb dX0_slides_71 ?_
        refine lv_lxor hx hb dX0_slides_72 ?_
        refine lv_land hx hb dX0_slides_73 ?_
        refine lv_topl (fun x_14 ex_14 => ?_)
        replace hp := hp x_14 ex_14
        refine lv_lstore (lv' := [(9, .long x_14), (11, .long x_5), (0, .ref a0), (1, .int x1), (3, .long x3), (5, .long x5), (7, .int x7), (8, .int x8)]) hx hb dX0_slides_74 hl (by decide) rfl (fun ls hl => ?_)
        refine lv_goto (tgt := 149) hx hb dX0_slides_76 (by decide) ?_
        exact t_X0_slides_149 F hr hlocks hK ih hp hW hE (lv_sub hl [2, 3, 4, 5, 6, 7, 0] rfl) hL_a0 hK_a0
set_option maxHeartbeats 4000000 in
set_option maxRecDepth 100000 in
theorem t_X0_slides_24 {p : Program} {l : Launch} {e : Env} {s : State} {m : MethodId} {args : Array Value} {below : List Frame} {meth : Method} {c : Code} {D : wD} {cy : Nat → ClassId} {X : va_W} {A : Nat → Prop} {S0 : wS} {post : Int64 → wS → Prop} (F : CallFix p m c cX0_slides 13 s args wz_X0_slides RX0) (hr : meth.sig.returnType = (some .long)) (hlocks : meth.locks = false) (hK : wK D cy A s) : ∀ {S : wS} {H : Heap} {locs : List Loc} {ls : Array Slot} {a0 : Nat} {x1 : Int32} {x3 : Int64} {x5 : Int64} {t0 : Int32}, wp_X0_slides_24 D post S a0 x1 x3 x5 t0 → wO D cy X A s.heap S H locs → wX D S0 S → lv_has ls 13 [(0, .ref a0), (1, .int x1), (3, .long x3), (5, .long x5)] → wM D S a0 → sK S a0 = 5 → W p l e r_X0_slides s m args below meth c H locs 0 0 (MQ below (va_Ql (fun r S9 => wX D S0 S9 ∧ post r S9) (wB D cy X A) A) args s 0 0 A) (F0 m 24 ls [.int t0]) := by
  obtain ⟨hx, hb, hml, hown, hts⟩ := id F
  have hwg : ∀ w ∈ WG, w.before args s = true := fun w h => hts w (List.mem_cons_of_mem _ h)
  intro S H locs ls a0 x1 x3 x5 t0 hp hW hE hl hL_a0 hK_a0
  unfold wp_X0_slides_24 at hp
  refine lv_istore (lv' := [(7, .int t0), (0, .ref a0), (1, .int x1), (3, .long x3), (5, .long x5)]) hx hb dX0_slides_24 hl (by decide) rfl (fun ls hl => ?_)
  refine lv_iconst (v := 0) hx hb dX0_slides_26 (by decide) ?_
  refine lv_istore (lv' := [(8, .int (0 : Int32)), (7, .int t0), (0, .ref a0), (1, .int x1), (3, .long x3), (5, .long x5)]) hx hb dX0_slides_27 hl (by decide) rfl (fun ls hl => ?_)
  obtain ⟨n_1, hp⟩ := hp
  exact t_X0_slides_29 F hr hlocks hK n_1 hp hW hE (lv_sub hl [2, 3, 4, 5, 1, 0] rfl) hL_a0 hK_a0
set_option maxHeartbeats 4000000 in
set_option maxRecDepth 100000 in
theorem t_X0_slides_10 {p : Program} {l : Launch} {e : Env} {s : State} {m : MethodId} {args : Array Value} {below : List Frame} {meth : Method} {c : Code} {D : wD} {cy : Nat → ClassId} {X : va_W} {A : Nat → Prop} {S0 : wS} {post : Int64 → wS → Prop} (F : CallFix p m c cX0_slides 13 s args wz_X0_slides RX0) (hr : meth.sig.returnType = (some .long)) (hlocks : meth.locks = false) (hK : wK D cy A s) : ∀ {S : wS} {H : Heap} {locs : List Loc} {ls : Array Slot}, wp_X0_slides_10 D post S → wO D cy X A s.heap S H locs → wX D S0 S → lv_has ls 13 [] → W p l e r_X0_slides s m args below meth c H locs 0 0 (MQ below (va_Ql (fun r S9 => wX D S0 S9 ∧ post r S9) (wB D cy X A) A) args s 0 0 A) (F0 m 10 ls []) := by
  obtain ⟨hx, hb, hml, hown, hts⟩ := id F
  have hwg : ∀ w ∈ WG, w.before args s = true := fun w h => hts w (List.mem_cons_of_mem _ h)
  intro S H locs ls hp hW hE hl
  unfold wp_X0_slides_10 at hp
  refine lv_lconst (v := 0) hx hb dX0_slides_10 (by decide) ?_
  exact w_lret hx hb hr hlocks hW ⟨hE, hp⟩ dX0_slides_11
set_option maxHeartbeats 4000000 in
set_option maxRecDepth 100000 in
theorem t_X0_slides_0 {p : Program} {l : Launch} {e : Env} {s : State} {m : MethodId} {args : Array Value} {below : List Frame} {meth : Method} {c : Code} {D : wD} {cy : Nat → ClassId} {X : va_W} {A : Nat → Prop} {S0 : wS} {post : Int64 → wS → Prop} (F : CallFix p m c cX0_slides 13 s args wz_X0_slides RX0) (hr : meth.sig.returnType = (some .long)) (hlocks : meth.locks = false) (hK : wK D cy A s) : ∀ {S : wS} {H : Heap} {locs : List Loc} {ls : Array Slot} {a0 : Nat} {x1 : Int32} {x2 : Int32} {x3 : Int64}, wp_X0_slides_0 D post S a0 x1 x2 x3 → wO D cy X A s.heap S H locs → wX D S0 S → lv_has ls 13 [(0, .ref a0), (1, .int x1), (2, .int x2), (3, .long x3)] → wM D S a0 → sK S a0 = 5 → W p l e r_X0_slides s m args below meth c H locs 0 0 (MQ below (va_Ql (fun r S9 => wX D S0 S9 ∧ post r S9) (wB D cy X A) A) args s 0 0 A) (F0 m 0 ls []) := by
  obtain ⟨hx, hb, hml, hown, hts⟩ := id F
  have hwg : ∀ w ∈ WG, w.before args s = true := fun w h => hts w (List.mem_cons_of_mem _ h)
  intro S H locs ls a0 x1 x2 x3 hp hW hE hl hL_a0 hK_a0
  unfold wp_X0_slides_0 at hp
  refine lv_iload_n hx hb dX0_slides_0 rfl (lv_at hl 1 rfl) ?_
  refine lv_if_lt (tgt := 10) hx hb dX0_slides_1 (by decide) (fun c_1 => ?_) (fun c_1 => ?_)
  · replace hp := hp.1 c_1
    exact t_X0_slides_10 F hr hlocks hK hp hW hE (lv_sub hl [] rfl)
  · replace hp := hp.2 c_1
    refine lv_iload_n hx hb dX0_slides_4 rfl (lv_at hl 1 rfl) ?_
    refine lv_bipush (v := 64) hx hb dX0_slides_5 (by decide) ?_
    refine lv_icmp_lt (tgt := 12) hx hb dX0_slides_7 (by decide) (fun c_2 => ?_) (fun c_2 => ?_)
    · replace hp := hp.1 c_2
      refine lv_lconst (v := 0) hx hb dX0_slides_12 (by decide) ?_
      refine lv_lstore (lv' := [(5, .long (0 : Int64)), (0, .ref a0), (1, .int x1), (2, .int x2), (3, .long x3)]) hx hb dX0_slides_13 hl (by decide) rfl (fun ls hl => ?_)
      refine lv_iload_n hx hb dX0_slides_15 rfl (lv_at hl 3 rfl) ?_
      refine lv_if_eq (tgt := 23) hx hb dX0_slides_16 (by decide) (fun c_3 => ?_) (fun c_3 => ?_)
      · replace hp := hp.1 c_3
        refine lv_iconst (v := 4) hx hb dX0_slides_23 (by decide) ?_
        exact t_X0_slides_24 F hr hlocks hK hp hW hE (lv_sub hl [1, 2, 4, 0] rfl) hL_a0 hK_a0
      · replace hp := hp.2 c_3
        refine lv_iconst (v := 0) hx hb dX0_slides_19 (by decide) ?_
        refine lv_goto (tgt := 24) hx hb dX0_slides_20 (by decide) ?_
        exact t_X0_slides_24 F hr hlocks hK hp hW hE (lv_sub hl [1, 2, 4, 0] rfl) hL_a0 hK_a0
    · replace hp := hp.2 c_2
      exact t_X0_slides_10 F hr hlocks hK hp hW hE (lv_sub hl [] rfl)
set_option maxHeartbeats 4000000 in
set_option maxRecDepth 100000 in
theorem c_X0_slides (l : Launch) {D : wD} {cy : Nat → ClassId} {X : va_W} {S0 : wS} {post : Int64 → wS → Prop} {a0 : Nat} {x1 : Int32} {x2 : Int32} {x3 : Int64} (hL_a0 : wM D S0 a0) (hK_a0 : sK S0 a0 = 5) (hp : wp_X0_slides D post S0 a0 x1 x2 x3) : mJ D cy X l yX0_slides wz_X0_slides r_X0_slides [.ref a0, .int x1, .int x2, .long x3] S0 (fun r S9 => wX D S0 S9 ∧ post r S9) := by
  intro sz
  refine Met.ofW (cc := cX0_slides) (maxL := 13) (ret := (some .long)) (by decide) rfl ?_
  intro p e s m args below meth c s₁ B hml hv
  obtain ⟨rfl, hsz, hP, hK, hD0, hRO⟩ := hv
  have hts := atoms_spec (ws := wz_X0_slides) B.pre
  have hown : s.vm.findClass RX0 = some m.cls := findClass_of_methodNamed B.named
  subst hsz
  have hD := hD0.self (sz := s.heap.size)
  have F : CallFix p m c cX0_slides 13 s _ wz_X0_slides RX0 := ⟨B.exec, B.bytes, hml, hown, hts⟩
  have hr := B.returns
  have hlocks := B.notSynchronized
  generalize hAe : va_A (wL cy X S0) s.heap.size = A at hD hK ⊢
  have hA : ∀ q, s.heap.size ≤ q → A q := fun q h => by rw [← hAe]; exact Or.inr h
  have hW : wO D cy X A s.heap S0 s.heap [] := ⟨hP, hD, va_S.rf, hA, hRO⟩
  have hl := lv_entry ([.ref a0, .int x1, .int x2, .long x3]) (n := 13) (Nat.le_of_ble_eq_true rfl)
  rw [lg_entry_eq]
  generalize (lg_sl ([.ref a0, .int x1, .int x2, .long x3]) ++ List.replicate (13 - (lg_sl ([.ref a0, .int x1, .int x2, .long x3])).length) Slot.unset).toArray = ls at hl ⊢
  have hl : lv_has ls 13 [(0, .ref a0), (1, .int x1), (2, .int x2), (3, .long x3)] := hl
  unfold wp_X0_slides at hp
  exact t_X0_slides_0 F hr hlocks hK hp hW wX.rf (lv_sub hl [0, 1, 2, 3] rfl) hL_a0 hK_a0
def wp_X0_reach_0 (D : wD) (post : Int64 → wS → Prop)  (S : wS) (a0 : Nat) (x1 : Int32) (x2 : Int32) (x3 : Int64) : Prop :=
wp_X0_has D (fun r_1 S_2 => 
((¬ r_1 = 0 → ((x1 = 1 → ∃ y_5 : Nat, sR S_2 a0 7 = some y_5 ∧ wM D S_2 y_5 ∧ sK S_2 y_5 = 22 ∧
vp_in x2 (sN S_2 y_5) ∧
post (sJ S_2 y_5 (x2).toNatClampNeg) S_2) ∧
 ((x1 = 2 → wp_X0_slides D (fun r_8 S_9 => 
wp_X0_slides D (fun r_10 S_11 => 
post (r_8 ||| r_10) S_11) S_9 a0 x2 (0 : Int32) x3) S_2 a0 x2 (1 : Int32) x3) ∧
 ((x1 = 3 → wp_X0_slides D (fun r_13 S_14 => 
post r_13 S_14) S_2 a0 x2 (1 : Int32) x3) ∧
 ((x1 = 4 → wp_X0_slides D (fun r_16 S_17 => 
post r_16 S_17) S_2 a0 x2 (0 : Int32) x3) ∧
 ((x1 = 5 → ∃ y_19 : Nat, sR S_2 a0 8 = some y_19 ∧ wM D S_2 y_19 ∧ sK S_2 y_19 = 22 ∧
vp_in x2 (sN S_2 y_19) ∧
post (sJ S_2 y_19 (x2).toNatClampNeg) S_2) ∧
 (¬ x1 = 1 → ¬ x1 = 2 → ¬ x1 = 3 → ¬ x1 = 4 → ¬ x1 = 5 → post (0 : Int64) S_2))))))) ∧
 (r_1 = 0 → post (0 : Int64) S_2))) S a0 x2
abbrev r_X0_reach : Room := { frames := 1, cells := 0, slots := 0, locals := 32 }
def wp_X0_reach (D : wD) (post : Int64 → wS → Prop) (S : wS) (a0 : Nat) (x1 : Int32) (x2 : Int32) (x3 : Int64) : Prop := wp_X0_reach_0 D post S a0 x1 x2 x3
set_option maxHeartbeats 4000000 in
set_option maxRecDepth 100000 in
theorem t_X0_reach_0 {p : Program} {l : Launch} {e : Env} {s : State} {m : MethodId} {args : Array Value} {below : List Frame} {meth : Method} {c : Code} {D : wD} {cy : Nat → ClassId} {X : va_W} {A : Nat → Prop} {S0 : wS} {post : Int64 → wS → Prop} (F : CallFix p m c cX0_reach 5 s args wz_X0_reach RX0) (hr : meth.sig.returnType = (some .long)) (hlocks : meth.locks = false) (hK : wK D cy A s) : ∀ {S : wS} {H : Heap} {locs : List Loc} {ls : Array Slot} {a0 : Nat} {x1 : Int32} {x2 : Int32} {x3 : Int64}, wp_X0_reach_0 D post S a0 x1 x2 x3 → wO D cy X A s.heap S H locs → wX D S0 S → lv_has ls 5 [(0, .ref a0), (1, .int x1), (2, .int x2), (3, .long x3)] → wM D S a0 → sK S a0 = 5 → W p l e r_X0_reach s m args below meth c H locs 0 0 (MQ below (va_Ql (fun r S9 => wX D S0 S9 ∧ post r S9) (wB D cy X A) A) args s 0 0 A) (F0 m 0 ls []) := by
  obtain ⟨hx, hb, hml, hown, hts⟩ := id F
  have hwg : ∀ w ∈ WG, w.before args s = true := fun w h => hts w (List.mem_cons_of_mem _ h)
  have i_5 : ∀ w ∈ u_ws RX0 TX0 12, w ∈ wz_X0_reach := fun w h => List.mem_cons_of_mem _ (wu_5 w h)
  have k_36 := hwg _ wf_RX0_36
  have k_39 := hwg _ wf_RX0_39
  intro S H locs ls a0 x1 x2 x3 hp hW hE hl hL_a0 hK_a0
  unfold wp_X0_reach_0 at hp
  refine lv_aload_n hx hb dX0_reach_0 rfl (lv_at hl 0 rfl) ?_
  refine lv_iload_n hx hb dX0_reach_1 rfl (lv_at hl 2 rfl) ?_
  refine w_callI (va_runV (As := [.int x2]) (rest := []) F (c_X0_has l hL_a0 hK_a0 hp H.size) (cwV (C := RX0) 1 hts (wg_V wm_RX0_61 wy_X0_has) rfl rfl rfl (by decide +kernel) ⟨Nat.le_of_ble_eq_true rfl, Nat.le_of_ble_eq_true rfl⟩) (w_preV hK hW hL_a0 hK_a0 (by decide) rfl) rfl rfl hl.1 rfl (lv_room (Nat.le_of_ble_eq_true rfl)) dX0_reach_2 ⟨Nat.le_of_ble_eq_true rfl, Nat.le_of_ble_eq_true rfl⟩) hW (fun r_1 S_2 H locs hp hW => ?_)
  obtain ⟨hX_S_2, hp⟩ := hp
  refine W.widen (k := 0) (n := 0) (by decide) (by decide) ?_
  have hE := hE.trans hX_S_2
  have hK_a0 : sK S_2 a0 = 5 := (hX_S_2.2 a0 hL_a0).1.trans hK_a0
  have hL_a0 : wM D S_2 a0 := hX_S_2.M hL_a0
  refine lv_if_ne (tgt := 10) hx hb dX0_reach_5 (by decide) (fun c_3 => ?_) (fun c_3 => ?_)
  · replace hp := hp.1 c_3
    refine lv_iload_n hx hb dX0_reach_10 rfl (lv_at hl 1 rfl) ?_
    by_cases c_4 : x1 = 1
    · refine lv_tableIn (tgt := 44) (x := x1) (off := 33) hx hb dX0_reach_11 (by rw [c_4]; decide) (by rw [c_4]; decide) (by rw [c_4]; decide) (by decide) ?_
      replace hp := hp.1 c_4
      refine lv_aload_n hx hb dX0_reach_44 rfl (lv_at hl 0 rfl) ?_
      obtain ⟨y_5, ey_5, hL_y_5, hK_y_5, hp⟩ := hp
      refine w_get (k := 5) (f := 7) (T := TX0) (v := .ref y_5) F hK hW hL_a0 hK_a0 (by decide) rfl rfl (by decide) i_5 k_36 (by rw [show wv 5 7 S_2 a0 = va_rf (sR S_2 a0 7) from rfl, ey_5]; rfl) dX0_reach_45 ?_
      refine lv_iload_n hx hb dX0_reach_48 rfl (lv_at hl 2 rfl) ?_
      obtain ⟨h_6, hp⟩ := hp
      refine w_lld F hK hW hL_y_5 hK_y_5 h_6 dX0_reach_49 ?_
      exact w_lret hx hb hr hlocks hW ⟨hE, hp⟩ dX0_reach_50
    replace hp := hp.2
    by_cases c_7 : x1 = 2
    · refine lv_tableIn (tgt := 58) (x := x1) (off := 47) hx hb dX0_reach_11 (by rw [c_7]; decide) (by rw [c_7]; decide) (by rw [c_7]; decide) (by decide) ?_
      replace hp := hp.1 c_7
      refine lv_aload_n hx hb dX0_reach_58 rfl (lv_at hl 0 rfl) ?_
      refine lv_iload_n hx hb dX0_reach_59 rfl (lv_at hl 2 rfl) ?_
      refine lv_iconst (v := 1) hx hb dX0_reach_60 (by decide) ?_
      refine lv_lload_n hx hb dX0_reach_61 rfl (lv_at hl 3 rfl) ?_
      refine w_callJ (va_runV (As := [.int x2, .int (1 : Int32), .long x3]) (rest := []) F (c_X0_slides l hL_a0 hK_a0 hp H.size) (cwV (C := RX0) 3 hts (wg_V wm_RX0_85 wy_X0_slides) rfl rfl rfl (by decide +kernel) ⟨Nat.le_of_ble_eq_true rfl, Nat.le_of_ble_eq_true rfl⟩) (w_preV hK hW hL_a0 hK_a0 (by decide) rfl) rfl rfl hl.1 rfl (lv_room (Nat.le_of_ble_eq_true rfl)) dX0_reach_62 ⟨Nat.le_of_ble_eq_true rfl, Nat.le_of_ble_eq_true rfl⟩) hW (fun r_8 S_9 H locs hp hW => ?_)
      obtain ⟨hX_S_9, hp⟩ := hp
      refine W.widen (k := 0) (n := 0) (by decide) (by decide) ?_
      have hE := hE.trans hX_S_9
      have hK_a0 : sK S_9 a0 = 5 := (hX_S_9.2 a0 hL_a0).1.trans hK_a0
      have hL_a0 : wM D S_9 a0 := hX_S_9.M hL_a0
      refine lv_aload_n hx hb dX0_reach_65 rfl (lv_at hl 0 rfl) ?_
      refine lv_iload_n hx hb dX0_reach_66 rfl (lv_at hl 2 rfl) ?_
      refine lv_iconst (v := 0) hx hb dX0_reach_67 (by decide) ?_
      refine lv_lload_n hx hb dX0_reach_68 rfl (lv_at hl 3 rfl) ?_
      refine w_callJ (va_runV (As := [.int x2, .int (0 : Int32), .long x3]) (rest := [.long r_8]) F (c_X0_slides l hL_a0 hK_a0 hp H.size) (cwV (C := RX0) 3 hts (wg_V wm_RX0_85 wy_X0_slides) rfl rfl rfl (by decide +kernel) ⟨Nat.le_of_ble_eq_true rfl, Nat.le_of_ble_eq_true rfl⟩) (w_preV hK hW hL_a0 hK_a0 (by decide) rfl) rfl rfl hl.1 rfl (lv_room (Nat.le_of_ble_eq_true rfl)) dX0_reach_69 ⟨Nat.le_of_ble_eq_true rfl, Nat.le_of_ble_eq_true rfl⟩) hW (fun r_10 S_11 H locs hp hW => ?_)
      obtain ⟨hX_S_11, hp⟩ := hp
      refine W.widen (k := 0) (n := 0) (by decide) (by decide) ?_
      have hE := hE.trans hX_S_11
      have hK_a0 : sK S_11 a0 = 5 := (hX_S_11.2 a0 hL_a0).1.trans hK_a0
      have hL_a0 : wM D S_11 a0 := hX_S_11.M hL_a0
      refine lv_lor hx hb dX0_reach_72 ?_
      exact w_lret hx hb hr hlocks hW ⟨hE, hp⟩ dX0_reach_73
    replace hp := hp.2
    by_cases c_12 : x1 = 3
    · refine lv_tableIn (tgt := 74) (x := x1) (off := 63) hx hb dX0_reach_11 (by rw [c_12]; decide) (by rw [c_12]; decide) (by rw [c_12]; decide) (by decide) ?_
      replace hp := hp.1 c_12
      refine lv_aload_n hx hb dX0_reach_74 rfl (lv_at hl 0 rfl) ?_
      refine lv_iload_n hx hb dX0_reach_75 rfl (lv_at hl 2 rfl) ?_
      refine lv_iconst (v := 1) hx hb dX0_reach_76 (by decide) ?_
      refine lv_lload_n hx hb dX0_reach_77 rfl (lv_at hl 3 rfl) ?_
      refine w_callJ (va_runV (As := [.int x2, .int (1 : Int32), .long x3]) (rest := []) F (c_X0_slides l hL_a0 hK_a0 hp H.size) (cwV (C := RX0) 3 hts (wg_V wm_RX0_85 wy_X0_slides) rfl rfl rfl (by decide +kernel) ⟨Nat.le_of_ble_eq_true rfl, Nat.le_of_ble_eq_true rfl⟩) (w_preV hK hW hL_a0 hK_a0 (by decide) rfl) rfl rfl hl.1 rfl (lv_room (Nat.le_of_ble_eq_true rfl)) dX0_reach_78 ⟨Nat.le_of_ble_eq_true rfl, Nat.le_of_ble_eq_true rfl⟩) hW (fun r_13 S_14 H locs hp hW => ?_)
      obtain ⟨hX_S_14, hp⟩ := hp
      refine W.widen (k := 0) (n := 0) (by decide) (by decide) ?_
      have hE := hE.trans hX_S_14
      have hK_a0 : sK S_14 a0 = 5 := (hX_S_14.2 a0 hL_a0).1.trans hK_a0
      have hL_a0 : wM D S_14 a0 := hX_S_14.M hL_a0
      exact w_lret hx hb hr hlocks hW ⟨hE, hp⟩ dX0_reach_81
    replace hp := hp.2
    by_cases c_15 : x1 = 4
    · refine lv_tableIn (tgt := 82) (x := x1) (off := 71) hx hb dX0_reach_11 (by rw [c_15]; decide) (by rw [c_15]; decide) (by rw [c_15]; decide) (by decide) ?_
      replace hp := hp.1 c_15
      refine lv_aload_n hx hb dX0_reach_82 rfl (lv_at hl 0 rfl) ?_
      refine lv_iload_n hx hb dX0_reach_83 rfl (lv_at hl 2 rfl) ?_
      refine lv_iconst (v := 0) hx hb dX0_reach_84 (by decide) ?_
      refine lv_lload_n hx hb dX0_reach_85 rfl (lv_at hl 3 rfl) ?_
      refine w_callJ (va_runV (As := [.int x2, .int (0 : Int32), .long x3]) (rest := []) F (c_X0_slides l hL_a0 hK_a0 hp H.size) (cwV (C := RX0) 3 hts (wg_V wm_RX0_85 wy_X0_slides) rfl rfl rfl (by decide +kernel) ⟨Nat.le_of_ble_eq_true rfl, Nat.le_of_ble_eq_true rfl⟩) (w_preV hK hW hL_a0 hK_a0 (by decide) rfl) rfl rfl hl.1 rfl (lv_room (Nat.le_of_ble_eq_true rfl)) dX0_reach_86 ⟨Nat.le_of_ble_eq_true rfl, Nat.le_of_ble_eq_true rfl⟩) hW (fun r_16 S_17 H locs hp hW => ?_)
      obtain ⟨hX_S_17, hp⟩ := hp
      refine W.widen (k := 0) (n := 0) (by decide) (by decide) ?_
      have hE := hE.trans hX_S_17
      have hK_a0 : sK S_17 a0 = 5 := (hX_S_17.2 a0 hL_a0).1.trans hK_a0
      have hL_a0 : wM D S_17 a0 := hX_S_17.M hL_a0
      exact w_lret hx hb hr hlocks hW ⟨hE, hp⟩ dX0_reach_89
    replace hp := hp.2
    by_cases c_18 : x1 = 5
    · refine lv_tableIn (tgt := 51) (x := x1) (off := 40) hx hb dX0_reach_11 (by rw [c_18]; decide) (by rw [c_18]; decide) (by rw [c_18]; decide) (by decide) ?_
      replace hp := hp.1 c_18
      refine lv_aload_n hx hb dX0_reach_51 rfl (lv_at hl 0 rfl) ?_
      obtain ⟨y_19, ey_19, hL_y_19, hK_y_19, hp⟩ := hp
      refine w_get (k := 5) (f := 8) (T := TX0) (v := .ref y_19) F hK hW hL_a0 hK_a0 (by decide) rfl rfl (by decide) i_5 k_39 (by rw [show wv 5 8 S_2 a0 = va_rf (sR S_2 a0 8) from rfl, ey_19]; rfl) dX0_reach_52 ?_
      refine lv_iload_n hx hb dX0_reach_55 rfl (lv_at hl 2 rfl) ?_
      obtain ⟨h_20, hp⟩ := hp
      refine w_lld F hK hW hL_y_19 hK_y_19 h_20 dX0_reach_56 ?_
      exact w_lret hx hb hr hlocks hW ⟨hE, hp⟩ dX0_reach_57
    replace hp := hp.2
    replace hp := hp c_4 c_7 c_12 c_15 c_18
    refine lv_tableOut (tgt := 90) hx hb dX0_reach_11 (w_out (lo := 1) (hi := 5) (by decide) (by decide) (fun v h1 h2 => by have h3 : v = 1 ∨ v = 2 ∨ v = 3 ∨ v = 4 ∨ v = 5 := (by omega); rcases h3 with rfl | rfl | rfl | rfl | rfl <;> (intro q; first | exact c_4 q | exact c_7 q | exact c_12 q | exact c_15 q | exact c_18 q))) (by decide) ?_
    refine lv_lconst (v := 0) hx hb dX0_reach_90 (by decide) ?_
    exact w_lret hx hb hr hlocks hW ⟨hE, hp⟩ dX0_reach_91
  · replace hp := hp.2 c_3
    refine lv_lconst (v := 0) hx hb dX0_reach_8 (by decide) ?_
    exact w_lret hx hb hr hlocks hW ⟨hE, hp⟩ dX0_reach_9
set_option maxHeartbeats 4000000 in
set_option maxRecDepth 100000 in
theorem c_X0_reach (l : Launch) {D : wD} {cy : Nat → ClassId} {X : va_W} {S0 : wS} {post : Int64 → wS → Prop} {a0 : Nat} {x1 : Int32} {x2 : Int32} {x3 : Int64} (hL_a0 : wM D S0 a0) (hK_a0 : sK S0 a0 = 5) (hp : wp_X0_reach D post S0 a0 x1 x2 x3) : mJ D cy X l yX0_reach wz_X0_reach r_X0_reach [.ref a0, .int x1, .int x2, .long x3] S0 (fun r S9 => wX D S0 S9 ∧ post r S9) := by
  intro sz
  refine Met.ofW (cc := cX0_reach) (maxL := 5) (ret := (some .long)) (by decide) rfl ?_
  intro p e s m args below meth c s₁ B hml hv
  obtain ⟨rfl, hsz, hP, hK, hD0, hRO⟩ := hv
  have hts := atoms_spec (ws := wz_X0_reach) B.pre
  have hown : s.vm.findClass RX0 = some m.cls := findClass_of_methodNamed B.named
  subst hsz
  have hD := hD0.self (sz := s.heap.size)
  have F : CallFix p m c cX0_reach 5 s _ wz_X0_reach RX0 := ⟨B.exec, B.bytes, hml, hown, hts⟩
  have hr := B.returns
  have hlocks := B.notSynchronized
  generalize hAe : va_A (wL cy X S0) s.heap.size = A at hD hK ⊢
  have hA : ∀ q, s.heap.size ≤ q → A q := fun q h => by rw [← hAe]; exact Or.inr h
  have hW : wO D cy X A s.heap S0 s.heap [] := ⟨hP, hD, va_S.rf, hA, hRO⟩
  have hl := lv_entry ([.ref a0, .int x1, .int x2, .long x3]) (n := 5) (Nat.le_of_ble_eq_true rfl)
  rw [lg_entry_eq]
  generalize (lg_sl ([.ref a0, .int x1, .int x2, .long x3]) ++ List.replicate (5 - (lg_sl ([.ref a0, .int x1, .int x2, .long x3])).length) Slot.unset).toArray = ls at hl ⊢
  have hl : lv_has ls 5 [(0, .ref a0), (1, .int x1), (2, .int x2), (3, .long x3)] := hl
  unfold wp_X0_reach at hp
  exact t_X0_reach_0 F hr hlocks hK hp hW wX.rf (lv_sub hl [0, 1, 2, 3] rfl) hL_a0 hK_a0
def wp_X0_squaresOfFile_5 (D : wD) (post : Int64 → wS → Prop)  : Nat → wS → Nat → Int32 → Int64 → Int32 → Prop
  | 0, _, _, _, _, _ => False
  | n + 1, S, a0, x1, x2, x4 =>
    (((sI S a0 1) ≤ x4 → post x2 S) ∧
     (¬ (sI S a0 1) ≤ x4 → wp_X0_setOf D (fun r_2 S_3 => 
    ∀ x_4 : Int64, x_4 = (x2 ||| r_2) →
    ∀ x_5 : Int32, x_5 = x4 + 1 →
    wp_X0_squaresOfFile_5 D post n S_3 a0 x1 x_4 x_5) S a0 x1 x4))
def wp_X0_squaresOfFile_0 (D : wD) (post : Int64 → wS → Prop)  (S : wS) (a0 : Nat) (x1 : Int32) : Prop :=
∃ n_1 : Nat, wp_X0_squaresOfFile_5 D post n_1 S a0 x1 (0 : Int64) (0 : Int32)
abbrev r_X0_squaresOfFile : Room := { frames := 1, cells := 0, slots := 0, locals := 23 }
def wp_X0_squaresOfFile (D : wD) (post : Int64 → wS → Prop) (S : wS) (a0 : Nat) (x1 : Int32) : Prop := wp_X0_squaresOfFile_0 D post S a0 x1
set_option maxHeartbeats 4000000 in
set_option maxRecDepth 100000 in
theorem t_X0_squaresOfFile_5 {p : Program} {l : Launch} {e : Env} {s : State} {m : MethodId} {args : Array Value} {below : List Frame} {meth : Method} {c : Code} {D : wD} {cy : Nat → ClassId} {X : va_W} {A : Nat → Prop} {S0 : wS} {post : Int64 → wS → Prop} (F : CallFix p m c cX0_squaresOfFile 5 s args wz_X0_squaresOfFile RX0) (hr : meth.sig.returnType = (some .long)) (hlocks : meth.locks = false) (hK : wK D cy A s) : ∀ (n : Nat) {S : wS} {H : Heap} {locs : List Loc} {ls : Array Slot} {a0 : Nat} {x1 : Int32} {x2 : Int64} {x4 : Int32}, wp_X0_squaresOfFile_5 D post n S a0 x1 x2 x4 → wO D cy X A s.heap S H locs → wX D S0 S → lv_has ls 5 [(0, .ref a0), (1, .int x1), (2, .long x2), (4, .int x4)] → wM D S a0 → sK S a0 = 5 → W p l e r_X0_squaresOfFile s m args below meth c H locs 0 0 (MQ below (va_Ql (fun r S9 => wX D S0 S9 ∧ post r S9) (wB D cy X A) A) args s 0 0 A) (F0 m 5 ls []) := by
  obtain ⟨hx, hb, hml, hown, hts⟩ := id F
  have hwg : ∀ w ∈ WG, w.before args s = true := fun w h => hts w (List.mem_cons_of_mem _ h)
  have i_5 : ∀ w ∈ u_ws RX0 TX0 12, w ∈ wz_X0_squaresOfFile := fun w h => List.mem_cons_of_mem _ (wu_5 w h)
  have k_15 := hwg _ wf_RX0_15
  intro n
  induction n with
  | zero =>
    intro S H locs ls a0 x1 x2 x4 hp
    exact hp.elim
  | succ n ih =>
    intro S H locs ls a0 x1 x2 x4 hp hW hE hl hL_a0 hK_a0
    unfold wp_X0_squaresOfFile_5 at hp
    refine lv_iload hx hb dX0_squaresOfFile_5 (lv_at hl 3 rfl) ?_
    refine lv_aload_n hx hb dX0_squaresOfFile_7 rfl (lv_at hl 0 rfl) ?_
    refine w_get (k := 5) (f := 1) (T := TX0) (v := .int (sI S a0 1)) F hK hW hL_a0 hK_a0 (by decide) rfl rfl (by decide) i_5 k_15 rfl dX0_squaresOfFile_8 ?_
    refine lv_icmp_ge (tgt := 30) hx hb dX0_squaresOfFile_11 (by decide) (fun c_1 => ?_) (fun c_1 => ?_)
    · replace hp := hp.1 c_1
      refine lv_lload_n hx hb dX0_squaresOfFile_30 rfl (lv_at hl 2 rfl) ?_
      exact w_lret hx hb hr hlocks hW ⟨hE, hp⟩ dX0_squaresOfFile_31
    · replace hp := hp.2 c_1
      refine lv_lload_n hx hb dX0_squaresOfFile_14 rfl (lv_at hl 2 rfl) ?_
      refine lv_aload_n hx hb dX0_squaresOfFile_15 rfl (lv_at hl 0 rfl) ?_
      refine lv_iload_n hx hb dX0_squaresOfFile_16 rfl (lv_at hl 1 rfl) ?_
      refine lv_iload hx hb dX0_squaresOfFile_17 (lv_at hl 3 rfl) ?_
      refine w_callJ (va_runV (As := [.int x1, .int x4]) (rest := [.long x2]) F (c_X0_setOf l hL_a0 hK_a0 hp H.size) (cwV (C := RX0) 2 hts (wg_V wm_RX0_75 wy_X0_setOf) rfl rfl rfl (by decide +kernel) ⟨Nat.le_of_ble_eq_true rfl, Nat.le_of_ble_eq_true rfl⟩) (w_preV hK hW hL_a0 hK_a0 (by decide) rfl) rfl rfl hl.1 rfl (lv_room (Nat.le_of_ble_eq_true rfl)) dX0_squaresOfFile_19 ⟨Nat.le_of_ble_eq_true rfl, Nat.le_of_ble_eq_true rfl⟩) hW (fun r_2 S_3 H locs hp hW => ?_)
      obtain ⟨hX_S_3, hp⟩ := hp
      refine W.widen (k := 0) (n := 0) (by decide) (by decide) ?_
      have hE := hE.trans hX_S_3
      have hK_a0 : sK S_3 a0 = 5 := (hX_S_3.2 a0 hL_a0).1.trans hK_a0
      have hL_a0 : wM D S_3 a0 := hX_S_3.M hL_a0
      refine lv_lor hx hb dX0_squaresOfFile_22 ?_
      refine lv_topl (fun x_4 ex_4 => ?_)
      replace hp := hp x_4 ex_4
      refine lv_lstore_n (lv' := [(2, .long x_4), (0, .ref a0), (1, .int x1), (4, .int x4)]) hx hb dX0_squaresOfFile_23 rfl hl (by decide) rfl (fun ls hl => ?_)
      obtain ⟨x_5, ex_5⟩ : ∃ z : Int32, z = x4 + 1 := ⟨_, rfl⟩
      replace hp := hp x_5 ex_5
      refine lv_iinc (v := x_5) (lv' := [(4, .int x_5), (2, .long x_4), (0, .ref a0), (1, .int x1)]) hx hb dX0_squaresOfFile_24 hl (k := 3) rfl (by rw [ex_5]; rfl) (by decide) rfl (fun ls hl => ?_)
      refine lv_goto (tgt := 5) hx hb dX0_squaresOfFile_27 (by decide) ?_
      exact ih hp hW hE (lv_sub hl [2, 3, 1, 0] rfl) hL_a0 hK_a0
set_option maxHeartbeats 4000000 in
set_option maxRecDepth 100000 in
theorem t_X0_squaresOfFile_0 {p : Program} {l : Launch} {e : Env} {s : State} {m : MethodId} {args : Array Value} {below : List Frame} {meth : Method} {c : Code} {D : wD} {cy : Nat → ClassId} {X : va_W} {A : Nat → Prop} {S0 : wS} {post : Int64 → wS → Prop} (F : CallFix p m c cX0_squaresOfFile 5 s args wz_X0_squaresOfFile RX0) (hr : meth.sig.returnType = (some .long)) (hlocks : meth.locks = false) (hK : wK D cy A s) : ∀ {S : wS} {H : Heap} {locs : List Loc} {ls : Array Slot} {a0 : Nat} {x1 : Int32}, wp_X0_squaresOfFile_0 D post S a0 x1 → wO D cy X A s.heap S H locs → wX D S0 S → lv_has ls 5 [(0, .ref a0), (1, .int x1)] → wM D S a0 → sK S a0 = 5 → W p l e r_X0_squaresOfFile s m args below meth c H locs 0 0 (MQ below (va_Ql (fun r S9 => wX D S0 S9 ∧ post r S9) (wB D cy X A) A) args s 0 0 A) (F0 m 0 ls []) := by
  obtain ⟨hx, hb, hml, hown, hts⟩ := id F
  have hwg : ∀ w ∈ WG, w.before args s = true := fun w h => hts w (List.mem_cons_of_mem _ h)
  intro S H locs ls a0 x1 hp hW hE hl hL_a0 hK_a0
  unfold wp_X0_squaresOfFile_0 at hp
  refine lv_lconst (v := 0) hx hb dX0_squaresOfFile_0 (by decide) ?_
  refine lv_lstore_n (lv' := [(2, .long (0 : Int64)), (0, .ref a0), (1, .int x1)]) hx hb dX0_squaresOfFile_1 rfl hl (by decide) rfl (fun ls hl => ?_)
  refine lv_iconst (v := 0) hx hb dX0_squaresOfFile_2 (by decide) ?_
  refine lv_istore (lv' := [(4, .int (0 : Int32)), (2, .long (0 : Int64)), (0, .ref a0), (1, .int x1)]) hx hb dX0_squaresOfFile_3 hl (by decide) rfl (fun ls hl => ?_)
  obtain ⟨n_1, hp⟩ := hp
  exact t_X0_squaresOfFile_5 F hr hlocks hK n_1 hp hW hE (lv_sub hl [2, 3, 1, 0] rfl) hL_a0 hK_a0
set_option maxHeartbeats 4000000 in
set_option maxRecDepth 100000 in
theorem c_X0_squaresOfFile (l : Launch) {D : wD} {cy : Nat → ClassId} {X : va_W} {S0 : wS} {post : Int64 → wS → Prop} {a0 : Nat} {x1 : Int32} (hL_a0 : wM D S0 a0) (hK_a0 : sK S0 a0 = 5) (hp : wp_X0_squaresOfFile D post S0 a0 x1) : mJ D cy X l yX0_squaresOfFile wz_X0_squaresOfFile r_X0_squaresOfFile [.ref a0, .int x1] S0 (fun r S9 => wX D S0 S9 ∧ post r S9) := by
  intro sz
  refine Met.ofW (cc := cX0_squaresOfFile) (maxL := 5) (ret := (some .long)) (by decide) rfl ?_
  intro p e s m args below meth c s₁ B hml hv
  obtain ⟨rfl, hsz, hP, hK, hD0, hRO⟩ := hv
  have hts := atoms_spec (ws := wz_X0_squaresOfFile) B.pre
  have hown : s.vm.findClass RX0 = some m.cls := findClass_of_methodNamed B.named
  subst hsz
  have hD := hD0.self (sz := s.heap.size)
  have F : CallFix p m c cX0_squaresOfFile 5 s _ wz_X0_squaresOfFile RX0 := ⟨B.exec, B.bytes, hml, hown, hts⟩
  have hr := B.returns
  have hlocks := B.notSynchronized
  generalize hAe : va_A (wL cy X S0) s.heap.size = A at hD hK ⊢
  have hA : ∀ q, s.heap.size ≤ q → A q := fun q h => by rw [← hAe]; exact Or.inr h
  have hW : wO D cy X A s.heap S0 s.heap [] := ⟨hP, hD, va_S.rf, hA, hRO⟩
  have hl := lv_entry ([.ref a0, .int x1]) (n := 5) (Nat.le_of_ble_eq_true rfl)
  rw [lg_entry_eq]
  generalize (lg_sl ([.ref a0, .int x1]) ++ List.replicate (5 - (lg_sl ([.ref a0, .int x1])).length) Slot.unset).toArray = ls at hl ⊢
  have hl : lv_has ls 5 [(0, .ref a0), (1, .int x1)] := hl
  unfold wp_X0_squaresOfFile at hp
  exact t_X0_squaresOfFile_0 F hr hlocks hK hp hW wX.rf (lv_sub hl [0, 1] rfl) hL_a0 hK_a0
def wp_X3_planeAt_29 (D : wD) (post : Int64 → wS → Prop)  (S : wS) (t0 : Int64) : Prop :=
post t0 S
def wp_X3_planeAt_28 (D : wD) (post : Int64 → wS → Prop)  (S : wS) : Prop :=
wp_X3_planeAt_29 D post S (0 : Int64)
def wp_X3_planeAt_0 (D : wD) (post : Int64 → wS → Prop)  (S : wS) (a0 : Nat) (x1 : Int32) (x2 : Int32) : Prop :=
∀ x_1 : Int32, x_1 = ((x1 * (5 : Int32)) + x2) →
((x_1 < 0 → wp_X3_planeAt_28 D post S) ∧
 (¬ x_1 < 0 → ∃ y_3 : Nat, sR S a0 0 = some y_3 ∧ wM D S y_3 ∧ sK S y_3 = 22 ∧
(((Int32.ofNat (sN S y_3)) ≤ x_1 → wp_X3_planeAt_28 D post S) ∧
 (¬ (Int32.ofNat (sN S y_3)) ≤ x_1 → ∃ y_5 : Nat, sR S a0 0 = some y_5 ∧ wM D S y_5 ∧ sK S y_5 = 22 ∧
vp_in x_1 (sN S y_5) ∧
wp_X3_planeAt_29 D post S (sJ S y_5 (x_1).toNatClampNeg)))))
abbrev r_X3_planeAt : Room := { frames := 0, cells := 0, slots := 0, locals := 0 }
def wp_X3_planeAt (D : wD) (post : Int64 → wS → Prop) (S : wS) (a0 : Nat) (x1 : Int32) (x2 : Int32) : Prop := wp_X3_planeAt_0 D post S a0 x1 x2
set_option maxHeartbeats 4000000 in
set_option maxRecDepth 100000 in
theorem t_X3_planeAt_29 {p : Program} {l : Launch} {e : Env} {s : State} {m : MethodId} {args : Array Value} {below : List Frame} {meth : Method} {c : Code} {D : wD} {cy : Nat → ClassId} {X : va_W} {A : Nat → Prop} {S0 : wS} {post : Int64 → wS → Prop} (F : CallFix p m c cX3_planeAt 4 s args wz_X3_planeAt RX3) (hr : meth.sig.returnType = (some .long)) (hlocks : meth.locks = false) (hK : wK D cy A s) : ∀ {S : wS} {H : Heap} {locs : List Loc} {ls : Array Slot} {t0 : Int64}, wp_X3_planeAt_29 D post S t0 → wO D cy X A s.heap S H locs → wX D S0 S → lv_has ls 4 [] → W p l e r_X3_planeAt s m args below meth c H locs 0 0 (MQ below (va_Ql (fun r S9 => wX D S0 S9 ∧ post r S9) (wB D cy X A) A) args s 0 0 A) (F0 m 29 ls [.long t0]) := by
  obtain ⟨hx, hb, hml, hown, hts⟩ := id F
  have hwg : ∀ w ∈ WG, w.before args s = true := fun w h => hts w (List.mem_cons_of_mem _ h)
  intro S H locs ls t0 hp hW hE hl
  unfold wp_X3_planeAt_29 at hp
  exact w_lret hx hb hr hlocks hW ⟨hE, hp⟩ dX3_planeAt_29
set_option maxHeartbeats 4000000 in
set_option maxRecDepth 100000 in
theorem t_X3_planeAt_28 {p : Program} {l : Launch} {e : Env} {s : State} {m : MethodId} {args : Array Value} {below : List Frame} {meth : Method} {c : Code} {D : wD} {cy : Nat → ClassId} {X : va_W} {A : Nat → Prop} {S0 : wS} {post : Int64 → wS → Prop} (F : CallFix p m c cX3_planeAt 4 s args wz_X3_planeAt RX3) (hr : meth.sig.returnType = (some .long)) (hlocks : meth.locks = false) (hK : wK D cy A s) : ∀ {S : wS} {H : Heap} {locs : List Loc} {ls : Array Slot}, wp_X3_planeAt_28 D post S → wO D cy X A s.heap S H locs → wX D S0 S → lv_has ls 4 [] → W p l e r_X3_planeAt s m args below meth c H locs 0 0 (MQ below (va_Ql (fun r S9 => wX D S0 S9 ∧ post r S9) (wB D cy X A) A) args s 0 0 A) (F0 m 28 ls []) := by
  obtain ⟨hx, hb, hml, hown, hts⟩ := id F
  have hwg : ∀ w ∈ WG, w.before args s = true := fun w h => hts w (List.mem_cons_of_mem _ h)
  intro S H locs ls hp hW hE hl
  unfold wp_X3_planeAt_28 at hp
  refine lv_lconst (v := 0) hx hb dX3_planeAt_28 (by decide) ?_
  exact t_X3_planeAt_29 F hr hlocks hK hp hW hE (lv_sub hl [] rfl)
set_option maxHeartbeats 4000000 in
set_option maxRecDepth 100000 in
theorem t_X3_planeAt_0 {p : Program} {l : Launch} {e : Env} {s : State} {m : MethodId} {args : Array Value} {below : List Frame} {meth : Method} {c : Code} {D : wD} {cy : Nat → ClassId} {X : va_W} {A : Nat → Prop} {S0 : wS} {post : Int64 → wS → Prop} (F : CallFix p m c cX3_planeAt 4 s args wz_X3_planeAt RX3) (hr : meth.sig.returnType = (some .long)) (hlocks : meth.locks = false) (hK : wK D cy A s) : ∀ {S : wS} {H : Heap} {locs : List Loc} {ls : Array Slot} {a0 : Nat} {x1 : Int32} {x2 : Int32}, wp_X3_planeAt_0 D post S a0 x1 x2 → wO D cy X A s.heap S H locs → wX D S0 S → lv_has ls 4 [(0, .ref a0), (1, .int x1), (2, .int x2)] → wM D S a0 → sK S a0 = 8 → W p l e r_X3_planeAt s m args below meth c H locs 0 0 (MQ below (va_Ql (fun r S9 => wX D S0 S9 ∧ post r S9) (wB D cy X A) A) args s 0 0 A) (F0 m 0 ls []) := by
  obtain ⟨hx, hb, hml, hown, hts⟩ := id F
  have hwg : ∀ w ∈ WG, w.before args s = true := fun w h => hts w (List.mem_cons_of_mem _ h)
  have i_8 : ∀ w ∈ u_ws RX3 TX3 9, w ∈ wz_X3_planeAt := fun w h => List.mem_cons_of_mem _ (wu_8 w h)
  have k_36 := hwg _ wf_RX3_36
  intro S H locs ls a0 x1 x2 hp hW hE hl hL_a0 hK_a0
  unfold wp_X3_planeAt_0 at hp
  refine lv_iload_n hx hb dX3_planeAt_0 rfl (lv_at hl 1 rfl) ?_
  refine lv_iconst (v := 5) hx hb dX3_planeAt_1 (by decide) ?_
  refine lv_imul hx hb dX3_planeAt_2 ?_
  refine lv_iload_n hx hb dX3_planeAt_3 rfl (lv_at hl 2 rfl) ?_
  refine lv_iadd hx hb dX3_planeAt_4 ?_
  refine lv_topi (fun x_1 ex_1 => ?_)
  replace hp := hp x_1 ex_1
  refine lv_istore_n (lv' := [(3, .int x_1), (0, .ref a0), (1, .int x1), (2, .int x2)]) hx hb dX3_planeAt_5 rfl hl (by decide) rfl (fun ls hl => ?_)
  refine lv_iload_n hx hb dX3_planeAt_6 rfl (lv_at hl 0 rfl) ?_
  refine lv_if_lt (tgt := 28) hx hb dX3_planeAt_7 (by decide) (fun c_2 => ?_) (fun c_2 => ?_)
  · replace hp := hp.1 c_2
    exact t_X3_planeAt_28 F hr hlocks hK hp hW hE (lv_sub hl [] rfl)
  · replace hp := hp.2 c_2
    refine lv_iload_n hx hb dX3_planeAt_10 rfl (lv_at hl 0 rfl) ?_
    refine lv_aload_n hx hb dX3_planeAt_11 rfl (lv_at hl 1 rfl) ?_
    obtain ⟨y_3, ey_3, hL_y_3, hK_y_3, hp⟩ := hp
    refine w_get (k := 8) (f := 0) (T := TX3) (v := .ref y_3) F hK hW hL_a0 hK_a0 (by decide) rfl rfl (by decide) i_8 k_36 (by rw [show wv 8 0 S a0 = va_rf (sR S a0 0) from rfl, ey_3]; rfl) dX3_planeAt_12 ?_
    refine w_len F hK hW hL_y_3 hK_y_3 (by decide) dX3_planeAt_15 ?_
    refine lv_icmp_ge (tgt := 28) hx hb dX3_planeAt_16 (by decide) (fun c_4 => ?_) (fun c_4 => ?_)
    · replace hp := hp.1 c_4
      exact t_X3_planeAt_28 F hr hlocks hK hp hW hE (lv_sub hl [] rfl)
    · replace hp := hp.2 c_4
      refine lv_aload_n hx hb dX3_planeAt_19 rfl (lv_at hl 1 rfl) ?_
      obtain ⟨y_5, ey_5, hL_y_5, hK_y_5, hp⟩ := hp
      refine w_get (k := 8) (f := 0) (T := TX3) (v := .ref y_5) F hK hW hL_a0 hK_a0 (by decide) rfl rfl (by decide) i_8 k_36 (by rw [show wv 8 0 S a0 = va_rf (sR S a0 0) from rfl, ey_5]; rfl) dX3_planeAt_20 ?_
      refine lv_iload_n hx hb dX3_planeAt_23 rfl (lv_at hl 0 rfl) ?_
      obtain ⟨h_6, hp⟩ := hp
      refine w_lld F hK hW hL_y_5 hK_y_5 h_6 dX3_planeAt_24 ?_
      refine lv_goto (tgt := 29) hx hb dX3_planeAt_25 (by decide) ?_
      exact t_X3_planeAt_29 F hr hlocks hK hp hW hE (lv_sub hl [] rfl)
set_option maxHeartbeats 4000000 in
set_option maxRecDepth 100000 in
theorem c_X3_planeAt (l : Launch) {D : wD} {cy : Nat → ClassId} {X : va_W} {S0 : wS} {post : Int64 → wS → Prop} {a0 : Nat} {x1 : Int32} {x2 : Int32} (hL_a0 : wM D S0 a0) (hK_a0 : sK S0 a0 = 8) (hp : wp_X3_planeAt D post S0 a0 x1 x2) : mJ D cy X l yX3_planeAt wz_X3_planeAt r_X3_planeAt [.ref a0, .int x1, .int x2] S0 (fun r S9 => wX D S0 S9 ∧ post r S9) := by
  intro sz
  refine Met.ofW (cc := cX3_planeAt) (maxL := 4) (ret := (some .long)) (by decide) rfl ?_
  intro p e s m args below meth c s₁ B hml hv
  obtain ⟨rfl, hsz, hP, hK, hD0, hRO⟩ := hv
  have hts := atoms_spec (ws := wz_X3_planeAt) B.pre
  have hown : s.vm.findClass RX3 = some m.cls := findClass_of_methodNamed B.named
  subst hsz
  have hD := hD0.self (sz := s.heap.size)
  have F : CallFix p m c cX3_planeAt 4 s _ wz_X3_planeAt RX3 := ⟨B.exec, B.bytes, hml, hown, hts⟩
  have hr := B.returns
  have hlocks := B.notSynchronized
  generalize hAe : va_A (wL cy X S0) s.heap.size = A at hD hK ⊢
  have hA : ∀ q, s.heap.size ≤ q → A q := fun q h => by rw [← hAe]; exact Or.inr h
  have hW : wO D cy X A s.heap S0 s.heap [] := ⟨hP, hD, va_S.rf, hA, hRO⟩
  have hl := lv_entry ([.ref a0, .int x1, .int x2]) (n := 4) (Nat.le_of_ble_eq_true rfl)
  rw [lg_entry_eq]
  generalize (lg_sl ([.ref a0, .int x1, .int x2]) ++ List.replicate (4 - (lg_sl ([.ref a0, .int x1, .int x2])).length) Slot.unset).toArray = ls at hl ⊢
  have hl : lv_has ls 4 [(0, .ref a0), (1, .int x1), (2, .int x2)] := hl
  unfold wp_X3_planeAt at hp
  exact t_X3_planeAt_0 F hr hlocks hK hp hW wX.rf (lv_sub hl [0, 1, 2] rfl) hL_a0 hK_a0
def wp_X3_isSameAt_3 (D : wD) (post : Int32 → wS → Prop)  : Nat → wS → Nat → Int32 → Nat → Int32 → Int32 → Prop
  | 0, _, _, _, _, _, _ => False
  | n + 1, S, a0, x1, a2, x3, x4 =>
    (((5 : Int32) ≤ x4 → narrow .boolean (.int (1 : Int32)) = .int (1 : Int32) ∧ post (1 : Int32) S) ∧
     (¬ (5 : Int32) ≤ x4 → wp_X3_planeAt D (fun r_2 S_3 => 
    wp_X3_planeAt D (fun r_4 S_5 => 
    (((lg_cmp r_2 r_4) = 0 → ∀ x_7 : Int32, x_7 = x4 + 1 →
    wp_X3_isSameAt_3 D post n S_5 a0 x1 a2 x3 x_7) ∧
     (¬ (lg_cmp r_2 r_4) = 0 → narrow .boolean (.int (0 : Int32)) = .int (0 : Int32) ∧ post (0 : Int32) S_5))) S_3 a2 x3 x4) S a0 x1 x4))
def wp_X3_isSameAt_0 (D : wD) (post : Int32 → wS → Prop)  (S : wS) (a0 : Nat) (x1 : Int32) (a2 : Nat) (x3 : Int32) : Prop :=
∃ n_1 : Nat, wp_X3_isSameAt_3 D post n_1 S a0 x1 a2 x3 (0 : Int32)
abbrev r_X3_isSameAt : Room := { frames := 1, cells := 0, slots := 0, locals := 23 }
def wp_X3_isSameAt (D : wD) (post : Int32 → wS → Prop) (S : wS) (a0 : Nat) (x1 : Int32) (a2 : Nat) (x3 : Int32) : Prop := wp_X3_isSameAt_0 D post S a0 x1 a2 x3
set_option maxHeartbeats 4000000 in
set_option maxRecDepth 100000 in
theorem t_X3_isSameAt_3 {p : Program} {l : Launch} {e : Env} {s : State} {m : MethodId} {args : Array Value} {below : List Frame} {meth : Method} {c : Code} {D : wD} {cy : Nat → ClassId} {X : va_W} {A : Nat → Prop} {S0 : wS} {post : Int32 → wS → Prop} (F : CallFix p m c cX3_isSameAt 5 s args wz_X3_isSameAt RX3) (hr : meth.sig.returnType = (some .boolean)) (hlocks : meth.locks = false) (hK : wK D cy A s) : ∀ (n : Nat) {S : wS} {H : Heap} {locs : List Loc} {ls : Array Slot} {a0 : Nat} {x1 : Int32} {a2 : Nat} {x3 : Int32} {x4 : Int32}, wp_X3_isSameAt_3 D post n S a0 x1 a2 x3 x4 → wO D cy X A s.heap S H locs → wX D S0 S → lv_has ls 5 [(0, .ref a0), (1, .int x1), (2, .ref a2), (3, .int x3), (4, .int x4)] → wM D S a0 → sK S a0 = 8 → wM D S a2 → sK S a2 = 8 → W p l e r_X3_isSameAt s m args below meth c H locs 0 0 (MQ below (va_Qi (fun r S9 => wX D S0 S9 ∧ post r S9) (wB D cy X A) A) args s 0 0 A) (F0 m 3 ls []) := by
  obtain ⟨hx, hb, hml, hown, hts⟩ := id F
  have hwg : ∀ w ∈ WG, w.before args s = true := fun w h => hts w (List.mem_cons_of_mem _ h)
  intro n
  induction n with
  | zero =>
    intro S H locs ls a0 x1 a2 x3 x4 hp
    exact hp.elim
  | succ n ih =>
    intro S H locs ls a0 x1 a2 x3 x4 hp hW hE hl hL_a0 hK_a0 hL_a2 hK_a2
    unfold wp_X3_isSameAt_3 at hp
    refine lv_iload hx hb dX3_isSameAt_3 (lv_at hl 4 rfl) ?_
    refine lv_iconst (v := 5) hx hb dX3_isSameAt_5 (by decide) ?_
    refine lv_icmp_ge (tgt := 35) hx hb dX3_isSameAt_6 (by decide) (fun c_1 => ?_) (fun c_1 => ?_)
    · replace hp := hp.1 c_1
      refine lv_iconst (v := 1) hx hb dX3_isSameAt_35 (by decide) ?_
      exact w_zret hx hb hr hlocks hW hp.1 ⟨hE, hp.2⟩ dX3_isSameAt_36
    · replace hp := hp.2 c_1
      refine lv_aload_n hx hb dX3_isSameAt_9 rfl (lv_at hl 0 rfl) ?_
      refine lv_iload_n hx hb dX3_isSameAt_10 rfl (lv_at hl 1 rfl) ?_
      refine lv_iload hx hb dX3_isSameAt_11 (lv_at hl 4 rfl) ?_
      refine w_callJ (va_runV (As := [.int x1, .int x4]) (rest := []) F (c_X3_planeAt l hL_a0 hK_a0 hp H.size) (cwV (C := RX3) 2 hts (wg_V wm_RX3_65 wy_X3_planeAt) rfl rfl rfl (by decide +kernel) ⟨Nat.le_of_ble_eq_true rfl, Nat.le_of_ble_eq_true rfl⟩) (w_preV hK hW hL_a0 hK_a0 (by decide) rfl) rfl rfl hl.1 rfl (lv_room (Nat.le_of_ble_eq_true rfl)) dX3_isSameAt_13 ⟨Nat.le_of_ble_eq_true rfl, Nat.le_of_ble_eq_true rfl⟩) hW (fun r_2 S_3 H locs hp hW => ?_)
      obtain ⟨hX_S_3, hp⟩ := hp
      refine W.widen (k := 0) (n := 0) (by decide) (by decide) ?_
      have hE := hE.trans hX_S_3
      have hK_a0 : sK S_3 a0 = 8 := (hX_S_3.2 a0 hL_a0).1.trans hK_a0
      have hL_a0 : wM D S_3 a0 := hX_S_3.M hL_a0
      have hK_a2 : sK S_3 a2 = 8 := (hX_S_3.2 a2 hL_a2).1.trans hK_a2
      have hL_a2 : wM D S_3 a2 := hX_S_3.M hL_a2
      refine lv_aload_n hx hb dX3_isSameAt_16 rfl (lv_at hl 2 rfl) ?_
      refine lv_iload_n hx hb dX3_isSameAt_17 rfl (lv_at hl 3 rfl) ?_
      refine lv_iload hx hb dX3_isSameAt_18 (lv_at hl 4 rfl) ?_
      refine w_callJ (va_runV (As := [.int x3, .int x4]) (rest := [.long r_2]) F (c_X3_planeAt l hL_a2 hK_a2 hp H.size) (cwV (C := RX3) 2 hts (wg_V wm_RX3_65 wy_X3_planeAt) rfl rfl rfl (by decide +kernel) ⟨Nat.le_of_ble_eq_true rfl, Nat.le_of_ble_eq_true rfl⟩) (w_preV hK hW hL_a2 hK_a2 (by decide) rfl) rfl rfl hl.1 rfl (lv_room (Nat.le_of_ble_eq_true rfl)) dX3_isSameAt_20 ⟨Nat.le_of_ble_eq_true rfl, Nat.le_of_ble_eq_true rfl⟩) hW (fun r_4 S_5 H locs hp hW => ?_)
      obtain ⟨hX_S_5, hp⟩ := hp
      refine W.widen (k := 0) (n := 0) (by decide) (by decide) ?_
      have hE := hE.trans hX_S_5
      have hK_a0 : sK S_5 a0 = 8 := (hX_S_5.2 a0 hL_a0).1.trans hK_a0
      have hL_a0 : wM D S_5 a0 := hX_S_5.M hL_a0
      have hK_a2 : sK S_5 a2 = 8 := (hX_S_5.2 a2 hL_a2).1.trans hK_a2
      have hL_a2 : wM D S_5 a2 := hX_S_5.M hL_a2
      refine W.lcmp hx hb dX3_isSameAt_23 ?_
      refine lv_if_eq (tgt := 29) hx hb dX3_isSameAt_24 (by decide) (fun c_6 => ?_) (fun c_6 => ?_)
      · replace hp := hp.1 c_6
        obtain ⟨x_7, ex_7⟩ : ∃ z : Int32, z = x4 + 1 := ⟨_, rfl⟩
        replace hp := hp x_7 ex_7
        refine lv_iinc (v := x_7) (lv' := [(4, .int x_7), (0, .ref a0), (1, .int x1), (2, .ref a2), (3, .int x3)]) hx hb dX3_isSameAt_29 hl (k := 4) rfl (by rw [ex_7]; rfl) (by decide) rfl (fun ls hl => ?_)
        refine lv_goto (tgt := 3) hx hb dX3_isSameAt_32 (by decide) ?_
        exact ih hp hW hE (lv_sub hl [1, 2, 3, 4, 0] rfl) hL_a0 hK_a0 hL_a2 hK_a2
      · replace hp := hp.2 c_6
        refine lv_iconst (v := 0) hx hb dX3_isSameAt_27 (by decide) ?_
        exact w_zret hx hb hr hlocks hW hp.1 ⟨hE, hp.2⟩ dX3_isSameAt_28
set_option maxHeartbeats 4000000 in
set_option maxRecDepth 100000 in
theorem t_X3_isSameAt_0 {p : Program} {l : Launch} {e : Env} {s : State} {m : MethodId} {args : Array Value} {below : List Frame} {meth : Method} {c : Code} {D : wD} {cy : Nat → ClassId} {X : va_W} {A : Nat → Prop} {S0 : wS} {post : Int32 → wS → Prop} (F : CallFix p m c cX3_isSameAt 5 s args wz_X3_isSameAt RX3) (hr : meth.sig.returnType = (some .boolean)) (hlocks : meth.locks = false) (hK : wK D cy A s) : ∀ {S : wS} {H : Heap} {locs : List Loc} {ls : Array Slot} {a0 : Nat} {x1 : Int32} {a2 : Nat} {x3 : Int32}, wp_X3_isSameAt_0 D post S a0 x1 a2 x3 → wO D cy X A s.heap S H locs → wX D S0 S → lv_has ls 5 [(0, .ref a0), (1, .int x1), (2, .ref a2), (3, .int x3)] → wM D S a0 → sK S a0 = 8 → wM D S a2 → sK S a2 = 8 → W p l e r_X3_isSameAt s m args below meth c H locs 0 0 (MQ below (va_Qi (fun r S9 => wX D S0 S9 ∧ post r S9) (wB D cy X A) A) args s 0 0 A) (F0 m 0 ls []) := by
  obtain ⟨hx, hb, hml, hown, hts⟩ := id F
  have hwg : ∀ w ∈ WG, w.before args s = true := fun w h => hts w (List.mem_cons_of_mem _ h)
  intro S H locs ls a0 x1 a2 x3 hp hW hE hl hL_a0 hK_a0 hL_a2 hK_a2
  unfold wp_X3_isSameAt_0 at hp
  refine lv_iconst (v := 0) hx hb dX3_isSameAt_0 (by decide) ?_
  refine lv_istore (lv' := [(4, .int (0 : Int32)), (0, .ref a0), (1, .int x1), (2, .ref a2), (3, .int x3)]) hx hb dX3_isSameAt_1 hl (by decide) rfl (fun ls hl => ?_)
  obtain ⟨n_1, hp⟩ := hp
  exact t_X3_isSameAt_3 F hr hlocks hK n_1 hp hW hE (lv_sub hl [1, 2, 3, 4, 0] rfl) hL_a0 hK_a0 hL_a2 hK_a2
set_option maxHeartbeats 4000000 in
set_option maxRecDepth 100000 in
theorem c_X3_isSameAt (l : Launch) {D : wD} {cy : Nat → ClassId} {X : va_W} {S0 : wS} {post : Int32 → wS → Prop} {a0 : Nat} {x1 : Int32} {a2 : Nat} {x3 : Int32} (hL_a0 : wM D S0 a0) (hK_a0 : sK S0 a0 = 8) (hL_a2 : wM D S0 a2) (hK_a2 : sK S0 a2 = 8) (hp : wp_X3_isSameAt D post S0 a0 x1 a2 x3) : mI D cy X l yX3_isSameAt wz_X3_isSameAt r_X3_isSameAt [.ref a0, .int x1, .ref a2, .int x3] S0 (fun r S9 => wX D S0 S9 ∧ post r S9) := by
  intro sz
  refine Met.ofW (cc := cX3_isSameAt) (maxL := 5) (ret := (some .boolean)) (by decide) rfl ?_
  intro p e s m args below meth c s₁ B hml hv
  obtain ⟨rfl, hsz, hP, hK, hD0, hRO⟩ := hv
  have hts := atoms_spec (ws := wz_X3_isSameAt) B.pre
  have hown : s.vm.findClass RX3 = some m.cls := findClass_of_methodNamed B.named
  subst hsz
  have hD := hD0.self (sz := s.heap.size)
  have F : CallFix p m c cX3_isSameAt 5 s _ wz_X3_isSameAt RX3 := ⟨B.exec, B.bytes, hml, hown, hts⟩
  have hr := B.returns
  have hlocks := B.notSynchronized
  generalize hAe : va_A (wL cy X S0) s.heap.size = A at hD hK ⊢
  have hA : ∀ q, s.heap.size ≤ q → A q := fun q h => by rw [← hAe]; exact Or.inr h
  have hW : wO D cy X A s.heap S0 s.heap [] := ⟨hP, hD, va_S.rf, hA, hRO⟩
  have hl := lv_entry ([.ref a0, .int x1, .ref a2, .int x3]) (n := 5) (Nat.le_of_ble_eq_true rfl)
  rw [lg_entry_eq]
  generalize (lg_sl ([.ref a0, .int x1, .ref a2, .int x3]) ++ List.replicate (5 - (lg_sl ([.ref a0, .int x1, .ref a2, .int x3])).length) Slot.unset).toArray = ls at hl ⊢
  have hl : lv_has ls 5 [(0, .ref a0), (1, .int x1), (2, .ref a2), (3, .int x3)] := hl
  unfold wp_X3_isSameAt at hp
  exact t_X3_isSameAt_0 F hr hlocks hK hp hW wX.rf (lv_sub hl [0, 1, 2, 3] rfl) hL_a0 hK_a0 hL_a2 hK_a2
def wp_X3_setFresh_20 (D : wD) (post : wS → Prop)  (S : wS) : Prop :=
post S
def wp_X3_setFresh_0 (D : wD) (post : wS → Prop)  (S : wS) (a0 : Nat) (x1 : Int32) (x2 : Int32) : Prop :=
((x1 < 0 → wp_X3_setFresh_20 D post S) ∧
 (¬ x1 < 0 → ∃ y_2 : Nat, sR S a0 2 = some y_2 ∧ wM D S y_2 ∧ sK S y_2 = 23 ∧
(((Int32.ofNat (sN S y_2)) ≤ x1 → wp_X3_setFresh_20 D post S) ∧
 (¬ (Int32.ofNat (sN S y_2)) ≤ x1 → ∃ y_4 : Nat, sR S a0 2 = some y_4 ∧ wM D S y_4 ∧ sK S y_4 = 23 ∧
y_4 ∈ sL S ∧ vp_in x1 (sN S y_4) ∧
∀ S_6 : wS, S_6 = uI S y_4 (x1).toNatClampNeg (vp_nar .boolean x2) →
wp_X3_setFresh_20 D post S_6))))
abbrev r_X3_setFresh : Room := { frames := 0, cells := 0, slots := 0, locals := 0 }
def wp_X3_setFresh (D : wD) (post : wS → Prop) (S : wS) (a0 : Nat) (x1 : Int32) (x2 : Int32) : Prop := wp_X3_setFresh_0 D post S a0 x1 x2
set_option maxHeartbeats 4000000 in
set_option maxRecDepth 100000 in
theorem t_X3_setFresh_20 {p : Program} {l : Launch} {e : Env} {s : State} {m : MethodId} {args : Array Value} {below : List Frame} {meth : Method} {c : Code} {D : wD} {cy : Nat → ClassId} {X : va_W} {A : Nat → Prop} {S0 : wS} {post : wS → Prop} (F : CallFix p m c cX3_setFresh 3 s args wz_X3_setFresh RX3) (hr : meth.sig.returnType = none) (hlocks : meth.locks = false) (hK : wK D cy A s) : ∀ {S : wS} {H : Heap} {locs : List Loc} {ls : Array Slot}, wp_X3_setFresh_20 D post S → wO D cy X A s.heap S H locs → wX D S0 S → lv_has ls 3 [] → W p l e r_X3_setFresh s m args below meth c H locs 0 0 (MQ below (va_Qv (fun S9 => wX D S0 S9 ∧ post S9) (wB D cy X A) A) args s 0 0 A) (F0 m 20 ls []) := by
  obtain ⟨hx, hb, hml, hown, hts⟩ := id F
  have hwg : ∀ w ∈ WG, w.before args s = true := fun w h => hts w (List.mem_cons_of_mem _ h)
  intro S H locs ls hp hW hE hl
  unfold wp_X3_setFresh_20 at hp
  exact w_vret hx hb hr hlocks hW ⟨hE, hp⟩ dX3_setFresh_20
set_option maxHeartbeats 4000000 in
set_option maxRecDepth 100000 in
theorem t_X3_setFresh_0 {p : Program} {l : Launch} {e : Env} {s : State} {m : MethodId} {args : Array Value} {below : List Frame} {meth : Method} {c : Code} {D : wD} {cy : Nat → ClassId} {X : va_W} {A : Nat → Prop} {S0 : wS} {post : wS → Prop} (F : CallFix p m c cX3_setFresh 3 s args wz_X3_setFresh RX3) (hr : meth.sig.returnType = none) (hlocks : meth.locks = false) (hK : wK D cy A s) : ∀ {S : wS} {H : Heap} {locs : List Loc} {ls : Array Slot} {a0 : Nat} {x1 : Int32} {x2 : Int32}, wp_X3_setFresh_0 D post S a0 x1 x2 → wO D cy X A s.heap S H locs → wX D S0 S → lv_has ls 3 [(0, .ref a0), (1, .int x1), (2, .int x2)] → wM D S a0 → sK S a0 = 8 → W p l e r_X3_setFresh s m args below meth c H locs 0 0 (MQ below (va_Qv (fun S9 => wX D S0 S9 ∧ post S9) (wB D cy X A) A) args s 0 0 A) (F0 m 0 ls []) := by
  obtain ⟨hx, hb, hml, hown, hts⟩ := id F
  have hwg : ∀ w ∈ WG, w.before args s = true := fun w h => hts w (List.mem_cons_of_mem _ h)
  have i_8 : ∀ w ∈ u_ws RX3 TX3 9, w ∈ wz_X3_setFresh := fun w h => List.mem_cons_of_mem _ (wu_8 w h)
  have k_44 := hwg _ wf_RX3_44
  intro S H locs ls a0 x1 x2 hp hW hE hl hL_a0 hK_a0
  unfold wp_X3_setFresh_0 at hp
  refine lv_iload_n hx hb dX3_setFresh_0 rfl (lv_at hl 1 rfl) ?_
  refine lv_if_lt (tgt := 20) hx hb dX3_setFresh_1 (by decide) (fun c_1 => ?_) (fun c_1 => ?_)
  · replace hp := hp.1 c_1
    exact t_X3_setFresh_20 F hr hlocks hK hp hW hE (lv_sub hl [] rfl)
  · replace hp := hp.2 c_1
    refine lv_iload_n hx hb dX3_setFresh_4 rfl (lv_at hl 1 rfl) ?_
    refine lv_aload_n hx hb dX3_setFresh_5 rfl (lv_at hl 0 rfl) ?_
    obtain ⟨y_2, ey_2, hL_y_2, hK_y_2, hp⟩ := hp
    refine w_get (k := 8) (f := 2) (T := TX3) (v := .ref y_2) F hK hW hL_a0 hK_a0 (by decide) rfl rfl (by decide) i_8 k_44 (by rw [show wv 8 2 S a0 = va_rf (sR S a0 2) from rfl, ey_2]; rfl) dX3_setFresh_6 ?_
    refine w_len F hK hW hL_y_2 hK_y_2 (by decide) dX3_setFresh_9 ?_
    refine lv_icmp_ge (tgt := 20) hx hb dX3_setFresh_10 (by decide) (fun c_3 => ?_) (fun c_3 => ?_)
    · replace hp := hp.1 c_3
      exact t_X3_setFresh_20 F hr hlocks hK hp hW hE (lv_sub hl [] rfl)
    · replace hp := hp.2 c_3
      refine lv_aload_n hx hb dX3_setFresh_13 rfl (lv_at hl 0 rfl) ?_
      obtain ⟨y_4, ey_4, hL_y_4, hK_y_4, hp⟩ := hp
      refine w_get (k := 8) (f := 2) (T := TX3) (v := .ref y_4) F hK hW hL_a0 hK_a0 (by decide) rfl rfl (by decide) i_8 k_44 (by rw [show wv 8 2 S a0 = va_rf (sR S a0 2) from rfl, ey_4]; rfl) dX3_setFresh_14 ?_
      refine lv_iload_n hx hb dX3_setFresh_17 rfl (lv_at hl 1 rfl) ?_
      refine lv_iload_n hx hb dX3_setFresh_18 rfl (lv_at hl 2 rfl) ?_
      obtain ⟨h_5m, h_5, hp⟩ := hp
      refine w_zst F hK hW h_5m hK_y_4 h_5 dX3_setFresh_19 (fun H locs hW => ?_)
      obtain ⟨S_6, eS_6⟩ : ∃ z : wS, z = uI S y_4 (x1).toNatClampNeg (vp_nar .boolean x2) := ⟨_, rfl⟩
      rw [← eS_6] at hW
      replace hp := hp S_6 eS_6
      have hX_S_6 : wX D S S_6 := by rw [eS_6]; exact wX_uI
      have hE := hE.trans hX_S_6
      have hK_a0 : sK S_6 a0 = 8 := (hX_S_6.2 a0 hL_a0).1.trans hK_a0
      have hL_a0 : wM D S_6 a0 := hX_S_6.M hL_a0
      exact t_X3_setFresh_20 F hr hlocks hK hp hW hE (lv_sub hl [] rfl)
set_option maxHeartbeats 4000000 in
set_option maxRecDepth 100000 in
theorem c_X3_setFresh (l : Launch) {D : wD} {cy : Nat → ClassId} {X : va_W} {S0 : wS} {post : wS → Prop} {a0 : Nat} {x1 : Int32} {x2 : Int32} (hL_a0 : wM D S0 a0) (hK_a0 : sK S0 a0 = 8) (hp : wp_X3_setFresh D post S0 a0 x1 x2) : mV D cy X l yX3_setFresh wz_X3_setFresh r_X3_setFresh [.ref a0, .int x1, .int x2] S0 (fun S9 => wX D S0 S9 ∧ post S9) := by
  intro sz
  refine Met.ofW (cc := cX3_setFresh) (maxL := 3) (ret := none) (by decide) rfl ?_
  intro p e s m args below meth c s₁ B hml hv
  obtain ⟨rfl, hsz, hP, hK, hD0, hRO⟩ := hv
  have hts := atoms_spec (ws := wz_X3_setFresh) B.pre
  have hown : s.vm.findClass RX3 = some m.cls := findClass_of_methodNamed B.named
  subst hsz
  have hD := hD0.self (sz := s.heap.size)
  have F : CallFix p m c cX3_setFresh 3 s _ wz_X3_setFresh RX3 := ⟨B.exec, B.bytes, hml, hown, hts⟩
  have hr := B.returns
  have hlocks := B.notSynchronized
  generalize hAe : va_A (wL cy X S0) s.heap.size = A at hD hK ⊢
  have hA : ∀ q, s.heap.size ≤ q → A q := fun q h => by rw [← hAe]; exact Or.inr h
  have hW : wO D cy X A s.heap S0 s.heap [] := ⟨hP, hD, va_S.rf, hA, hRO⟩
  have hl := lv_entry ([.ref a0, .int x1, .int x2]) (n := 3) (Nat.le_of_ble_eq_true rfl)
  rw [lg_entry_eq]
  generalize (lg_sl ([.ref a0, .int x1, .int x2]) ++ List.replicate (3 - (lg_sl ([.ref a0, .int x1, .int x2])).length) Slot.unset).toArray = ls at hl ⊢
  have hl : lv_has ls 3 [(0, .ref a0), (1, .int x1), (2, .int x2)] := hl
  unfold wp_X3_setFresh at hp
  exact t_X3_setFresh_0 F hr hlocks hK hp hW wX.rf (lv_sub hl [0, 1, 2] rfl) hL_a0 hK_a0
def wp_X3_isFreshAt_27 (D : wD) (post : Int32 → wS → Prop)  (S : wS) (t0 : Int32) : Prop :=
narrow .boolean (.int t0) = .int t0 ∧ post t0 S
def wp_X3_isFreshAt_26 (D : wD) (post : Int32 → wS → Prop)  (S : wS) : Prop :=
wp_X3_isFreshAt_27 D post S (0 : Int32)
def wp_X3_isFreshAt_0 (D : wD) (post : Int32 → wS → Prop)  (S : wS) (a0 : Nat) (x1 : Int32) : Prop :=
((x1 < 0 → wp_X3_isFreshAt_26 D post S) ∧
 (¬ x1 < 0 → ∃ y_2 : Nat, sR S a0 2 = some y_2 ∧ wM D S y_2 ∧ sK S y_2 = 23 ∧
(((Int32.ofNat (sN S y_2)) ≤ x1 → wp_X3_isFreshAt_26 D post S) ∧
 (¬ (Int32.ofNat (sN S y_2)) ≤ x1 → ∃ y_4 : Nat, sR S a0 2 = some y_4 ∧ wM D S y_4 ∧ sK S y_4 = 23 ∧
vp_in x1 (sN S y_4) ∧
(((sI S y_4 (x1).toNatClampNeg) = 0 → wp_X3_isFreshAt_26 D post S) ∧
 (¬ (sI S y_4 (x1).toNatClampNeg) = 0 → wp_X3_isFreshAt_27 D post S (1 : Int32)))))))
abbrev r_X3_isFreshAt : Room := { frames := 0, cells := 0, slots := 0, locals := 0 }
def wp_X3_isFreshAt (D : wD) (post : Int32 → wS → Prop) (S : wS) (a0 : Nat) (x1 : Int32) : Prop := wp_X3_isFreshAt_0 D post S a0 x1
set_option maxHeartbeats 4000000 in
set_option maxRecDepth 100000 in
theorem t_X3_isFreshAt_27 {p : Program} {l : Launch} {e : Env} {s : State} {m : MethodId} {args : Array Value} {below : List Frame} {meth : Method} {c : Code} {D : wD} {cy : Nat → ClassId} {X : va_W} {A : Nat → Prop} {S0 : wS} {post : Int32 → wS → Prop} (F : CallFix p m c cX3_isFreshAt 2 s args wz_X3_isFreshAt RX3) (hr : meth.sig.returnType = (some .boolean)) (hlocks : meth.locks = false) (hK : wK D cy A s) : ∀ {S : wS} {H : Heap} {locs : List Loc} {ls : Array Slot} {t0 : Int32}, wp_X3_isFreshAt_27 D post S t0 → wO D cy X A s.heap S H locs → wX D S0 S → lv_has ls 2 [] → W p l e r_X3_isFreshAt s m args below meth c H locs 0 0 (MQ below (va_Qi (fun r S9 => wX D S0 S9 ∧ post r S9) (wB D cy X A) A) args s 0 0 A) (F0 m 27 ls [.int t0]) := by
  obtain ⟨hx, hb, hml, hown, hts⟩ := id F
  have hwg : ∀ w ∈ WG, w.before args s = true := fun w h => hts w (List.mem_cons_of_mem _ h)
  intro S H locs ls t0 hp hW hE hl
  unfold wp_X3_isFreshAt_27 at hp
  exact w_zret hx hb hr hlocks hW hp.1 ⟨hE, hp.2⟩ dX3_isFreshAt_27
set_option maxHeartbeats 4000000 in
set_option maxRecDepth 100000 in
theorem t_X3_isFreshAt_26 {p : Program} {l : Launch} {e : Env} {s : State} {m : MethodId} {args : Array Value} {below : List Frame} {meth : Method} {c : Code} {D : wD} {cy : Nat → ClassId} {X : va_W} {A : Nat → Prop} {S0 : wS} {post : Int32 → wS → Prop} (F : CallFix p m c cX3_isFreshAt 2 s args wz_X3_isFreshAt RX3) (hr : meth.sig.returnType = (some .boolean)) (hlocks : meth.locks = false) (hK : wK D cy A s) : ∀ {S : wS} {H : Heap} {locs : List Loc} {ls : Array Slot}, wp_X3_isFreshAt_26 D post S → wO D cy X A s.heap S H locs → wX D S0 S → lv_has ls 2 [] → W p l e r_X3_isFreshAt s m args below meth c H locs 0 0 (MQ below (va_Qi (fun r S9 => wX D S0 S9 ∧ post r S9) (wB D cy X A) A) args s 0 0 A) (F0 m 26 ls []) := by
  obtain ⟨hx, hb, hml, hown, hts⟩ := id F
  have hwg : ∀ w ∈ WG, w.before args s = true := fun w h => hts w (List.mem_cons_of_mem _ h)
  intro S H locs ls hp hW hE hl
  unfold wp_X3_isFreshAt_26 at hp
  refine lv_iconst (v := 0) hx hb dX3_isFreshAt_26 (by decide) ?_
  exact t_X3_isFreshAt_27 F hr hlocks hK hp hW hE (lv_sub hl [] rfl)
set_option maxHeartbeats 4000000 in
set_option maxRecDepth 100000 in
theorem t_X3_isFreshAt_0 {p : Program} {l : Launch} {e : Env} {s : State} {m : MethodId} {args : Array Value} {below : List Frame} {meth : Method} {c : Code} {D : wD} {cy : Nat → ClassId} {X : va_W} {A : Nat → Prop} {S0 : wS} {post : Int32 → wS → Prop} (F : CallFix p m c cX3_isFreshAt 2 s args wz_X3_isFreshAt RX3) (hr : meth.sig.returnType = (some .boolean)) (hlocks : meth.locks = false) (hK : wK D cy A s) : ∀ {S : wS} {H : Heap} {locs : List Loc} {ls : Array Slot} {a0 : Nat} {x1 : Int32}, wp_X3_isFreshAt_0 D post S a0 x1 → wO D cy X A s.heap S H locs → wX D S0 S → lv_has ls 2 [(0, .ref a0), (1, .int x1)] → wM D S a0 → sK S a0 = 8 → W p l e r_X3_isFreshAt s m args below meth c H locs 0 0 (MQ below (va_Qi (fun r S9 => wX D S0 S9 ∧ post r S9) (wB D cy X A) A) args s 0 0 A) (F0 m 0 ls []) := by
  obtain ⟨hx, hb, hml, hown, hts⟩ := id F
  have hwg : ∀ w ∈ WG, w.before args s = true := fun w h => hts w (List.mem_cons_of_mem _ h)
  have i_8 : ∀ w ∈ u_ws RX3 TX3 9, w ∈ wz_X3_isFreshAt := fun w h => List.mem_cons_of_mem _ (wu_8 w h)
  have k_44 := hwg _ wf_RX3_44
  intro S H locs ls a0 x1 hp hW hE hl hL_a0 hK_a0
  unfold wp_X3_isFreshAt_0 at hp
  refine lv_iload_n hx hb dX3_isFreshAt_0 rfl (lv_at hl 1 rfl) ?_
  refine lv_if_lt (tgt := 26) hx hb dX3_isFreshAt_1 (by decide) (fun c_1 => ?_) (fun c_1 => ?_)
  · replace hp := hp.1 c_1
    exact t_X3_isFreshAt_26 F hr hlocks hK hp hW hE (lv_sub hl [] rfl)
  · replace hp := hp.2 c_1
    refine lv_iload_n hx hb dX3_isFreshAt_4 rfl (lv_at hl 1 rfl) ?_
    refine lv_aload_n hx hb dX3_isFreshAt_5 rfl (lv_at hl 0 rfl) ?_
    obtain ⟨y_2, ey_2, hL_y_2, hK_y_2, hp⟩ := hp
    refine w_get (k := 8) (f := 2) (T := TX3) (v := .ref y_2) F hK hW hL_a0 hK_a0 (by decide) rfl rfl (by decide) i_8 k_44 (by rw [show wv 8 2 S a0 = va_rf (sR S a0 2) from rfl, ey_2]; rfl) dX3_isFreshAt_6 ?_
    refine w_len F hK hW hL_y_2 hK_y_2 (by decide) dX3_isFreshAt_9 ?_
    refine lv_icmp_ge (tgt := 26) hx hb dX3_isFreshAt_10 (by decide) (fun c_3 => ?_) (fun c_3 => ?_)
    · replace hp := hp.1 c_3
      exact t_X3_isFreshAt_26 F hr hlocks hK hp hW hE (lv_sub hl [] rfl)
    · replace hp := hp.2 c_3
      refine lv_aload_n hx hb dX3_isFreshAt_13 rfl (lv_at hl 0 rfl) ?_
      obtain ⟨y_4, ey_4, hL_y_4, hK_y_4, hp⟩ := hp
      refine w_get (k := 8) (f := 2) (T := TX3) (v := .ref y_4) F hK hW hL_a0 hK_a0 (by decide) rfl rfl (by decide) i_8 k_44 (by rw [show wv 8 2 S a0 = va_rf (sR S a0 2) from rfl, ey_4]; rfl) dX3_isFreshAt_14 ?_
      refine lv_iload_n hx hb dX3_isFreshAt_17 rfl (lv_at hl 1 rfl) ?_
      obtain ⟨h_5, hp⟩ := hp
      refine w_zld F hK hW hL_y_4 hK_y_4 h_5 dX3_isFreshAt_18 ?_
      refine lv_if_eq (tgt := 26) hx hb dX3_isFreshAt_19 (by decide) (fun c_6 => ?_) (fun c_6 => ?_)
      · replace hp := hp.1 c_6
        exact t_X3_isFreshAt_26 F hr hlocks hK hp hW hE (lv_sub hl [] rfl)
      · replace hp := hp.2 c_6
        refine lv_iconst (v := 1) hx hb dX3_isFreshAt_22 (by decide) ?_
        refine lv_goto (tgt := 27) hx hb dX3_isFreshAt_23 (by decide) ?_
        exact t_X3_isFreshAt_27 F hr hlocks hK hp hW hE (lv_sub hl [] rfl)
set_option maxHeartbeats 4000000 in
set_option maxRecDepth 100000 in
theorem c_X3_isFreshAt (l : Launch) {D : wD} {cy : Nat → ClassId} {X : va_W} {S0 : wS} {post : Int32 → wS → Prop} {a0 : Nat} {x1 : Int32} (hL_a0 : wM D S0 a0) (hK_a0 : sK S0 a0 = 8) (hp : wp_X3_isFreshAt D post S0 a0 x1) : mI D cy X l yX3_isFreshAt wz_X3_isFreshAt r_X3_isFreshAt [.ref a0, .int x1] S0 (fun r S9 => wX D S0 S9 ∧ post r S9) := by
  intro sz
  refine Met.ofW (cc := cX3_isFreshAt) (maxL := 2) (ret := (some .boolean)) (by decide) rfl ?_
  intro p e s m args below meth c s₁ B hml hv
  obtain ⟨rfl, hsz, hP, hK, hD0, hRO⟩ := hv
  have hts := atoms_spec (ws := wz_X3_isFreshAt) B.pre
  have hown : s.vm.findClass RX3 = some m.cls := findClass_of_methodNamed B.named
  subst hsz
  have hD := hD0.self (sz := s.heap.size)
  have F : CallFix p m c cX3_isFreshAt 2 s _ wz_X3_isFreshAt RX3 := ⟨B.exec, B.bytes, hml, hown, hts⟩
  have hr := B.returns
  have hlocks := B.notSynchronized
  generalize hAe : va_A (wL cy X S0) s.heap.size = A at hD hK ⊢
  have hA : ∀ q, s.heap.size ≤ q → A q := fun q h => by rw [← hAe]; exact Or.inr h
  have hW : wO D cy X A s.heap S0 s.heap [] := ⟨hP, hD, va_S.rf, hA, hRO⟩
  have hl := lv_entry ([.ref a0, .int x1]) (n := 2) (Nat.le_of_ble_eq_true rfl)
  rw [lg_entry_eq]
  generalize (lg_sl ([.ref a0, .int x1]) ++ List.replicate (2 - (lg_sl ([.ref a0, .int x1])).length) Slot.unset).toArray = ls at hl ⊢
  have hl : lv_has ls 2 [(0, .ref a0), (1, .int x1)] := hl
  unfold wp_X3_isFreshAt at hp
  exact t_X3_isFreshAt_0 F hr hlocks hK hp hW wX.rf (lv_sub hl [0, 1] rfl) hL_a0 hK_a0
def wp_X3_moveAt_31 (D : wD) (post : Int32 → wS → Prop)  (S : wS) (t0 : Int32) : Prop :=
post t0 S
def wp_X3_moveAt_30 (D : wD) (post : Int32 → wS → Prop)  (S : wS) : Prop :=
wp_X3_moveAt_31 D post S (0 : Int32)
def wp_X3_moveAt_0 (D : wD) (post : Int32 → wS → Prop)  (S : wS) (a0 : Nat) (x1 : Int32) : Prop :=
((x1 < 0 → wp_X3_moveAt_30 D post S) ∧
 (¬ x1 < 0 → (((sI S a0 3) ≤ x1 → wp_X3_moveAt_30 D post S) ∧
 (¬ (sI S a0 3) ≤ x1 → ∃ y_3 : Nat, sR S a0 1 = some y_3 ∧ wM D S y_3 ∧ sK S y_3 = 21 ∧
(((Int32.ofNat (sN S y_3)) ≤ x1 → wp_X3_moveAt_30 D post S) ∧
 (¬ (Int32.ofNat (sN S y_3)) ≤ x1 → ∃ y_5 : Nat, sR S a0 1 = some y_5 ∧ wM D S y_5 ∧ sK S y_5 = 21 ∧
vp_in x1 (sN S y_5) ∧
wp_X3_moveAt_31 D post S (sI S y_5 (x1).toNatClampNeg)))))))
abbrev r_X3_moveAt : Room := { frames := 0, cells := 0, slots := 0, locals := 0 }
def wp_X3_moveAt (D : wD) (post : Int32 → wS → Prop) (S : wS) (a0 : Nat) (x1 : Int32) : Prop := wp_X3_moveAt_0 D post S a0 x1
set_option maxHeartbeats 4000000 in
set_option maxRecDepth 100000 in
theorem t_X3_moveAt_31 {p : Program} {l : Launch} {e : Env} {s : State} {m : MethodId} {args : Array Value} {below : List Frame} {meth : Method} {c : Code} {D : wD} {cy : Nat → ClassId} {X : va_W} {A : Nat → Prop} {S0 : wS} {post : Int32 → wS → Prop} (F : CallFix p m c cX3_moveAt 2 s args wz_X3_moveAt RX3) (hr : meth.sig.returnType = (some .int)) (hlocks : meth.locks = false) (hK : wK D cy A s) : ∀ {S : wS} {H : Heap} {locs : List Loc} {ls : Array Slot} {t0 : Int32}, wp_X3_moveAt_31 D post S t0 → wO D cy X A s.heap S H locs → wX D S0 S → lv_has ls 2 [] → W p l e r_X3_moveAt s m args below meth c H locs 0 0 (MQ below (va_Qi (fun r S9 => wX D S0 S9 ∧ post r S9) (wB D cy X A) A) args s 0 0 A) (F0 m 31 ls [.int t0]) := by
  obtain ⟨hx, hb, hml, hown, hts⟩ := id F
  have hwg : ∀ w ∈ WG, w.before args s = true := fun w h => hts w (List.mem_cons_of_mem _ h)
  intro S H locs ls t0 hp hW hE hl
  unfold wp_X3_moveAt_31 at hp
  exact w_iret hx hb hr hlocks hW ⟨hE, hp⟩ dX3_moveAt_31
set_option maxHeartbeats 4000000 in
set_option maxRecDepth 100000 in
theorem t_X3_moveAt_30 {p : Program} {l : Launch} {e : Env} {s : State} {m : MethodId} {args : Array Value} {below : List Frame} {meth : Method} {c : Code} {D : wD} {cy : Nat → ClassId} {X : va_W} {A : Nat → Prop} {S0 : wS} {post : Int32 → wS → Prop} (F : CallFix p m c cX3_moveAt 2 s args wz_X3_moveAt RX3) (hr : meth.sig.returnType = (some .int)) (hlocks : meth.locks = false) (hK : wK D cy A s) : ∀ {S : wS} {H : Heap} {locs : List Loc} {ls : Array Slot}, wp_X3_moveAt_30 D post S → wO D cy X A s.heap S H locs → wX D S0 S → lv_has ls 2 [] → W p l e r_X3_moveAt s m args below meth c H locs 0 0 (MQ below (va_Qi (fun r S9 => wX D S0 S9 ∧ post r S9) (wB D cy X A) A) args s 0 0 A) (F0 m 30 ls []) := by
  obtain ⟨hx, hb, hml, hown, hts⟩ := id F
  have hwg : ∀ w ∈ WG, w.before args s = true := fun w h => hts w (List.mem_cons_of_mem _ h)
  intro S H locs ls hp hW hE hl
  unfold wp_X3_moveAt_30 at hp
  refine lv_iconst (v := 0) hx hb dX3_moveAt_30 (by decide) ?_
  exact t_X3_moveAt_31 F hr hlocks hK hp hW hE (lv_sub hl [] rfl)
set_option maxHeartbeats 4000000 in
set_option maxRecDepth 100000 in
theorem t_X3_moveAt_0 {p : Program} {l : Launch} {e : Env} {s : State} {m : MethodId} {args : Array Value} {below : List Frame} {meth : Method} {c : Code} {D : wD} {cy : Nat → ClassId} {X : va_W} {A : Nat → Prop} {S0 : wS} {post : Int32 → wS → Prop} (F : CallFix p m c cX3_moveAt 2 s args wz_X3_moveAt RX3) (hr : meth.sig.returnType = (some .int)) (hlocks : meth.locks = false) (hK : wK D cy A s) : ∀ {S : wS} {H : Heap} {locs : List Loc} {ls : Array Slot} {a0 : Nat} {x1 : Int32}, wp_X3_moveAt_0 D post S a0 x1 → wO D cy X A s.heap S H locs → wX D S0 S → lv_has ls 2 [(0, .ref a0), (1, .int x1)] → wM D S a0 → sK S a0 = 8 → W p l e r_X3_moveAt s m args below meth c H locs 0 0 (MQ below (va_Qi (fun r S9 => wX D S0 S9 ∧ post r S9) (wB D cy X A) A) args s 0 0 A) (F0 m 0 ls []) := by
  obtain ⟨hx, hb, hml, hown, hts⟩ := id F
  have hwg : ∀ w ∈ WG, w.before args s = true := fun w h => hts w (List.mem_cons_of_mem _ h)
  have i_8 : ∀ w ∈ u_ws RX3 TX3 9, w ∈ wz_X3_moveAt := fun w h => List.mem_cons_of_mem _ (wu_8 w h)
  have k_40 := hwg _ wf_RX3_40
  have k_9 := hwg _ wf_RX3_9
  intro S H locs ls a0 x1 hp hW hE hl hL_a0 hK_a0
  unfold wp_X3_moveAt_0 at hp
  refine lv_iload_n hx hb dX3_moveAt_0 rfl (lv_at hl 1 rfl) ?_
  refine lv_if_lt (tgt := 30) hx hb dX3_moveAt_1 (by decide) (fun c_1 => ?_) (fun c_1 => ?_)
  · replace hp := hp.1 c_1
    exact t_X3_moveAt_30 F hr hlocks hK hp hW hE (lv_sub hl [] rfl)
  · replace hp := hp.2 c_1
    refine lv_iload_n hx hb dX3_moveAt_4 rfl (lv_at hl 1 rfl) ?_
    refine lv_aload_n hx hb dX3_moveAt_5 rfl (lv_at hl 0 rfl) ?_
    refine w_get (k := 8) (f := 3) (T := TX3) (v := .int (sI S a0 3)) F hK hW hL_a0 hK_a0 (by decide) rfl rfl (by decide) i_8 k_9 rfl dX3_moveAt_6 ?_
    refine lv_icmp_ge (tgt := 30) hx hb dX3_moveAt_9 (by decide) (fun c_2 => ?_) (fun c_2 => ?_)
    · replace hp := hp.1 c_2
      exact t_X3_moveAt_30 F hr hlocks hK hp hW hE (lv_sub hl [] rfl)
    · replace hp := hp.2 c_2
      refine lv_iload_n hx hb dX3_moveAt_12 rfl (lv_at hl 1 rfl) ?_
      refine lv_aload_n hx hb dX3_moveAt_13 rfl (lv_at hl 0 rfl) ?_
      obtain ⟨y_3, ey_3, hL_y_3, hK_y_3, hp⟩ := hp
      refine w_get (k := 8) (f := 1) (T := TX3) (v := .ref y_3) F hK hW hL_a0 hK_a0 (by decide) rfl rfl (by decide) i_8 k_40 (by rw [show wv 8 1 S a0 = va_rf (sR S a0 1) from rfl, ey_3]; rfl) dX3_moveAt_14 ?_
      refine w_len F hK hW hL_y_3 hK_y_3 (by decide) dX3_moveAt_17 ?_
      refine lv_icmp_ge (tgt := 30) hx hb dX3_moveAt_18 (by decide) (fun c_4 => ?_) (fun c_4 => ?_)
      · replace hp := hp.1 c_4
        exact t_X3_moveAt_30 F hr hlocks hK hp hW hE (lv_sub hl [] rfl)
      · replace hp := hp.2 c_4
        refine lv_aload_n hx hb dX3_moveAt_21 rfl (lv_at hl 0 rfl) ?_
        obtain ⟨y_5, ey_5, hL_y_5, hK_y_5, hp⟩ := hp
        refine w_get (k := 8) (f := 1) (T := TX3) (v := .ref y_5) F hK hW hL_a0 hK_a0 (by decide) rfl rfl (by decide) i_8 k_40 (by rw [show wv 8 1 S a0 = va_rf (sR S a0 1) from rfl, ey_5]; rfl) dX3_moveAt_22 ?_
        refine lv_iload_n hx hb dX3_moveAt_25 rfl (lv_at hl 1 rfl) ?_
        obtain ⟨h_6, hp⟩ := hp
        refine w_ild F hK hW hL_y_5 hK_y_5 h_6 dX3_moveAt_26 ?_
        refine lv_goto (tgt := 31) hx hb dX3_moveAt_27 (by decide) ?_
        exact t_X3_moveAt_31 F hr hlocks hK hp hW hE (lv_sub hl [] rfl)
set_option maxHeartbeats 4000000 in
set_option maxRecDepth 100000 in
theorem c_X3_moveAt (l : Launch) {D : wD} {cy : Nat → ClassId} {X : va_W} {S0 : wS} {post : Int32 → wS → Prop} {a0 : Nat} {x1 : Int32} (hL_a0 : wM D S0 a0) (hK_a0 : sK S0 a0 = 8) (hp : wp_X3_moveAt D post S0 a0 x1) : mI D cy X l yX3_moveAt wz_X3_moveAt r_X3_moveAt [.ref a0, .int x1] S0 (fun r S9 => wX D S0 S9 ∧ post r S9) := by
  intro sz
  refine Met.ofW (cc := cX3_moveAt) (maxL := 2) (ret := (some .int)) (by decide) rfl ?_
  intro p e s m args below meth c s₁ B hml hv
  obtain ⟨rfl, hsz, hP, hK, hD0, hRO⟩ := hv
  have hts := atoms_spec (ws := wz_X3_moveAt) B.pre
  have hown : s.vm.findClass RX3 = some m.cls := findClass_of_methodNamed B.named
  subst hsz
  have hD := hD0.self (sz := s.heap.size)
  have F : CallFix p m c cX3_moveAt 2 s _ wz_X3_moveAt RX3 := ⟨B.exec, B.bytes, hml, hown, hts⟩
  have hr := B.returns
  have hlocks := B.notSynchronized
  generalize hAe : va_A (wL cy X S0) s.heap.size = A at hD hK ⊢
  have hA : ∀ q, s.heap.size ≤ q → A q := fun q h => by rw [← hAe]; exact Or.inr h
  have hW : wO D cy X A s.heap S0 s.heap [] := ⟨hP, hD, va_S.rf, hA, hRO⟩
  have hl := lv_entry ([.ref a0, .int x1]) (n := 2) (Nat.le_of_ble_eq_true rfl)
  rw [lg_entry_eq]
  generalize (lg_sl ([.ref a0, .int x1]) ++ List.replicate (2 - (lg_sl ([.ref a0, .int x1])).length) Slot.unset).toArray = ls at hl ⊢
  have hl : lv_has ls 2 [(0, .ref a0), (1, .int x1)] := hl
  unfold wp_X3_moveAt at hp
  exact t_X3_moveAt_0 F hr hlocks hK hp hW wX.rf (lv_sub hl [0, 1] rfl) hL_a0 hK_a0
def wp_X3_isLike_25 (D : wD) (post : Int32 → wS → Prop)  : Nat → wS → Nat → Nat → Int32 → Prop
  | 0, _, _, _, _ => False
  | n + 1, S, a0, a1, x2 =>
    (((sI S a0 3) ≤ x2 → narrow .boolean (.int (1 : Int32)) = .int (1 : Int32) ∧ post (1 : Int32) S) ∧
     (¬ (sI S a0 3) ≤ x2 → wp_X3_moveAt D (fun r_2 S_3 => 
    wp_X3_moveAt D (fun r_4 S_5 => 
    ((r_2 = r_4 → ∀ x_7 : Int32, x_7 = x2 + 1 →
    wp_X3_isLike_25 D post n S_5 a0 a1 x_7) ∧
     (¬ r_2 = r_4 → narrow .boolean (.int (0 : Int32)) = .int (0 : Int32) ∧ post (0 : Int32) S_5))) S_3 a1 x2) S a0 x2))
def wp_X3_isLike_21 (D : wD) (post : Int32 → wS → Prop)  (S : wS) : Prop :=
narrow .boolean (.int (0 : Int32)) = .int (0 : Int32) ∧ post (0 : Int32) S
def wp_X3_isLike_0 (D : wD) (post : Int32 → wS → Prop)  (S : wS) (a0 : Nat) (a1 : Nat) : Prop :=
((¬ (sI S a0 3) = (sI S a1 3) → wp_X3_isLike_21 D post S) ∧
 ((sI S a0 3) = (sI S a1 3) → wp_X3_isSameAt D (fun r_2 S_3 => 
((¬ r_2 = 0 → ∃ n_5 : Nat, wp_X3_isLike_25 D post n_5 S_3 a0 a1 (0 : Int32)) ∧
 (r_2 = 0 → wp_X3_isLike_21 D post S_3))) S a0 (0 : Int32) a1 (0 : Int32)))
abbrev r_X3_isLike : Room := { frames := 2, cells := 0, slots := 0, locals := 47 }
def wp_X3_isLike (D : wD) (post : Int32 → wS → Prop) (S : wS) (a0 : Nat) (a1 : Nat) : Prop := wp_X3_isLike_0 D post S a0 a1
set_option maxHeartbeats 4000000 in
set_option maxRecDepth 100000 in
theorem t_X3_isLike_25 {p : Program} {l : Launch} {e : Env} {s : State} {m : MethodId} {args : Array Value} {below : List Frame} {meth : Method} {c : Code} {D : wD} {cy : Nat → ClassId} {X : va_W} {A : Nat → Prop} {S0 : wS} {post : Int32 → wS → Prop} (F : CallFix p m c cX3_isLike 3 s args wz_X3_isLike RX3) (hr : meth.sig.returnType = (some .boolean)) (hlocks : meth.locks = false) (hK : wK D cy A s) : ∀ (n : Nat) {S : wS} {H : Heap} {locs : List Loc} {ls : Array Slot} {a0 : Nat} {a1 : Nat} {x2 : Int32}, wp_X3_isLike_25 D post n S a0 a1 x2 → wO D cy X A s.heap S H locs → wX D S0 S → lv_has ls 3 [(0, .ref a0), (1, .ref a1), (2, .int x2)] → wM D S a0 → sK S a0 = 8 → wM D S a1 → sK S a1 = 8 → W p l e r_X3_isLike s m args below meth c H locs 0 0 (MQ below (va_Qi (fun r S9 => wX D S0 S9 ∧ post r S9) (wB D cy X A) A) args s 0 0 A) (F0 m 25 ls []) := by
  obtain ⟨hx, hb, hml, hown, hts⟩ := id F
  have hwg : ∀ w ∈ WG, w.before args s = true := fun w h => hts w (List.mem_cons_of_mem _ h)
  have i_8 : ∀ w ∈ u_ws RX3 TX3 9, w ∈ wz_X3_isLike := fun w h => List.mem_cons_of_mem _ (wu_8 w h)
  have k_9 := hwg _ wf_RX3_9
  intro n
  induction n with
  | zero =>
    intro S H locs ls a0 a1 x2 hp
    exact hp.elim
  | succ n ih =>
    intro S H locs ls a0 a1 x2 hp hW hE hl hL_a0 hK_a0 hL_a1 hK_a1
    unfold wp_X3_isLike_25 at hp
    refine lv_iload_n hx hb dX3_isLike_25 rfl (lv_at hl 2 rfl) ?_
    refine lv_aload_n hx hb dX3_isLike_26 rfl (lv_at hl 0 rfl) ?_
    refine w_get (k := 8) (f := 3) (T := TX3) (v := .int (sI S a0 3)) F hK hW hL_a0 hK_a0 (by decide) rfl rfl (by decide) i_8 k_9 rfl dX3_isLike_27 ?_
    refine lv_icmp_ge (tgt := 54) hx hb dX3_isLike_30 (by decide) (fun c_1 => ?_) (fun c_1 => ?_)
    · replace hp := hp.1 c_1
      refine lv_iconst (v := 1) hx hb dX3_isLike_54 (by decide) ?_
      exact w_zret hx hb hr hlocks hW hp.1 ⟨hE, hp.2⟩ dX3_isLike_55
    · replace hp := hp.2 c_1
      refine lv_aload_n hx hb dX3_isLike_33 rfl (lv_at hl 0 rfl) ?_
      refine lv_iload_n hx hb dX3_isLike_34 rfl (lv_at hl 2 rfl) ?_
      refine w_callI (va_runV (As := [.int x2]) (rest := []) F (c_X3_moveAt l hL_a0 hK_a0 hp H.size) (cwV (C := RX3) 1 hts (wg_V wm_RX3_69 wy_X3_moveAt) rfl rfl rfl (by decide +kernel) ⟨Nat.le_of_ble_eq_true rfl, Nat.le_of_ble_eq_true rfl⟩) (w_preV hK hW hL_a0 hK_a0 (by decide) rfl) rfl rfl hl.1 rfl (lv_room (Nat.le_of_ble_eq_true rfl)) dX3_isLike_35 ⟨Nat.le_of_ble_eq_true rfl, Nat.le_of_ble_eq_true rfl⟩) hW (fun r_2 S_3 H locs hp hW => ?_)
      obtain ⟨hX_S_3, hp⟩ := hp
      refine W.widen (k := 0) (n := 0) (by decide) (by decide) ?_
      have hE := hE.trans hX_S_3
      have hK_a0 : sK S_3 a0 = 8 := (hX_S_3.2 a0 hL_a0).1.trans hK_a0
      have hL_a0 : wM D S_3 a0 := hX_S_3.M hL_a0
      have hK_a1 : sK S_3 a1 = 8 := (hX_S_3.2 a1 hL_a1).1.trans hK_a1
      have hL_a1 : wM D S_3 a1 := hX_S_3.M hL_a1
      refine lv_aload_n hx hb dX3_isLike_38 rfl (lv_at hl 1 rfl) ?_
      refine lv_iload_n hx hb dX3_isLike_39 rfl (lv_at hl 2 rfl) ?_
      refine w_callI (va_runV (As := [.int x2]) (rest := [.int r_2]) F (c_X3_moveAt l hL_a1 hK_a1 hp H.size) (cwV (C := RX3) 1 hts (wg_V wm_RX3_69 wy_X3_moveAt) rfl rfl rfl (by decide +kernel) ⟨Nat.le_of_ble_eq_true rfl, Nat.le_of_ble_eq_true rfl⟩) (w_preV hK hW hL_a1 hK_a1 (by decide) rfl) rfl rfl hl.1 rfl (lv_room (Nat.le_of_ble_eq_true rfl)) dX3_isLike_40 ⟨Nat.le_of_ble_eq_true rfl, Nat.le_of_ble_eq_true rfl⟩) hW (fun r_4 S_5 H locs hp hW => ?_)
      obtain ⟨hX_S_5, hp⟩ := hp
      refine W.widen (k := 0) (n := 0) (by decide) (by decide) ?_
      have hE := hE.trans hX_S_5
      have hK_a0 : sK S_5 a0 = 8 := (hX_S_5.2 a0 hL_a0).1.trans hK_a0
      have hL_a0 : wM D S_5 a0 := hX_S_5.M hL_a0
      have hK_a1 : sK S_5 a1 = 8 := (hX_S_5.2 a1 hL_a1).1.trans hK_a1
      have hL_a1 : wM D S_5 a1 := hX_S_5.M hL_a1
      refine lv_icmp_eq (tgt := 48) hx hb dX3_isLike_43 (by decide) (fun c_6 => ?_) (fun c_6 => ?_)
      · replace hp := hp.1 c_6
        obtain ⟨x_7, ex_7⟩ : ∃ z : Int32, z = x2 + 1 := ⟨_, rfl⟩
        replace hp := hp x_7 ex_7
        refine lv_iinc (v := x_7) (lv' := [(2, .int x_7), (0, .ref a0), (1, .ref a1)]) hx hb dX3_isLike_48 hl (k := 2) rfl (by rw [ex_7]; rfl) (by decide) rfl (fun ls hl => ?_)
        refine lv_goto (tgt := 25) hx hb dX3_isLike_51 (by decide) ?_
        exact ih hp hW hE (lv_sub hl [1, 2, 0] rfl) hL_a0 hK_a0 hL_a1 hK_a1
      · replace hp := hp.2 c_6
        refine lv_iconst (v := 0) hx hb dX3_isLike_46 (by decide) ?_
        exact w_zret hx hb hr hlocks hW hp.1 ⟨hE, hp.2⟩ dX3_isLike_47
set_option maxHeartbeats 4000000 in
set_option maxRecDepth 100000 in
theorem t_X3_isLike_21 {p : Program} {l : Launch} {e : Env} {s : State} {m : MethodId} {args : Array Value} {below : List Frame} {meth : Method} {c : Code} {D : wD} {cy : Nat → ClassId} {X : va_W} {A : Nat → Prop} {S0 : wS} {post : Int32 → wS → Prop} (F : CallFix p m c cX3_isLike 3 s args wz_X3_isLike RX3) (hr : meth.sig.returnType = (some .boolean)) (hlocks : meth.locks = false) (hK : wK D cy A s) : ∀ {S : wS} {H : Heap} {locs : List Loc} {ls : Array Slot}, wp_X3_isLike_21 D post S → wO D cy X A s.heap S H locs → wX D S0 S → lv_has ls 3 [] → W p l e r_X3_isLike s m args below meth c H locs 0 0 (MQ below (va_Qi (fun r S9 => wX D S0 S9 ∧ post r S9) (wB D cy X A) A) args s 0 0 A) (F0 m 21 ls []) := by
  obtain ⟨hx, hb, hml, hown, hts⟩ := id F
  have hwg : ∀ w ∈ WG, w.before args s = true := fun w h => hts w (List.mem_cons_of_mem _ h)
  intro S H locs ls hp hW hE hl
  unfold wp_X3_isLike_21 at hp
  refine lv_iconst (v := 0) hx hb dX3_isLike_21 (by decide) ?_
  exact w_zret hx hb hr hlocks hW hp.1 ⟨hE, hp.2⟩ dX3_isLike_22
set_option maxHeartbeats 4000000 in
set_option maxRecDepth 100000 in
theorem t_X3_isLike_0 {p : Program} {l : Launch} {e : Env} {s : State} {m : MethodId} {args : Array Value} {below : List Frame} {meth : Method} {c : Code} {D : wD} {cy : Nat → ClassId} {X : va_W} {A : Nat → Prop} {S0 : wS} {post : Int32 → wS → Prop} (F : CallFix p m c cX3_isLike 3 s args wz_X3_isLike RX3) (hr : meth.sig.returnType = (some .boolean)) (hlocks : meth.locks = false) (hK : wK D cy A s) : ∀ {S : wS} {H : Heap} {locs : List Loc} {ls : Array Slot} {a0 : Nat} {a1 : Nat}, wp_X3_isLike_0 D post S a0 a1 → wO D cy X A s.heap S H locs → wX D S0 S → lv_has ls 3 [(0, .ref a0), (1, .ref a1)] → wM D S a0 → sK S a0 = 8 → wM D S a1 → sK S a1 = 8 → W p l e r_X3_isLike s m args below meth c H locs 0 0 (MQ below (va_Qi (fun r S9 => wX D S0 S9 ∧ post r S9) (wB D cy X A) A) args s 0 0 A) (F0 m 0 ls []) := by
  obtain ⟨hx, hb, hml, hown, hts⟩ := id F
  have hwg : ∀ w ∈ WG, w.before args s = true := fun w h => hts w (List.mem_cons_of_mem _ h)
  have i_8 : ∀ w ∈ u_ws RX3 TX3 9, w ∈ wz_X3_isLike := fun w h => List.mem_cons_of_mem _ (wu_8 w h)
  have k_9 := hwg _ wf_RX3_9
  intro S H locs ls a0 a1 hp hW hE hl hL_a0 hK_a0 hL_a1 hK_a1
  unfold wp_X3_isLike_0 at hp
  refine lv_aload_n hx hb dX3_isLike_0 rfl (lv_at hl 0 rfl) ?_
  refine w_get (k := 8) (f := 3) (T := TX3) (v := .int (sI S a0 3)) F hK hW hL_a0 hK_a0 (by decide) rfl rfl (by decide) i_8 k_9 rfl dX3_isLike_1 ?_
  refine lv_aload_n hx hb dX3_isLike_4 rfl (lv_at hl 1 rfl) ?_
  refine w_get (k := 8) (f := 3) (T := TX3) (v := .int (sI S a1 3)) F hK hW hL_a1 hK_a1 (by decide) rfl rfl (by decide) i_8 k_9 rfl dX3_isLike_5 ?_
  refine lv_icmp_ne (tgt := 21) hx hb dX3_isLike_8 (by decide) (fun c_1 => ?_) (fun c_1 => ?_)
  · replace hp := hp.1 c_1
    exact t_X3_isLike_21 F hr hlocks hK hp hW hE (lv_sub hl [] rfl)
  · replace hp := hp.2 c_1
    refine lv_aload_n hx hb dX3_isLike_11 rfl (lv_at hl 0 rfl) ?_
    refine lv_iconst (v := 0) hx hb dX3_isLike_12 (by decide) ?_
    refine lv_aload_n hx hb dX3_isLike_13 rfl (lv_at hl 1 rfl) ?_
    refine lv_iconst (v := 0) hx hb dX3_isLike_14 (by decide) ?_
    refine w_callI (va_runV (As := [.int (0 : Int32), .ref a1, .int (0 : Int32)]) (rest := []) F (c_X3_isSameAt l hL_a0 hK_a0 hL_a1 hK_a1 hp H.size) (cwV (C := RX3) 3 hts (wg_V wm_RX3_89 wy_X3_isSameAt) rfl rfl rfl (by decide +kernel) ⟨Nat.le_of_ble_eq_true rfl, Nat.le_of_ble_eq_true rfl⟩) (w_preV hK hW hL_a0 hK_a0 (by decide) rfl) rfl rfl hl.1 rfl (lv_room (Nat.le_of_ble_eq_true rfl)) dX3_isLike_15 ⟨Nat.le_of_ble_eq_true rfl, Nat.le_of_ble_eq_true rfl⟩) hW (fun r_2 S_3 H locs hp hW => ?_)
    obtain ⟨hX_S_3, hp⟩ := hp
    refine W.widen (k := 0) (n := 0) (by decide) (by decide) ?_
    have hE := hE.trans hX_S_3
    have hK_a0 : sK S_3 a0 = 8 := (hX_S_3.2 a0 hL_a0).1.trans hK_a0
    have hL_a0 : wM D S_3 a0 := hX_S_3.M hL_a0
    have hK_a1 : sK S_3 a1 = 8 := (hX_S_3.2 a1 hL_a1).1.trans hK_a1
    have hL_a1 : wM D S_3 a1 := hX_S_3.M hL_a1
    refine lv_if_ne (tgt := 23) hx hb dX3_isLike_18 (by decide) (fun c_4 => ?_) (fun c_4 => ?_)
    · replace hp := hp.1 c_4
      refine lv_iconst (v := 0) hx hb dX3_isLike_23 (by decide) ?_
      refine lv_istore_n (lv' := [(2, .int (0 : Int32)), (0, .ref a0), (1, .ref a1)]) hx hb dX3_isLike_24 rfl hl (by decide) rfl (fun ls hl => ?_)
      obtain ⟨n_5, hp⟩ := hp
      exact t_X3_isLike_25 F hr hlocks hK n_5 hp hW hE (lv_sub hl [1, 2, 0] rfl) hL_a0 hK_a0 hL_a1 hK_a1
    · replace hp := hp.2 c_4
      exact t_X3_isLike_21 F hr hlocks hK hp hW hE (lv_sub hl [] rfl)
set_option maxHeartbeats 4000000 in
set_option maxRecDepth 100000 in
theorem c_X3_isLike (l : Launch) {D : wD} {cy : Nat → ClassId} {X : va_W} {S0 : wS} {post : Int32 → wS → Prop} {a0 : Nat} {a1 : Nat} (hL_a0 : wM D S0 a0) (hK_a0 : sK S0 a0 = 8) (hL_a1 : wM D S0 a1) (hK_a1 : sK S0 a1 = 8) (hp : wp_X3_isLike D post S0 a0 a1) : mI D cy X l yX3_isLike wz_X3_isLike r_X3_isLike [.ref a0, .ref a1] S0 (fun r S9 => wX D S0 S9 ∧ post r S9) := by
  intro sz
  refine Met.ofW (cc := cX3_isLike) (maxL := 3) (ret := (some .boolean)) (by decide) rfl ?_
  intro p e s m args below meth c s₁ B hml hv
  obtain ⟨rfl, hsz, hP, hK, hD0, hRO⟩ := hv
  have hts := atoms_spec (ws := wz_X3_isLike) B.pre
  have hown : s.vm.findClass RX3 = some m.cls := findClass_of_methodNamed B.named
  subst hsz
  have hD := hD0.self (sz := s.heap.size)
  have F : CallFix p m c cX3_isLike 3 s _ wz_X3_isLike RX3 := ⟨B.exec, B.bytes, hml, hown, hts⟩
  have hr := B.returns
  have hlocks := B.notSynchronized
  generalize hAe : va_A (wL cy X S0) s.heap.size = A at hD hK ⊢
  have hA : ∀ q, s.heap.size ≤ q → A q := fun q h => by rw [← hAe]; exact Or.inr h
  have hW : wO D cy X A s.heap S0 s.heap [] := ⟨hP, hD, va_S.rf, hA, hRO⟩
  have hl := lv_entry ([.ref a0, .ref a1]) (n := 3) (Nat.le_of_ble_eq_true rfl)
  rw [lg_entry_eq]
  generalize (lg_sl ([.ref a0, .ref a1]) ++ List.replicate (3 - (lg_sl ([.ref a0, .ref a1])).length) Slot.unset).toArray = ls at hl ⊢
  have hl : lv_has ls 3 [(0, .ref a0), (1, .ref a1)] := hl
  unfold wp_X3_isLike at hp
  exact t_X3_isLike_0 F hr hlocks hK hp hW wX.rf (lv_sub hl [0, 1] rfl) hL_a0 hK_a0 hL_a1 hK_a1
def wp_X7_rest_12 (D : wD) (post : Int64 → wS → Prop)  (S : wS) (a0 : Nat) (t0 : Int32) : Prop :=
post ((Int32.toInt64 (t0 + ((sI S a0 6) * (2 : Int32)))) + ((Int32.toInt64 ((sI S a0 7) + (1 : Int32))) * (32 : Int64))) S
def wp_X7_rest_0 (D : wD) (post : Int64 → wS → Prop)  (S : wS) (a0 : Nat) : Prop :=
(((sI S a0 5) = 0 → wp_X7_rest_12 D post S a0 (0 : Int32)) ∧
 (¬ (sI S a0 5) = 0 → wp_X7_rest_12 D post S a0 (1 : Int32)))
abbrev r_X7_rest : Room := { frames := 0, cells := 0, slots := 0, locals := 0 }
def wp_X7_rest (D : wD) (post : Int64 → wS → Prop) (S : wS) (a0 : Nat) : Prop := wp_X7_rest_0 D post S a0
set_option maxHeartbeats 4000000 in
set_option maxRecDepth 100000 in
theorem t_X7_rest_12 {p : Program} {l : Launch} {e : Env} {s : State} {m : MethodId} {args : Array Value} {below : List Frame} {meth : Method} {c : Code} {D : wD} {cy : Nat → ClassId} {X : va_W} {A : Nat → Prop} {S0 : wS} {post : Int64 → wS → Prop} (F : CallFix p m c cX7_rest 1 s args wz_X7_rest RX7) (hr : meth.sig.returnType = (some .long)) (hlocks : meth.locks = false) (hK : wK D cy A s) : ∀ {S : wS} {H : Heap} {locs : List Loc} {ls : Array Slot} {a0 : Nat} {t0 : Int32}, wp_X7_rest_12 D post S a0 t0 → wO D cy X A s.heap S H locs → wX D S0 S → lv_has ls 1 [(0, .ref a0)] → wM D S a0 → sK S a0 = 12 → W p l e r_X7_rest s m args below meth c H locs 0 0 (MQ below (va_Ql (fun r S9 => wX D S0 S9 ∧ post r S9) (wB D cy X A) A) args s 0 0 A) (F0 m 12 ls [.int t0]) := by
  obtain ⟨hx, hb, hml, hown, hts⟩ := id F
  have hwg : ∀ w ∈ WG, w.before args s = true := fun w h => hts w (List.mem_cons_of_mem _ h)
  have i_12 : ∀ w ∈ u_ws RX7 TX7 8, w ∈ wz_X7_rest := fun w h => List.mem_cons_of_mem _ (wu_12 w h)
  have k_28 := hwg _ wf_RX7_28
  have k_32 := hwg _ wf_RX7_32
  intro S H locs ls a0 t0 hp hW hE hl hL_a0 hK_a0
  unfold wp_X7_rest_12 at hp
  refine lv_aload_n hx hb dX7_rest_12 rfl (lv_at hl 0 rfl) ?_
  refine w_get (k := 12) (f := 6) (T := TX7) (v := .int (sI S a0 6)) F hK hW hL_a0 hK_a0 (by decide) rfl rfl (by decide) i_12 k_28 rfl dX7_rest_13 ?_
  refine lv_iconst (v := 2) hx hb dX7_rest_16 (by decide) ?_
  refine lv_imul hx hb dX7_rest_17 ?_
  refine lv_iadd hx hb dX7_rest_18 ?_
  refine lv_i2l (v := (Int32.toInt64 (t0 + ((sI S a0 6) * (2 : Int32))))) hx hb dX7_rest_19 rfl ?_
  refine lv_aload_n hx hb dX7_rest_20 rfl (lv_at hl 0 rfl) ?_
  refine w_get (k := 12) (f := 7) (T := TX7) (v := .int (sI S a0 7)) F hK hW hL_a0 hK_a0 (by decide) rfl rfl (by decide) i_12 k_32 rfl dX7_rest_21 ?_
  refine lv_iconst (v := 1) hx hb dX7_rest_24 (by decide) ?_
  refine lv_iadd hx hb dX7_rest_25 ?_
  refine lv_i2l (v := (Int32.toInt64 ((sI S a0 7) + (1 : Int32)))) hx hb dX7_rest_26 rfl ?_
  refine lv_ldc2 (v := 32) hx hb hown (hwg _ wJ_RX7_68) dX7_rest_27 ?_
  refine lv_lmul hx hb dX7_rest_30 ?_
  refine lv_ladd hx hb dX7_rest_31 ?_
  exact w_lret hx hb hr hlocks hW ⟨hE, hp⟩ dX7_rest_32
set_option maxHeartbeats 4000000 in
set_option maxRecDepth 100000 in
theorem t_X7_rest_0 {p : Program} {l : Launch} {e : Env} {s : State} {m : MethodId} {args : Array Value} {below : List Frame} {meth : Method} {c : Code} {D : wD} {cy : Nat → ClassId} {X : va_W} {A : Nat → Prop} {S0 : wS} {post : Int64 → wS → Prop} (F : CallFix p m c cX7_rest 1 s args wz_X7_rest RX7) (hr : meth.sig.returnType = (some .long)) (hlocks : meth.locks = false) (hK : wK D cy A s) : ∀ {S : wS} {H : Heap} {locs : List Loc} {ls : Array Slot} {a0 : Nat}, wp_X7_rest_0 D post S a0 → wO D cy X A s.heap S H locs → wX D S0 S → lv_has ls 1 [(0, .ref a0)] → wM D S a0 → sK S a0 = 12 → W p l e r_X7_rest s m args below meth c H locs 0 0 (MQ below (va_Ql (fun r S9 => wX D S0 S9 ∧ post r S9) (wB D cy X A) A) args s 0 0 A) (F0 m 0 ls []) := by
  obtain ⟨hx, hb, hml, hown, hts⟩ := id F
  have hwg : ∀ w ∈ WG, w.before args s = true := fun w h => hts w (List.mem_cons_of_mem _ h)
  have i_12 : ∀ w ∈ u_ws RX7 TX7 8, w ∈ wz_X7_rest := fun w h => List.mem_cons_of_mem _ (wu_12 w h)
  have k_24 := hwg _ wf_RX7_24
  intro S H locs ls a0 hp hW hE hl hL_a0 hK_a0
  unfold wp_X7_rest_0 at hp
  refine lv_aload_n hx hb dX7_rest_0 rfl (lv_at hl 0 rfl) ?_
  refine w_get (k := 12) (f := 5) (T := TX7) (v := .int (sI S a0 5)) F hK hW hL_a0 hK_a0 (by decide) rfl rfl (by decide) i_12 k_24 rfl dX7_rest_1 ?_
  refine lv_if_eq (tgt := 11) hx hb dX7_rest_4 (by decide) (fun c_1 => ?_) (fun c_1 => ?_)
  · replace hp := hp.1 c_1
    refine lv_iconst (v := 0) hx hb dX7_rest_11 (by decide) ?_
    exact t_X7_rest_12 F hr hlocks hK hp hW hE (lv_sub hl [0] rfl) hL_a0 hK_a0
  · replace hp := hp.2 c_1
    refine lv_iconst (v := 1) hx hb dX7_rest_7 (by decide) ?_
    refine lv_goto (tgt := 12) hx hb dX7_rest_8 (by decide) ?_
    exact t_X7_rest_12 F hr hlocks hK hp hW hE (lv_sub hl [0] rfl) hL_a0 hK_a0
set_option maxHeartbeats 4000000 in
set_option maxRecDepth 100000 in
theorem c_X7_rest (l : Launch) {D : wD} {cy : Nat → ClassId} {X : va_W} {S0 : wS} {post : Int64 → wS → Prop} {a0 : Nat} (hL_a0 : wM D S0 a0) (hK_a0 : sK S0 a0 = 12) (hp : wp_X7_rest D post S0 a0) : mJ D cy X l yX7_rest wz_X7_rest r_X7_rest [.ref a0] S0 (fun r S9 => wX D S0 S9 ∧ post r S9) := by
  intro sz
  refine Met.ofW (cc := cX7_rest) (maxL := 1) (ret := (some .long)) (by decide) rfl ?_
  intro p e s m args below meth c s₁ B hml hv
  obtain ⟨rfl, hsz, hP, hK, hD0, hRO⟩ := hv
  have hts := atoms_spec (ws := wz_X7_rest) B.pre
  have hown : s.vm.findClass RX7 = some m.cls := findClass_of_methodNamed B.named
  subst hsz
  have hD := hD0.self (sz := s.heap.size)
  have F : CallFix p m c cX7_rest 1 s _ wz_X7_rest RX7 := ⟨B.exec, B.bytes, hml, hown, hts⟩
  have hr := B.returns
  have hlocks := B.notSynchronized
  generalize hAe : va_A (wL cy X S0) s.heap.size = A at hD hK ⊢
  have hA : ∀ q, s.heap.size ≤ q → A q := fun q h => by rw [← hAe]; exact Or.inr h
  have hW : wO D cy X A s.heap S0 s.heap [] := ⟨hP, hD, va_S.rf, hA, hRO⟩
  have hl := lv_entry ([.ref a0]) (n := 1) (Nat.le_of_ble_eq_true rfl)
  rw [lg_entry_eq]
  generalize (lg_sl ([.ref a0]) ++ List.replicate (1 - (lg_sl ([.ref a0])).length) Slot.unset).toArray = ls at hl ⊢
  have hl : lv_has ls 1 [(0, .ref a0)] := hl
  unfold wp_X7_rest at hp
  exact t_X7_rest_0 F hr hlocks hK hp hW wX.rf (lv_sub hl [0] rfl) hL_a0 hK_a0
def wp_X7_isSavedAt_90 (D : wD) (post : Int32 → wS → Prop)  (S : wS) (t0 : Int32) : Prop :=
narrow .boolean (.int t0) = .int t0 ∧ post t0 S
def wp_X7_isSavedAt_89 (D : wD) (post : Int32 → wS → Prop)  (S : wS) : Prop :=
wp_X7_isSavedAt_90 D post S (0 : Int32)
def wp_X7_isSavedAt_20 (D : wD) (post : Int32 → wS → Prop)  (S : wS) : Prop :=
narrow .boolean (.int (0 : Int32)) = .int (0 : Int32) ∧ post (0 : Int32) S
def wp_X7_isSavedAt_0 (D : wD) (post : Int32 → wS → Prop)  (S : wS) (a0 : Nat) (a1 : Nat) (x2 : Int32) : Prop :=
∀ x_1 : Int32, x_1 = (x2 * (5 : Int32)) →
((x2 < 0 → wp_X7_isSavedAt_20 D post S) ∧
 (¬ x2 < 0 → ((x_1 < 0 → wp_X7_isSavedAt_20 D post S) ∧
 (¬ x_1 < 0 → (((x_1 + (5 : Int32)) ≤ (Int32.ofNat (sN S a1)) → vp_in x_1 (sN S a1) ∧
((¬ (lg_cmp (sJ S a1 (x_1).toNatClampNeg) (sJ S a0 1)) = 0 → wp_X7_isSavedAt_89 D post S) ∧
 ((lg_cmp (sJ S a1 (x_1).toNatClampNeg) (sJ S a0 1)) = 0 → vp_in (x_1 + (1 : Int32)) (sN S a1) ∧
((¬ (lg_cmp (sJ S a1 ((x_1 + (1 : Int32))).toNatClampNeg) (sJ S a0 2)) = 0 → wp_X7_isSavedAt_89 D post S) ∧
 ((lg_cmp (sJ S a1 ((x_1 + (1 : Int32))).toNatClampNeg) (sJ S a0 2)) = 0 → vp_in (x_1 + (2 : Int32)) (sN S a1) ∧
((¬ (lg_cmp (sJ S a1 ((x_1 + (2 : Int32))).toNatClampNeg) (sJ S a0 3)) = 0 → wp_X7_isSavedAt_89 D post S) ∧
 ((lg_cmp (sJ S a1 ((x_1 + (2 : Int32))).toNatClampNeg) (sJ S a0 3)) = 0 → vp_in (x_1 + (3 : Int32)) (sN S a1) ∧
((¬ (lg_cmp (sJ S a1 ((x_1 + (3 : Int32))).toNatClampNeg) (sJ S a0 4)) = 0 → wp_X7_isSavedAt_89 D post S) ∧
 ((lg_cmp (sJ S a1 ((x_1 + (3 : Int32))).toNatClampNeg) (sJ S a0 4)) = 0 → vp_in (x_1 + (4 : Int32)) (sN S a1) ∧
wp_X7_rest D (fun r_14 S_15 => 
((¬ (lg_cmp (sJ S a1 ((x_1 + (4 : Int32))).toNatClampNeg) r_14) = 0 → wp_X7_isSavedAt_89 D post S_15) ∧
 ((lg_cmp (sJ S a1 ((x_1 + (4 : Int32))).toNatClampNeg) r_14) = 0 → wp_X7_isSavedAt_90 D post S_15 (1 : Int32)))) S a0))))))))) ∧
 (¬ (x_1 + (5 : Int32)) ≤ (Int32.ofNat (sN S a1)) → wp_X7_isSavedAt_20 D post S))))))
abbrev r_X7_isSavedAt : Room := { frames := 1, cells := 0, slots := 0, locals := 20 }
def wp_X7_isSavedAt (D : wD) (post : Int32 → wS → Prop) (S : wS) (a0 : Nat) (a1 : Nat) (x2 : Int32) : Prop := wp_X7_isSavedAt_0 D post S a0 a1 x2
set_option maxHeartbeats 4000000 in
set_option maxRecDepth 100000 in
theorem t_X7_isSavedAt_90 {p : Program} {l : Launch} {e : Env} {s : State} {m : MethodId} {args : Array Value} {below : List Frame} {meth : Method} {c : Code} {D : wD} {cy : Nat → ClassId} {X : va_W} {A : Nat → Prop} {S0 : wS} {post : Int32 → wS → Prop} (F : CallFix p m c cX7_isSavedAt 4 s args wz_X7_isSavedAt RX7) (hr : meth.sig.returnType = (some .boolean)) (hlocks : meth.locks = false) (hK : wK D cy A s) : ∀ {S : wS} {H : Heap} {locs : List Loc} {ls : Array Slot} {t0 : Int32}, wp_X7_isSavedAt_90 D post S t0 → wO D cy X A s.heap S H locs → wX D S0 S → lv_has ls 4 [] → W p l e r_X7_isSavedAt s m args below meth c H locs 0 0 (MQ below (va_Qi (fun r S9 => wX D S0 S9 ∧ post r S9) (wB D cy X A) A) args s 0 0 A) (F0 m 90 ls [.int t0]) := by
  obtain ⟨hx, hb, hml, hown, hts⟩ := id F
  have hwg : ∀ w ∈ WG, w.before args s = true := fun w h => hts w (List.mem_cons_of_mem _ h)
  intro S H locs ls t0 hp hW hE hl
  unfold wp_X7_isSavedAt_90 at hp
  exact w_zret hx hb hr hlocks hW hp.1 ⟨hE, hp.2⟩ dX7_isSavedAt_90
set_option maxHeartbeats 4000000 in
set_option maxRecDepth 100000 in
theorem t_X7_isSavedAt_89 {p : Program} {l : Launch} {e : Env} {s : State} {m : MethodId} {args : Array Value} {below : List Frame} {meth : Method} {c : Code} {D : wD} {cy : Nat → ClassId} {X : va_W} {A : Nat → Prop} {S0 : wS} {post : Int32 → wS → Prop} (F : CallFix p m c cX7_isSavedAt 4 s args wz_X7_isSavedAt RX7) (hr : meth.sig.returnType = (some .boolean)) (hlocks : meth.locks = false) (hK : wK D cy A s) : ∀ {S : wS} {H : Heap} {locs : List Loc} {ls : Array Slot}, wp_X7_isSavedAt_89 D post S → wO D cy X A s.heap S H locs → wX D S0 S → lv_has ls 4 [] → W p l e r_X7_isSavedAt s m args below meth c H locs 0 0 (MQ below (va_Qi (fun r S9 => wX D S0 S9 ∧ post r S9) (wB D cy X A) A) args s 0 0 A) (F0 m 89 ls []) := by
  obtain ⟨hx, hb, hml, hown, hts⟩ := id F
  have hwg : ∀ w ∈ WG, w.before args s = true := fun w h => hts w (List.mem_cons_of_mem _ h)
  intro S H locs ls hp hW hE hl
  unfold wp_X7_isSavedAt_89 at hp
  refine lv_iconst (v := 0) hx hb dX7_isSavedAt_89 (by decide) ?_
  exact t_X7_isSavedAt_90 F hr hlocks hK hp hW hE (lv_sub hl [] rfl)
set_option maxHeartbeats 4000000 in
set_option maxRecDepth 100000 in
theorem t_X7_isSavedAt_20 {p : Program} {l : Launch} {e : Env} {s : State} {m : MethodId} {args : Array Value} {below : List Frame} {meth : Method} {c : Code} {D : wD} {cy : Nat → ClassId} {X : va_W} {A : Nat → Prop} {S0 : wS} {post : Int32 → wS → Prop} (F : CallFix p m c cX7_isSavedAt 4 s args wz_X7_isSavedAt RX7) (hr : meth.sig.returnType = (some .boolean)) (hlocks : meth.locks = false) (hK : wK D cy A s) : ∀ {S : wS} {H : Heap} {locs : List Loc} {ls : Array Slot}, wp_X7_isSavedAt_20 D post S → wO D cy X A s.heap S H locs → wX D S0 S → lv_has ls 4 [] → W p l e r_X7_isSavedAt s m args below meth c H locs 0 0 (MQ below (va_Qi (fun r S9 => wX D S0 S9 ∧ post r S9) (wB D cy X A) A) args s 0 0 A) (F0 m 20 ls []) := by
  obtain ⟨hx, hb, hml, hown, hts⟩ := id F
  have hwg : ∀ w ∈ WG, w.before args s = true := fun w h => hts w (List.mem_cons_of_mem _ h)
  intro S H locs ls hp hW hE hl
  unfold wp_X7_isSavedAt_20 at hp
  refine lv_iconst (v := 0) hx hb dX7_isSavedAt_20 (by decide) ?_
  exact w_zret hx hb hr hlocks hW hp.1 ⟨hE, hp.2⟩ dX7_isSavedAt_21
set_option maxHeartbeats 4000000 in
set_option maxRecDepth 100000 in
theorem t_X7_isSavedAt_0 {p : Program} {l : Launch} {e : Env} {s : State} {m : MethodId} {args : Array Value} {below : List Frame} {meth : Method} {c : Code} {D : wD} {cy : Nat → ClassId} {X : va_W} {A : Nat → Prop} {S0 : wS} {post : Int32 → wS → Prop} (F : CallFix p m c cX7_isSavedAt 4 s args wz_X7_isSavedAt RX7) (hr : meth.sig.returnType = (some .boolean)) (hlocks : meth.locks = false) (hK : wK D cy A s) : ∀ {S : wS} {H : Heap} {locs : List Loc} {ls : Array Slot} {a0 : Nat} {a1 : Nat} {x2 : Int32}, wp_X7_isSavedAt_0 D post S a0 a1 x2 → wO D cy X A s.heap S H locs → wX D S0 S → lv_has ls 4 [(0, .ref a0), (1, .ref a1), (2, .int x2)] → wM D S a0 → sK S a0 = 12 → wM D S a1 → sK S a1 = 22 → W p l e r_X7_isSavedAt s m args below meth c H locs 0 0 (MQ below (va_Qi (fun r S9 => wX D S0 S9 ∧ post r S9) (wB D cy X A) A) args s 0 0 A) (F0 m 0 ls []) := by
  obtain ⟨hx, hb, hml, hown, hts⟩ := id F
  have hwg : ∀ w ∈ WG, w.before args s = true := fun w h => hts w (List.mem_cons_of_mem _ h)
  have i_12 : ∀ w ∈ u_ws RX7 TX7 8, w ∈ wz_X7_isSavedAt := fun w h => List.mem_cons_of_mem _ (wu_12 w h)
  have k_15 := hwg _ wf_RX7_15
  have k_18 := hwg _ wf_RX7_18
  have k_21 := hwg _ wf_RX7_21
  have k_9 := hwg _ wf_RX7_9
  intro S H locs ls a0 a1 x2 hp hW hE hl hL_a0 hK_a0 hL_a1 hK_a1
  unfold wp_X7_isSavedAt_0 at hp
  refine lv_iload_n hx hb dX7_isSavedAt_0 rfl (lv_at hl 2 rfl) ?_
  refine lv_iconst (v := 5) hx hb dX7_isSavedAt_1 (by decide) ?_
  refine lv_imul hx hb dX7_isSavedAt_2 ?_
  refine lv_topi (fun x_1 ex_1 => ?_)
  replace hp := hp x_1 ex_1
  refine lv_istore_n (lv' := [(3, .int x_1), (0, .ref a0), (1, .ref a1), (2, .int x2)]) hx hb dX7_isSavedAt_3 rfl hl (by decide) rfl (fun ls hl => ?_)
  refine lv_iload_n hx hb dX7_isSavedAt_4 rfl (lv_at hl 3 rfl) ?_
  refine lv_if_lt (tgt := 20) hx hb dX7_isSavedAt_5 (by decide) (fun c_2 => ?_) (fun c_2 => ?_)
  · replace hp := hp.1 c_2
    exact t_X7_isSavedAt_20 F hr hlocks hK hp hW hE (lv_sub hl [] rfl)
  · replace hp := hp.2 c_2
    refine lv_iload_n hx hb dX7_isSavedAt_8 rfl (lv_at hl 0 rfl) ?_
    refine lv_if_lt (tgt := 20) hx hb dX7_isSavedAt_9 (by decide) (fun c_3 => ?_) (fun c_3 => ?_)
    · replace hp := hp.1 c_3
      exact t_X7_isSavedAt_20 F hr hlocks hK hp hW hE (lv_sub hl [] rfl)
    · replace hp := hp.2 c_3
      refine lv_iload_n hx hb dX7_isSavedAt_12 rfl (lv_at hl 0 rfl) ?_
      refine lv_iconst (v := 5) hx hb dX7_isSavedAt_13 (by decide) ?_
      refine lv_iadd hx hb dX7_isSavedAt_14 ?_
      refine lv_aload_n hx hb dX7_isSavedAt_15 rfl (lv_at hl 2 rfl) ?_
      refine w_len F hK hW hL_a1 hK_a1 (by decide) dX7_isSavedAt_16 ?_
      refine lv_icmp_le (tgt := 22) hx hb dX7_isSavedAt_17 (by decide) (fun c_4 => ?_) (fun c_4 => ?_)
      · replace hp := hp.1 c_4
        refine lv_aload_n hx hb dX7_isSavedAt_22 rfl (lv_at hl 2 rfl) ?_
        refine lv_iload_n hx hb dX7_isSavedAt_23 rfl (lv_at hl 0 rfl) ?_
        obtain ⟨h_5, hp⟩ := hp
        refine w_lld F hK hW hL_a1 hK_a1 h_5 dX7_isSavedAt_24 ?_
        refine lv_aload_n hx hb dX7_isSavedAt_25 rfl (lv_at hl 1 rfl) ?_
        refine w_get (k := 12) (f := 1) (T := TX7) (v := .long (sJ S a0 1)) F hK hW hL_a0 hK_a0 (by decide) rfl rfl (by decide) i_12 k_9 rfl dX7_isSavedAt_26 ?_
        refine W.lcmp hx hb dX7_isSavedAt_29 ?_
        refine lv_if_ne (tgt := 89) hx hb dX7_isSavedAt_30 (by decide) (fun c_6 => ?_) (fun c_6 => ?_)
        · replace hp := hp.1 c_6
          exact t_X7_isSavedAt_89 F hr hlocks hK hp hW hE (lv_sub hl [] rfl)
        · replace hp := hp.2 c_6
          refine lv_aload_n hx hb dX7_isSavedAt_33 rfl (lv_at hl 2 rfl) ?_
          refine lv_iload_n hx hb dX7_isSavedAt_34 rfl (lv_at hl 0 rfl) ?_
          refine lv_iconst (v := 1) hx hb dX7_isSavedAt_35 (by decide) ?_
          refine lv_iadd hx hb dX7_isSavedAt_36 ?_
          obtain ⟨h_7, hp⟩ := hp
          refine w_lld F hK hW hL_a1 hK_a1 h_7 dX7_isSavedAt_37 ?_
          refine lv_aload_n hx hb dX7_isSavedAt_38 rfl (lv_at hl 1 rfl) ?_
          refine w_get (k := 12) (f := 2) (T := TX7) (v := .long (sJ S a0 2)) F hK hW hL_a0 hK_a0 (by decide) rfl rfl (by decide) i_12 k_15 rfl dX7_isSavedAt_39 ?_
          refine W.lcmp hx hb dX7_isSavedAt_42 ?_
          refine lv_if_ne (tgt := 89) hx hb dX7_isSavedAt_43 (by decide) (fun c_8 => ?_) (fun c_8 => ?_)
          · replace hp := hp.1 c_8
            exact t_X7_isSavedAt_89 F hr hlocks hK hp hW hE (lv_sub hl [] rfl)
          · replace hp := hp.2 c_8
            refine lv_aload_n hx hb dX7_isSavedAt_46 rfl (lv_at hl 2 rfl) ?_
            refine lv_iload_n hx hb dX7_isSavedAt_47 rfl (lv_at hl 0 rfl) ?_
            refine lv_iconst (v := 2) hx hb dX7_isSavedAt_48 (by decide) ?_
            refine lv_iadd hx hb dX7_isSavedAt_49 ?_
            obtain ⟨h_9, hp⟩ := hp
            refine w_lld F hK hW hL_a1 hK_a1 h_9 dX7_isSavedAt_50 ?_
            refine lv_aload_n hx hb dX7_isSavedAt_51 rfl (lv_at hl 1 rfl) ?_
            refine w_get (k := 12) (f := 3) (T := TX7) (v := .long (sJ S a0 3)) F hK hW hL_a0 hK_a0 (by decide) rfl rfl (by decide) i_12 k_18 rfl dX7_isSavedAt_52 ?_
            refine W.lcmp hx hb dX7_isSavedAt_55 ?_
            refine lv_if_ne (tgt := 89) hx hb dX7_isSavedAt_56 (by decide) (fun c_10 => ?_) (fun c_10 => ?_)
            · replace hp := hp.1 c_10
              exact t_X7_isSavedAt_89 F hr hlocks hK hp hW hE (lv_sub hl [] rfl)
            · replace hp := hp.2 c_10
              refine lv_aload_n hx hb dX7_isSavedAt_59 rfl (lv_at hl 2 rfl) ?_
              refine lv_iload_n hx hb dX7_isSavedAt_60 rfl (lv_at hl 0 rfl) ?_
              refine lv_iconst (v := 3) hx hb dX7_isSavedAt_61 (by decide) ?_
              refine lv_iadd hx hb dX7_isSavedAt_62 ?_
              obtain ⟨h_11, hp⟩ := hp
              refine w_lld F hK hW hL_a1 hK_a1 h_11 dX7_isSavedAt_63 ?_
              refine lv_aload_n hx hb dX7_isSavedAt_64 rfl (lv_at hl 1 rfl) ?_
              refine w_get (k := 12) (f := 4) (T := TX7) (v := .long (sJ S a0 4)) F hK hW hL_a0 hK_a0 (by decide) rfl rfl (by decide) i_12 k_21 rfl dX7_isSavedAt_65 ?_
              refine W.lcmp hx hb dX7_isSavedAt_68 ?_
              refine lv_if_ne (tgt := 89) hx hb dX7_isSavedAt_69 (by decide) (fun c_12 => ?_) (fun c_12 => ?_)
              · replace hp := hp.1 c_12
                exact t_X7_isSavedAt_89 F hr hlocks hK hp hW hE (lv_sub hl [] rfl)
              · replace hp := hp.2 c_12
                refine lv_aload_n hx hb dX7_isSavedAt_72 rfl (lv_at hl 2 rfl) ?_
                refine lv_iload_n hx hb dX7_isSavedAt_73 rfl (lv_at hl 0 rfl) ?_
                refine lv_iconst (v := 4) hx hb dX7_isSavedAt_74 (by decide) ?_
                refine lv_iadd hx hb dX7_isSavedAt_75 ?_
                obtain ⟨h_13, hp⟩ := hp
                refine w_lld F hK hW hL_a1 hK_a1 h_13 dX7_isSavedAt_76 ?_
                refine lv_aload_n hx hb dX7_isSavedAt_77 rfl (lv_at hl 1 rfl) ?_
                refine w_callJ (va_runV (As := []) (rest := [.long (sJ S a1 ((x_1 + (4 : Int32))).toNatClampNeg)]) F (c_X7_rest l hL_a0 hK_a0 hp H.size) (cwV (C := RX7) 0 hts (wg_V wm_RX7_64 wy_X7_rest) rfl rfl rfl (by decide +kernel) ⟨Nat.le_of_ble_eq_true rfl, Nat.le_of_ble_eq_true rfl⟩) (w_preV hK hW hL_a0 hK_a0 (by decide) rfl) rfl rfl hl.1 rfl (lv_room (Nat.le_of_ble_eq_true rfl)) dX7_isSavedAt_78 ⟨Nat.le_of_ble_eq_true rfl, Nat.le_of_ble_eq_true rfl⟩) hW (fun r_14 S_15 H locs hp hW => ?_)
                obtain ⟨hX_S_15, hp⟩ := hp
                refine W.widen (k := 0) (n := 0) (by decide) (by decide) ?_
                have hE := hE.trans hX_S_15
                have hK_a0 : sK S_15 a0 = 12 := (hX_S_15.2 a0 hL_a0).1.trans hK_a0
                have hL_a0 : wM D S_15 a0 := hX_S_15.M hL_a0
                have hK_a1 : sK S_15 a1 = 22 := (hX_S_15.2 a1 hL_a1).1.trans hK_a1
                have hL_a1 : wM D S_15 a1 := hX_S_15.M hL_a1
                refine W.lcmp hx hb dX7_isSavedAt_81 ?_
                refine lv_if_ne (tgt := 89) hx hb dX7_isSavedAt_82 (by decide) (fun c_16 => ?_) (fun c_16 => ?_)
                · replace hp := hp.1 c_16
                  exact t_X7_isSavedAt_89 F hr hlocks hK hp hW hE (lv_sub hl [] rfl)
                · replace hp := hp.2 c_16
                  refine lv_iconst (v := 1) hx hb dX7_isSavedAt_85 (by decide) ?_
                  refine lv_goto (tgt := 90) hx hb dX7_isSavedAt_86 (by decide) ?_
                  exact t_X7_isSavedAt_90 F hr hlocks hK hp hW hE (lv_sub hl [] rfl)
      · replace hp := hp.2 c_4
        exact t_X7_isSavedAt_20 F hr hlocks hK hp hW hE (lv_sub hl [] rfl)
set_option maxHeartbeats 4000000 in
set_option maxRecDepth 100000 in
theorem c_X7_isSavedAt (l : Launch) {D : wD} {cy : Nat → ClassId} {X : va_W} {S0 : wS} {post : Int32 → wS → Prop} {a0 : Nat} {a1 : Nat} {x2 : Int32} (hL_a0 : wM D S0 a0) (hK_a0 : sK S0 a0 = 12) (hL_a1 : wM D S0 a1) (hK_a1 : sK S0 a1 = 22) (hp : wp_X7_isSavedAt D post S0 a0 a1 x2) : mI D cy X l yX7_isSavedAt wz_X7_isSavedAt r_X7_isSavedAt [.ref a0, .ref a1, .int x2] S0 (fun r S9 => wX D S0 S9 ∧ post r S9) := by
  intro sz
  refine Met.ofW (cc := cX7_isSavedAt) (maxL := 4) (ret := (some .boolean)) (by decide) rfl ?_
  intro p e s m args below meth c s₁ B hml hv
  obtain ⟨rfl, hsz, hP, hK, hD0, hRO⟩ := hv
  have hts := atoms_spec (ws := wz_X7_isSavedAt) B.pre
  have hown : s.vm.findClass RX7 = some m.cls := findClass_of_methodNamed B.named
  subst hsz
  have hD := hD0.self (sz := s.heap.size)
  have F : CallFix p m c cX7_isSavedAt 4 s _ wz_X7_isSavedAt RX7 := ⟨B.exec, B.bytes, hml, hown, hts⟩
  have hr := B.returns
  have hlocks := B.notSynchronized
  generalize hAe : va_A (wL cy X S0) s.heap.size = A at hD hK ⊢
  have hA : ∀ q, s.heap.size ≤ q → A q := fun q h => by rw [← hAe]; exact Or.inr h
  have hW : wO D cy X A s.heap S0 s.heap [] := ⟨hP, hD, va_S.rf, hA, hRO⟩
  have hl := lv_entry ([.ref a0, .ref a1, .int x2]) (n := 4) (Nat.le_of_ble_eq_true rfl)
  rw [lg_entry_eq]
  generalize (lg_sl ([.ref a0, .ref a1, .int x2]) ++ List.replicate (4 - (lg_sl ([.ref a0, .ref a1, .int x2])).length) Slot.unset).toArray = ls at hl ⊢
  have hl : lv_has ls 4 [(0, .ref a0), (1, .ref a1), (2, .int x2)] := hl
  unfold wp_X7_isSavedAt at hp
  exact t_X7_isSavedAt_0 F hr hlocks hK hp hW wX.rf (lv_sub hl [0, 1, 2] rfl) hL_a0 hK_a0 hL_a1 hK_a1
def wp_X3_indexFrom_2 (D : wD) (post : Int32 → wS → Prop)  : Nat → wS → Nat → Nat → Int32 → Prop
  | 0, _, _, _, _ => False
  | n + 1, S, a0, a1, x3 =>
    (((sI S a0 3) < x3 → post (-1 : Int32) S) ∧
     (¬ (sI S a0 3) < x3 → ∃ y_2 : Nat, sR S a0 0 = some y_2 ∧ wM D S y_2 ∧ sK S y_2 = 22 ∧
    wp_X7_isSavedAt D (fun r_3 S_4 => 
    ((r_3 = 0 → ∀ x_6 : Int32, x_6 = x3 + 1 →
    wp_X3_indexFrom_2 D post n S_4 a0 a1 x_6) ∧
     (¬ r_3 = 0 → post x3 S_4))) S a1 y_2 x3))
def wp_X3_indexFrom_0 (D : wD) (post : Int32 → wS → Prop)  (S : wS) (a0 : Nat) (a1 : Nat) (x2 : Int32) : Prop :=
∃ n_1 : Nat, wp_X3_indexFrom_2 D post n_1 S a0 a1 x2
abbrev r_X3_indexFrom : Room := { frames := 2, cells := 0, slots := 0, locals := 43 }
def wp_X3_indexFrom (D : wD) (post : Int32 → wS → Prop) (S : wS) (a0 : Nat) (a1 : Nat) (x2 : Int32) : Prop := wp_X3_indexFrom_0 D post S a0 a1 x2
set_option maxHeartbeats 4000000 in
set_option maxRecDepth 100000 in
theorem t_X3_indexFrom_2 {p : Program} {l : Launch} {e : Env} {s : State} {m : MethodId} {args : Array Value} {below : List Frame} {meth : Method} {c : Code} {D : wD} {cy : Nat → ClassId} {X : va_W} {A : Nat → Prop} {S0 : wS} {post : Int32 → wS → Prop} (F : CallFix p m c cX3_indexFrom 4 s args wz_X3_indexFrom RX3) (hr : meth.sig.returnType = (some .int)) (hlocks : meth.locks = false) (hK : wK D cy A s) : ∀ (n : Nat) {S : wS} {H : Heap} {locs : List Loc} {ls : Array Slot} {a0 : Nat} {a1 : Nat} {x3 : Int32}, wp_X3_indexFrom_2 D post n S a0 a1 x3 → wO D cy X A s.heap S H locs → wX D S0 S → lv_has ls 4 [(0, .ref a0), (1, .ref a1), (3, .int x3)] → wM D S a0 → sK S a0 = 8 → wM D S a1 → sK S a1 = 12 → W p l e r_X3_indexFrom s m args below meth c H locs 0 0 (MQ below (va_Qi (fun r S9 => wX D S0 S9 ∧ post r S9) (wB D cy X A) A) args s 0 0 A) (F0 m 2 ls []) := by
  obtain ⟨hx, hb, hml, hown, hts⟩ := id F
  have hwg : ∀ w ∈ WG, w.before args s = true := fun w h => hts w (List.mem_cons_of_mem _ h)
  have i_8 : ∀ w ∈ u_ws RX3 TX3 9, w ∈ wz_X3_indexFrom := fun w h => List.mem_cons_of_mem _ (wu_8 w h)
  have k_36 := hwg _ wf_RX3_36
  have k_9 := hwg _ wf_RX3_9
  intro n
  induction n with
  | zero =>
    intro S H locs ls a0 a1 x3 hp
    exact hp.elim
  | succ n ih =>
    intro S H locs ls a0 a1 x3 hp hW hE hl hL_a0 hK_a0 hL_a1 hK_a1
    unfold wp_X3_indexFrom_2 at hp
    refine lv_iload_n hx hb dX3_indexFrom_2 rfl (lv_at hl 2 rfl) ?_
    refine lv_aload_n hx hb dX3_indexFrom_3 rfl (lv_at hl 0 rfl) ?_
    refine w_get (k := 8) (f := 3) (T := TX3) (v := .int (sI S a0 3)) F hK hW hL_a0 hK_a0 (by decide) rfl rfl (by decide) i_8 k_9 rfl dX3_indexFrom_4 ?_
    refine lv_icmp_gt (tgt := 30) hx hb dX3_indexFrom_7 (by decide) (fun c_1 => ?_) (fun c_1 => ?_)
    · replace hp := hp.1 c_1
      refine lv_iconst (v := (-1)) hx hb dX3_indexFrom_30 (by decide) ?_
      exact w_iret hx hb hr hlocks hW ⟨hE, hp⟩ dX3_indexFrom_31
    · replace hp := hp.2 c_1
      refine lv_aload_n hx hb dX3_indexFrom_10 rfl (lv_at hl 1 rfl) ?_
      refine lv_aload_n hx hb dX3_indexFrom_11 rfl (lv_at hl 0 rfl) ?_
      obtain ⟨y_2, ey_2, hL_y_2, hK_y_2, hp⟩ := hp
      refine w_get (k := 8) (f := 0) (T := TX3) (v := .ref y_2) F hK hW hL_a0 hK_a0 (by decide) rfl rfl (by decide) i_8 k_36 (by rw [show wv 8 0 S a0 = va_rf (sR S a0 0) from rfl, ey_2]; rfl) dX3_indexFrom_12 ?_
      refine lv_iload_n hx hb dX3_indexFrom_15 rfl (lv_at hl 2 rfl) ?_
      refine w_callI (va_runV (As := [.ref y_2, .int x3]) (rest := []) F (c_X7_isSavedAt l hL_a1 hK_a1 hL_y_2 hK_y_2 hp H.size) (cwV (C := RX7) 2 hts (wg_V wm_RX3_61 wy_X7_isSavedAt) rfl rfl rfl (by decide +kernel) ⟨Nat.le_of_ble_eq_true rfl, Nat.le_of_ble_eq_true rfl⟩) (w_preV hK hW hL_a1 hK_a1 (by decide) rfl) rfl rfl hl.1 rfl (lv_room (Nat.le_of_ble_eq_true rfl)) dX3_indexFrom_16 ⟨Nat.le_of_ble_eq_true rfl, Nat.le_of_ble_eq_true rfl⟩) hW (fun r_3 S_4 H locs hp hW => ?_)
      obtain ⟨hX_S_4, hp⟩ := hp
      refine W.widen (k := 0) (n := 0) (by decide) (by decide) ?_
      have hE := hE.trans hX_S_4
      have hK_a0 : sK S_4 a0 = 8 := (hX_S_4.2 a0 hL_a0).1.trans hK_a0
      have hL_a0 : wM D S_4 a0 := hX_S_4.M hL_a0
      have hK_a1 : sK S_4 a1 = 12 := (hX_S_4.2 a1 hL_a1).1.trans hK_a1
      have hL_a1 : wM D S_4 a1 := hX_S_4.M hL_a1
      refine lv_if_eq (tgt := 24) hx hb dX3_indexFrom_19 (by decide) (fun c_5 => ?_) (fun c_5 => ?_)
      · replace hp := hp.1 c_5
        obtain ⟨x_6, ex_6⟩ : ∃ z : Int32, z = x3 + 1 := ⟨_, rfl⟩
        replace hp := hp x_6 ex_6
        refine lv_iinc (v := x_6) (lv' := [(3, .int x_6), (0, .ref a0), (1, .ref a1)]) hx hb dX3_indexFrom_24 hl (k := 2) rfl (by rw [ex_6]; rfl) (by decide) rfl (fun ls hl => ?_)
        refine lv_goto (tgt := 2) hx hb dX3_indexFrom_27 (by decide) ?_
        exact ih hp hW hE (lv_sub hl [1, 2, 0] rfl) hL_a0 hK_a0 hL_a1 hK_a1
      · replace hp := hp.2 c_5
        refine lv_iload_n hx hb dX3_indexFrom_22 rfl (lv_at hl 2 rfl) ?_
        exact w_iret hx hb hr hlocks hW ⟨hE, hp⟩ dX3_indexFrom_23
set_option maxHeartbeats 4000000 in
set_option maxRecDepth 100000 in
theorem t_X3_indexFrom_0 {p : Program} {l : Launch} {e : Env} {s : State} {m : MethodId} {args : Array Value} {below : List Frame} {meth : Method} {c : Code} {D : wD} {cy : Nat → ClassId} {X : va_W} {A : Nat → Prop} {S0 : wS} {post : Int32 → wS → Prop} (F : CallFix p m c cX3_indexFrom 4 s args wz_X3_indexFrom RX3) (hr : meth.sig.returnType = (some .int)) (hlocks : meth.locks = false) (hK : wK D cy A s) : ∀ {S : wS} {H : Heap} {locs : List Loc} {ls : Array Slot} {a0 : Nat} {a1 : Nat} {x2 : Int32}, wp_X3_indexFrom_0 D post S a0 a1 x2 → wO D cy X A s.heap S H locs → wX D S0 S → lv_has ls 4 [(0, .ref a0), (1, .ref a1), (2, .int x2)] → wM D S a0 → sK S a0 = 8 → wM D S a1 → sK S a1 = 12 → W p l e r_X3_indexFrom s m args below meth c H locs 0 0 (MQ below (va_Qi (fun r S9 => wX D S0 S9 ∧ post r S9) (wB D cy X A) A) args s 0 0 A) (F0 m 0 ls []) := by
  obtain ⟨hx, hb, hml, hown, hts⟩ := id F
  have hwg : ∀ w ∈ WG, w.before args s = true := fun w h => hts w (List.mem_cons_of_mem _ h)
  intro S H locs ls a0 a1 x2 hp hW hE hl hL_a0 hK_a0 hL_a1 hK_a1
  unfold wp_X3_indexFrom_0 at hp
  refine lv_iload_n hx hb dX3_indexFrom_0 rfl (lv_at hl 2 rfl) ?_
  refine lv_istore_n (lv' := [(3, .int x2), (0, .ref a0), (1, .ref a1), (2, .int x2)]) hx hb dX3_indexFrom_1 rfl hl (by decide) rfl (fun ls hl => ?_)
  obtain ⟨n_1, hp⟩ := hp
  exact t_X3_indexFrom_2 F hr hlocks hK n_1 hp hW hE (lv_sub hl [1, 2, 0] rfl) hL_a0 hK_a0 hL_a1 hK_a1
set_option maxHeartbeats 4000000 in
set_option maxRecDepth 100000 in
theorem c_X3_indexFrom (l : Launch) {D : wD} {cy : Nat → ClassId} {X : va_W} {S0 : wS} {post : Int32 → wS → Prop} {a0 : Nat} {a1 : Nat} {x2 : Int32} (hL_a0 : wM D S0 a0) (hK_a0 : sK S0 a0 = 8) (hL_a1 : wM D S0 a1) (hK_a1 : sK S0 a1 = 12) (hp : wp_X3_indexFrom D post S0 a0 a1 x2) : mI D cy X l yX3_indexFrom wz_X3_indexFrom r_X3_indexFrom [.ref a0, .ref a1, .int x2] S0 (fun r S9 => wX D S0 S9 ∧ post r S9) := by
  intro sz
  refine Met.ofW (cc := cX3_indexFrom) (maxL := 4) (ret := (some .int)) (by decide) rfl ?_
  intro p e s m args below meth c s₁ B hml hv
  obtain ⟨rfl, hsz, hP, hK, hD0, hRO⟩ := hv
  have hts := atoms_spec (ws := wz_X3_indexFrom) B.pre
  have hown : s.vm.findClass RX3 = some m.cls := findClass_of_methodNamed B.named
  subst hsz
  have hD := hD0.self (sz := s.heap.size)
  have F : CallFix p m c cX3_indexFrom 4 s _ wz_X3_indexFrom RX3 := ⟨B.exec, B.bytes, hml, hown, hts⟩
  have hr := B.returns
  have hlocks := B.notSynchronized
  generalize hAe : va_A (wL cy X S0) s.heap.size = A at hD hK ⊢
  have hA : ∀ q, s.heap.size ≤ q → A q := fun q h => by rw [← hAe]; exact Or.inr h
  have hW : wO D cy X A s.heap S0 s.heap [] := ⟨hP, hD, va_S.rf, hA, hRO⟩
  have hl := lv_entry ([.ref a0, .ref a1, .int x2]) (n := 4) (Nat.le_of_ble_eq_true rfl)
  rw [lg_entry_eq]
  generalize (lg_sl ([.ref a0, .ref a1, .int x2]) ++ List.replicate (4 - (lg_sl ([.ref a0, .ref a1, .int x2])).length) Slot.unset).toArray = ls at hl ⊢
  have hl : lv_has ls 4 [(0, .ref a0), (1, .ref a1), (2, .int x2)] := hl
  unfold wp_X3_indexFrom at hp
  exact t_X3_indexFrom_0 F hr hlocks hK hp hW wX.rf (lv_sub hl [0, 1, 2] rfl) hL_a0 hK_a0 hL_a1 hK_a1
def wp_X3_passesThrough_15 (D : wD) (post : Int32 → wS → Prop)  (S : wS) (t0 : Int32) : Prop :=
narrow .boolean (.int t0) = .int t0 ∧ post t0 S
def wp_X3_passesThrough_0 (D : wD) (post : Int32 → wS → Prop)  (S : wS) (a0 : Nat) (a1 : Nat) : Prop :=
wp_X3_indexFrom D (fun r_1 S_2 => 
((r_1 = (-1 : Int32) → wp_X3_passesThrough_15 D post S_2 (0 : Int32)) ∧
 (¬ r_1 = (-1 : Int32) → wp_X3_passesThrough_15 D post S_2 (1 : Int32)))) S a0 a1 (0 : Int32)
abbrev r_X3_passesThrough : Room := { frames := 3, cells := 0, slots := 0, locals := 66 }
def wp_X3_passesThrough (D : wD) (post : Int32 → wS → Prop) (S : wS) (a0 : Nat) (a1 : Nat) : Prop := wp_X3_passesThrough_0 D post S a0 a1
set_option maxHeartbeats 4000000 in
set_option maxRecDepth 100000 in
theorem t_X3_passesThrough_15 {p : Program} {l : Launch} {e : Env} {s : State} {m : MethodId} {args : Array Value} {below : List Frame} {meth : Method} {c : Code} {D : wD} {cy : Nat → ClassId} {X : va_W} {A : Nat → Prop} {S0 : wS} {post : Int32 → wS → Prop} (F : CallFix p m c cX3_passesThrough 2 s args wz_X3_passesThrough RX3) (hr : meth.sig.returnType = (some .boolean)) (hlocks : meth.locks = false) (hK : wK D cy A s) : ∀ {S : wS} {H : Heap} {locs : List Loc} {ls : Array Slot} {t0 : Int32}, wp_X3_passesThrough_15 D post S t0 → wO D cy X A s.heap S H locs → wX D S0 S → lv_has ls 2 [] → W p l e r_X3_passesThrough s m args below meth c H locs 0 0 (MQ below (va_Qi (fun r S9 => wX D S0 S9 ∧ post r S9) (wB D cy X A) A) args s 0 0 A) (F0 m 15 ls [.int t0]) := by
  obtain ⟨hx, hb, hml, hown, hts⟩ := id F
  have hwg : ∀ w ∈ WG, w.before args s = true := fun w h => hts w (List.mem_cons_of_mem _ h)
  intro S H locs ls t0 hp hW hE hl
  unfold wp_X3_passesThrough_15 at hp
  exact w_zret hx hb hr hlocks hW hp.1 ⟨hE, hp.2⟩ dX3_passesThrough_15
set_option maxHeartbeats 4000000 in
set_option maxRecDepth 100000 in
theorem t_X3_passesThrough_0 {p : Program} {l : Launch} {e : Env} {s : State} {m : MethodId} {args : Array Value} {below : List Frame} {meth : Method} {c : Code} {D : wD} {cy : Nat → ClassId} {X : va_W} {A : Nat → Prop} {S0 : wS} {post : Int32 → wS → Prop} (F : CallFix p m c cX3_passesThrough 2 s args wz_X3_passesThrough RX3) (hr : meth.sig.returnType = (some .boolean)) (hlocks : meth.locks = false) (hK : wK D cy A s) : ∀ {S : wS} {H : Heap} {locs : List Loc} {ls : Array Slot} {a0 : Nat} {a1 : Nat}, wp_X3_passesThrough_0 D post S a0 a1 → wO D cy X A s.heap S H locs → wX D S0 S → lv_has ls 2 [(0, .ref a0), (1, .ref a1)] → wM D S a0 → sK S a0 = 8 → wM D S a1 → sK S a1 = 12 → W p l e r_X3_passesThrough s m args below meth c H locs 0 0 (MQ below (va_Qi (fun r S9 => wX D S0 S9 ∧ post r S9) (wB D cy X A) A) args s 0 0 A) (F0 m 0 ls []) := by
  obtain ⟨hx, hb, hml, hown, hts⟩ := id F
  have hwg : ∀ w ∈ WG, w.before args s = true := fun w h => hts w (List.mem_cons_of_mem _ h)
  intro S H locs ls a0 a1 hp hW hE hl hL_a0 hK_a0 hL_a1 hK_a1
  unfold wp_X3_passesThrough_0 at hp
  refine lv_aload_n hx hb dX3_passesThrough_0 rfl (lv_at hl 0 rfl) ?_
  refine lv_aload_n hx hb dX3_passesThrough_1 rfl (lv_at hl 1 rfl) ?_
  refine lv_iconst (v := 0) hx hb dX3_passesThrough_2 (by decide) ?_
  refine w_callI (va_runV (As := [.ref a1, .int (0 : Int32)]) (rest := []) F (c_X3_indexFrom l hL_a0 hK_a0 hL_a1 hK_a1 hp H.size) (cwV (C := RX3) 2 hts (wg_V wm_RX3_57 wy_X3_indexFrom) rfl rfl rfl (by decide +kernel) ⟨Nat.le_of_ble_eq_true rfl, Nat.le_of_ble_eq_true rfl⟩) (w_preV hK hW hL_a0 hK_a0 (by decide) rfl) rfl rfl hl.1 rfl (lv_room (Nat.le_of_ble_eq_true rfl)) dX3_passesThrough_3 ⟨Nat.le_of_ble_eq_true rfl, Nat.le_of_ble_eq_true rfl⟩) hW (fun r_1 S_2 H locs hp hW => ?_)
  obtain ⟨hX_S_2, hp⟩ := hp
  refine W.widen (k := 0) (n := 0) (by decide) (by decide) ?_
  have hE := hE.trans hX_S_2
  have hK_a0 : sK S_2 a0 = 8 := (hX_S_2.2 a0 hL_a0).1.trans hK_a0
  have hL_a0 : wM D S_2 a0 := hX_S_2.M hL_a0
  have hK_a1 : sK S_2 a1 = 12 := (hX_S_2.2 a1 hL_a1).1.trans hK_a1
  have hL_a1 : wM D S_2 a1 := hX_S_2.M hL_a1
  refine lv_iconst (v := (-1)) hx hb dX3_passesThrough_6 (by decide) ?_
  refine lv_icmp_eq (tgt := 14) hx hb dX3_passesThrough_7 (by decide) (fun c_3 => ?_) (fun c_3 => ?_)
  · replace hp := hp.1 c_3
    refine lv_iconst (v := 0) hx hb dX3_passesThrough_14 (by decide) ?_
    exact t_X3_passesThrough_15 F hr hlocks hK hp hW hE (lv_sub hl [] rfl)
  · replace hp := hp.2 c_3
    refine lv_iconst (v := 1) hx hb dX3_passesThrough_10 (by decide) ?_
    refine lv_goto (tgt := 15) hx hb dX3_passesThrough_11 (by decide) ?_
    exact t_X3_passesThrough_15 F hr hlocks hK hp hW hE (lv_sub hl [] rfl)
set_option maxHeartbeats 4000000 in
set_option maxRecDepth 100000 in
theorem c_X3_passesThrough (l : Launch) {D : wD} {cy : Nat → ClassId} {X : va_W} {S0 : wS} {post : Int32 → wS → Prop} {a0 : Nat} {a1 : Nat} (hL_a0 : wM D S0 a0) (hK_a0 : sK S0 a0 = 8) (hL_a1 : wM D S0 a1) (hK_a1 : sK S0 a1 = 12) (hp : wp_X3_passesThrough D post S0 a0 a1) : mI D cy X l yX3_passesThrough wz_X3_passesThrough r_X3_passesThrough [.ref a0, .ref a1] S0 (fun r S9 => wX D S0 S9 ∧ post r S9) := by
  intro sz
  refine Met.ofW (cc := cX3_passesThrough) (maxL := 2) (ret := (some .boolean)) (by decide) rfl ?_
  intro p e s m args below meth c s₁ B hml hv
  obtain ⟨rfl, hsz, hP, hK, hD0, hRO⟩ := hv
  have hts := atoms_spec (ws := wz_X3_passesThrough) B.pre
  have hown : s.vm.findClass RX3 = some m.cls := findClass_of_methodNamed B.named
  subst hsz
  have hD := hD0.self (sz := s.heap.size)
  have F : CallFix p m c cX3_passesThrough 2 s _ wz_X3_passesThrough RX3 := ⟨B.exec, B.bytes, hml, hown, hts⟩
  have hr := B.returns
  have hlocks := B.notSynchronized
  generalize hAe : va_A (wL cy X S0) s.heap.size = A at hD hK ⊢
  have hA : ∀ q, s.heap.size ≤ q → A q := fun q h => by rw [← hAe]; exact Or.inr h
  have hW : wO D cy X A s.heap S0 s.heap [] := ⟨hP, hD, va_S.rf, hA, hRO⟩
  have hl := lv_entry ([.ref a0, .ref a1]) (n := 2) (Nat.le_of_ble_eq_true rfl)
  rw [lg_entry_eq]
  generalize (lg_sl ([.ref a0, .ref a1]) ++ List.replicate (2 - (lg_sl ([.ref a0, .ref a1])).length) Slot.unset).toArray = ls at hl ⊢
  have hl : lv_has ls 2 [(0, .ref a0), (1, .ref a1)] := hl
  unfold wp_X3_passesThrough at hp
  exact t_X3_passesThrough_0 F hr hlocks hK hp hW wX.rf (lv_sub hl [0, 1] rfl) hL_a0 hK_a0 hL_a1 hK_a1
def wp_X11_contains_15 (D : wD) (post : Int32 → wS → Prop)  (S : wS) (t0 : Int32) : Prop :=
narrow .boolean (.int t0) = .int t0 ∧ post t0 S
def wp_X11_contains_0 (D : wD) (post : Int32 → wS → Prop)  (S : wS) (x0 : Int64) (x2 : Int32) : Prop :=
(((lg_cmp ((jlushr x0 x2) &&& (1 : Int64)) (0 : Int64)) = 0 → wp_X11_contains_15 D post S (0 : Int32)) ∧
 (¬ (lg_cmp ((jlushr x0 x2) &&& (1 : Int64)) (0 : Int64)) = 0 → wp_X11_contains_15 D post S (1 : Int32)))
abbrev r_X11_contains : Room := { frames := 0, cells := 0, slots := 0, locals := 0 }
def wp_X11_contains (D : wD) (post : Int32 → wS → Prop) (S : wS) (x0 : Int64) (x2 : Int32) : Prop := wp_X11_contains_0 D post S x0 x2
set_option maxHeartbeats 4000000 in
set_option maxRecDepth 100000 in
theorem t_X11_contains_15 {p : Program} {l : Launch} {e : Env} {s : State} {m : MethodId} {args : Array Value} {below : List Frame} {meth : Method} {c : Code} {D : wD} {cy : Nat → ClassId} {X : va_W} {A : Nat → Prop} {S0 : wS} {post : Int32 → wS → Prop} (F : CallFix p m c cX11_contains 3 s args wz_X11_contains RX11) (hr : meth.sig.returnType = (some .boolean)) (hlocks : meth.locks = false) (hK : wK D cy A s) : ∀ {S : wS} {H : Heap} {locs : List Loc} {ls : Array Slot} {t0 : Int32}, wp_X11_contains_15 D post S t0 → wO D cy X A s.heap S H locs → wX D S0 S → lv_has ls 3 [] → W p l e r_X11_contains s m args below meth c H locs 0 0 (MQ below (va_Qi (fun r S9 => wX D S0 S9 ∧ post r S9) (wB D cy X A) A) args s 0 0 A) (F0 m 15 ls [.int t0]) := by
  obtain ⟨hx, hb, hml, hown, hts⟩ := id F
  have hwg : ∀ w ∈ WG, w.before args s = true := fun w h => hts w (List.mem_cons_of_mem _ h)
  intro S H locs ls t0 hp hW hE hl
  unfold wp_X11_contains_15 at hp
  exact w_zret hx hb hr hlocks hW hp.1 ⟨hE, hp.2⟩ dX11_contains_15
set_option maxHeartbeats 4000000 in
set_option maxRecDepth 100000 in
theorem t_X11_contains_0 {p : Program} {l : Launch} {e : Env} {s : State} {m : MethodId} {args : Array Value} {below : List Frame} {meth : Method} {c : Code} {D : wD} {cy : Nat → ClassId} {X : va_W} {A : Nat → Prop} {S0 : wS} {post : Int32 → wS → Prop} (F : CallFix p m c cX11_contains 3 s args wz_X11_contains RX11) (hr : meth.sig.returnType = (some .boolean)) (hlocks : meth.locks = false) (hK : wK D cy A s) : ∀ {S : wS} {H : Heap} {locs : List Loc} {ls : Array Slot} {x0 : Int64} {x2 : Int32}, wp_X11_contains_0 D post S x0 x2 → wO D cy X A s.heap S H locs → wX D S0 S → lv_has ls 3 [(0, .long x0), (2, .int x2)] → W p l e r_X11_contains s m args below meth c H locs 0 0 (MQ below (va_Qi (fun r S9 => wX D S0 S9 ∧ post r S9) (wB D cy X A) A) args s 0 0 A) (F0 m 0 ls []) := by
  obtain ⟨hx, hb, hml, hown, hts⟩ := id F
  have hwg : ∀ w ∈ WG, w.before args s = true := fun w h => hts w (List.mem_cons_of_mem _ h)
  intro S H locs ls x0 x2 hp hW hE hl
  unfold wp_X11_contains_0 at hp
  refine lv_lload_n hx hb dX11_contains_0 rfl (lv_at hl 0 rfl) ?_
  refine lv_iload_n hx hb dX11_contains_1 rfl (lv_at hl 1 rfl) ?_
  refine lv_lushr (v := (jlushr x0 x2)) hx hb dX11_contains_2 rfl ?_
  refine lv_lconst (v := 1) hx hb dX11_contains_3 (by decide) ?_
  refine lv_land hx hb dX11_contains_4 ?_
  refine lv_lconst (v := 0) hx hb dX11_contains_5 (by decide) ?_
  refine W.lcmp hx hb dX11_contains_6 ?_
  refine lv_if_eq (tgt := 14) hx hb dX11_contains_7 (by decide) (fun c_1 => ?_) (fun c_1 => ?_)
  · replace hp := hp.1 c_1
    refine lv_iconst (v := 0) hx hb dX11_contains_14 (by decide) ?_
    exact t_X11_contains_15 F hr hlocks hK hp hW hE (lv_sub hl [] rfl)
  · replace hp := hp.2 c_1
    refine lv_iconst (v := 1) hx hb dX11_contains_10 (by decide) ?_
    refine lv_goto (tgt := 15) hx hb dX11_contains_11 (by decide) ?_
    exact t_X11_contains_15 F hr hlocks hK hp hW hE (lv_sub hl [] rfl)
set_option maxHeartbeats 4000000 in
set_option maxRecDepth 100000 in
theorem c_X11_contains (l : Launch) {D : wD} {cy : Nat → ClassId} {X : va_W} {S0 : wS} {post : Int32 → wS → Prop} {x0 : Int64} {x2 : Int32} (hp : wp_X11_contains D post S0 x0 x2) : mI D cy X l yX11_contains wz_X11_contains r_X11_contains [.long x0, .int x2] S0 (fun r S9 => wX D S0 S9 ∧ post r S9) := by
  intro sz
  refine Met.ofW (cc := cX11_contains) (maxL := 3) (ret := (some .boolean)) (by decide) rfl ?_
  intro p e s m args below meth c s₁ B hml hv
  obtain ⟨rfl, hsz, hP, hK, hD0, hRO⟩ := hv
  have hts := atoms_spec (ws := wz_X11_contains) B.pre
  have hown : s.vm.findClass RX11 = some m.cls := findClass_of_methodNamed B.named
  subst hsz
  have hD := hD0.self (sz := s.heap.size)
  have F : CallFix p m c cX11_contains 3 s _ wz_X11_contains RX11 := ⟨B.exec, B.bytes, hml, hown, hts⟩
  have hr := B.returns
  have hlocks := B.notSynchronized
  generalize hAe : va_A (wL cy X S0) s.heap.size = A at hD hK ⊢
  have hA : ∀ q, s.heap.size ≤ q → A q := fun q h => by rw [← hAe]; exact Or.inr h
  have hW : wO D cy X A s.heap S0 s.heap [] := ⟨hP, hD, va_S.rf, hA, hRO⟩
  have hl := lv_entry ([.long x0, .int x2]) (n := 3) (Nat.le_of_ble_eq_true rfl)
  rw [lg_entry_eq]
  generalize (lg_sl ([.long x0, .int x2]) ++ List.replicate (3 - (lg_sl ([.long x0, .int x2])).length) Slot.unset).toArray = ls at hl ⊢
  have hl : lv_has ls 3 [(0, .long x0), (2, .int x2)] := hl
  unfold wp_X11_contains at hp
  exact t_X11_contains_0 F hr hlocks hK hp hW wX.rf (lv_sub hl [0, 1] rfl)
def wp_X7_kindOn_0 (D : wD) (post : Int32 → wS → Prop)  (S : wS) (a0 : Nat) (x1 : Int32) : Prop :=
post (Int64.toInt32 ((((jlushr (sJ S a0 2) x1) &&& (1 : Int64)) + (((jlushr (sJ S a0 3) x1) &&& (1 : Int64)) * (2 : Int64))) + (((jlushr (sJ S a0 4) x1) &&& (1 : Int64)) * (4 : Int64)))) S
abbrev r_X7_kindOn : Room := { frames := 0, cells := 0, slots := 0, locals := 0 }
def wp_X7_kindOn (D : wD) (post : Int32 → wS → Prop) (S : wS) (a0 : Nat) (x1 : Int32) : Prop := wp_X7_kindOn_0 D post S a0 x1
set_option maxHeartbeats 4000000 in
set_option maxRecDepth 100000 in
theorem t_X7_kindOn_0 {p : Program} {l : Launch} {e : Env} {s : State} {m : MethodId} {args : Array Value} {below : List Frame} {meth : Method} {c : Code} {D : wD} {cy : Nat → ClassId} {X : va_W} {A : Nat → Prop} {S0 : wS} {post : Int32 → wS → Prop} (F : CallFix p m c cX7_kindOn 2 s args wz_X7_kindOn RX7) (hr : meth.sig.returnType = (some .int)) (hlocks : meth.locks = false) (hK : wK D cy A s) : ∀ {S : wS} {H : Heap} {locs : List Loc} {ls : Array Slot} {a0 : Nat} {x1 : Int32}, wp_X7_kindOn_0 D post S a0 x1 → wO D cy X A s.heap S H locs → wX D S0 S → lv_has ls 2 [(0, .ref a0), (1, .int x1)] → wM D S a0 → sK S a0 = 12 → W p l e r_X7_kindOn s m args below meth c H locs 0 0 (MQ below (va_Qi (fun r S9 => wX D S0 S9 ∧ post r S9) (wB D cy X A) A) args s 0 0 A) (F0 m 0 ls []) := by
  obtain ⟨hx, hb, hml, hown, hts⟩ := id F
  have hwg : ∀ w ∈ WG, w.before args s = true := fun w h => hts w (List.mem_cons_of_mem _ h)
  have i_12 : ∀ w ∈ u_ws RX7 TX7 8, w ∈ wz_X7_kindOn := fun w h => List.mem_cons_of_mem _ (wu_12 w h)
  have k_15 := hwg _ wf_RX7_15
  have k_18 := hwg _ wf_RX7_18
  have k_21 := hwg _ wf_RX7_21
  intro S H locs ls a0 x1 hp hW hE hl hL_a0 hK_a0
  unfold wp_X7_kindOn_0 at hp
  refine lv_aload_n hx hb dX7_kindOn_0 rfl (lv_at hl 0 rfl) ?_
  refine w_get (k := 12) (f := 2) (T := TX7) (v := .long (sJ S a0 2)) F hK hW hL_a0 hK_a0 (by decide) rfl rfl (by decide) i_12 k_15 rfl dX7_kindOn_1 ?_
  refine lv_iload_n hx hb dX7_kindOn_4 rfl (lv_at hl 1 rfl) ?_
  refine lv_lushr (v := (jlushr (sJ S a0 2) x1)) hx hb dX7_kindOn_5 rfl ?_
  refine lv_lconst (v := 1) hx hb dX7_kindOn_6 (by decide) ?_
  refine lv_land hx hb dX7_kindOn_7 ?_
  refine lv_aload_n hx hb dX7_kindOn_8 rfl (lv_at hl 0 rfl) ?_
  refine w_get (k := 12) (f := 3) (T := TX7) (v := .long (sJ S a0 3)) F hK hW hL_a0 hK_a0 (by decide) rfl rfl (by decide) i_12 k_18 rfl dX7_kindOn_9 ?_
  refine lv_iload_n hx hb dX7_kindOn_12 rfl (lv_at hl 1 rfl) ?_
  refine lv_lushr (v := (jlushr (sJ S a0 3) x1)) hx hb dX7_kindOn_13 rfl ?_
  refine lv_lconst (v := 1) hx hb dX7_kindOn_14 (by decide) ?_
  refine lv_land hx hb dX7_kindOn_15 ?_
  refine lv_ldc2 (v := 2) hx hb hown (hwg _ wJ_RX7_72) dX7_kindOn_16 ?_
  refine lv_lmul hx hb dX7_kindOn_19 ?_
  refine lv_ladd hx hb dX7_kindOn_20 ?_
  refine lv_aload_n hx hb dX7_kindOn_21 rfl (lv_at hl 0 rfl) ?_
  refine w_get (k := 12) (f := 4) (T := TX7) (v := .long (sJ S a0 4)) F hK hW hL_a0 hK_a0 (by decide) rfl rfl (by decide) i_12 k_21 rfl dX7_kindOn_22 ?_
  refine lv_iload_n hx hb dX7_kindOn_25 rfl (lv_at hl 1 rfl) ?_
  refine lv_lushr (v := (jlushr (sJ S a0 4) x1)) hx hb dX7_kindOn_26 rfl ?_
  refine lv_lconst (v := 1) hx hb dX7_kindOn_27 (by decide) ?_
  refine lv_land hx hb dX7_kindOn_28 ?_
  refine lv_ldc2 (v := 4) hx hb hown (hwg _ wJ_RX7_74) dX7_kindOn_29 ?_
  refine lv_lmul hx hb dX7_kindOn_32 ?_
  refine lv_ladd hx hb dX7_kindOn_33 ?_
  refine lv_l2i (v := (Int64.toInt32 ((((jlushr (sJ S a0 2) x1) &&& (1 : Int64)) + (((jlushr (sJ S a0 3) x1) &&& (1 : Int64)) * (2 : Int64))) + (((jlushr (sJ S a0 4) x1) &&& (1 : Int64)) * (4 : Int64))))) hx hb dX7_kindOn_34 rfl ?_
  exact w_iret hx hb hr hlocks hW ⟨hE, hp⟩ dX7_kindOn_35
set_option maxHeartbeats 4000000 in
set_option maxRecDepth 100000 in
theorem c_X7_kindOn (l : Launch) {D : wD} {cy : Nat → ClassId} {X : va_W} {S0 : wS} {post : Int32 → wS → Prop} {a0 : Nat} {x1 : Int32} (hL_a0 : wM D S0 a0) (hK_a0 : sK S0 a0 = 12) (hp : wp_X7_kindOn D post S0 a0 x1) : mI D cy X l yX7_kindOn wz_X7_kindOn r_X7_kindOn [.ref a0, .int x1] S0 (fun r S9 => wX D S0 S9 ∧ post r S9) := by
  intro sz
  refine Met.ofW (cc := cX7_kindOn) (maxL := 2) (ret := (some .int)) (by decide) rfl ?_
  intro p e s m args below meth c s₁ B hml hv
  obtain ⟨rfl, hsz, hP, hK, hD0, hRO⟩ := hv
  have hts := atoms_spec (ws := wz_X7_kindOn) B.pre
  have hown : s.vm.findClass RX7 = some m.cls := findClass_of_methodNamed B.named
  subst hsz
  have hD := hD0.self (sz := s.heap.size)
  have F : CallFix p m c cX7_kindOn 2 s _ wz_X7_kindOn RX7 := ⟨B.exec, B.bytes, hml, hown, hts⟩
  have hr := B.returns
  have hlocks := B.notSynchronized
  generalize hAe : va_A (wL cy X S0) s.heap.size = A at hD hK ⊢
  have hA : ∀ q, s.heap.size ≤ q → A q := fun q h => by rw [← hAe]; exact Or.inr h
  have hW : wO D cy X A s.heap S0 s.heap [] := ⟨hP, hD, va_S.rf, hA, hRO⟩
  have hl := lv_entry ([.ref a0, .int x1]) (n := 2) (Nat.le_of_ble_eq_true rfl)
  rw [lg_entry_eq]
  generalize (lg_sl ([.ref a0, .int x1]) ++ List.replicate (2 - (lg_sl ([.ref a0, .int x1])).length) Slot.unset).toArray = ls at hl ⊢
  have hl : lv_has ls 2 [(0, .ref a0), (1, .int x1)] := hl
  unfold wp_X7_kindOn at hp
  exact t_X7_kindOn_0 F hr hlocks hK hp hW wX.rf (lv_sub hl [0, 1] rfl) hL_a0 hK_a0
def wp_X7_pieceOn_29 (D : wD) (post : Int32 → wS → Prop)  (S : wS) (t0 : Int32) : Prop :=
post t0 S
def wp_X7_pieceOn_21 (D : wD) (post : Int32 → wS → Prop)  (S : wS) (x2 : Int32) : Prop :=
wp_X7_pieceOn_29 D post S x2
def wp_X7_pieceOn_0 (D : wD) (post : Int32 → wS → Prop)  (S : wS) (a0 : Nat) (x1 : Int32) : Prop :=
wp_X7_kindOn D (fun r_1 S_2 => 
((r_1 = 0 → wp_X7_pieceOn_21 D post S_2 r_1) ∧
 (¬ r_1 = 0 → wp_X11_contains D (fun r_4 S_5 => 
((r_4 = 0 → wp_X7_pieceOn_29 D post S_5 (r_1 + (6 : Int32))) ∧
 (¬ r_4 = 0 → wp_X7_pieceOn_21 D post S_5 r_1))) S_2 (sJ S_2 a0 1) x1))) S a0 x1
abbrev r_X7_pieceOn : Room := { frames := 1, cells := 0, slots := 0, locals := 22 }
def wp_X7_pieceOn (D : wD) (post : Int32 → wS → Prop) (S : wS) (a0 : Nat) (x1 : Int32) : Prop := wp_X7_pieceOn_0 D post S a0 x1
set_option maxHeartbeats 4000000 in
set_option maxRecDepth 100000 in
theorem t_X7_pieceOn_29 {p : Program} {l : Launch} {e : Env} {s : State} {m : MethodId} {args : Array Value} {below : List Frame} {meth : Method} {c : Code} {D : wD} {cy : Nat → ClassId} {X : va_W} {A : Nat → Prop} {S0 : wS} {post : Int32 → wS → Prop} (F : CallFix p m c cX7_pieceOn 3 s args wz_X7_pieceOn RX7) (hr : meth.sig.returnType = (some .int)) (hlocks : meth.locks = false) (hK : wK D cy A s) : ∀ {S : wS} {H : Heap} {locs : List Loc} {ls : Array Slot} {t0 : Int32}, wp_X7_pieceOn_29 D post S t0 → wO D cy X A s.heap S H locs → wX D S0 S → lv_has ls 3 [] → W p l e r_X7_pieceOn s m args below meth c H locs 0 0 (MQ below (va_Qi (fun r S9 => wX D S0 S9 ∧ post r S9) (wB D cy X A) A) args s 0 0 A) (F0 m 29 ls [.int t0]) := by
  obtain ⟨hx, hb, hml, hown, hts⟩ := id F
  have hwg : ∀ w ∈ WG, w.before args s = true := fun w h => hts w (List.mem_cons_of_mem _ h)
  intro S H locs ls t0 hp hW hE hl
  unfold wp_X7_pieceOn_29 at hp
  exact w_iret hx hb hr hlocks hW ⟨hE, hp⟩ dX7_pieceOn_29
set_option maxHeartbeats 4000000 in
set_option maxRecDepth 100000 in
theorem t_X7_pieceOn_21 {p : Program} {l : Launch} {e : Env} {s : State} {m : MethodId} {args : Array Value} {below : List Frame} {meth : Method} {c : Code} {D : wD} {cy : Nat → ClassId} {X : va_W} {A : Nat → Prop} {S0 : wS} {post : Int32 → wS → Prop} (F : CallFix p m c cX7_pieceOn 3 s args wz_X7_pieceOn RX7) (hr : meth.sig.returnType = (some .int)) (hlocks : meth.locks = false) (hK : wK D cy A s) : ∀ {S : wS} {H : Heap} {locs : List Loc} {ls : Array Slot} {x2 : Int32}, wp_X7_pieceOn_21 D post S x2 → wO D cy X A s.heap S H locs → wX D S0 S → lv_has ls 3 [(2, .int x2)] → W p l e r_X7_pieceOn s m args below meth c H locs 0 0 (MQ below (va_Qi (fun r S9 => wX D S0 S9 ∧ post r S9) (wB D cy X A) A) args s 0 0 A) (F0 m 21 ls []) := by
  obtain ⟨hx, hb, hml, hown, hts⟩ := id F
  have hwg : ∀ w ∈ WG, w.before args s = true := fun w h => hts w (List.mem_cons_of_mem _ h)
  intro S H locs ls x2 hp hW hE hl
  unfold wp_X7_pieceOn_21 at hp
  refine lv_iload_n hx hb dX7_pieceOn_21 rfl (lv_at hl 0 rfl) ?_
  refine lv_goto (tgt := 29) hx hb dX7_pieceOn_22 (by decide) ?_
  exact t_X7_pieceOn_29 F hr hlocks hK hp hW hE (lv_sub hl [] rfl)
set_option maxHeartbeats 4000000 in
set_option maxRecDepth 100000 in
theorem t_X7_pieceOn_0 {p : Program} {l : Launch} {e : Env} {s : State} {m : MethodId} {args : Array Value} {below : List Frame} {meth : Method} {c : Code} {D : wD} {cy : Nat → ClassId} {X : va_W} {A : Nat → Prop} {S0 : wS} {post : Int32 → wS → Prop} (F : CallFix p m c cX7_pieceOn 3 s args wz_X7_pieceOn RX7) (hr : meth.sig.returnType = (some .int)) (hlocks : meth.locks = false) (hK : wK D cy A s) : ∀ {S : wS} {H : Heap} {locs : List Loc} {ls : Array Slot} {a0 : Nat} {x1 : Int32}, wp_X7_pieceOn_0 D post S a0 x1 → wO D cy X A s.heap S H locs → wX D S0 S → lv_has ls 3 [(0, .ref a0), (1, .int x1)] → wM D S a0 → sK S a0 = 12 → W p l e r_X7_pieceOn s m args below meth c H locs 0 0 (MQ below (va_Qi (fun r S9 => wX D S0 S9 ∧ post r S9) (wB D cy X A) A) args s 0 0 A) (F0 m 0 ls []) := by
  obtain ⟨hx, hb, hml, hown, hts⟩ := id F
  have hwg : ∀ w ∈ WG, w.before args s = true := fun w h => hts w (List.mem_cons_of_mem _ h)
  have i_12 : ∀ w ∈ u_ws RX7 TX7 8, w ∈ wz_X7_pieceOn := fun w h => List.mem_cons_of_mem _ (wu_12 w h)
  have k_9 := hwg _ wf_RX7_9
  intro S H locs ls a0 x1 hp hW hE hl hL_a0 hK_a0
  unfold wp_X7_pieceOn_0 at hp
  refine lv_aload_n hx hb dX7_pieceOn_0 rfl (lv_at hl 0 rfl) ?_
  refine lv_iload_n hx hb dX7_pieceOn_1 rfl (lv_at hl 1 rfl) ?_
  refine w_callI (va_runV (As := [.int x1]) (rest := []) F (c_X7_kindOn l hL_a0 hK_a0 hp H.size) (cwV (C := RX7) 1 hts (wg_V wm_RX7_76 wy_X7_kindOn) rfl rfl rfl (by decide +kernel) ⟨Nat.le_of_ble_eq_true rfl, Nat.le_of_ble_eq_true rfl⟩) (w_preV hK hW hL_a0 hK_a0 (by decide) rfl) rfl rfl hl.1 rfl (lv_room (Nat.le_of_ble_eq_true rfl)) dX7_pieceOn_2 ⟨Nat.le_of_ble_eq_true rfl, Nat.le_of_ble_eq_true rfl⟩) hW (fun r_1 S_2 H locs hp hW => ?_)
  obtain ⟨hX_S_2, hp⟩ := hp
  refine W.widen (k := 0) (n := 0) (by decide) (by decide) ?_
  have hE := hE.trans hX_S_2
  have hK_a0 : sK S_2 a0 = 12 := (hX_S_2.2 a0 hL_a0).1.trans hK_a0
  have hL_a0 : wM D S_2 a0 := hX_S_2.M hL_a0
  refine lv_istore_n (lv' := [(2, .int r_1), (0, .ref a0), (1, .int x1)]) hx hb dX7_pieceOn_5 rfl hl (by decide) rfl (fun ls hl => ?_)
  refine lv_iload_n hx hb dX7_pieceOn_6 rfl (lv_at hl 0 rfl) ?_
  refine lv_if_eq (tgt := 21) hx hb dX7_pieceOn_7 (by decide) (fun c_3 => ?_) (fun c_3 => ?_)
  · replace hp := hp.1 c_3
    exact t_X7_pieceOn_21 F hr hlocks hK hp hW hE (lv_sub hl [0] rfl)
  · replace hp := hp.2 c_3
    refine lv_aload_n hx hb dX7_pieceOn_10 rfl (lv_at hl 1 rfl) ?_
    refine w_get (k := 12) (f := 1) (T := TX7) (v := .long (sJ S_2 a0 1)) F hK hW hL_a0 hK_a0 (by decide) rfl rfl (by decide) i_12 k_9 rfl dX7_pieceOn_11 ?_
    refine lv_iload_n hx hb dX7_pieceOn_14 rfl (lv_at hl 2 rfl) ?_
    refine w_callI (va_runSN (As := [.long (sJ S_2 a0 1), .int x1]) (rest := []) F (c_X11_contains l hp H.size) ⟨va_cnB (host := "OpeningsCabinet") 2 hts (wg_cons wy_X11_contains.2.2) rfl rfl rfl (hK.2.1 (.methodLinkNest "OpeningsCabinet$Position" 79 ⟨"OpeningsCabinet", "contains", "(JI)Z"⟩ "OpeningsCabinet") (by decide +kernel)) (hwg _ wy_X11_contains.2.1) ⟨by decide, by decide, by decide +kernel⟩ ⟨Nat.le_of_ble_eq_true rfl, Nat.le_of_ble_eq_true rfl⟩, hwg _ wy_X11_contains.1, trivial⟩ (w_preS hK hW) rfl rfl hl.1 rfl (lv_room (Nat.le_of_ble_eq_true rfl)) dX7_pieceOn_15 ⟨Nat.le_of_ble_eq_true rfl, Nat.le_of_ble_eq_true rfl⟩) hW (fun r_4 S_5 H locs hp hW => ?_)
    obtain ⟨hX_S_5, hp⟩ := hp
    refine W.widen (k := 0) (n := 0) (by decide) (by decide) ?_
    have hE := hE.trans hX_S_5
    have hK_a0 : sK S_5 a0 = 12 := (hX_S_5.2 a0 hL_a0).1.trans hK_a0
    have hL_a0 : wM D S_5 a0 := hX_S_5.M hL_a0
    refine lv_if_eq (tgt := 25) hx hb dX7_pieceOn_18 (by decide) (fun c_6 => ?_) (fun c_6 => ?_)
    · replace hp := hp.1 c_6
      refine lv_iload_n hx hb dX7_pieceOn_25 rfl (lv_at hl 0 rfl) ?_
      refine lv_bipush (v := 6) hx hb dX7_pieceOn_26 (by decide) ?_
      refine lv_iadd hx hb dX7_pieceOn_28 ?_
      exact t_X7_pieceOn_29 F hr hlocks hK hp hW hE (lv_sub hl [] rfl)
    · replace hp := hp.2 c_6
      exact t_X7_pieceOn_21 F hr hlocks hK hp hW hE (lv_sub hl [0] rfl)
set_option maxHeartbeats 4000000 in
set_option maxRecDepth 100000 in
theorem c_X7_pieceOn (l : Launch) {D : wD} {cy : Nat → ClassId} {X : va_W} {S0 : wS} {post : Int32 → wS → Prop} {a0 : Nat} {x1 : Int32} (hL_a0 : wM D S0 a0) (hK_a0 : sK S0 a0 = 12) (hp : wp_X7_pieceOn D post S0 a0 x1) : mI D cy X l yX7_pieceOn wz_X7_pieceOn r_X7_pieceOn [.ref a0, .int x1] S0 (fun r S9 => wX D S0 S9 ∧ post r S9) := by
  intro sz
  refine Met.ofW (cc := cX7_pieceOn) (maxL := 3) (ret := (some .int)) (by decide) rfl ?_
  intro p e s m args below meth c s₁ B hml hv
  obtain ⟨rfl, hsz, hP, hK, hD0, hRO⟩ := hv
  have hts := atoms_spec (ws := wz_X7_pieceOn) B.pre
  have hown : s.vm.findClass RX7 = some m.cls := findClass_of_methodNamed B.named
  subst hsz
  have hD := hD0.self (sz := s.heap.size)
  have F : CallFix p m c cX7_pieceOn 3 s _ wz_X7_pieceOn RX7 := ⟨B.exec, B.bytes, hml, hown, hts⟩
  have hr := B.returns
  have hlocks := B.notSynchronized
  generalize hAe : va_A (wL cy X S0) s.heap.size = A at hD hK ⊢
  have hA : ∀ q, s.heap.size ≤ q → A q := fun q h => by rw [← hAe]; exact Or.inr h
  have hW : wO D cy X A s.heap S0 s.heap [] := ⟨hP, hD, va_S.rf, hA, hRO⟩
  have hl := lv_entry ([.ref a0, .int x1]) (n := 3) (Nat.le_of_ble_eq_true rfl)
  rw [lg_entry_eq]
  generalize (lg_sl ([.ref a0, .int x1]) ++ List.replicate (3 - (lg_sl ([.ref a0, .int x1])).length) Slot.unset).toArray = ls at hl ⊢
  have hl : lv_has ls 3 [(0, .ref a0), (1, .int x1)] := hl
  unfold wp_X7_pieceOn at hp
  exact t_X7_pieceOn_0 F hr hlocks hK hp hW wX.rf (lv_sub hl [0, 1] rfl) hL_a0 hK_a0
def wp_X7_fits_114 (D : wD) (post : Int32 → wS → Prop)  (S : wS) : Prop :=
narrow .boolean (.int (1 : Int32)) = .int (1 : Int32) ∧ post (1 : Int32) S
def wp_X7_fits_101 (D : wD) (post : Int32 → wS → Prop) (k_2 : wS → Nat → Nat → Int32 → Prop) (S : wS) (a0 : Nat) (a1 : Nat) (x2 : Int32) (x5 : Int32) : Prop :=
((¬ x5 = 0 → ∀ x_2 : Int32, x_2 = x2 + 1 →
k_2 S a0 a1 x_2) ∧
 (x5 = 0 → narrow .boolean (.int (0 : Int32)) = .int (0 : Int32) ∧ post (0 : Int32) S))
def wp_X7_fits_99 (D : wD) (post : Int32 → wS → Prop) (k_2 : wS → Nat → Nat → Int32 → Prop) (S : wS) (a0 : Nat) (a1 : Nat) (x2 : Int32) (t0 : Int32) : Prop :=
wp_X7_fits_101 D post k_2 S a0 a1 x2 t0
def wp_X7_fits_94 (D : wD) (post : Int32 → wS → Prop) (k_2 : wS → Nat → Nat → Int32 → Prop) (S : wS) (a0 : Nat) (a1 : Nat) (x2 : Int32) : Prop :=
wp_X7_fits_99 D post k_2 S a0 a1 x2 (1 : Int32)
def wp_X7_fits_77 (D : wD) (post : Int32 → wS → Prop) (k_2 : wS → Nat → Nat → Int32 → Prop) (S : wS) (a0 : Nat) (a1 : Nat) (x2 : Int32) (t0 : Int32) : Prop :=
wp_X7_fits_101 D post k_2 S a0 a1 x2 t0
def wp_X7_fits_54 (D : wD) (post : Int32 → wS → Prop) (k_2 : wS → Nat → Nat → Int32 → Prop) (S : wS) (a0 : Nat) (a1 : Nat) (x2 : Int32) (t0 : Int32) : Prop :=
wp_X7_fits_101 D post k_2 S a0 a1 x2 t0
def wp_X7_fits_53 (D : wD) (post : Int32 → wS → Prop) (k_2 : wS → Nat → Nat → Int32 → Prop) (S : wS) (a0 : Nat) (a1 : Nat) (x2 : Int32) : Prop :=
wp_X7_fits_54 D post k_2 S a0 a1 x2 (0 : Int32)
def wp_X7_fits_2 (D : wD) (post : Int32 → wS → Prop)  : Nat → wS → Nat → Nat → Int32 → Prop
  | 0, _, _, _, _ => False
  | n + 1, S, a0, a1, x2 =>
    ∃ y_1 : Nat, sR S a0 0 = some y_1 ∧ wM D S y_1 ∧ sK S y_1 = 5 ∧
    (((sI S y_1 2) ≤ x2 → wp_X7_fits_114 D post S) ∧
     (¬ (sI S y_1 2) ≤ x2 → (((Int32.ofNat (sN S a1)) ≤ x2 → wp_X7_fits_114 D post S) ∧
     (¬ (Int32.ofNat (sN S a1)) ≤ x2 → vp_in x2 (sN S a1) ∧
    ∀ x_5 : Int32, x_5 = (sI S a1 (x2).toNatClampNeg) →
    wp_X7_pieceOn D (fun r_6 S_7 => 
    ((¬ x_5 = (13 : Int32) → ((¬ x_5 = (14 : Int32) → ((x_5 = (15 : Int32) → wp_X7_fits_94 D post (wp_X7_fits_2 D post n) S_7 a0 a1 x2) ∧
     (¬ x_5 = (15 : Int32) → ((¬ x_5 = r_6 → wp_X7_fits_99 D post (wp_X7_fits_2 D post n) S_7 a0 a1 x2 (0 : Int32)) ∧
     (x_5 = r_6 → wp_X7_fits_94 D post (wp_X7_fits_2 D post n) S_7 a0 a1 x2))))) ∧
     (x_5 = (14 : Int32) → ((r_6 ≤ (6 : Int32) → wp_X7_fits_77 D post (wp_X7_fits_2 D post n) S_7 a0 a1 x2 (0 : Int32)) ∧
     (¬ r_6 ≤ (6 : Int32) → wp_X7_fits_77 D post (wp_X7_fits_2 D post n) S_7 a0 a1 x2 (1 : Int32)))))) ∧
     (x_5 = (13 : Int32) → ((r_6 < (1 : Int32) → wp_X7_fits_53 D post (wp_X7_fits_2 D post n) S_7 a0 a1 x2) ∧
     (¬ r_6 < (1 : Int32) → (((6 : Int32) < r_6 → wp_X7_fits_53 D post (wp_X7_fits_2 D post n) S_7 a0 a1 x2) ∧
     (¬ (6 : Int32) < r_6 → wp_X7_fits_54 D post (wp_X7_fits_2 D post n) S_7 a0 a1 x2 (1 : Int32)))))))) S a0 x2))))
def wp_X7_fits_0 (D : wD) (post : Int32 → wS → Prop)  (S : wS) (a0 : Nat) (a1 : Nat) : Prop :=
∃ n_1 : Nat, wp_X7_fits_2 D post n_1 S a0 a1 (0 : Int32)
abbrev r_X7_fits : Room := { frames := 2, cells := 0, slots := 0, locals := 44 }
def wp_X7_fits (D : wD) (post : Int32 → wS → Prop) (S : wS) (a0 : Nat) (a1 : Nat) : Prop := wp_X7_fits_0 D post S a0 a1
set_option maxHeartbeats 4000000 in
set_option maxRecDepth 100000 in
theorem t_X7_fits_114 {p : Program} {l : Launch} {e : Env} {s : State} {m : MethodId} {args : Array Value} {below : List Frame} {meth : Method} {c : Code} {D : wD} {cy : Nat → ClassId} {X : va_W} {A : Nat → Prop} {S0 : wS} {post : Int32 → wS → Prop} (F : CallFix p m c cX7_fits 6 s args wz_X7_fits RX7) (hr : meth.sig.returnType = (some .boolean)) (hlocks : meth.locks = false) (hK : wK D cy A s) : ∀ {S : wS} {H : Heap} {locs : List Loc} {ls : Array Slot}, wp_X7_fits_114 D post S → wO D cy X A s.heap S H locs → wX D S0 S → lv_has ls 6 [] → W p l e r_X7_fits s m args below meth c H locs 0 0 (MQ below (va_Qi (fun r S9 => wX D S0 S9 ∧ post r S9) (wB D cy X A) A) args s 0 0 A) (F0 m 114 ls []) := by
  obtain ⟨hx, hb, hml, hown, hts⟩ := id F
  have hwg : ∀ w ∈ WG, w.before args s = true := fun w h => hts w (List.mem_cons_of_mem _ h)
  intro S H locs ls hp hW hE hl
  unfold wp_X7_fits_114 at hp
  refine lv_iconst (v := 1) hx hb dX7_fits_114 (by decide) ?_
  exact w_zret hx hb hr hlocks hW hp.1 ⟨hE, hp.2⟩ dX7_fits_115
set_option maxHeartbeats 4000000 in
set_option maxRecDepth 100000 in
theorem t_X7_fits_101 {p : Program} {l : Launch} {e : Env} {s : State} {m : MethodId} {args : Array Value} {below : List Frame} {meth : Method} {c : Code} {D : wD} {cy : Nat → ClassId} {X : va_W} {A : Nat → Prop} {S0 : wS} {post : Int32 → wS → Prop} (F : CallFix p m c cX7_fits 6 s args wz_X7_fits RX7) (hr : meth.sig.returnType = (some .boolean)) (hlocks : meth.locks = false) (hK : wK D cy A s) {k_2 : wS → Nat → Nat → Int32 → Prop} (q_2 : ∀ {S : wS} {H : Heap} {locs : List Loc} {ls : Array Slot} {a0 : Nat} {a1 : Nat} {x2 : Int32}, k_2 S a0 a1 x2 → wO D cy X A s.heap S H locs → wX D S0 S → lv_has ls 6 [(0, .ref a0), (1, .ref a1), (2, .int x2)] → wM D S a0 → sK S a0 = 12 → wM D S a1 → sK S a1 = 21 → W p l e r_X7_fits s m args below meth c H locs 0 0 (MQ below (va_Qi (fun r S9 => wX D S0 S9 ∧ post r S9) (wB D cy X A) A) args s 0 0 A) (F0 m 2 ls [])) : ∀ {S : wS} {H : Heap} {locs : List Loc} {ls : Array Slot} {a0 : Nat} {a1 : Nat} {x2 : Int32} {x5 : Int32}, wp_X7_fits_101 D post k_2 S a0 a1 x2 x5 → wO D cy X A s.heap S H locs → wX D S0 S → lv_has ls 6 [(0, .ref a0), (1, .ref a1), (2, .int x2), (5, .int x5)] → wM D S a0 → sK S a0 = 12 → wM D S a1 → sK S a1 = 21 → W p l e r_X7_fits s m args below meth c H locs 0 0 (MQ below (va_Qi (fun r S9 => wX D S0 S9 ∧ post r S9) (wB D cy X A) A) args s 0 0 A) (F0 m 101 ls []) := by
  obtain ⟨hx, hb, hml, hown, hts⟩ := id F
  have hwg : ∀ w ∈ WG, w.before args s = true := fun w h => hts w (List.mem_cons_of_mem _ h)
  intro S H locs ls a0 a1 x2 x5 hp hW hE hl hL_a0 hK_a0 hL_a1 hK_a1
  unfold wp_X7_fits_101 at hp
  refine lv_iload hx hb dX7_fits_101 (lv_at hl 3 rfl) ?_
  refine lv_if_ne (tgt := 108) hx hb dX7_fits_103 (by decide) (fun c_1 => ?_) (fun c_1 => ?_)
  · replace hp := hp.1 c_1
    obtain ⟨x_2, ex_2⟩ : ∃ z : Int32, z = x2 + 1 := ⟨_, rfl⟩
    replace hp := hp x_2 ex_2
    refine lv_iinc (v := x_2) (lv' := [(2, .int x_2), (0, .ref a0), (1, .ref a1), (5, .int x5)]) hx hb dX7_fits_108 hl (k := 2) rfl (by rw [ex_2]; rfl) (by decide) rfl (fun ls hl => ?_)
    refine lv_goto (tgt := 2) hx hb dX7_fits_111 (by decide) ?_
    exact q_2 hp hW hE (lv_sub hl [1, 2, 0] rfl) hL_a0 hK_a0 hL_a1 hK_a1
  · replace hp := hp.2 c_1
    refine lv_iconst (v := 0) hx hb dX7_fits_106 (by decide) ?_
    exact w_zret hx hb hr hlocks hW hp.1 ⟨hE, hp.2⟩ dX7_fits_107
set_option maxHeartbeats 4000000 in
set_option maxRecDepth 100000 in
theorem t_X7_fits_99 {p : Program} {l : Launch} {e : Env} {s : State} {m : MethodId} {args : Array Value} {below : List Frame} {meth : Method} {c : Code} {D : wD} {cy : Nat → ClassId} {X : va_W} {A : Nat → Prop} {S0 : wS} {post : Int32 → wS → Prop} (F : CallFix p m c cX7_fits 6 s args wz_X7_fits RX7) (hr : meth.sig.returnType = (some .boolean)) (hlocks : meth.locks = false) (hK : wK D cy A s) {k_2 : wS → Nat → Nat → Int32 → Prop} (q_2 : ∀ {S : wS} {H : Heap} {locs : List Loc} {ls : Array Slot} {a0 : Nat} {a1 : Nat} {x2 : Int32}, k_2 S a0 a1 x2 → wO D cy X A s.heap S H locs → wX D S0 S → lv_has ls 6 [(0, .ref a0), (1, .ref a1), (2, .int x2)] → wM D S a0 → sK S a0 = 12 → wM D S a1 → sK S a1 = 21 → W p l e r_X7_fits s m args below meth c H locs 0 0 (MQ below (va_Qi (fun r S9 => wX D S0 S9 ∧ post r S9) (wB D cy X A) A) args s 0 0 A) (F0 m 2 ls [])) : ∀ {S : wS} {H : Heap} {locs : List Loc} {ls : Array Slot} {a0 : Nat} {a1 : Nat} {x2 : Int32} {t0 : Int32}, wp_X7_fits_99 D post k_2 S a0 a1 x2 t0 → wO D cy X A s.heap S H locs → wX D S0 S → lv_has ls 6 [(0, .ref a0), (1, .ref a1), (2, .int x2)] → wM D S a0 → sK S a0 = 12 → wM D S a1 → sK S a1 = 21 → W p l e r_X7_fits s m args below meth c H locs 0 0 (MQ below (va_Qi (fun r S9 => wX D S0 S9 ∧ post r S9) (wB D cy X A) A) args s 0 0 A) (F0 m 99 ls [.int t0]) := by
  obtain ⟨hx, hb, hml, hown, hts⟩ := id F
  have hwg : ∀ w ∈ WG, w.before args s = true := fun w h => hts w (List.mem_cons_of_mem _ h)
  intro S H locs ls a0 a1 x2 t0 hp hW hE hl hL_a0 hK_a0 hL_a1 hK_a1
  unfold wp_X7_fits_99 at hp
  refine lv_istore (lv' := [(5, .int t0), (0, .ref a0), (1, .ref a1), (2, .int x2)]) hx hb dX7_fits_99 hl (by decide) rfl (fun ls hl => ?_)
  exact t_X7_fits_101 F hr hlocks hK q_2 hp hW hE (lv_sub hl [1, 2, 3, 0] rfl) hL_a0 hK_a0 hL_a1 hK_a1
set_option maxHeartbeats 4000000 in
set_option maxRecDepth 100000 in
theorem t_X7_fits_94 {p : Program} {l : Launch} {e : Env} {s : State} {m : MethodId} {args : Array Value} {below : List Frame} {meth : Method} {c : Code} {D : wD} {cy : Nat → ClassId} {X : va_W} {A : Nat → Prop} {S0 : wS} {post : Int32 → wS → Prop} (F : CallFix p m c cX7_fits 6 s args wz_X7_fits RX7) (hr : meth.sig.returnType = (some .boolean)) (hlocks : meth.locks = false) (hK : wK D cy A s) {k_2 : wS → Nat → Nat → Int32 → Prop} (q_2 : ∀ {S : wS} {H : Heap} {locs : List Loc} {ls : Array Slot} {a0 : Nat} {a1 : Nat} {x2 : Int32}, k_2 S a0 a1 x2 → wO D cy X A s.heap S H locs → wX D S0 S → lv_has ls 6 [(0, .ref a0), (1, .ref a1), (2, .int x2)] → wM D S a0 → sK S a0 = 12 → wM D S a1 → sK S a1 = 21 → W p l e r_X7_fits s m args below meth c H locs 0 0 (MQ below (va_Qi (fun r S9 => wX D S0 S9 ∧ post r S9) (wB D cy X A) A) args s 0 0 A) (F0 m 2 ls [])) : ∀ {S : wS} {H : Heap} {locs : List Loc} {ls : Array Slot} {a0 : Nat} {a1 : Nat} {x2 : Int32}, wp_X7_fits_94 D post k_2 S a0 a1 x2 → wO D cy X A s.heap S H locs → wX D S0 S → lv_has ls 6 [(0, .ref a0), (1, .ref a1), (2, .int x2)] → wM D S a0 → sK S a0 = 12 → wM D S a1 → sK S a1 = 21 → W p l e r_X7_fits s m args below meth c H locs 0 0 (MQ below (va_Qi (fun r S9 => wX D S0 S9 ∧ post r S9) (wB D cy X A) A) args s 0 0 A) (F0 m 94 ls []) := by
  obtain ⟨hx, hb, hml, hown, hts⟩ := id F
  have hwg : ∀ w ∈ WG, w.before args s = true := fun w h => hts w (List.mem_cons_of_mem _ h)
  intro S H locs ls a0 a1 x2 hp hW hE hl hL_a0 hK_a0 hL_a1 hK_a1
  unfold wp_X7_fits_94 at hp
  refine lv_iconst (v := 1) hx hb dX7_fits_94 (by decide) ?_
  refine lv_goto (tgt := 99) hx hb dX7_fits_95 (by decide) ?_
  exact t_X7_fits_99 F hr hlocks hK q_2 hp hW hE (lv_sub hl [0, 1, 2] rfl) hL_a0 hK_a0 hL_a1 hK_a1
set_option maxHeartbeats 4000000 in
set_option maxRecDepth 100000 in
theorem t_X7_fits_77 {p : Program} {l : Launch} {e : Env} {s : State} {m : MethodId} {args : Array Value} {below : List Frame} {meth : Method} {c : Code} {D : wD} {cy : Nat → ClassId} {X : va_W} {A : Nat → Prop} {S0 : wS} {post : Int32 → wS → Prop} (F : CallFix p m c cX7_fits 6 s args wz_X7_fits RX7) (hr : meth.sig.returnType = (some .boolean)) (hlocks : meth.locks = false) (hK : wK D cy A s) {k_2 : wS → Nat → Nat → Int32 → Prop} (q_2 : ∀ {S : wS} {H : Heap} {locs : List Loc} {ls : Array Slot} {a0 : Nat} {a1 : Nat} {x2 : Int32}, k_2 S a0 a1 x2 → wO D cy X A s.heap S H locs → wX D S0 S → lv_has ls 6 [(0, .ref a0), (1, .ref a1), (2, .int x2)] → wM D S a0 → sK S a0 = 12 → wM D S a1 → sK S a1 = 21 → W p l e r_X7_fits s m args below meth c H locs 0 0 (MQ below (va_Qi (fun r S9 => wX D S0 S9 ∧ post r S9) (wB D cy X A) A) args s 0 0 A) (F0 m 2 ls [])) : ∀ {S : wS} {H : Heap} {locs : List Loc} {ls : Array Slot} {a0 : Nat} {a1 : Nat} {x2 : Int32} {t0 : Int32}, wp_X7_fits_77 D post k_2 S a0 a1 x2 t0 → wO D cy X A s.heap S H locs → wX D S0 S → lv_has ls 6 [(0, .ref a0), (1, .ref a1), (2, .int x2)] → wM D S a0 → sK S a0 = 12 → wM D S a1 → sK S a1 = 21 → W p l e r_X7_fits s m args below meth c H locs 0 0 (MQ below (va_Qi (fun r S9 => wX D S0 S9 ∧ post r S9) (wB D cy X A) A) args s 0 0 A) (F0 m 77 ls [.int t0]) := by
  obtain ⟨hx, hb, hml, hown, hts⟩ := id F
  have hwg : ∀ w ∈ WG, w.before args s = true := fun w h => hts w (List.mem_cons_of_mem _ h)
  intro S H locs ls a0 a1 x2 t0 hp hW hE hl hL_a0 hK_a0 hL_a1 hK_a1
  unfold wp_X7_fits_77 at hp
  refine lv_istore (lv' := [(5, .int t0), (0, .ref a0), (1, .ref a1), (2, .int x2)]) hx hb dX7_fits_77 hl (by decide) rfl (fun ls hl => ?_)
  refine lv_goto (tgt := 101) hx hb dX7_fits_79 (by decide) ?_
  exact t_X7_fits_101 F hr hlocks hK q_2 hp hW hE (lv_sub hl [1, 2, 3, 0] rfl) hL_a0 hK_a0 hL_a1 hK_a1
set_option maxHeartbeats 4000000 in
set_option maxRecDepth 100000 in
theorem t_X7_fits_54 {p : Program} {l : Launch} {e : Env} {s : State} {m : MethodId} {args : Array Value} {below : List Frame} {meth : Method} {c : Code} {D : wD} {cy : Nat → ClassId} {X : va_W} {A : Nat → Prop} {S0 : wS} {post : Int32 → wS → Prop} (F : CallFix p m c cX7_fits 6 s args wz_X7_fits RX7) (hr : meth.sig.returnType = (some .boolean)) (hlocks : meth.locks = false) (hK : wK D cy A s) {k_2 : wS → Nat → Nat → Int32 → Prop} (q_2 : ∀ {S : wS} {H : Heap} {locs : List Loc} {ls : Array Slot} {a0 : Nat} {a1 : Nat} {x2 : Int32}, k_2 S a0 a1 x2 → wO D cy X A s.heap S H locs → wX D S0 S → lv_has ls 6 [(0, .ref a0), (1, .ref a1), (2, .int x2)] → wM D S a0 → sK S a0 = 12 → wM D S a1 → sK S a1 = 21 → W p l e r_X7_fits s m args below meth c H locs 0 0 (MQ below (va_Qi (fun r S9 => wX D S0 S9 ∧ post r S9) (wB D cy X A) A) args s 0 0 A) (F0 m 2 ls [])) : ∀ {S : wS} {H : Heap} {locs : List Loc} {ls : Array Slot} {a0 : Nat} {a1 : Nat} {x2 : Int32} {t0 : Int32}, wp_X7_fits_54 D post k_2 S a0 a1 x2 t0 → wO D cy X A s.heap S H locs → wX D S0 S → lv_has ls 6 [(0, .ref a0), (1, .ref a1), (2, .int x2)] → wM D S a0 → sK S a0 = 12 → wM D S a1 → sK S a1 = 21 → W p l e r_X7_fits s m args below meth c H locs 0 0 (MQ below (va_Qi (fun r S9 => wX D S0 S9 ∧ post r S9) (wB D cy X A) A) args s 0 0 A) (F0 m 54 ls [.int t0]) := by
  obtain ⟨hx, hb, hml, hown, hts⟩ := id F
  have hwg : ∀ w ∈ WG, w.before args s = true := fun w h => hts w (List.mem_cons_of_mem _ h)
  intro S H locs ls a0 a1 x2 t0 hp hW hE hl hL_a0 hK_a0 hL_a1 hK_a1
  unfold wp_X7_fits_54 at hp
  refine lv_istore (lv' := [(5, .int t0), (0, .ref a0), (1, .ref a1), (2, .int x2)]) hx hb dX7_fits_54 hl (by decide) rfl (fun ls hl => ?_)
  refine lv_goto (tgt := 101) hx hb dX7_fits_56 (by decide) ?_
  exact t_X7_fits_101 F hr hlocks hK q_2 hp hW hE (lv_sub hl [1, 2, 3, 0] rfl) hL_a0 hK_a0 hL_a1 hK_a1
set_option maxHeartbeats 4000000 in
set_option maxRecDepth 100000 in
theorem t_X7_fits_53 {p : Program} {l : Launch} {e : Env} {s : State} {m : MethodId} {args : Array Value} {below : List Frame} {meth : Method} {c : Code} {D : wD} {cy : Nat → ClassId} {X : va_W} {A : Nat → Prop} {S0 : wS} {post : Int32 → wS → Prop} (F : CallFix p m c cX7_fits 6 s args wz_X7_fits RX7) (hr : meth.sig.returnType = (some .boolean)) (hlocks : meth.locks = false) (hK : wK D cy A s) {k_2 : wS → Nat → Nat → Int32 → Prop} (q_2 : ∀ {S : wS} {H : Heap} {locs : List Loc} {ls : Array Slot} {a0 : Nat} {a1 : Nat} {x2 : Int32}, k_2 S a0 a1 x2 → wO D cy X A s.heap S H locs → wX D S0 S → lv_has ls 6 [(0, .ref a0), (1, .ref a1), (2, .int x2)] → wM D S a0 → sK S a0 = 12 → wM D S a1 → sK S a1 = 21 → W p l e r_X7_fits s m args below meth c H locs 0 0 (MQ below (va_Qi (fun r S9 => wX D S0 S9 ∧ post r S9) (wB D cy X A) A) args s 0 0 A) (F0 m 2 ls [])) : ∀ {S : wS} {H : Heap} {locs : List Loc} {ls : Array Slot} {a0 : Nat} {a1 : Nat} {x2 : Int32}, wp_X7_fits_53 D post k_2 S a0 a1 x2 → wO D cy X A s.heap S H locs → wX D S0 S → lv_has ls 6 [(0, .ref a0), (1, .ref a1), (2, .int x2)] → wM D S a0 → sK S a0 = 12 → wM D S a1 → sK S a1 = 21 → W p l e r_X7_fits s m args below meth c H locs 0 0 (MQ below (va_Qi (fun r S9 => wX D S0 S9 ∧ post r S9) (wB D cy X A) A) args s 0 0 A) (F0 m 53 ls []) := by
  obtain ⟨hx, hb, hml, hown, hts⟩ := id F
  have hwg : ∀ w ∈ WG, w.before args s = true := fun w h => hts w (List.mem_cons_of_mem _ h)
  intro S H locs ls a0 a1 x2 hp hW hE hl hL_a0 hK_a0 hL_a1 hK_a1
  unfold wp_X7_fits_53 at hp
  refine lv_iconst (v := 0) hx hb dX7_fits_53 (by decide) ?_
  exact t_X7_fits_54 F hr hlocks hK q_2 hp hW hE (lv_sub hl [0, 1, 2] rfl) hL_a0 hK_a0 hL_a1 hK_a1
set_option maxHeartbeats 4000000 in
set_option maxRecDepth 100000 in
theorem t_X7_fits_2 {p : Program} {l : Launch} {e : Env} {s : State} {m : MethodId} {args : Array Value} {below : List Frame} {meth : Method} {c : Code} {D : wD} {cy : Nat → ClassId} {X : va_W} {A : Nat → Prop} {S0 : wS} {post : Int32 → wS → Prop} (F : CallFix p m c cX7_fits 6 s args wz_X7_fits RX7) (hr : meth.sig.returnType = (some .boolean)) (hlocks : meth.locks = false) (hK : wK D cy A s) : ∀ (n : Nat) {S : wS} {H : Heap} {locs : List Loc} {ls : Array Slot} {a0 : Nat} {a1 : Nat} {x2 : Int32}, wp_X7_fits_2 D post n S a0 a1 x2 → wO D cy X A s.heap S H locs → wX D S0 S → lv_has ls 6 [(0, .ref a0), (1, .ref a1), (2, .int x2)] → wM D S a0 → sK S a0 = 12 → wM D S a1 → sK S a1 = 21 → W p l e r_X7_fits s m args below meth c H locs 0 0 (MQ below (va_Qi (fun r S9 => wX D S0 S9 ∧ post r S9) (wB D cy X A) A) args s 0 0 A) (F0 m 2 ls []) := by
  obtain ⟨hx, hb, hml, hown, hts⟩ := id F
  have hwg : ∀ w ∈ WG, w.before args s = true := fun w h => hts w (List.mem_cons_of_mem _ h)
  have i_12 : ∀ w ∈ u_ws RX7 TX7 8, w ∈ wz_X7_fits := fun w h => List.mem_cons_of_mem _ (wu_12 w h)
  have i_5 : ∀ w ∈ u_ws RX0 TX0 12, w ∈ wz_X7_fits := fun w h => List.mem_cons_of_mem _ (wu_5 w h)
  have k_35 := hwg _ wf_RX7_35
  intro n
  induction n with
  | zero =>
    intro S H locs ls a0 a1 x2 hp
    exact hp.elim
  | succ n ih =>
    intro S H locs ls a0 a1 x2 hp hW hE hl hL_a0 hK_a0 hL_a1 hK_a1
    unfold wp_X7_fits_2 at hp
    refine lv_iload_n hx hb dX7_fits_2 rfl (lv_at hl 2 rfl) ?_
    refine lv_aload_n hx hb dX7_fits_3 rfl (lv_at hl 0 rfl) ?_
    obtain ⟨y_1, ey_1, hL_y_1, hK_y_1, hp⟩ := hp
    refine w_get (k := 12) (f := 0) (T := TX7) (v := .ref y_1) F hK hW hL_a0 hK_a0 (by decide) rfl rfl (by decide) i_12 k_35 (by rw [show wv 12 0 S a0 = va_rf (sR S a0 0) from rfl, ey_1]; rfl) dX7_fits_4 ?_
    refine w_getN (k := 5) (f := 2) (T := TX0) (v := .int (sI S y_1 2)) F hK hW hL_y_1 hK_y_1 (by decide) rfl rfl (by decide) i_5 (hK.2.1 (.fieldLinkNest "OpeningsCabinet$Position" 135 "OpeningsCabinet$Board" "size" "I" "OpeningsCabinet") (by decide +kernel)) rfl dX7_fits_7 ?_
    refine lv_icmp_ge (tgt := 114) hx hb dX7_fits_10 (by decide) (fun c_2 => ?_) (fun c_2 => ?_)
    · replace hp := hp.1 c_2
      exact t_X7_fits_114 F hr hlocks hK hp hW hE (lv_sub hl [] rfl)
    · replace hp := hp.2 c_2
      refine lv_iload_n hx hb dX7_fits_13 rfl (lv_at hl 2 rfl) ?_
      refine lv_aload_n hx hb dX7_fits_14 rfl (lv_at hl 1 rfl) ?_
      refine w_len F hK hW hL_a1 hK_a1 (by decide) dX7_fits_15 ?_
      refine lv_icmp_ge (tgt := 114) hx hb dX7_fits_16 (by decide) (fun c_3 => ?_) (fun c_3 => ?_)
      · replace hp := hp.1 c_3
        exact t_X7_fits_114 F hr hlocks hK hp hW hE (lv_sub hl [] rfl)
      · replace hp := hp.2 c_3
        refine lv_aload_n hx hb dX7_fits_19 rfl (lv_at hl 1 rfl) ?_
        refine lv_iload_n hx hb dX7_fits_20 rfl (lv_at hl 2 rfl) ?_
        obtain ⟨h_4, hp⟩ := hp
        refine w_ild F hK hW hL_a1 hK_a1 h_4 dX7_fits_21 ?_
        refine lv_topi (fun x_5 ex_5 => ?_)
        replace hp := hp x_5 ex_5
        refine lv_istore_n (lv' := [(3, .int x_5), (0, .ref a0), (1, .ref a1), (2, .int x2)]) hx hb dX7_fits_22 rfl hl (by decide) rfl (fun ls hl => ?_)
        refine lv_aload_n hx hb dX7_fits_23 rfl (lv_at hl 1 rfl) ?_
        refine lv_iload_n hx hb dX7_fits_24 rfl (lv_at hl 3 rfl) ?_
        refine w_callI (va_runV (As := [.int x2]) (rest := []) F (c_X7_pieceOn l hL_a0 hK_a0 hp H.size) (cwV (C := RX7) 1 hts (wg_V wm_RX7_141 wy_X7_pieceOn) rfl rfl rfl (by decide +kernel) ⟨Nat.le_of_ble_eq_true rfl, Nat.le_of_ble_eq_true rfl⟩) (w_preV hK hW hL_a0 hK_a0 (by decide) rfl) rfl rfl hl.1 rfl (lv_room (Nat.le_of_ble_eq_true rfl)) dX7_fits_25 ⟨Nat.le_of_ble_eq_true rfl, Nat.le_of_ble_eq_true rfl⟩) hW (fun r_6 S_7 H locs hp hW => ?_)
        obtain ⟨hX_S_7, hp⟩ := hp
        refine W.widen (k := 0) (n := 0) (by decide) (by decide) ?_
        have hE := hE.trans hX_S_7
        have hK_a0 : sK S_7 a0 = 12 := (hX_S_7.2 a0 hL_a0).1.trans hK_a0
        have hL_a0 : wM D S_7 a0 := hX_S_7.M hL_a0
        have hK_a1 : sK S_7 a1 = 21 := (hX_S_7.2 a1 hL_a1).1.trans hK_a1
        have hL_a1 : wM D S_7 a1 := hX_S_7.M hL_a1
        refine lv_istore (lv' := [(4, .int r_6), (3, .int x_5), (0, .ref a0), (1, .ref a1), (2, .int x2)]) hx hb dX7_fits_28 hl (by decide) rfl (fun ls hl => ?_)
        refine lv_iload_n hx hb dX7_fits_30 rfl (lv_at hl 1 rfl) ?_
        refine lv_bipush (v := 13) hx hb dX7_fits_31 (by decide) ?_
        refine lv_icmp_ne (tgt := 59) hx hb dX7_fits_33 (by decide) (fun c_8 => ?_) (fun c_8 => ?_)
        · replace hp := hp.1 c_8
          refine lv_iload_n hx hb dX7_fits_59 rfl (lv_at hl 1 rfl) ?_
          refine lv_bipush (v := 14) hx hb dX7_fits_60 (by decide) ?_
          refine lv_icmp_ne (tgt := 82) hx hb dX7_fits_62 (by decide) (fun c_9 => ?_) (fun c_9 => ?_)
          · replace hp := hp.1 c_9
            refine lv_iload_n hx hb dX7_fits_82 rfl (lv_at hl 1 rfl) ?_
            refine lv_bipush (v := 15) hx hb dX7_fits_83 (by decide) ?_
            refine lv_icmp_eq (tgt := 94) hx hb dX7_fits_85 (by decide) (fun c_10 => ?_) (fun c_10 => ?_)
            · replace hp := hp.1 c_10
              exact t_X7_fits_94 F hr hlocks hK ih hp hW hE (lv_sub hl [2, 3, 4] rfl) hL_a0 hK_a0 hL_a1 hK_a1
            · replace hp := hp.2 c_10
              refine lv_iload_n hx hb dX7_fits_88 rfl (lv_at hl 1 rfl) ?_
              refine lv_iload hx hb dX7_fits_89 (lv_at hl 0 rfl) ?_
              refine lv_icmp_ne (tgt := 98) hx hb dX7_fits_91 (by decide) (fun c_11 => ?_) (fun c_11 => ?_)
              · replace hp := hp.1 c_11
                refine lv_iconst (v := 0) hx hb dX7_fits_98 (by decide) ?_
                exact t_X7_fits_99 F hr hlocks hK ih hp hW hE (lv_sub hl [2, 3, 4] rfl) hL_a0 hK_a0 hL_a1 hK_a1
              · replace hp := hp.2 c_11
                exact t_X7_fits_94 F hr hlocks hK ih hp hW hE (lv_sub hl [2, 3, 4] rfl) hL_a0 hK_a0 hL_a1 hK_a1
          · replace hp := hp.2 c_9
            refine lv_iload hx hb dX7_fits_65 (lv_at hl 0 rfl) ?_
            refine lv_bipush (v := 6) hx hb dX7_fits_67 (by decide) ?_
            refine lv_icmp_le (tgt := 76) hx hb dX7_fits_69 (by decide) (fun c_12 => ?_) (fun c_12 => ?_)
            · replace hp := hp.1 c_12
              refine lv_iconst (v := 0) hx hb dX7_fits_76 (by decide) ?_
              exact t_X7_fits_77 F hr hlocks hK ih hp hW hE (lv_sub hl [2, 3, 4] rfl) hL_a0 hK_a0 hL_a1 hK_a1
            · replace hp := hp.2 c_12
              refine lv_iconst (v := 1) hx hb dX7_fits_72 (by decide) ?_
              refine lv_goto (tgt := 77) hx hb dX7_fits_73 (by decide) ?_
              exact t_X7_fits_77 F hr hlocks hK ih hp hW hE (lv_sub hl [2, 3, 4] rfl) hL_a0 hK_a0 hL_a1 hK_a1
        · replace hp := hp.2 c_8
          refine lv_iload hx hb dX7_fits_36 (lv_at hl 0 rfl) ?_
          refine lv_iconst (v := 1) hx hb dX7_fits_38 (by decide) ?_
          refine lv_icmp_lt (tgt := 53) hx hb dX7_fits_39 (by decide) (fun c_13 => ?_) (fun c_13 => ?_)
          · replace hp := hp.1 c_13
            exact t_X7_fits_53 F hr hlocks hK ih hp hW hE (lv_sub hl [2, 3, 4] rfl) hL_a0 hK_a0 hL_a1 hK_a1
          · replace hp := hp.2 c_13
            refine lv_iload hx hb dX7_fits_42 (lv_at hl 0 rfl) ?_
            refine lv_bipush (v := 6) hx hb dX7_fits_44 (by decide) ?_
            refine lv_icmp_gt (tgt := 53) hx hb dX7_fits_46 (by decide) (fun c_14 => ?_) (fun c_14 => ?_)
            · replace hp := hp.1 c_14
              exact t_X7_fits_53 F hr hlocks hK ih hp hW hE (lv_sub hl [2, 3, 4] rfl) hL_a0 hK_a0 hL_a1 hK_a1
            · replace hp := hp.2 c_14
              refine lv_iconst (v := 1) hx hb dX7_fits_49 (by decide) ?_
              refine lv_goto (tgt := 54) hx hb dX7_fits_50 (by decide) ?_
              exact t_X7_fits_54 F hr hlocks hK ih hp hW hE (lv_sub hl [2, 3, 4] rfl) hL_a0 hK_a0 hL_a1 hK_a1
set_option maxHeartbeats 4000000 in
set_option maxRecDepth 100000 in
theorem t_X7_fits_0 {p : Program} {l : Launch} {e : Env} {s : State} {m : MethodId} {args : Array Value} {below : List Frame} {meth : Method} {c : Code} {D : wD} {cy : Nat → ClassId} {X : va_W} {A : Nat → Prop} {S0 : wS} {post : Int32 → wS → Prop} (F : CallFix p m c cX7_fits 6 s args wz_X7_fits RX7) (hr : meth.sig.returnType = (some .boolean)) (hlocks : meth.locks = false) (hK : wK D cy A s) : ∀ {S : wS} {H : Heap} {locs : List Loc} {ls : Array Slot} {a0 : Nat} {a1 : Nat}, wp_X7_fits_0 D post S a0 a1 → wO D cy X A s.heap S H locs → wX D S0 S → lv_has ls 6 [(0, .ref a0), (1, .ref a1)] → wM D S a0 → sK S a0 = 12 → wM D S a1 → sK S a1 = 21 → W p l e r_X7_fits s m args below meth c H locs 0 0 (MQ below (va_Qi (fun r S9 => wX D S0 S9 ∧ post r S9) (wB D cy X A) A) args s 0 0 A) (F0 m 0 ls []) := by
  obtain ⟨hx, hb, hml, hown, hts⟩ := id F
  have hwg : ∀ w ∈ WG, w.before args s = true := fun w h => hts w (List.mem_cons_of_mem _ h)
  intro S H locs ls a0 a1 hp hW hE hl hL_a0 hK_a0 hL_a1 hK_a1
  unfold wp_X7_fits_0 at hp
  refine lv_iconst (v := 0) hx hb dX7_fits_0 (by decide) ?_
  refine lv_istore_n (lv' := [(2, .int (0 : Int32)), (0, .ref a0), (1, .ref a1)]) hx hb dX7_fits_1 rfl hl (by decide) rfl (fun ls hl => ?_)
  obtain ⟨n_1, hp⟩ := hp
  exact t_X7_fits_2 F hr hlocks hK n_1 hp hW hE (lv_sub hl [1, 2, 0] rfl) hL_a0 hK_a0 hL_a1 hK_a1
set_option maxHeartbeats 4000000 in
set_option maxRecDepth 100000 in
theorem c_X7_fits (l : Launch) {D : wD} {cy : Nat → ClassId} {X : va_W} {S0 : wS} {post : Int32 → wS → Prop} {a0 : Nat} {a1 : Nat} (hL_a0 : wM D S0 a0) (hK_a0 : sK S0 a0 = 12) (hL_a1 : wM D S0 a1) (hK_a1 : sK S0 a1 = 21) (hp : wp_X7_fits D post S0 a0 a1) : mI D cy X l yX7_fits wz_X7_fits r_X7_fits [.ref a0, .ref a1] S0 (fun r S9 => wX D S0 S9 ∧ post r S9) := by
  intro sz
  refine Met.ofW (cc := cX7_fits) (maxL := 6) (ret := (some .boolean)) (by decide) rfl ?_
  intro p e s m args below meth c s₁ B hml hv
  obtain ⟨rfl, hsz, hP, hK, hD0, hRO⟩ := hv
  have hts := atoms_spec (ws := wz_X7_fits) B.pre
  have hown : s.vm.findClass RX7 = some m.cls := findClass_of_methodNamed B.named
  subst hsz
  have hD := hD0.self (sz := s.heap.size)
  have F : CallFix p m c cX7_fits 6 s _ wz_X7_fits RX7 := ⟨B.exec, B.bytes, hml, hown, hts⟩
  have hr := B.returns
  have hlocks := B.notSynchronized
  generalize hAe : va_A (wL cy X S0) s.heap.size = A at hD hK ⊢
  have hA : ∀ q, s.heap.size ≤ q → A q := fun q h => by rw [← hAe]; exact Or.inr h
  have hW : wO D cy X A s.heap S0 s.heap [] := ⟨hP, hD, va_S.rf, hA, hRO⟩
  have hl := lv_entry ([.ref a0, .ref a1]) (n := 6) (Nat.le_of_ble_eq_true rfl)
  rw [lg_entry_eq]
  generalize (lg_sl ([.ref a0, .ref a1]) ++ List.replicate (6 - (lg_sl ([.ref a0, .ref a1])).length) Slot.unset).toArray = ls at hl ⊢
  have hl : lv_has ls 6 [(0, .ref a0), (1, .ref a1)] := hl
  unfold wp_X7_fits at hp
  exact t_X7_fits_0 F hr hlocks hK hp hW wX.rf (lv_sub hl [0, 1] rfl) hL_a0 hK_a0 hL_a1 hK_a1
def wp_X7_load_76 (D : wD) (post : wS → Prop)  (S : wS) (a0 : Nat) (x4 : Int32) (b0 : Nat) (t1 : Int32) : Prop :=
narrow .boolean (.int t1) = .int t1 ∧ fits .boolean (.int t1) = true ∧
∀ S_1 : wS, S_1 = uI S b0 5 t1 →
∀ S_3 : wS, S_3 = uI S_1 a0 6 ((jiushr x4 (1 : Int32)) &&& (15 : Int32)) →
∀ S_4 : wS, S_4 = uI S_3 a0 7 ((jiushr x4 (5 : Int32)) - (1 : Int32)) →
post S_4
def wp_X7_load_20 (D : wD) (post : wS → Prop)  (S : wS) : Prop :=
post S
def wp_X7_load_0 (D : wD) (post : wS → Prop)  (S : wS) (a0 : Nat) (a1 : Nat) (x2 : Int32) : Prop :=
∀ x_1 : Int32, x_1 = (x2 * (5 : Int32)) →
((x2 < 0 → wp_X7_load_20 D post S) ∧
 (¬ x2 < 0 → ((x_1 < 0 → wp_X7_load_20 D post S) ∧
 (¬ x_1 < 0 → (((x_1 + (5 : Int32)) ≤ (Int32.ofNat (sN S a1)) → vp_in x_1 (sN S a1) ∧
∀ S_6 : wS, S_6 = uJ S a0 1 (sJ S a1 (x_1).toNatClampNeg) →
vp_in (x_1 + (1 : Int32)) (sN S_6 a1) ∧
∀ S_8 : wS, S_8 = uJ S_6 a0 2 (sJ S_6 a1 ((x_1 + (1 : Int32))).toNatClampNeg) →
vp_in (x_1 + (2 : Int32)) (sN S_8 a1) ∧
∀ S_10 : wS, S_10 = uJ S_8 a0 3 (sJ S_8 a1 ((x_1 + (2 : Int32))).toNatClampNeg) →
vp_in (x_1 + (3 : Int32)) (sN S_10 a1) ∧
∀ S_12 : wS, S_12 = uJ S_10 a0 4 (sJ S_10 a1 ((x_1 + (3 : Int32))).toNatClampNeg) →
vp_in (x_1 + (4 : Int32)) (sN S_12 a1) ∧
∀ x_14 : Int32, x_14 = (Int64.toInt32 (sJ S_12 a1 ((x_1 + (4 : Int32))).toNatClampNeg)) →
(((x_14 &&& (1 : Int32)) = 0 → wp_X7_load_76 D post S_12 a0 x_14 a0 (0 : Int32)) ∧
 (¬ (x_14 &&& (1 : Int32)) = 0 → wp_X7_load_76 D post S_12 a0 x_14 a0 (1 : Int32)))) ∧
 (¬ (x_1 + (5 : Int32)) ≤ (Int32.ofNat (sN S a1)) → wp_X7_load_20 D post S))))))
abbrev r_X7_load : Room := { frames := 0, cells := 0, slots := 0, locals := 0 }
def wp_X7_load (D : wD) (post : wS → Prop) (S : wS) (a0 : Nat) (a1 : Nat) (x2 : Int32) : Prop := wp_X7_load_0 D post S a0 a1 x2
set_option maxHeartbeats 4000000 in
set_option maxRecDepth 100000 in
theorem t_X7_load_76 {p : Program} {l : Launch} {e : Env} {s : State} {m : MethodId} {args : Array Value} {below : List Frame} {meth : Method} {c : Code} {D : wD} {cy : Nat → ClassId} {X : va_W} {A : Nat → Prop} {S0 : wS} {post : wS → Prop} (F : CallFix p m c cX7_load 5 s args wz_X7_load RX7) (hr : meth.sig.returnType = none) (hlocks : meth.locks = false) (hK : wK D cy A s) : ∀ {S : wS} {H : Heap} {locs : List Loc} {ls : Array Slot} {a0 : Nat} {x4 : Int32} {b0 : Nat} {t1 : Int32}, wp_X7_load_76 D post S a0 x4 b0 t1 → wO D cy X A s.heap S H locs → wX D S0 S → lv_has ls 5 [(0, .ref a0), (4, .int x4)] → wM D S a0 → sK S a0 = 12 → wM D S b0 → sK S b0 = 12 → W p l e r_X7_load s m args below meth c H locs 0 0 (MQ below (va_Qv (fun S9 => wX D S0 S9 ∧ post S9) (wB D cy X A) A) args s 0 0 A) (F0 m 76 ls [.int t1, .ref b0]) := by
  obtain ⟨hx, hb, hml, hown, hts⟩ := id F
  have hwg : ∀ w ∈ WG, w.before args s = true := fun w h => hts w (List.mem_cons_of_mem _ h)
  have i_12 : ∀ w ∈ u_ws RX7 TX7 8, w ∈ wz_X7_load := fun w h => List.mem_cons_of_mem _ (wu_12 w h)
  have k_24 := hwg _ wf_RX7_24
  have k_28 := hwg _ wf_RX7_28
  have k_32 := hwg _ wf_RX7_32
  intro S H locs ls a0 x4 b0 t1 hp hW hE hl hL_a0 hK_a0 hL_b0 hK_b0
  unfold wp_X7_load_76 at hp
  obtain ⟨h_2, h_2f, hp⟩ := hp
  refine w_putI (k := 12) (f := 5) (T := TX7) F hK hW hL_b0 hK_b0 (by decide) (by decide) rfl rfl (by decide) i_12 tyX7 tyX7_ok nmX7 k_24 rfl rfl (ty := .boolean) rfl h_2 h_2f dX7_load_76 (fun H locs hW => ?_)
  obtain ⟨S_1, eS_1⟩ : ∃ z : wS, z = uI S b0 5 t1 := ⟨_, rfl⟩
  rw [← eS_1] at hW
  replace hp := hp S_1 eS_1
  have hX_S_1 : wX D S S_1 := by rw [eS_1]; exact wX_uI
  have hE := hE.trans hX_S_1
  have hK_a0 : sK S_1 a0 = 12 := (hX_S_1.2 a0 hL_a0).1.trans hK_a0
  have hL_a0 : wM D S_1 a0 := hX_S_1.M hL_a0
  refine lv_aload_n hx hb dX7_load_79 rfl (lv_at hl 0 rfl) ?_
  refine lv_iload hx hb dX7_load_80 (lv_at hl 1 rfl) ?_
  refine lv_iconst (v := 1) hx hb dX7_load_82 (by decide) ?_
  refine lv_iushr (v := (jiushr x4 (1 : Int32))) hx hb dX7_load_83 rfl ?_
  refine lv_bipush (v := 15) hx hb dX7_load_84 (by decide) ?_
  refine lv_iand hx hb dX7_load_86 ?_
  refine w_putI (k := 12) (f := 6) (T := TX7) F hK hW hL_a0 hK_a0 (by decide) (by decide) rfl rfl (by decide) i_12 tyX7 tyX7_ok nmX7 k_28 rfl rfl (ty := .int) rfl rfl rfl dX7_load_87 (fun H locs hW => ?_)
  obtain ⟨S_3, eS_3⟩ : ∃ z : wS, z = uI S_1 a0 6 ((jiushr x4 (1 : Int32)) &&& (15 : Int32)) := ⟨_, rfl⟩
  rw [← eS_3] at hW
  replace hp := hp S_3 eS_3
  have hX_S_3 : wX D S_1 S_3 := by rw [eS_3]; exact wX_uI
  have hE := hE.trans hX_S_3
  have hK_a0 : sK S_3 a0 = 12 := (hX_S_3.2 a0 hL_a0).1.trans hK_a0
  have hL_a0 : wM D S_3 a0 := hX_S_3.M hL_a0
  refine lv_aload_n hx hb dX7_load_90 rfl (lv_at hl 0 rfl) ?_
  refine lv_iload hx hb dX7_load_91 (lv_at hl 1 rfl) ?_
  refine lv_iconst (v := 5) hx hb dX7_load_93 (by decide) ?_
  refine lv_iushr (v := (jiushr x4 (5 : Int32))) hx hb dX7_load_94 rfl ?_
  refine lv_iconst (v := 1) hx hb dX7_load_95 (by decide) ?_
  refine lv_isub hx hb dX7_load_96 ?_
  refine w_putI (k := 12) (f := 7) (T := TX7) F hK hW hL_a0 hK_a0 (by decide) (by decide) rfl rfl (by decide) i_12 tyX7 tyX7_ok nmX7 k_32 rfl rfl (ty := .int) rfl rfl rfl dX7_load_97 (fun H locs hW => ?_)
  obtain ⟨S_4, eS_4⟩ : ∃ z : wS, z = uI S_3 a0 7 ((jiushr x4 (5 : Int32)) - (1 : Int32)) := ⟨_, rfl⟩
  rw [← eS_4] at hW
  replace hp := hp S_4 eS_4
  have hX_S_4 : wX D S_3 S_4 := by rw [eS_4]; exact wX_uI
  have hE := hE.trans hX_S_4
  have hK_a0 : sK S_4 a0 = 12 := (hX_S_4.2 a0 hL_a0).1.trans hK_a0
  have hL_a0 : wM D S_4 a0 := hX_S_4.M hL_a0
  exact w_vret hx hb hr hlocks hW ⟨hE, hp⟩ dX7_load_100
set_option maxHeartbeats 4000000 in
set_option maxRecDepth 100000 in
theorem t_X7_load_20 {p : Program} {l : Launch} {e : Env} {s : State} {m : MethodId} {args : Array Value} {below : List Frame} {meth : Method} {c : Code} {D : wD} {cy : Nat → ClassId} {X : va_W} {A : Nat → Prop} {S0 : wS} {post : wS → Prop} (F : CallFix p m c cX7_load 5 s args wz_X7_load RX7) (hr : meth.sig.returnType = none) (hlocks : meth.locks = false) (hK : wK D cy A s) : ∀ {S : wS} {H : Heap} {locs : List Loc} {ls : Array Slot}, wp_X7_load_20 D post S → wO D cy X A s.heap S H locs → wX D S0 S → lv_has ls 5 [] → W p l e r_X7_load s m args below meth c H locs 0 0 (MQ below (va_Qv (fun S9 => wX D S0 S9 ∧ post S9) (wB D cy X A) A) args s 0 0 A) (F0 m 20 ls []) := by
  obtain ⟨hx, hb, hml, hown, hts⟩ := id F
  have hwg : ∀ w ∈ WG, w.before args s = true := fun w h => hts w (List.mem_cons_of_mem _ h)
  intro S H locs ls hp hW hE hl
  unfold wp_X7_load_20 at hp
  exact w_vret hx hb hr hlocks hW ⟨hE, hp⟩ dX7_load_20
set_option maxHeartbeats 4000000 in
set_option maxRecDepth 100000 in
theorem t_X7_load_0 {p : Program} {l : Launch} {e : Env} {s : State} {m : MethodId} {args : Array Value} {below : List Frame} {meth : Method} {c : Code} {D : wD} {cy : Nat → ClassId} {X : va_W} {A : Nat → Prop} {S0 : wS} {post : wS → Prop} (F : CallFix p m c cX7_load 5 s args wz_X7_load RX7) (hr : meth.sig.returnType = none) (hlocks : meth.locks = false) (hK : wK D cy A s) : ∀ {S : wS} {H : Heap} {locs : List Loc} {ls : Array Slot} {a0 : Nat} {a1 : Nat} {x2 : Int32}, wp_X7_load_0 D post S a0 a1 x2 → wO D cy X A s.heap S H locs → wX D S0 S → lv_has ls 5 [(0, .ref a0), (1, .ref a1), (2, .int x2)] → wM D S a0 → sK S a0 = 12 → wM D S a1 → sK S a1 = 22 → W p l e r_X7_load s m args below meth c H locs 0 0 (MQ below (va_Qv (fun S9 => wX D S0 S9 ∧ post S9) (wB D cy X A) A) args s 0 0 A) (F0 m 0 ls []) := by
  obtain ⟨hx, hb, hml, hown, hts⟩ := id F
  have hwg : ∀ w ∈ WG, w.before args s = true := fun w h => hts w (List.mem_cons_of_mem _ h)
  have i_12 : ∀ w ∈ u_ws RX7 TX7 8, w ∈ wz_X7_load := fun w h => List.mem_cons_of_mem _ (wu_12 w h)
  have k_15 := hwg _ wf_RX7_15
  have k_18 := hwg _ wf_RX7_18
  have k_21 := hwg _ wf_RX7_21
  have k_9 := hwg _ wf_RX7_9
  intro S H locs ls a0 a1 x2 hp hW hE hl hL_a0 hK_a0 hL_a1 hK_a1
  unfold wp_X7_load_0 at hp
  refine lv_iload_n hx hb dX7_load_0 rfl (lv_at hl 2 rfl) ?_
  refine lv_iconst (v := 5) hx hb dX7_load_1 (by decide) ?_
  refine lv_imul hx hb dX7_load_2 ?_
  refine lv_topi (fun x_1 ex_1 => ?_)
  replace hp := hp x_1 ex_1
  refine lv_istore_n (lv' := [(3, .int x_1), (0, .ref a0), (1, .ref a1), (2, .int x2)]) hx hb dX7_load_3 rfl hl (by decide) rfl (fun ls hl => ?_)
  refine lv_iload_n hx hb dX7_load_4 rfl (lv_at hl 3 rfl) ?_
  refine lv_if_lt (tgt := 20) hx hb dX7_load_5 (by decide) (fun c_2 => ?_) (fun c_2 => ?_)
  · replace hp := hp.1 c_2
    exact t_X7_load_20 F hr hlocks hK hp hW hE (lv_sub hl [] rfl)
  · replace hp := hp.2 c_2
    refine lv_iload_n hx hb dX7_load_8 rfl (lv_at hl 0 rfl) ?_
    refine lv_if_lt (tgt := 20) hx hb dX7_load_9 (by decide) (fun c_3 => ?_) (fun c_3 => ?_)
    · replace hp := hp.1 c_3
      exact t_X7_load_20 F hr hlocks hK hp hW hE (lv_sub hl [] rfl)
    · replace hp := hp.2 c_3
      refine lv_iload_n hx hb dX7_load_12 rfl (lv_at hl 0 rfl) ?_
      refine lv_iconst (v := 5) hx hb dX7_load_13 (by decide) ?_
      refine lv_iadd hx hb dX7_load_14 ?_
      refine lv_aload_n hx hb dX7_load_15 rfl (lv_at hl 2 rfl) ?_
      refine w_len F hK hW hL_a1 hK_a1 (by decide) dX7_load_16 ?_
      refine lv_icmp_le (tgt := 21) hx hb dX7_load_17 (by decide) (fun c_4 => ?_) (fun c_4 => ?_)
      · replace hp := hp.1 c_4
        refine lv_aload_n hx hb dX7_load_21 rfl (lv_at hl 1 rfl) ?_
        refine lv_aload_n hx hb dX7_load_22 rfl (lv_at hl 2 rfl) ?_
        refine lv_iload_n hx hb dX7_load_23 rfl (lv_at hl 0 rfl) ?_
        obtain ⟨h_5, hp⟩ := hp
        refine w_lld F hK hW hL_a1 hK_a1 h_5 dX7_load_24 ?_
        refine w_putJ (k := 12) (f := 1) (T := TX7) F hK hW hL_a0 hK_a0 (by decide) (by decide) rfl rfl (by decide) i_12 tyX7 tyX7_ok nmX7 k_9 rfl rfl rfl dX7_load_25 (fun H locs hW => ?_)
        obtain ⟨S_6, eS_6⟩ : ∃ z : wS, z = uJ S a0 1 (sJ S a1 (x_1).toNatClampNeg) := ⟨_, rfl⟩
        rw [← eS_6] at hW
        replace hp := hp S_6 eS_6
        have hX_S_6 : wX D S S_6 := by rw [eS_6]; exact wX_uJ
        have hE := hE.trans hX_S_6
        have hK_a0 : sK S_6 a0 = 12 := (hX_S_6.2 a0 hL_a0).1.trans hK_a0
        have hL_a0 : wM D S_6 a0 := hX_S_6.M hL_a0
        have hK_a1 : sK S_6 a1 = 22 := (hX_S_6.2 a1 hL_a1).1.trans hK_a1
        have hL_a1 : wM D S_6 a1 := hX_S_6.M hL_a1
        refine lv_aload_n hx hb dX7_load_28 rfl (lv_at hl 1 rfl) ?_
        refine lv_aload_n hx hb dX7_load_29 rfl (lv_at hl 2 rfl) ?_
        refine lv_iload_n hx hb dX7_load_30 rfl (lv_at hl 0 rfl) ?_
        refine lv_iconst (v := 1) hx hb dX7_load_31 (by decide) ?_
        refine lv_iadd hx hb dX7_load_32 ?_
        obtain ⟨h_7, hp⟩ := hp
        refine w_lld F hK hW hL_a1 hK_a1 h_7 dX7_load_33 ?_
        refine w_putJ (k := 12) (f := 2) (T := TX7) F hK hW hL_a0 hK_a0 (by decide) (by decide) rfl rfl (by decide) i_12 tyX7 tyX7_ok nmX7 k_15 rfl rfl rfl dX7_load_34 (fun H locs hW => ?_)
        obtain ⟨S_8, eS_8⟩ : ∃ z : wS, z = uJ S_6 a0 2 (sJ S_6 a1 ((x_1 + (1 : Int32))).toNatClampNeg) := ⟨_, rfl⟩
        rw [← eS_8] at hW
        replace hp := hp S_8 eS_8
        have hX_S_8 : wX D S_6 S_8 := by rw [eS_8]; exact wX_uJ
        have hE := hE.trans hX_S_8
        have hK_a0 : sK S_8 a0 = 12 := (hX_S_8.2 a0 hL_a0).1.trans hK_a0
        have hL_a0 : wM D S_8 a0 := hX_S_8.M hL_a0
        have hK_a1 : sK S_8 a1 = 22 := (hX_S_8.2 a1 hL_a1).1.trans hK_a1
        have hL_a1 : wM D S_8 a1 := hX_S_8.M hL_a1
        refine lv_aload_n hx hb dX7_load_37 rfl (lv_at hl 1 rfl) ?_
        refine lv_aload_n hx hb dX7_load_38 rfl (lv_at hl 2 rfl) ?_
        refine lv_iload_n hx hb dX7_load_39 rfl (lv_at hl 0 rfl) ?_
        refine lv_iconst (v := 2) hx hb dX7_load_40 (by decide) ?_
        refine lv_iadd hx hb dX7_load_41 ?_
        obtain ⟨h_9, hp⟩ := hp
        refine w_lld F hK hW hL_a1 hK_a1 h_9 dX7_load_42 ?_
        refine w_putJ (k := 12) (f := 3) (T := TX7) F hK hW hL_a0 hK_a0 (by decide) (by decide) rfl rfl (by decide) i_12 tyX7 tyX7_ok nmX7 k_18 rfl rfl rfl dX7_load_43 (fun H locs hW => ?_)
        obtain ⟨S_10, eS_10⟩ : ∃ z : wS, z = uJ S_8 a0 3 (sJ S_8 a1 ((x_1 + (2 : Int32))).toNatClampNeg) := ⟨_, rfl⟩
        rw [← eS_10] at hW
        replace hp := hp S_10 eS_10
        have hX_S_10 : wX D S_8 S_10 := by rw [eS_10]; exact wX_uJ
        have hE := hE.trans hX_S_10
        have hK_a0 : sK S_10 a0 = 12 := (hX_S_10.2 a0 hL_a0).1.trans hK_a0
        have hL_a0 : wM D S_10 a0 := hX_S_10.M hL_a0
        have hK_a1 : sK S_10 a1 = 22 := (hX_S_10.2 a1 hL_a1).1.trans hK_a1
        have hL_a1 : wM D S_10 a1 := hX_S_10.M hL_a1
        refine lv_aload_n hx hb dX7_load_46 rfl (lv_at hl 1 rfl) ?_
        refine lv_aload_n hx hb dX7_load_47 rfl (lv_at hl 2 rfl) ?_
        refine lv_iload_n hx hb dX7_load_48 rfl (lv_at hl 0 rfl) ?_
        refine lv_iconst (v := 3) hx hb dX7_load_49 (by decide) ?_
        refine lv_iadd hx hb dX7_load_50 ?_
        obtain ⟨h_11, hp⟩ := hp
        refine w_lld F hK hW hL_a1 hK_a1 h_11 dX7_load_51 ?_
        refine w_putJ (k := 12) (f := 4) (T := TX7) F hK hW hL_a0 hK_a0 (by decide) (by decide) rfl rfl (by decide) i_12 tyX7 tyX7_ok nmX7 k_21 rfl rfl rfl dX7_load_52 (fun H locs hW => ?_)
        obtain ⟨S_12, eS_12⟩ : ∃ z : wS, z = uJ S_10 a0 4 (sJ S_10 a1 ((x_1 + (3 : Int32))).toNatClampNeg) := ⟨_, rfl⟩
        rw [← eS_12] at hW
        replace hp := hp S_12 eS_12
        have hX_S_12 : wX D S_10 S_12 := by rw [eS_12]; exact wX_uJ
        have hE := hE.trans hX_S_12
        have hK_a0 : sK S_12 a0 = 12 := (hX_S_12.2 a0 hL_a0).1.trans hK_a0
        have hL_a0 : wM D S_12 a0 := hX_S_12.M hL_a0
        have hK_a1 : sK S_12 a1 = 22 := (hX_S_12.2 a1 hL_a1).1.trans hK_a1
        have hL_a1 : wM D S_12 a1 := hX_S_12.M hL_a1
        refine lv_aload_n hx hb dX7_load_55 rfl (lv_at hl 2 rfl) ?_
        refine lv_iload_n hx hb dX7_load_56 rfl (lv_at hl 0 rfl) ?_
        refine lv_iconst (v := 4) hx hb dX7_load_57 (by decide) ?_
        refine lv_iadd hx hb dX7_load_58 ?_
        obtain ⟨h_13, hp⟩ := hp
        refine w_lld F hK hW hL_a1 hK_a1 h_13 dX7_load_59 ?_
        refine lv_l2i (v := (Int64.toInt32 (sJ S_12 a1 ((x_1 + (4 : Int32))).toNatClampNeg))) hx hb dX7_load_60 rfl ?_
        refine lv_topi (fun x_14 ex_14 => ?_)
        replace hp := hp x_14 ex_14
        refine lv_istore (lv' := [(4, .int x_14), (3, .int x_1), (0, .ref a0), (1, .ref a1), (2, .int x2)]) hx hb dX7_load_61 hl (by decide) rfl (fun ls hl => ?_)
        refine lv_aload_n hx hb dX7_load_63 rfl (lv_at hl 2 rfl) ?_
        refine lv_iload hx hb dX7_load_64 (lv_at hl 0 rfl) ?_
        refine lv_iconst (v := 1) hx hb dX7_load_66 (by decide) ?_
        refine lv_iand hx hb dX7_load_67 ?_
        refine lv_if_eq (tgt := 75) hx hb dX7_load_68 (by decide) (fun c_15 => ?_) (fun c_15 => ?_)
        · replace hp := hp.1 c_15
          refine lv_iconst (v := 0) hx hb dX7_load_75 (by decide) ?_
          exact t_X7_load_76 F hr hlocks hK hp hW hE (lv_sub hl [2, 0] rfl) hL_a0 hK_a0 hL_a0 hK_a0
        · replace hp := hp.2 c_15
          refine lv_iconst (v := 1) hx hb dX7_load_71 (by decide) ?_
          refine lv_goto (tgt := 76) hx hb dX7_load_72 (by decide) ?_
          exact t_X7_load_76 F hr hlocks hK hp hW hE (lv_sub hl [2, 0] rfl) hL_a0 hK_a0 hL_a0 hK_a0
      · replace hp := hp.2 c_4
        exact t_X7_load_20 F hr hlocks hK hp hW hE (lv_sub hl [] rfl)
set_option maxHeartbeats 4000000 in
set_option maxRecDepth 100000 in
theorem c_X7_load (l : Launch) {D : wD} {cy : Nat → ClassId} {X : va_W} {S0 : wS} {post : wS → Prop} {a0 : Nat} {a1 : Nat} {x2 : Int32} (hL_a0 : wM D S0 a0) (hK_a0 : sK S0 a0 = 12) (hL_a1 : wM D S0 a1) (hK_a1 : sK S0 a1 = 22) (hp : wp_X7_load D post S0 a0 a1 x2) : mV D cy X l yX7_load wz_X7_load r_X7_load [.ref a0, .ref a1, .int x2] S0 (fun S9 => wX D S0 S9 ∧ post S9) := by
  intro sz
  refine Met.ofW (cc := cX7_load) (maxL := 5) (ret := none) (by decide) rfl ?_
  intro p e s m args below meth c s₁ B hml hv
  obtain ⟨rfl, hsz, hP, hK, hD0, hRO⟩ := hv
  have hts := atoms_spec (ws := wz_X7_load) B.pre
  have hown : s.vm.findClass RX7 = some m.cls := findClass_of_methodNamed B.named
  subst hsz
  have hD := hD0.self (sz := s.heap.size)
  have F : CallFix p m c cX7_load 5 s _ wz_X7_load RX7 := ⟨B.exec, B.bytes, hml, hown, hts⟩
  have hr := B.returns
  have hlocks := B.notSynchronized
  generalize hAe : va_A (wL cy X S0) s.heap.size = A at hD hK ⊢
  have hA : ∀ q, s.heap.size ≤ q → A q := fun q h => by rw [← hAe]; exact Or.inr h
  have hW : wO D cy X A s.heap S0 s.heap [] := ⟨hP, hD, va_S.rf, hA, hRO⟩
  have hl := lv_entry ([.ref a0, .ref a1, .int x2]) (n := 5) (Nat.le_of_ble_eq_true rfl)
  rw [lg_entry_eq]
  generalize (lg_sl ([.ref a0, .ref a1, .int x2]) ++ List.replicate (5 - (lg_sl ([.ref a0, .ref a1, .int x2])).length) Slot.unset).toArray = ls at hl ⊢
  have hl : lv_has ls 5 [(0, .ref a0), (1, .ref a1), (2, .int x2)] := hl
  unfold wp_X7_load at hp
  exact t_X7_load_0 F hr hlocks hK hp hW wX.rf (lv_sub hl [0, 1, 2] rfl) hL_a0 hK_a0 hL_a1 hK_a1
def wp_X11_becomesOf_0 (D : wD) (post : Int32 → wS → Prop)  (S : wS) (x0 : Int32) : Prop :=
post ((jiushr x0 (12 : Int32)) &&& (7 : Int32)) S
abbrev r_X11_becomesOf : Room := { frames := 0, cells := 0, slots := 0, locals := 0 }
def wp_X11_becomesOf (D : wD) (post : Int32 → wS → Prop) (S : wS) (x0 : Int32) : Prop := wp_X11_becomesOf_0 D post S x0
set_option maxHeartbeats 4000000 in
set_option maxRecDepth 100000 in
theorem t_X11_becomesOf_0 {p : Program} {l : Launch} {e : Env} {s : State} {m : MethodId} {args : Array Value} {below : List Frame} {meth : Method} {c : Code} {D : wD} {cy : Nat → ClassId} {X : va_W} {A : Nat → Prop} {S0 : wS} {post : Int32 → wS → Prop} (F : CallFix p m c cX11_becomesOf 1 s args wz_X11_becomesOf RX11) (hr : meth.sig.returnType = (some .int)) (hlocks : meth.locks = false) (hK : wK D cy A s) : ∀ {S : wS} {H : Heap} {locs : List Loc} {ls : Array Slot} {x0 : Int32}, wp_X11_becomesOf_0 D post S x0 → wO D cy X A s.heap S H locs → wX D S0 S → lv_has ls 1 [(0, .int x0)] → W p l e r_X11_becomesOf s m args below meth c H locs 0 0 (MQ below (va_Qi (fun r S9 => wX D S0 S9 ∧ post r S9) (wB D cy X A) A) args s 0 0 A) (F0 m 0 ls []) := by
  obtain ⟨hx, hb, hml, hown, hts⟩ := id F
  have hwg : ∀ w ∈ WG, w.before args s = true := fun w h => hts w (List.mem_cons_of_mem _ h)
  intro S H locs ls x0 hp hW hE hl
  unfold wp_X11_becomesOf_0 at hp
  refine lv_iload_n hx hb dX11_becomesOf_0 rfl (lv_at hl 0 rfl) ?_
  refine lv_bipush (v := 12) hx hb dX11_becomesOf_1 (by decide) ?_
  refine lv_iushr (v := (jiushr x0 (12 : Int32))) hx hb dX11_becomesOf_3 rfl ?_
  refine lv_bipush (v := 7) hx hb dX11_becomesOf_4 (by decide) ?_
  refine lv_iand hx hb dX11_becomesOf_6 ?_
  exact w_iret hx hb hr hlocks hW ⟨hE, hp⟩ dX11_becomesOf_7
set_option maxHeartbeats 4000000 in
set_option maxRecDepth 100000 in
theorem c_X11_becomesOf (l : Launch) {D : wD} {cy : Nat → ClassId} {X : va_W} {S0 : wS} {post : Int32 → wS → Prop} {x0 : Int32} (hp : wp_X11_becomesOf D post S0 x0) : mI D cy X l yX11_becomesOf wz_X11_becomesOf r_X11_becomesOf [.int x0] S0 (fun r S9 => wX D S0 S9 ∧ post r S9) := by
  intro sz
  refine Met.ofW (cc := cX11_becomesOf) (maxL := 1) (ret := (some .int)) (by decide) rfl ?_
  intro p e s m args below meth c s₁ B hml hv
  obtain ⟨rfl, hsz, hP, hK, hD0, hRO⟩ := hv
  have hts := atoms_spec (ws := wz_X11_becomesOf) B.pre
  have hown : s.vm.findClass RX11 = some m.cls := findClass_of_methodNamed B.named
  subst hsz
  have hD := hD0.self (sz := s.heap.size)
  have F : CallFix p m c cX11_becomesOf 1 s _ wz_X11_becomesOf RX11 := ⟨B.exec, B.bytes, hml, hown, hts⟩
  have hr := B.returns
  have hlocks := B.notSynchronized
  generalize hAe : va_A (wL cy X S0) s.heap.size = A at hD hK ⊢
  have hA : ∀ q, s.heap.size ≤ q → A q := fun q h => by rw [← hAe]; exact Or.inr h
  have hW : wO D cy X A s.heap S0 s.heap [] := ⟨hP, hD, va_S.rf, hA, hRO⟩
  have hl := lv_entry ([.int x0]) (n := 1) (Nat.le_of_ble_eq_true rfl)
  rw [lg_entry_eq]
  generalize (lg_sl ([.int x0]) ++ List.replicate (1 - (lg_sl ([.int x0])).length) Slot.unset).toArray = ls at hl ⊢
  have hl : lv_has ls 1 [(0, .int x0)] := hl
  unfold wp_X11_becomesOf at hp
  exact t_X11_becomesOf_0 F hr hlocks hK hp hW wX.rf (lv_sub hl [0] rfl)
def wp_X11_fromOf_0 (D : wD) (post : Int32 → wS → Prop)  (S : wS) (x0 : Int32) : Prop :=
post (x0 &&& (63 : Int32)) S
abbrev r_X11_fromOf : Room := { frames := 0, cells := 0, slots := 0, locals := 0 }
def wp_X11_fromOf (D : wD) (post : Int32 → wS → Prop) (S : wS) (x0 : Int32) : Prop := wp_X11_fromOf_0 D post S x0
set_option maxHeartbeats 4000000 in
set_option maxRecDepth 100000 in
theorem t_X11_fromOf_0 {p : Program} {l : Launch} {e : Env} {s : State} {m : MethodId} {args : Array Value} {below : List Frame} {meth : Method} {c : Code} {D : wD} {cy : Nat → ClassId} {X : va_W} {A : Nat → Prop} {S0 : wS} {post : Int32 → wS → Prop} (F : CallFix p m c cX11_fromOf 1 s args wz_X11_fromOf RX11) (hr : meth.sig.returnType = (some .int)) (hlocks : meth.locks = false) (hK : wK D cy A s) : ∀ {S : wS} {H : Heap} {locs : List Loc} {ls : Array Slot} {x0 : Int32}, wp_X11_fromOf_0 D post S x0 → wO D cy X A s.heap S H locs → wX D S0 S → lv_has ls 1 [(0, .int x0)] → W p l e r_X11_fromOf s m args below meth c H locs 0 0 (MQ below (va_Qi (fun r S9 => wX D S0 S9 ∧ post r S9) (wB D cy X A) A) args s 0 0 A) (F0 m 0 ls []) := by
  obtain ⟨hx, hb, hml, hown, hts⟩ := id F
  have hwg : ∀ w ∈ WG, w.before args s = true := fun w h => hts w (List.mem_cons_of_mem _ h)
  intro S H locs ls x0 hp hW hE hl
  unfold wp_X11_fromOf_0 at hp
  refine lv_iload_n hx hb dX11_fromOf_0 rfl (lv_at hl 0 rfl) ?_
  refine lv_bipush (v := 63) hx hb dX11_fromOf_1 (by decide) ?_
  refine lv_iand hx hb dX11_fromOf_3 ?_
  exact w_iret hx hb hr hlocks hW ⟨hE, hp⟩ dX11_fromOf_4
set_option maxHeartbeats 4000000 in
set_option maxRecDepth 100000 in
theorem c_X11_fromOf (l : Launch) {D : wD} {cy : Nat → ClassId} {X : va_W} {S0 : wS} {post : Int32 → wS → Prop} {x0 : Int32} (hp : wp_X11_fromOf D post S0 x0) : mI D cy X l yX11_fromOf wz_X11_fromOf r_X11_fromOf [.int x0] S0 (fun r S9 => wX D S0 S9 ∧ post r S9) := by
  intro sz
  refine Met.ofW (cc := cX11_fromOf) (maxL := 1) (ret := (some .int)) (by decide) rfl ?_
  intro p e s m args below meth c s₁ B hml hv
  obtain ⟨rfl, hsz, hP, hK, hD0, hRO⟩ := hv
  have hts := atoms_spec (ws := wz_X11_fromOf) B.pre
  have hown : s.vm.findClass RX11 = some m.cls := findClass_of_methodNamed B.named
  subst hsz
  have hD := hD0.self (sz := s.heap.size)
  have F : CallFix p m c cX11_fromOf 1 s _ wz_X11_fromOf RX11 := ⟨B.exec, B.bytes, hml, hown, hts⟩
  have hr := B.returns
  have hlocks := B.notSynchronized
  generalize hAe : va_A (wL cy X S0) s.heap.size = A at hD hK ⊢
  have hA : ∀ q, s.heap.size ≤ q → A q := fun q h => by rw [← hAe]; exact Or.inr h
  have hW : wO D cy X A s.heap S0 s.heap [] := ⟨hP, hD, va_S.rf, hA, hRO⟩
  have hl := lv_entry ([.int x0]) (n := 1) (Nat.le_of_ble_eq_true rfl)
  rw [lg_entry_eq]
  generalize (lg_sl ([.int x0]) ++ List.replicate (1 - (lg_sl ([.int x0])).length) Slot.unset).toArray = ls at hl ⊢
  have hl : lv_has ls 1 [(0, .int x0)] := hl
  unfold wp_X11_fromOf at hp
  exact t_X11_fromOf_0 F hr hlocks hK hp hW wX.rf (lv_sub hl [0] rfl)
def wp_X11_toOf_0 (D : wD) (post : Int32 → wS → Prop)  (S : wS) (x0 : Int32) : Prop :=
post ((jiushr x0 (6 : Int32)) &&& (63 : Int32)) S
abbrev r_X11_toOf : Room := { frames := 0, cells := 0, slots := 0, locals := 0 }
def wp_X11_toOf (D : wD) (post : Int32 → wS → Prop) (S : wS) (x0 : Int32) : Prop := wp_X11_toOf_0 D post S x0
set_option maxHeartbeats 4000000 in
set_option maxRecDepth 100000 in
theorem t_X11_toOf_0 {p : Program} {l : Launch} {e : Env} {s : State} {m : MethodId} {args : Array Value} {below : List Frame} {meth : Method} {c : Code} {D : wD} {cy : Nat → ClassId} {X : va_W} {A : Nat → Prop} {S0 : wS} {post : Int32 → wS → Prop} (F : CallFix p m c cX11_toOf 1 s args wz_X11_toOf RX11) (hr : meth.sig.returnType = (some .int)) (hlocks : meth.locks = false) (hK : wK D cy A s) : ∀ {S : wS} {H : Heap} {locs : List Loc} {ls : Array Slot} {x0 : Int32}, wp_X11_toOf_0 D post S x0 → wO D cy X A s.heap S H locs → wX D S0 S → lv_has ls 1 [(0, .int x0)] → W p l e r_X11_toOf s m args below meth c H locs 0 0 (MQ below (va_Qi (fun r S9 => wX D S0 S9 ∧ post r S9) (wB D cy X A) A) args s 0 0 A) (F0 m 0 ls []) := by
  obtain ⟨hx, hb, hml, hown, hts⟩ := id F
  have hwg : ∀ w ∈ WG, w.before args s = true := fun w h => hts w (List.mem_cons_of_mem _ h)
  intro S H locs ls x0 hp hW hE hl
  unfold wp_X11_toOf_0 at hp
  refine lv_iload_n hx hb dX11_toOf_0 rfl (lv_at hl 0 rfl) ?_
  refine lv_bipush (v := 6) hx hb dX11_toOf_1 (by decide) ?_
  refine lv_iushr (v := (jiushr x0 (6 : Int32))) hx hb dX11_toOf_3 rfl ?_
  refine lv_bipush (v := 63) hx hb dX11_toOf_4 (by decide) ?_
  refine lv_iand hx hb dX11_toOf_6 ?_
  exact w_iret hx hb hr hlocks hW ⟨hE, hp⟩ dX11_toOf_7
set_option maxHeartbeats 4000000 in
set_option maxRecDepth 100000 in
theorem c_X11_toOf (l : Launch) {D : wD} {cy : Nat → ClassId} {X : va_W} {S0 : wS} {post : Int32 → wS → Prop} {x0 : Int32} (hp : wp_X11_toOf D post S0 x0) : mI D cy X l yX11_toOf wz_X11_toOf r_X11_toOf [.int x0] S0 (fun r S9 => wX D S0 S9 ∧ post r S9) := by
  intro sz
  refine Met.ofW (cc := cX11_toOf) (maxL := 1) (ret := (some .int)) (by decide) rfl ?_
  intro p e s m args below meth c s₁ B hml hv
  obtain ⟨rfl, hsz, hP, hK, hD0, hRO⟩ := hv
  have hts := atoms_spec (ws := wz_X11_toOf) B.pre
  have hown : s.vm.findClass RX11 = some m.cls := findClass_of_methodNamed B.named
  subst hsz
  have hD := hD0.self (sz := s.heap.size)
  have F : CallFix p m c cX11_toOf 1 s _ wz_X11_toOf RX11 := ⟨B.exec, B.bytes, hml, hown, hts⟩
  have hr := B.returns
  have hlocks := B.notSynchronized
  generalize hAe : va_A (wL cy X S0) s.heap.size = A at hD hK ⊢
  have hA : ∀ q, s.heap.size ≤ q → A q := fun q h => by rw [← hAe]; exact Or.inr h
  have hW : wO D cy X A s.heap S0 s.heap [] := ⟨hP, hD, va_S.rf, hA, hRO⟩
  have hl := lv_entry ([.int x0]) (n := 1) (Nat.le_of_ble_eq_true rfl)
  rw [lg_entry_eq]
  generalize (lg_sl ([.int x0]) ++ List.replicate (1 - (lg_sl ([.int x0])).length) Slot.unset).toArray = ls at hl ⊢
  have hl : lv_has ls 1 [(0, .int x0)] := hl
  unfold wp_X11_toOf at hp
  exact t_X11_toOf_0 F hr hlocks hK hp hW wX.rf (lv_sub hl [0] rfl)
def wp_X7_loseRights_111 (D : wD) (post : wS → Prop) (k_39 : wS → Nat → Int64 → Int32 → Prop) (S : wS) (a0 : Nat) (x4 : Int64) (x6 : Int32) : Prop :=
∀ x_1 : Int32, x_1 = x6 + 1 →
k_39 S a0 x4 x_1
def wp_X7_loseRights_84 (D : wD) (post : wS → Prop) (k_39 : wS → Nat → Int64 → Int32 → Prop) (S : wS) (a0 : Nat) (x4 : Int64) (x6 : Int32) (t0 : Int32) : Prop :=
wp_X11_contains D (fun r_1 S_2 => 
((r_1 = 0 → wp_X7_loseRights_111 D post k_39 S_2 a0 x4 x6) ∧
 (¬ r_1 = 0 → ∀ S_4 : wS, S_4 = uI S_2 a0 6 ((sI S_2 a0 6) &&& (((1 : Int32) <<< (x6 &&& 31)) ^^^ (-1 : Int32))) →
wp_X7_loseRights_111 D post k_39 S_4 a0 x4 x6))) S x4 t0
def wp_X7_loseRights_65 (D : wD) (post : wS → Prop) (k_39 : wS → Nat → Int64 → Int32 → Prop) (S : wS) (a0 : Nat) (x4 : Int64) (x6 : Int32) (t0 : Int32) : Prop :=
((¬ (x6 &&& (1 : Int32)) = 0 → wp_X7_loseRights_84 D post k_39 S a0 x4 x6 t0) ∧
 ((x6 &&& (1 : Int32)) = 0 → wp_X7_loseRights_84 D post k_39 S a0 x4 x6 (t0 + (7 : Int32))))
def wp_X7_loseRights_39 (D : wD) (post : wS → Prop)  : Nat → wS → Nat → Int64 → Int32 → Prop
  | 0, _, _, _, _ => False
  | n + 1, S, a0, x4, x6 =>
    (((4 : Int32) ≤ x6 → post S) ∧
     (¬ (4 : Int32) ≤ x6 → (((2 : Int32) ≤ x6 → ∃ y_3 : Nat, sR S a0 0 = some y_3 ∧ wM D S y_3 ∧ sK S y_3 = 5 ∧
    wp_X7_loseRights_65 D post (wp_X7_loseRights_39 D post n) S a0 x4 x6 ((sI S y_3 2) - (8 : Int32))) ∧
     (¬ (2 : Int32) ≤ x6 → wp_X7_loseRights_65 D post (wp_X7_loseRights_39 D post n) S a0 x4 x6 (0 : Int32)))))
def wp_X7_loseRights_27 (D : wD) (post : wS → Prop)  (S : wS) (a0 : Nat) (x1 : Int32) (x2 : Int32) : Prop :=
∀ x_1 : Int64, x_1 = ((jlshl (1 : Int64) x1) ||| (jlshl (1 : Int64) x2)) →
∃ n_2 : Nat, wp_X7_loseRights_39 D post n_2 S a0 x_1 (0 : Int32)
def wp_X7_loseRights_23 (D : wD) (post : wS → Prop)  (S : wS) (a0 : Nat) (x1 : Int32) (x2 : Int32) (b0 : Nat) (t1 : Int32) (t2 : Int32) : Prop :=
∀ S_1 : wS, S_1 = uI S b0 6 (t1 &&& t2) →
wp_X7_loseRights_27 D post S_1 a0 x1 x2
def wp_X7_loseRights_0 (D : wD) (post : wS → Prop)  (S : wS) (a0 : Nat) (x1 : Int32) (x2 : Int32) (x3 : Int32) : Prop :=
((¬ x3 = (1 : Int32) → wp_X7_loseRights_27 D post S a0 x1 x2) ∧
 (x3 = (1 : Int32) → (((sI S a0 5) = 0 → wp_X7_loseRights_23 D post S a0 x1 x2 a0 (sI S a0 6) (3 : Int32)) ∧
 (¬ (sI S a0 5) = 0 → wp_X7_loseRights_23 D post S a0 x1 x2 a0 (sI S a0 6) (12 : Int32)))))
abbrev r_X7_loseRights : Room := { frames := 1, cells := 0, slots := 0, locals := 22 }
def wp_X7_loseRights (D : wD) (post : wS → Prop) (S : wS) (a0 : Nat) (x1 : Int32) (x2 : Int32) (x3 : Int32) : Prop := wp_X7_loseRights_0 D post S a0 x1 x2 x3
set_option maxHeartbeats 4000000 in
set_option maxRecDepth 100000 in
theorem t_X7_loseRights_111 {p : Program} {l : Launch} {e : Env} {s : State} {m : MethodId} {args : Array Value} {below : List Frame} {meth : Method} {c : Code} {D : wD} {cy : Nat → ClassId} {X : va_W} {A : Nat → Prop} {S0 : wS} {post : wS → Prop} (F : CallFix p m c cX7_loseRights 9 s args wz_X7_loseRights RX7) (hr : meth.sig.returnType = none) (hlocks : meth.locks = false) (hK : wK D cy A s) {k_39 : wS → Nat → Int64 → Int32 → Prop} (q_39 : ∀ {S : wS} {H : Heap} {locs : List Loc} {ls : Array Slot} {a0 : Nat} {x4 : Int64} {x6 : Int32}, k_39 S a0 x4 x6 → wO D cy X A s.heap S H locs → wX D S0 S → lv_has ls 9 [(0, .ref a0), (4, .long x4), (6, .int x6)] → wM D S a0 → sK S a0 = 12 → W p l e r_X7_loseRights s m args below meth c H locs 0 0 (MQ below (va_Qv (fun S9 => wX D S0 S9 ∧ post S9) (wB D cy X A) A) args s 0 0 A) (F0 m 39 ls [])) : ∀ {S : wS} {H : Heap} {locs : List Loc} {ls : Array Slot} {a0 : Nat} {x4 : Int64} {x6 : Int32}, wp_X7_loseRights_111 D post k_39 S a0 x4 x6 → wO D cy X A s.heap S H locs → wX D S0 S → lv_has ls 9 [(0, .ref a0), (4, .long x4), (6, .int x6)] → wM D S a0 → sK S a0 = 12 → W p l e r_X7_loseRights s m args below meth c H locs 0 0 (MQ below (va_Qv (fun S9 => wX D S0 S9 ∧ post S9) (wB D cy X A) A) args s 0 0 A) (F0 m 111 ls []) := by
  obtain ⟨hx, hb, hml, hown, hts⟩ := id F
  have hwg : ∀ w ∈ WG, w.before args s = true := fun w h => hts w (List.mem_cons_of_mem _ h)
  intro S H locs ls a0 x4 x6 hp hW hE hl hL_a0 hK_a0
  unfold wp_X7_loseRights_111 at hp
  obtain ⟨x_1, ex_1⟩ : ∃ z : Int32, z = x6 + 1 := ⟨_, rfl⟩
  replace hp := hp x_1 ex_1
  refine lv_iinc (v := x_1) (lv' := [(6, .int x_1), (0, .ref a0), (4, .long x4)]) hx hb dX7_loseRights_111 hl (k := 2) rfl (by rw [ex_1]; rfl) (by decide) rfl (fun ls hl => ?_)
  refine lv_goto (tgt := 39) hx hb dX7_loseRights_114 (by decide) ?_
  exact q_39 hp hW hE (lv_sub hl [1, 2, 0] rfl) hL_a0 hK_a0
set_option maxHeartbeats 4000000 in
set_option maxRecDepth 100000 in
theorem t_X7_loseRights_84 {p : Program} {l : Launch} {e : Env} {s : State} {m : MethodId} {args : Array Value} {below : List Frame} {meth : Method} {c : Code} {D : wD} {cy : Nat → ClassId} {X : va_W} {A : Nat → Prop} {S0 : wS} {post : wS → Prop} (F : CallFix p m c cX7_loseRights 9 s args wz_X7_loseRights RX7) (hr : meth.sig.returnType = none) (hlocks : meth.locks = false) (hK : wK D cy A s) {k_39 : wS → Nat → Int64 → Int32 → Prop} (q_39 : ∀ {S : wS} {H : Heap} {locs : List Loc} {ls : Array Slot} {a0 : Nat} {x4 : Int64} {x6 : Int32}, k_39 S a0 x4 x6 → wO D cy X A s.heap S H locs → wX D S0 S → lv_has ls 9 [(0, .ref a0), (4, .long x4), (6, .int x6)] → wM D S a0 → sK S a0 = 12 → W p l e r_X7_loseRights s m args below meth c H locs 0 0 (MQ below (va_Qv (fun S9 => wX D S0 S9 ∧ post S9) (wB D cy X A) A) args s 0 0 A) (F0 m 39 ls [])) : ∀ {S : wS} {H : Heap} {locs : List Loc} {ls : Array Slot} {a0 : Nat} {x4 : Int64} {x6 : Int32} {t0 : Int32}, wp_X7_loseRights_84 D post k_39 S a0 x4 x6 t0 → wO D cy X A s.heap S H locs → wX D S0 S → lv_has ls 9 [(0, .ref a0), (4, .long x4), (6, .int x6)] → wM D S a0 → sK S a0 = 12 → W p l e r_X7_loseRights s m args below meth c H locs 0 0 (MQ below (va_Qv (fun S9 => wX D S0 S9 ∧ post S9) (wB D cy X A) A) args s 0 0 A) (F0 m 84 ls [.int t0]) := by
  obtain ⟨hx, hb, hml, hown, hts⟩ := id F
  have hwg : ∀ w ∈ WG, w.before args s = true := fun w h => hts w (List.mem_cons_of_mem _ h)
  have i_12 : ∀ w ∈ u_ws RX7 TX7 8, w ∈ wz_X7_loseRights := fun w h => List.mem_cons_of_mem _ (wu_12 w h)
  have k_28 := hwg _ wf_RX7_28
  intro S H locs ls a0 x4 x6 t0 hp hW hE hl hL_a0 hK_a0
  unfold wp_X7_loseRights_84 at hp
  refine lv_istore (lv' := [(8, .int t0), (0, .ref a0), (4, .long x4), (6, .int x6)]) hx hb dX7_loseRights_84 hl (by decide) rfl (fun ls hl => ?_)
  refine lv_lload hx hb dX7_loseRights_86 (lv_at hl 2 rfl) ?_
  refine lv_iload hx hb dX7_loseRights_88 (lv_at hl 0 rfl) ?_
  refine w_callI (va_runSN (As := [.long x4, .int t0]) (rest := []) F (c_X11_contains l hp H.size) ⟨va_cnB (host := "OpeningsCabinet") 2 hts (wg_cons wy_X11_contains.2.2) rfl rfl rfl (hK.2.1 (.methodLinkNest "OpeningsCabinet$Position" 79 ⟨"OpeningsCabinet", "contains", "(JI)Z"⟩ "OpeningsCabinet") (by decide +kernel)) (hwg _ wy_X11_contains.2.1) ⟨by decide, by decide, by decide +kernel⟩ ⟨Nat.le_of_ble_eq_true rfl, Nat.le_of_ble_eq_true rfl⟩, hwg _ wy_X11_contains.1, trivial⟩ (w_preS hK hW) rfl rfl hl.1 rfl (lv_room (Nat.le_of_ble_eq_true rfl)) dX7_loseRights_90 ⟨Nat.le_of_ble_eq_true rfl, Nat.le_of_ble_eq_true rfl⟩) hW (fun r_1 S_2 H locs hp hW => ?_)
  obtain ⟨hX_S_2, hp⟩ := hp
  refine W.widen (k := 0) (n := 0) (by decide) (by decide) ?_
  have hE := hE.trans hX_S_2
  have hK_a0 : sK S_2 a0 = 12 := (hX_S_2.2 a0 hL_a0).1.trans hK_a0
  have hL_a0 : wM D S_2 a0 := hX_S_2.M hL_a0
  refine lv_if_eq (tgt := 111) hx hb dX7_loseRights_93 (by decide) (fun c_3 => ?_) (fun c_3 => ?_)
  · replace hp := hp.1 c_3
    exact t_X7_loseRights_111 F hr hlocks hK q_39 hp hW hE (lv_sub hl [1, 2, 3] rfl) hL_a0 hK_a0
  · replace hp := hp.2 c_3
    refine lv_aload_n hx hb dX7_loseRights_96 rfl (lv_at hl 1 rfl) ?_
    refine lv_dup hx hb dX7_loseRights_97 rfl ?_
    refine w_get (k := 12) (f := 6) (T := TX7) (v := .int (sI S_2 a0 6)) F hK hW hL_a0 hK_a0 (by decide) rfl rfl (by decide) i_12 k_28 rfl dX7_loseRights_98 ?_
    refine lv_iconst (v := 1) hx hb dX7_loseRights_101 (by decide) ?_
    refine lv_iload hx hb dX7_loseRights_102 (lv_at hl 3 rfl) ?_
    refine lv_ishl hx hb dX7_loseRights_104 ?_
    refine lv_iconst (v := (-1)) hx hb dX7_loseRights_105 (by decide) ?_
    refine lv_ixor hx hb dX7_loseRights_106 ?_
    refine lv_iand hx hb dX7_loseRights_107 ?_
    refine w_putI (k := 12) (f := 6) (T := TX7) F hK hW hL_a0 hK_a0 (by decide) (by decide) rfl rfl (by decide) i_12 tyX7 tyX7_ok nmX7 k_28 rfl rfl (ty := .int) rfl rfl rfl dX7_loseRights_108 (fun H locs hW => ?_)
    obtain ⟨S_4, eS_4⟩ : ∃ z : wS, z = uI S_2 a0 6 ((sI S_2 a0 6) &&& (((1 : Int32) <<< (x6 &&& 31)) ^^^ (-1 : Int32))) := ⟨_, rfl⟩
    rw [← eS_4] at hW
    replace hp := hp S_4 eS_4
    have hX_S_4 : wX D S_2 S_4 := by rw [eS_4]; exact wX_uI
    have hE := hE.trans hX_S_4
    have hK_a0 : sK S_4 a0 = 12 := (hX_S_4.2 a0 hL_a0).1.trans hK_a0
    have hL_a0 : wM D S_4 a0 := hX_S_4.M hL_a0
    exact t_X7_loseRights_111 F hr hlocks hK q_39 hp hW hE (lv_sub hl [1, 2, 3] rfl) hL_a0 hK_a0
set_option maxHeartbeats 4000000 in
set_option maxRecDepth 100000 in
theorem t_X7_loseRights_65 {p : Program} {l : Launch} {e : Env} {s : State} {m : MethodId} {args : Array Value} {below : List Frame} {meth : Method} {c : Code} {D : wD} {cy : Nat → ClassId} {X : va_W} {A : Nat → Prop} {S0 : wS} {post : wS → Prop} (F : CallFix p m c cX7_loseRights 9 s args wz_X7_loseRights RX7) (hr : meth.sig.returnType = none) (hlocks : meth.locks = false) (hK : wK D cy A s) {k_39 : wS → Nat → Int64 → Int32 → Prop} (q_39 : ∀ {S : wS} {H : Heap} {locs : List Loc} {ls : Array Slot} {a0 : Nat} {x4 : Int64} {x6 : Int32}, k_39 S a0 x4 x6 → wO D cy X A s.heap S H locs → wX D S0 S → lv_has ls 9 [(0, .ref a0), (4, .long x4), (6, .int x6)] → wM D S a0 → sK S a0 = 12 → W p l e r_X7_loseRights s m args below meth c H locs 0 0 (MQ below (va_Qv (fun S9 => wX D S0 S9 ∧ post S9) (wB D cy X A) A) args s 0 0 A) (F0 m 39 ls [])) : ∀ {S : wS} {H : Heap} {locs : List Loc} {ls : Array Slot} {a0 : Nat} {x4 : Int64} {x6 : Int32} {t0 : Int32}, wp_X7_loseRights_65 D post k_39 S a0 x4 x6 t0 → wO D cy X A s.heap S H locs → wX D S0 S → lv_has ls 9 [(0, .ref a0), (4, .long x4), (6, .int x6)] → wM D S a0 → sK S a0 = 12 → W p l e r_X7_loseRights s m args below meth c H locs 0 0 (MQ below (va_Qv (fun S9 => wX D S0 S9 ∧ post S9) (wB D cy X A) A) args s 0 0 A) (F0 m 65 ls [.int t0]) := by
  obtain ⟨hx, hb, hml, hown, hts⟩ := id F
  have hwg : ∀ w ∈ WG, w.before args s = true := fun w h => hts w (List.mem_cons_of_mem _ h)
  intro S H locs ls a0 x4 x6 t0 hp hW hE hl hL_a0 hK_a0
  unfold wp_X7_loseRights_65 at hp
  refine lv_istore (lv' := [(7, .int t0), (0, .ref a0), (4, .long x4), (6, .int x6)]) hx hb dX7_loseRights_65 hl (by decide) rfl (fun ls hl => ?_)
  refine lv_iload hx hb dX7_loseRights_67 (lv_at hl 3 rfl) ?_
  refine lv_iconst (v := 1) hx hb dX7_loseRights_69 (by decide) ?_
  refine lv_iand hx hb dX7_loseRights_70 ?_
  refine lv_if_ne (tgt := 82) hx hb dX7_loseRights_71 (by decide) (fun c_1 => ?_) (fun c_1 => ?_)
  · replace hp := hp.1 c_1
    refine lv_iload hx hb dX7_loseRights_82 (lv_at hl 0 rfl) ?_
    exact t_X7_loseRights_84 F hr hlocks hK q_39 hp hW hE (lv_sub hl [1, 2, 3] rfl) hL_a0 hK_a0
  · replace hp := hp.2 c_1
    refine lv_iload hx hb dX7_loseRights_74 (lv_at hl 0 rfl) ?_
    refine lv_bipush (v := 7) hx hb dX7_loseRights_76 (by decide) ?_
    refine lv_iadd hx hb dX7_loseRights_78 ?_
    refine lv_goto (tgt := 84) hx hb dX7_loseRights_79 (by decide) ?_
    exact t_X7_loseRights_84 F hr hlocks hK q_39 hp hW hE (lv_sub hl [1, 2, 3] rfl) hL_a0 hK_a0
set_option maxHeartbeats 4000000 in
set_option maxRecDepth 100000 in
theorem t_X7_loseRights_39 {p : Program} {l : Launch} {e : Env} {s : State} {m : MethodId} {args : Array Value} {below : List Frame} {meth : Method} {c : Code} {D : wD} {cy : Nat → ClassId} {X : va_W} {A : Nat → Prop} {S0 : wS} {post : wS → Prop} (F : CallFix p m c cX7_loseRights 9 s args wz_X7_loseRights RX7) (hr : meth.sig.returnType = none) (hlocks : meth.locks = false) (hK : wK D cy A s) : ∀ (n : Nat) {S : wS} {H : Heap} {locs : List Loc} {ls : Array Slot} {a0 : Nat} {x4 : Int64} {x6 : Int32}, wp_X7_loseRights_39 D post n S a0 x4 x6 → wO D cy X A s.heap S H locs → wX D S0 S → lv_has ls 9 [(0, .ref a0), (4, .long x4), (6, .int x6)] → wM D S a0 → sK S a0 = 12 → W p l e r_X7_loseRights s m args below meth c H locs 0 0 (MQ below (va_Qv (fun S9 => wX D S0 S9 ∧ post S9) (wB D cy X A) A) args s 0 0 A) (F0 m 39 ls []) := by
  obtain ⟨hx, hb, hml, hown, hts⟩ := id F
  have hwg : ∀ w ∈ WG, w.before args s = true := fun w h => hts w (List.mem_cons_of_mem _ h)
  have i_12 : ∀ w ∈ u_ws RX7 TX7 8, w ∈ wz_X7_loseRights := fun w h => List.mem_cons_of_mem _ (wu_12 w h)
  have i_5 : ∀ w ∈ u_ws RX0 TX0 12, w ∈ wz_X7_loseRights := fun w h => List.mem_cons_of_mem _ (wu_5 w h)
  have k_35 := hwg _ wf_RX7_35
  intro n
  induction n with
  | zero =>
    intro S H locs ls a0 x4 x6 hp
    exact hp.elim
  | succ n ih =>
    intro S H locs ls a0 x4 x6 hp hW hE hl hL_a0 hK_a0
    unfold wp_X7_loseRights_39 at hp
    refine lv_iload hx hb dX7_loseRights_39 (lv_at hl 2 rfl) ?_
    refine lv_iconst (v := 4) hx hb dX7_loseRights_41 (by decide) ?_
    refine lv_icmp_ge (tgt := 117) hx hb dX7_loseRights_42 (by decide) (fun c_1 => ?_) (fun c_1 => ?_)
    · replace hp := hp.1 c_1
      exact w_vret hx hb hr hlocks hW ⟨hE, hp⟩ dX7_loseRights_117
    · replace hp := hp.2 c_1
      refine lv_iload hx hb dX7_loseRights_45 (lv_at hl 2 rfl) ?_
      refine lv_iconst (v := 2) hx hb dX7_loseRights_47 (by decide) ?_
      refine lv_icmp_ge (tgt := 55) hx hb dX7_loseRights_48 (by decide) (fun c_2 => ?_) (fun c_2 => ?_)
      · replace hp := hp.1 c_2
        refine lv_aload_n hx hb dX7_loseRights_55 rfl (lv_at hl 0 rfl) ?_
        obtain ⟨y_3, ey_3, hL_y_3, hK_y_3, hp⟩ := hp
        refine w_get (k := 12) (f := 0) (T := TX7) (v := .ref y_3) F hK hW hL_a0 hK_a0 (by decide) rfl rfl (by decide) i_12 k_35 (by rw [show wv 12 0 S a0 = va_rf (sR S a0 0) from rfl, ey_3]; rfl) dX7_loseRights_56 ?_
        refine w_getN (k := 5) (f := 2) (T := TX0) (v := .int (sI S y_3 2)) F hK hW hL_y_3 hK_y_3 (by decide) rfl rfl (by decide) i_5 (hK.2.1 (.fieldLinkNest "OpeningsCabinet$Position" 135 "OpeningsCabinet$Board" "size" "I" "OpeningsCabinet") (by decide +kernel)) rfl dX7_loseRights_59 ?_
        refine lv_bipush (v := 8) hx hb dX7_loseRights_62 (by decide) ?_
        refine lv_isub hx hb dX7_loseRights_64 ?_
        exact t_X7_loseRights_65 F hr hlocks hK ih hp hW hE (lv_sub hl [0, 1, 2] rfl) hL_a0 hK_a0
      · replace hp := hp.2 c_2
        refine lv_iconst (v := 0) hx hb dX7_loseRights_51 (by decide) ?_
        refine lv_goto (tgt := 65) hx hb dX7_loseRights_52 (by decide) ?_
        exact t_X7_loseRights_65 F hr hlocks hK ih hp hW hE (lv_sub hl [0, 1, 2] rfl) hL_a0 hK_a0
set_option maxHeartbeats 4000000 in
set_option maxRecDepth 100000 in
theorem t_X7_loseRights_27 {p : Program} {l : Launch} {e : Env} {s : State} {m : MethodId} {args : Array Value} {below : List Frame} {meth : Method} {c : Code} {D : wD} {cy : Nat → ClassId} {X : va_W} {A : Nat → Prop} {S0 : wS} {post : wS → Prop} (F : CallFix p m c cX7_loseRights 9 s args wz_X7_loseRights RX7) (hr : meth.sig.returnType = none) (hlocks : meth.locks = false) (hK : wK D cy A s) : ∀ {S : wS} {H : Heap} {locs : List Loc} {ls : Array Slot} {a0 : Nat} {x1 : Int32} {x2 : Int32}, wp_X7_loseRights_27 D post S a0 x1 x2 → wO D cy X A s.heap S H locs → wX D S0 S → lv_has ls 9 [(0, .ref a0), (1, .int x1), (2, .int x2)] → wM D S a0 → sK S a0 = 12 → W p l e r_X7_loseRights s m args below meth c H locs 0 0 (MQ below (va_Qv (fun S9 => wX D S0 S9 ∧ post S9) (wB D cy X A) A) args s 0 0 A) (F0 m 27 ls []) := by
  obtain ⟨hx, hb, hml, hown, hts⟩ := id F
  have hwg : ∀ w ∈ WG, w.before args s = true := fun w h => hts w (List.mem_cons_of_mem _ h)
  intro S H locs ls a0 x1 x2 hp hW hE hl hL_a0 hK_a0
  unfold wp_X7_loseRights_27 at hp
  refine lv_lconst (v := 1) hx hb dX7_loseRights_27 (by decide) ?_
  refine lv_iload_n hx hb dX7_loseRights_28 rfl (lv_at hl 1 rfl) ?_
  refine lv_lshl (v := (jlshl (1 : Int64) x1)) hx hb dX7_loseRights_29 rfl ?_
  refine lv_lconst (v := 1) hx hb dX7_loseRights_30 (by decide) ?_
  refine lv_iload_n hx hb dX7_loseRights_31 rfl (lv_at hl 2 rfl) ?_
  refine lv_lshl (v := (jlshl (1 : Int64) x2)) hx hb dX7_loseRights_32 rfl ?_
  refine lv_lor hx hb dX7_loseRights_33 ?_
  refine lv_topl (fun x_1 ex_1 => ?_)
  replace hp := hp x_1 ex_1
  refine lv_lstore (lv' := [(4, .long x_1), (0, .ref a0), (1, .int x1), (2, .int x2)]) hx hb dX7_loseRights_34 hl (by decide) rfl (fun ls hl => ?_)
  refine lv_iconst (v := 0) hx hb dX7_loseRights_36 (by decide) ?_
  refine lv_istore (lv' := [(6, .int (0 : Int32)), (4, .long x_1), (0, .ref a0), (1, .int x1), (2, .int x2)]) hx hb dX7_loseRights_37 hl (by decide) rfl (fun ls hl => ?_)
  obtain ⟨n_2, hp⟩ := hp
  exact t_X7_loseRights_39 F hr hlocks hK n_2 hp hW hE (lv_sub hl [2, 1, 0] rfl) hL_a0 hK_a0
set_option maxHeartbeats 4000000 in
set_option maxRecDepth 100000 in
theorem t_X7_loseRights_23 {p : Program} {l : Launch} {e : Env} {s : State} {m : MethodId} {args : Array Value} {below : List Frame} {meth : Method} {c : Code} {D : wD} {cy : Nat → ClassId} {X : va_W} {A : Nat → Prop} {S0 : wS} {post : wS → Prop} (F : CallFix p m c cX7_loseRights 9 s args wz_X7_loseRights RX7) (hr : meth.sig.returnType = none) (hlocks : meth.locks = false) (hK : wK D cy A s) : ∀ {S : wS} {H : Heap} {locs : List Loc} {ls : Array Slot} {a0 : Nat} {x1 : Int32} {x2 : Int32} {b0 : Nat} {t1 : Int32} {t2 : Int32}, wp_X7_loseRights_23 D post S a0 x1 x2 b0 t1 t2 → wO D cy X A s.heap S H locs → wX D S0 S → lv_has ls 9 [(0, .ref a0), (1, .int x1), (2, .int x2)] → wM D S a0 → sK S a0 = 12 → wM D S b0 → sK S b0 = 12 → W p l e r_X7_loseRights s m args below meth c H locs 0 0 (MQ below (va_Qv (fun S9 => wX D S0 S9 ∧ post S9) (wB D cy X A) A) args s 0 0 A) (F0 m 23 ls [.int t2, .int t1, .ref b0]) := by
  obtain ⟨hx, hb, hml, hown, hts⟩ := id F
  have hwg : ∀ w ∈ WG, w.before args s = true := fun w h => hts w (List.mem_cons_of_mem _ h)
  have i_12 : ∀ w ∈ u_ws RX7 TX7 8, w ∈ wz_X7_loseRights := fun w h => List.mem_cons_of_mem _ (wu_12 w h)
  have k_28 := hwg _ wf_RX7_28
  intro S H locs ls a0 x1 x2 b0 t1 t2 hp hW hE hl hL_a0 hK_a0 hL_b0 hK_b0
  unfold wp_X7_loseRights_23 at hp
  refine lv_iand hx hb dX7_loseRights_23 ?_
  refine w_putI (k := 12) (f := 6) (T := TX7) F hK hW hL_b0 hK_b0 (by decide) (by decide) rfl rfl (by decide) i_12 tyX7 tyX7_ok nmX7 k_28 rfl rfl (ty := .int) rfl rfl rfl dX7_loseRights_24 (fun H locs hW => ?_)
  obtain ⟨S_1, eS_1⟩ : ∃ z : wS, z = uI S b0 6 (t1 &&& t2) := ⟨_, rfl⟩
  rw [← eS_1] at hW
  replace hp := hp S_1 eS_1
  have hX_S_1 : wX D S S_1 := by rw [eS_1]; exact wX_uI
  have hE := hE.trans hX_S_1
  have hK_a0 : sK S_1 a0 = 12 := (hX_S_1.2 a0 hL_a0).1.trans hK_a0
  have hL_a0 : wM D S_1 a0 := hX_S_1.M hL_a0
  exact t_X7_loseRights_27 F hr hlocks hK hp hW hE (lv_sub hl [0, 1, 2] rfl) hL_a0 hK_a0
set_option maxHeartbeats 4000000 in
set_option maxRecDepth 100000 in
theorem t_X7_loseRights_0 {p : Program} {l : Launch} {e : Env} {s : State} {m : MethodId} {args : Array Value} {below : List Frame} {meth : Method} {c : Code} {D : wD} {cy : Nat → ClassId} {X : va_W} {A : Nat → Prop} {S0 : wS} {post : wS → Prop} (F : CallFix p m c cX7_loseRights 9 s args wz_X7_loseRights RX7) (hr : meth.sig.returnType = none) (hlocks : meth.locks = false) (hK : wK D cy A s) : ∀ {S : wS} {H : Heap} {locs : List Loc} {ls : Array Slot} {a0 : Nat} {x1 : Int32} {x2 : Int32} {x3 : Int32}, wp_X7_loseRights_0 D post S a0 x1 x2 x3 → wO D cy X A s.heap S H locs → wX D S0 S → lv_has ls 9 [(0, .ref a0), (1, .int x1), (2, .int x2), (3, .int x3)] → wM D S a0 → sK S a0 = 12 → W p l e r_X7_loseRights s m args below meth c H locs 0 0 (MQ below (va_Qv (fun S9 => wX D S0 S9 ∧ post S9) (wB D cy X A) A) args s 0 0 A) (F0 m 0 ls []) := by
  obtain ⟨hx, hb, hml, hown, hts⟩ := id F
  have hwg : ∀ w ∈ WG, w.before args s = true := fun w h => hts w (List.mem_cons_of_mem _ h)
  have i_12 : ∀ w ∈ u_ws RX7 TX7 8, w ∈ wz_X7_loseRights := fun w h => List.mem_cons_of_mem _ (wu_12 w h)
  have k_24 := hwg _ wf_RX7_24
  have k_28 := hwg _ wf_RX7_28
  intro S H locs ls a0 x1 x2 x3 hp hW hE hl hL_a0 hK_a0
  unfold wp_X7_loseRights_0 at hp
  refine lv_iload_n hx hb dX7_loseRights_0 rfl (lv_at hl 3 rfl) ?_
  refine lv_iconst (v := 1) hx hb dX7_loseRights_1 (by decide) ?_
  refine lv_icmp_ne (tgt := 27) hx hb dX7_loseRights_2 (by decide) (fun c_1 => ?_) (fun c_1 => ?_)
  · replace hp := hp.1 c_1
    exact t_X7_loseRights_27 F hr hlocks hK hp hW hE (lv_sub hl [0, 1, 2] rfl) hL_a0 hK_a0
  · replace hp := hp.2 c_1
    refine lv_aload_n hx hb dX7_loseRights_5 rfl (lv_at hl 0 rfl) ?_
    refine lv_dup hx hb dX7_loseRights_6 rfl ?_
    refine w_get (k := 12) (f := 6) (T := TX7) (v := .int (sI S a0 6)) F hK hW hL_a0 hK_a0 (by decide) rfl rfl (by decide) i_12 k_28 rfl dX7_loseRights_7 ?_
    refine lv_aload_n hx hb dX7_loseRights_10 rfl (lv_at hl 0 rfl) ?_
    refine w_get (k := 12) (f := 5) (T := TX7) (v := .int (sI S a0 5)) F hK hW hL_a0 hK_a0 (by decide) rfl rfl (by decide) i_12 k_24 rfl dX7_loseRights_11 ?_
    refine lv_if_eq (tgt := 22) hx hb dX7_loseRights_14 (by decide) (fun c_2 => ?_) (fun c_2 => ?_)
    · replace hp := hp.1 c_2
      refine lv_iconst (v := 3) hx hb dX7_loseRights_22 (by decide) ?_
      exact t_X7_loseRights_23 F hr hlocks hK hp hW hE (lv_sub hl [0, 1, 2] rfl) hL_a0 hK_a0 hL_a0 hK_a0
    · replace hp := hp.2 c_2
      refine lv_bipush (v := 12) hx hb dX7_loseRights_17 (by decide) ?_
      refine lv_goto (tgt := 23) hx hb dX7_loseRights_19 (by decide) ?_
      exact t_X7_loseRights_23 F hr hlocks hK hp hW hE (lv_sub hl [0, 1, 2] rfl) hL_a0 hK_a0 hL_a0 hK_a0
set_option maxHeartbeats 4000000 in
set_option maxRecDepth 100000 in
theorem c_X7_loseRights (l : Launch) {D : wD} {cy : Nat → ClassId} {X : va_W} {S0 : wS} {post : wS → Prop} {a0 : Nat} {x1 : Int32} {x2 : Int32} {x3 : Int32} (hL_a0 : wM D S0 a0) (hK_a0 : sK S0 a0 = 12) (hp : wp_X7_loseRights D post S0 a0 x1 x2 x3) : mV D cy X l yX7_loseRights wz_X7_loseRights r_X7_loseRights [.ref a0, .int x1, .int x2, .int x3] S0 (fun S9 => wX D S0 S9 ∧ post S9) := by
  intro sz
  refine Met.ofW (cc := cX7_loseRights) (maxL := 9) (ret := none) (by decide) rfl ?_
  intro p e s m args below meth c s₁ B hml hv
  obtain ⟨rfl, hsz, hP, hK, hD0, hRO⟩ := hv
  have hts := atoms_spec (ws := wz_X7_loseRights) B.pre
  have hown : s.vm.findClass RX7 = some m.cls := findClass_of_methodNamed B.named
  subst hsz
  have hD := hD0.self (sz := s.heap.size)
  have F : CallFix p m c cX7_loseRights 9 s _ wz_X7_loseRights RX7 := ⟨B.exec, B.bytes, hml, hown, hts⟩
  have hr := B.returns
  have hlocks := B.notSynchronized
  generalize hAe : va_A (wL cy X S0) s.heap.size = A at hD hK ⊢
  have hA : ∀ q, s.heap.size ≤ q → A q := fun q h => by rw [← hAe]; exact Or.inr h
  have hW : wO D cy X A s.heap S0 s.heap [] := ⟨hP, hD, va_S.rf, hA, hRO⟩
  have hl := lv_entry ([.ref a0, .int x1, .int x2, .int x3]) (n := 9) (Nat.le_of_ble_eq_true rfl)
  rw [lg_entry_eq]
  generalize (lg_sl ([.ref a0, .int x1, .int x2, .int x3]) ++ List.replicate (9 - (lg_sl ([.ref a0, .int x1, .int x2, .int x3])).length) Slot.unset).toArray = ls at hl ⊢
  have hl : lv_has ls 9 [(0, .ref a0), (1, .int x1), (2, .int x2), (3, .int x3)] := hl
  unfold wp_X7_loseRights at hp
  exact t_X7_loseRights_0 F hr hlocks hK hp hW wX.rf (lv_sub hl [0, 1, 2, 3] rfl) hL_a0 hK_a0
