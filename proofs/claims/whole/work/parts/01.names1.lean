theorem dX8_digest_87 : decode cX8_digest 87 = .ok (.ladd, 1) := by decide +kernel
theorem dX8_digest_88 : decode cX8_digest 88 = .ok (.lstore_n 1, 1) := by decide +kernel
theorem dX8_digest_89 : decode cX8_digest 89 = .ok (.ldc2_w 285, 3) := by decide +kernel
theorem dX8_digest_92 : decode cX8_digest 92 = .ok (.lload_n 1, 1) := by decide +kernel
theorem dX8_digest_93 : decode cX8_digest 93 = .ok (.lmul, 1) := by decide +kernel
theorem dX8_digest_94 : decode cX8_digest 94 = .ok (.aload_n 0, 1) := by decide +kernel
theorem dX8_digest_95 : decode cX8_digest 95 = .ok (.getfield 46, 3) := by decide +kernel
theorem dX8_digest_98 : decode cX8_digest 98 = .ok (.ladd, 1) := by decide +kernel
theorem dX8_digest_99 : decode cX8_digest 99 = .ok (.lreturn, 1) := by decide +kernel
theorem dX8_keepFraction_0 : decode cX8_keepFraction 0 = .ok (.lload_n 1, 1) := by decide +kernel
theorem dX8_keepFraction_1 : decode cX8_keepFraction 1 = .ok (.lstore 5, 2) := by decide +kernel
theorem dX8_keepFraction_3 : decode cX8_keepFraction 3 = .ok (.lload_n 3, 1) := by decide +kernel
theorem dX8_keepFraction_4 : decode cX8_keepFraction 4 = .ok (.lstore 7, 2) := by decide +kernel
theorem dX8_keepFraction_6 : decode cX8_keepFraction 6 = .ok (.iconst 0, 1) := by decide +kernel
theorem dX8_keepFraction_7 : decode cX8_keepFraction 7 = .ok (.istore 9, 2) := by decide +kernel
theorem dX8_keepFraction_9 : decode cX8_keepFraction 9 = .ok (.iload 9, 2) := by decide +kernel
theorem dX8_keepFraction_11 : decode cX8_keepFraction 11 = .ok (.sipush 128, 3) := by decide +kernel
theorem dX8_keepFraction_14 : decode cX8_keepFraction 14 = .ok (.if_icmp .ge 31, 3) := by decide +kernel
theorem dX8_keepFraction_17 : decode cX8_keepFraction 17 = .ok (.lload 7, 2) := by decide +kernel
theorem dX8_keepFraction_19 : decode cX8_keepFraction 19 = .ok (.lconst 0, 1) := by decide +kernel
theorem dX8_keepFraction_20 : decode cX8_keepFraction 20 = .ok (.lcmp, 1) := by decide +kernel
theorem dX8_keepFraction_21 : decode cX8_keepFraction 21 = .ok (.ifCond .eq 24, 3) := by decide +kernel
theorem dX8_keepFraction_24 : decode cX8_keepFraction 24 = .ok (.lload 5, 2) := by decide +kernel
theorem dX8_keepFraction_26 : decode cX8_keepFraction 26 = .ok (.lload 7, 2) := by decide +kernel
theorem dX8_keepFraction_28 : decode cX8_keepFraction 28 = .ok (.lrem, 1) := by decide +kernel
theorem dX8_keepFraction_29 : decode cX8_keepFraction 29 = .ok (.lstore 10, 2) := by decide +kernel
theorem dX8_keepFraction_31 : decode cX8_keepFraction 31 = .ok (.lload 7, 2) := by decide +kernel
theorem dX8_keepFraction_33 : decode cX8_keepFraction 33 = .ok (.lstore 5, 2) := by decide +kernel
theorem dX8_keepFraction_35 : decode cX8_keepFraction 35 = .ok (.lload 10, 2) := by decide +kernel
theorem dX8_keepFraction_37 : decode cX8_keepFraction 37 = .ok (.lstore 7, 2) := by decide +kernel
theorem dX8_keepFraction_39 : decode cX8_keepFraction 39 = .ok (.iinc 9 1, 3) := by decide +kernel
theorem dX8_keepFraction_42 : decode cX8_keepFraction 42 = .ok (.goto (-33), 3) := by decide +kernel
theorem dX8_keepFraction_45 : decode cX8_keepFraction 45 = .ok (.lload 5, 2) := by decide +kernel
theorem dX8_keepFraction_47 : decode cX8_keepFraction 47 = .ok (.lconst 0, 1) := by decide +kernel
theorem dX8_keepFraction_48 : decode cX8_keepFraction 48 = .ok (.lcmp, 1) := by decide +kernel
theorem dX8_keepFraction_49 : decode cX8_keepFraction 49 = .ok (.ifCond .le 19, 3) := by decide +kernel
theorem dX8_keepFraction_52 : decode cX8_keepFraction 52 = .ok (.aload_n 0, 1) := by decide +kernel
theorem dX8_keepFraction_53 : decode cX8_keepFraction 53 = .ok (.lload_n 1, 1) := by decide +kernel
theorem dX8_keepFraction_54 : decode cX8_keepFraction 54 = .ok (.lload 5, 2) := by decide +kernel
theorem dX8_keepFraction_56 : decode cX8_keepFraction 56 = .ok (.ldiv, 1) := by decide +kernel
theorem dX8_keepFraction_57 : decode cX8_keepFraction 57 = .ok (.putfield 42, 3) := by decide +kernel
theorem dX8_keepFraction_60 : decode cX8_keepFraction 60 = .ok (.aload_n 0, 1) := by decide +kernel
theorem dX8_keepFraction_61 : decode cX8_keepFraction 61 = .ok (.lload_n 3, 1) := by decide +kernel
theorem dX8_keepFraction_62 : decode cX8_keepFraction 62 = .ok (.lload 5, 2) := by decide +kernel
theorem dX8_keepFraction_64 : decode cX8_keepFraction 64 = .ok (.ldiv, 1) := by decide +kernel
theorem dX8_keepFraction_65 : decode cX8_keepFraction 65 = .ok (.putfield 46, 3) := by decide +kernel
theorem dX8_keepFraction_68 : decode cX8_keepFraction 68 = .ok (.return_, 1) := by decide +kernel
theorem dX8_refuseAsBad_0 : decode cX8_refuseAsBad 0 = .ok (.aload_n 0, 1) := by decide +kernel
theorem dX8_refuseAsBad_1 : decode cX8_refuseAsBad 1 = .ok (.getfield 38, 3) := by decide +kernel
theorem dX8_refuseAsBad_4 : decode cX8_refuseAsBad 4 = .ok (.iconst 0, 1) := by decide +kernel
theorem dX8_refuseAsBad_5 : decode cX8_refuseAsBad 5 = .ok (.dup2, 1) := by decide +kernel
theorem dX8_refuseAsBad_6 : decode cX8_refuseAsBad 6 = .ok (.iaload, 1) := by decide +kernel
theorem dX8_refuseAsBad_7 : decode cX8_refuseAsBad 7 = .ok (.iconst 1, 1) := by decide +kernel
theorem dX8_refuseAsBad_8 : decode cX8_refuseAsBad 8 = .ok (.iadd, 1) := by decide +kernel
theorem dX8_refuseAsBad_9 : decode cX8_refuseAsBad 9 = .ok (.iastore, 1) := by decide +kernel
theorem dX8_refuseAsBad_10 : decode cX8_refuseAsBad 10 = .ok (.iload_n 1, 1) := by decide +kernel
theorem dX8_refuseAsBad_11 : decode cX8_refuseAsBad 11 = .ok (.ireturn, 1) := by decide +kernel
theorem dX8_refuseAsNo_0 : decode cX8_refuseAsNo 0 = .ok (.aload_n 0, 1) := by decide +kernel
theorem dX8_refuseAsNo_1 : decode cX8_refuseAsNo 1 = .ok (.getfield 38, 3) := by decide +kernel
theorem dX8_refuseAsNo_4 : decode cX8_refuseAsNo 4 = .ok (.iconst 1, 1) := by decide +kernel
theorem dX8_refuseAsNo_5 : decode cX8_refuseAsNo 5 = .ok (.dup2, 1) := by decide +kernel
theorem dX8_refuseAsNo_6 : decode cX8_refuseAsNo 6 = .ok (.iaload, 1) := by decide +kernel
theorem dX8_refuseAsNo_7 : decode cX8_refuseAsNo 7 = .ok (.iconst 1, 1) := by decide +kernel
theorem dX8_refuseAsNo_8 : decode cX8_refuseAsNo 8 = .ok (.iadd, 1) := by decide +kernel
theorem dX8_refuseAsNo_9 : decode cX8_refuseAsNo 9 = .ok (.iastore, 1) := by decide +kernel
theorem dX8_refuseAsNo_10 : decode cX8_refuseAsNo 10 = .ok (.iload_n 1, 1) := by decide +kernel
theorem dX8_refuseAsNo_11 : decode cX8_refuseAsNo 11 = .ok (.ireturn, 1) := by decide +kernel
theorem dX8_refuseAsFull_0 : decode cX8_refuseAsFull 0 = .ok (.aload_n 0, 1) := by decide +kernel
theorem dX8_refuseAsFull_1 : decode cX8_refuseAsFull 1 = .ok (.getfield 38, 3) := by decide +kernel
theorem dX8_refuseAsFull_4 : decode cX8_refuseAsFull 4 = .ok (.iconst 2, 1) := by decide +kernel
theorem dX8_refuseAsFull_5 : decode cX8_refuseAsFull 5 = .ok (.dup2, 1) := by decide +kernel
theorem dX8_refuseAsFull_6 : decode cX8_refuseAsFull 6 = .ok (.iaload, 1) := by decide +kernel
theorem dX8_refuseAsFull_7 : decode cX8_refuseAsFull 7 = .ok (.iconst 1, 1) := by decide +kernel
theorem dX8_refuseAsFull_8 : decode cX8_refuseAsFull 8 = .ok (.iadd, 1) := by decide +kernel
theorem dX8_refuseAsFull_9 : decode cX8_refuseAsFull 9 = .ok (.iastore, 1) := by decide +kernel
theorem dX8_refuseAsFull_10 : decode cX8_refuseAsFull 10 = .ok (.bipush (-4), 2) := by decide +kernel
theorem dX8_refuseAsFull_12 : decode cX8_refuseAsFull 12 = .ok (.ireturn, 1) := by decide +kernel
theorem dX8_within_0 : decode cX8_within 0 = .ok (.iload_n 0, 1) := by decide +kernel
theorem dX8_within_1 : decode cX8_within 1 = .ok (.iload_n 1, 1) := by decide +kernel
theorem dX8_within_2 : decode cX8_within 2 = .ok (.if_icmp .gt 12, 3) := by decide +kernel
theorem dX8_within_5 : decode cX8_within 5 = .ok (.iload_n 1, 1) := by decide +kernel
theorem dX8_within_6 : decode cX8_within 6 = .ok (.iload_n 2, 1) := by decide +kernel
theorem dX8_within_7 : decode cX8_within 7 = .ok (.if_icmp .gt 7, 3) := by decide +kernel
theorem dX8_within_10 : decode cX8_within 10 = .ok (.iconst 1, 1) := by decide +kernel
theorem dX8_within_11 : decode cX8_within 11 = .ok (.goto 4, 3) := by decide +kernel
theorem dX8_within_14 : decode cX8_within 14 = .ok (.iconst 0, 1) := by decide +kernel
theorem dX8_within_15 : decode cX8_within 15 = .ok (.ireturn, 1) := by decide +kernel
theorem dX8_isKind_0 : decode cX8_isKind 0 = .ok (.iconst 0, 1) := by decide +kernel
theorem dX8_isKind_1 : decode cX8_isKind 1 = .ok (.iload_n 0, 1) := by decide +kernel
theorem dX8_isKind_2 : decode cX8_isKind 2 = .ok (.iconst 5, 1) := by decide +kernel
theorem dX8_isKind_3 : decode cX8_isKind 3 = .ok (.invokestatic 71, 3) := by decide +kernel
theorem dX8_isKind_6 : decode cX8_isKind 6 = .ok (.ireturn, 1) := by decide +kernel
theorem dX8_isCounsel_0 : decode cX8_isCounsel 0 = .ok (.iconst 0, 1) := by decide +kernel
theorem dX8_isCounsel_1 : decode cX8_isCounsel 1 = .ok (.iload_n 0, 1) := by decide +kernel
theorem dX8_isCounsel_2 : decode cX8_isCounsel 2 = .ok (.iconst 1, 1) := by decide +kernel
theorem dX8_isCounsel_3 : decode cX8_isCounsel 3 = .ok (.invokestatic 71, 3) := by decide +kernel
theorem dX8_isCounsel_6 : decode cX8_isCounsel 6 = .ok (.ireturn, 1) := by decide +kernel
theorem dX8_isChair_0 : decode cX8_isChair 0 = .ok (.iconst 0, 1) := by decide +kernel
theorem dX8_isChair_1 : decode cX8_isChair 1 = .ok (.iload_n 0, 1) := by decide +kernel
theorem dX8_isChair_2 : decode cX8_isChair 2 = .ok (.iconst 1, 1) := by decide +kernel
theorem dX8_isChair_3 : decode cX8_isChair 3 = .ok (.invokestatic 71, 3) := by decide +kernel
theorem dX8_isChair_6 : decode cX8_isChair 6 = .ok (.ireturn, 1) := by decide +kernel
theorem dX8_has_0 : decode cX8_has 0 = .ok (.iload_n 0, 1) := by decide +kernel
theorem dX8_has_1 : decode cX8_has 1 = .ok (.iload_n 1, 1) := by decide +kernel
theorem dX8_has_2 : decode cX8_has 2 = .ok (.ishr, 1) := by decide +kernel
theorem dX8_has_3 : decode cX8_has 3 = .ok (.iconst 1, 1) := by decide +kernel
theorem dX8_has_4 : decode cX8_has 4 = .ok (.iand, 1) := by decide +kernel
theorem dX8_has_5 : decode cX8_has 5 = .ok (.ifCond .eq 7, 3) := by decide +kernel
theorem dX8_has_8 : decode cX8_has 8 = .ok (.iconst 1, 1) := by decide +kernel
theorem dX8_has_9 : decode cX8_has 9 = .ok (.goto 4, 3) := by decide +kernel
theorem dX8_has_12 : decode cX8_has 12 = .ok (.iconst 0, 1) := by decide +kernel
theorem dX8_has_13 : decode cX8_has 13 = .ok (.ireturn, 1) := by decide +kernel
theorem dX9_init_0 : decode cX9_init 0 = .ok (.aload_n 0, 1) := by decide +kernel
theorem dX9_init_1 : decode cX9_init 1 = .ok (.invokespecial 1, 3) := by decide +kernel
theorem dX9_init_4 : decode cX9_init 4 = .ok (.aload_n 0, 1) := by decide +kernel
theorem dX9_init_5 : decode cX9_init 5 = .ok (.sipush 194, 3) := by decide +kernel
theorem dX9_init_8 : decode cX9_init 8 = .ok (.newarray .int, 2) := by decide +kernel
theorem dX9_init_10 : decode cX9_init 10 = .ok (.putfield 7, 3) := by decide +kernel
theorem dX9_init_13 : decode cX9_init 13 = .ok (.aload_n 0, 1) := by decide +kernel
theorem dX9_init_14 : decode cX9_init 14 = .ok (.sipush 388, 3) := by decide +kernel
theorem dX9_init_17 : decode cX9_init 17 = .ok (.newarray .int, 2) := by decide +kernel
theorem dX9_init_19 : decode cX9_init 19 = .ok (.putfield 13, 3) := by decide +kernel
theorem dX9_init_22 : decode cX9_init 22 = .ok (.aload_n 0, 1) := by decide +kernel
theorem dX9_init_23 : decode cX9_init 23 = .ok (.iconst 2, 1) := by decide +kernel
theorem dX9_init_24 : decode cX9_init 24 = .ok (.newarray .boolean, 2) := by decide +kernel
theorem dX9_init_26 : decode cX9_init 26 = .ok (.putfield 16, 3) := by decide +kernel
theorem dX9_init_29 : decode cX9_init 29 = .ok (.aload_n 0, 1) := by decide +kernel
theorem dX9_init_30 : decode cX9_init 30 = .ok (.iconst 3, 1) := by decide +kernel
theorem dX9_init_31 : decode cX9_init 31 = .ok (.newarray .int, 2) := by decide +kernel
theorem dX9_init_33 : decode cX9_init 33 = .ok (.putfield 20, 3) := by decide +kernel
theorem dX9_init_36 : decode cX9_init 36 = .ok (.aload_n 0, 1) := by decide +kernel
theorem dX9_init_37 : decode cX9_init 37 = .ok (.lconst 1, 1) := by decide +kernel
theorem dX9_init_38 : decode cX9_init 38 = .ok (.putfield 23, 3) := by decide +kernel
theorem dX9_init_41 : decode cX9_init 41 = .ok (.aload_n 0, 1) := by decide +kernel
theorem dX9_init_42 : decode cX9_init 42 = .ok (.bipush 14, 2) := by decide +kernel
theorem dX9_init_44 : decode cX9_init 44 = .ok (.newarray .int, 2) := by decide +kernel
theorem dX9_init_46 : decode cX9_init 46 = .ok (.putfield 27, 3) := by decide +kernel
theorem dX9_init_49 : decode cX9_init 49 = .ok (.aload_n 0, 1) := by decide +kernel
theorem dX9_init_50 : decode cX9_init 50 = .ok (.bipush 14, 2) := by decide +kernel
theorem dX9_init_52 : decode cX9_init 52 = .ok (.newarray .int, 2) := by decide +kernel
theorem dX9_init_54 : decode cX9_init 54 = .ok (.putfield 30, 3) := by decide +kernel
theorem dX9_init_57 : decode cX9_init 57 = .ok (.aload_n 0, 1) := by decide +kernel
theorem dX9_init_58 : decode cX9_init 58 = .ok (.bipush 14, 2) := by decide +kernel
theorem dX9_init_60 : decode cX9_init 60 = .ok (.newarray .int, 2) := by decide +kernel
theorem dX9_init_62 : decode cX9_init 62 = .ok (.putfield 33, 3) := by decide +kernel
theorem dX9_init_65 : decode cX9_init 65 = .ok (.aload_n 0, 1) := by decide +kernel
theorem dX9_init_66 : decode cX9_init 66 = .ok (.bipush 14, 2) := by decide +kernel
theorem dX9_init_68 : decode cX9_init 68 = .ok (.newarray .int, 2) := by decide +kernel
theorem dX9_init_70 : decode cX9_init 70 = .ok (.putfield 36, 3) := by decide +kernel
theorem dX9_init_73 : decode cX9_init 73 = .ok (.aload_n 0, 1) := by decide +kernel
theorem dX9_init_74 : decode cX9_init 74 = .ok (.bipush 28, 2) := by decide +kernel
theorem dX9_init_76 : decode cX9_init 76 = .ok (.newarray .int, 2) := by decide +kernel
theorem dX9_init_78 : decode cX9_init 78 = .ok (.putfield 39, 3) := by decide +kernel
theorem dX9_init_81 : decode cX9_init 81 = .ok (.aload_n 0, 1) := by decide +kernel
theorem dX9_init_82 : decode cX9_init 82 = .ok (.bipush 14, 2) := by decide +kernel
theorem dX9_init_84 : decode cX9_init 84 = .ok (.newarray .int, 2) := by decide +kernel
theorem dX9_init_86 : decode cX9_init 86 = .ok (.putfield 42, 3) := by decide +kernel
theorem dX9_init_89 : decode cX9_init 89 = .ok (.aload_n 0, 1) := by decide +kernel
theorem dX9_init_90 : decode cX9_init 90 = .ok (.bipush 14, 2) := by decide +kernel
theorem dX9_init_92 : decode cX9_init 92 = .ok (.newarray .int, 2) := by decide +kernel
theorem dX9_init_94 : decode cX9_init 94 = .ok (.putfield 45, 3) := by decide +kernel
theorem dX9_init_97 : decode cX9_init 97 = .ok (.aload_n 0, 1) := by decide +kernel
theorem dX9_init_98 : decode cX9_init 98 = .ok (.bipush 14, 2) := by decide +kernel
theorem dX9_init_100 : decode cX9_init 100 = .ok (.newarray .int, 2) := by decide +kernel
theorem dX9_init_102 : decode cX9_init 102 = .ok (.putfield 48, 3) := by decide +kernel
theorem dX9_init_105 : decode cX9_init 105 = .ok (.aload_n 0, 1) := by decide +kernel
theorem dX9_init_106 : decode cX9_init 106 = .ok (.iconst 2, 1) := by decide +kernel
theorem dX9_init_107 : decode cX9_init 107 = .ok (.newarray .int, 2) := by decide +kernel
theorem dX9_init_109 : decode cX9_init 109 = .ok (.putfield 51, 3) := by decide +kernel
theorem dX9_init_112 : decode cX9_init 112 = .ok (.aload_n 0, 1) := by decide +kernel
theorem dX9_init_113 : decode cX9_init 113 = .ok (.bipush 6, 2) := by decide +kernel
theorem dX9_init_115 : decode cX9_init 115 = .ok (.newarray .int, 2) := by decide +kernel
theorem dX9_init_117 : decode cX9_init 117 = .ok (.putfield 54, 3) := by decide +kernel
theorem dX9_init_120 : decode cX9_init 120 = .ok (.aload_n 0, 1) := by decide +kernel
theorem dX9_init_121 : decode cX9_init 121 = .ok (.sipush 150, 3) := by decide +kernel
theorem dX9_init_124 : decode cX9_init 124 = .ok (.newarray .int, 2) := by decide +kernel
theorem dX9_init_126 : decode cX9_init 126 = .ok (.putfield 57, 3) := by decide +kernel
theorem dX9_init_129 : decode cX9_init 129 = .ok (.aload_n 0, 1) := by decide +kernel
theorem dX9_init_130 : decode cX9_init 130 = .ok (.bipush 90, 2) := by decide +kernel
theorem dX9_init_132 : decode cX9_init 132 = .ok (.newarray .int, 2) := by decide +kernel
theorem dX9_init_134 : decode cX9_init 134 = .ok (.putfield 60, 3) := by decide +kernel
theorem dX9_init_137 : decode cX9_init 137 = .ok (.aload_n 0, 1) := by decide +kernel
theorem dX9_init_138 : decode cX9_init 138 = .ok (.iconst 3, 1) := by decide +kernel
theorem dX9_init_139 : decode cX9_init 139 = .ok (.newarray .int, 2) := by decide +kernel
theorem dX9_init_141 : decode cX9_init 141 = .ok (.putfield 63, 3) := by decide +kernel
theorem dX9_init_144 : decode cX9_init 144 = .ok (.aload_n 0, 1) := by decide +kernel
theorem dX9_init_145 : decode cX9_init 145 = .ok (.getfield 7, 3) := by decide +kernel
theorem dX9_init_148 : decode cX9_init 148 = .ok (.iconst 0, 1) := by decide +kernel
theorem dX9_init_149 : decode cX9_init 149 = .ok (.iconst 0, 1) := by decide +kernel
theorem dX9_init_150 : decode cX9_init 150 = .ok (.invokestatic 66, 3) := by decide +kernel
theorem dX9_init_153 : decode cX9_init 153 = .ok (.return_, 1) := by decide +kernel
theorem dX9_in_0 : decode cX9_in 0 = .ok (.lload_n 0, 1) := by decide +kernel
theorem dX9_in_1 : decode cX9_in 1 = .ok (.lload_n 2, 1) := by decide +kernel
theorem dX9_in_2 : decode cX9_in 2 = .ok (.lcmp, 1) := by decide +kernel
theorem dX9_in_3 : decode cX9_in 3 = .ok (.ifCond .lt 14, 3) := by decide +kernel
theorem dX9_in_6 : decode cX9_in 6 = .ok (.lload_n 0, 1) := by decide +kernel
theorem dX9_in_7 : decode cX9_in 7 = .ok (.lload 4, 2) := by decide +kernel
theorem dX9_in_9 : decode cX9_in 9 = .ok (.lcmp, 1) := by decide +kernel
theorem dX9_in_10 : decode cX9_in 10 = .ok (.ifCond .gt 7, 3) := by decide +kernel
theorem dX9_in_13 : decode cX9_in 13 = .ok (.iconst 1, 1) := by decide +kernel
theorem dX9_in_14 : decode cX9_in 14 = .ok (.goto 4, 3) := by decide +kernel
theorem dX9_in_17 : decode cX9_in 17 = .ok (.iconst 0, 1) := by decide +kernel
theorem dX9_in_18 : decode cX9_in 18 = .ok (.ireturn, 1) := by decide +kernel
theorem dX9_bad_0 : decode cX9_bad 0 = .ok (.aload_n 0, 1) := by decide +kernel
theorem dX9_bad_1 : decode cX9_bad 1 = .ok (.getfield 20, 3) := by decide +kernel
theorem dX9_bad_4 : decode cX9_bad 4 = .ok (.iconst 0, 1) := by decide +kernel
theorem dX9_bad_5 : decode cX9_bad 5 = .ok (.dup2, 1) := by decide +kernel
theorem dX9_bad_6 : decode cX9_bad 6 = .ok (.iaload, 1) := by decide +kernel
theorem dX9_bad_7 : decode cX9_bad 7 = .ok (.iconst 1, 1) := by decide +kernel
theorem dX9_bad_8 : decode cX9_bad 8 = .ok (.iadd, 1) := by decide +kernel
theorem dX9_bad_9 : decode cX9_bad 9 = .ok (.iastore, 1) := by decide +kernel
theorem dX9_bad_10 : decode cX9_bad 10 = .ok (.iload_n 1, 1) := by decide +kernel
theorem dX9_bad_11 : decode cX9_bad 11 = .ok (.ireturn, 1) := by decide +kernel
theorem dX9_no_0 : decode cX9_no 0 = .ok (.aload_n 0, 1) := by decide +kernel
theorem dX9_no_1 : decode cX9_no 1 = .ok (.getfield 20, 3) := by decide +kernel
theorem dX9_no_4 : decode cX9_no 4 = .ok (.iconst 1, 1) := by decide +kernel
theorem dX9_no_5 : decode cX9_no 5 = .ok (.dup2, 1) := by decide +kernel
theorem dX9_no_6 : decode cX9_no 6 = .ok (.iaload, 1) := by decide +kernel
theorem dX9_no_7 : decode cX9_no 7 = .ok (.iconst 1, 1) := by decide +kernel
theorem dX9_no_8 : decode cX9_no 8 = .ok (.iadd, 1) := by decide +kernel
theorem dX9_no_9 : decode cX9_no 9 = .ok (.iastore, 1) := by decide +kernel
theorem dX9_no_10 : decode cX9_no 10 = .ok (.iload_n 1, 1) := by decide +kernel
theorem dX9_no_11 : decode cX9_no 11 = .ok (.ireturn, 1) := by decide +kernel
theorem dX9_full_0 : decode cX9_full 0 = .ok (.aload_n 0, 1) := by decide +kernel
theorem dX9_full_1 : decode cX9_full 1 = .ok (.getfield 20, 3) := by decide +kernel
theorem dX9_full_4 : decode cX9_full 4 = .ok (.iconst 2, 1) := by decide +kernel
theorem dX9_full_5 : decode cX9_full 5 = .ok (.dup2, 1) := by decide +kernel
theorem dX9_full_6 : decode cX9_full 6 = .ok (.iaload, 1) := by decide +kernel
theorem dX9_full_7 : decode cX9_full 7 = .ok (.iconst 1, 1) := by decide +kernel
theorem dX9_full_8 : decode cX9_full 8 = .ok (.iadd, 1) := by decide +kernel
theorem dX9_full_9 : decode cX9_full 9 = .ok (.iastore, 1) := by decide +kernel
theorem dX9_full_10 : decode cX9_full 10 = .ok (.bipush (-4), 2) := by decide +kernel
theorem dX9_full_12 : decode cX9_full 12 = .ok (.ireturn, 1) := by decide +kernel
theorem dX9_bits_0 : decode cX9_bits 0 = .ok (.iconst 0, 1) := by decide +kernel
theorem dX9_bits_1 : decode cX9_bits 1 = .ok (.istore_n 1, 1) := by decide +kernel
theorem dX9_bits_2 : decode cX9_bits 2 = .ok (.iload_n 0, 1) := by decide +kernel
theorem dX9_bits_3 : decode cX9_bits 3 = .ok (.istore_n 2, 1) := by decide +kernel
theorem dX9_bits_4 : decode cX9_bits 4 = .ok (.iload_n 2, 1) := by decide +kernel
theorem dX9_bits_5 : decode cX9_bits 5 = .ok (.ifCond .le 16, 3) := by decide +kernel
theorem dX9_bits_8 : decode cX9_bits 8 = .ok (.iload_n 1, 1) := by decide +kernel
theorem dX9_bits_9 : decode cX9_bits 9 = .ok (.iload_n 2, 1) := by decide +kernel
theorem dX9_bits_10 : decode cX9_bits 10 = .ok (.iconst 1, 1) := by decide +kernel
theorem dX9_bits_11 : decode cX9_bits 11 = .ok (.iand, 1) := by decide +kernel
theorem dX9_bits_12 : decode cX9_bits 12 = .ok (.iadd, 1) := by decide +kernel
theorem dX9_bits_13 : decode cX9_bits 13 = .ok (.istore_n 1, 1) := by decide +kernel
theorem dX9_bits_14 : decode cX9_bits 14 = .ok (.iload_n 2, 1) := by decide +kernel
theorem dX9_bits_15 : decode cX9_bits 15 = .ok (.iconst 1, 1) := by decide +kernel
theorem dX9_bits_16 : decode cX9_bits 16 = .ok (.ishr, 1) := by decide +kernel
theorem dX9_bits_17 : decode cX9_bits 17 = .ok (.istore_n 2, 1) := by decide +kernel
theorem dX9_bits_18 : decode cX9_bits 18 = .ok (.goto (-14), 3) := by decide +kernel
theorem dX9_bits_21 : decode cX9_bits 21 = .ok (.iload_n 1, 1) := by decide +kernel
theorem dX9_bits_22 : decode cX9_bits 22 = .ok (.ireturn, 1) := by decide +kernel
theorem dX9_has_0 : decode cX9_has 0 = .ok (.iload_n 0, 1) := by decide +kernel
theorem dX9_has_1 : decode cX9_has 1 = .ok (.iload_n 1, 1) := by decide +kernel
theorem dX9_has_2 : decode cX9_has 2 = .ok (.ishr, 1) := by decide +kernel
theorem dX9_has_3 : decode cX9_has 3 = .ok (.iconst 1, 1) := by decide +kernel
theorem dX9_has_4 : decode cX9_has 4 = .ok (.iand, 1) := by decide +kernel
theorem dX9_has_5 : decode cX9_has 5 = .ok (.iconst 1, 1) := by decide +kernel
theorem dX9_has_6 : decode cX9_has 6 = .ok (.if_icmp .ne 7, 3) := by decide +kernel
theorem dX9_has_9 : decode cX9_has 9 = .ok (.iconst 1, 1) := by decide +kernel
theorem dX9_has_10 : decode cX9_has 10 = .ok (.goto 4, 3) := by decide +kernel
theorem dX9_has_13 : decode cX9_has 13 = .ok (.iconst 0, 1) := by decide +kernel
theorem dX9_has_14 : decode cX9_has 14 = .ok (.ireturn, 1) := by decide +kernel
theorem dX9_begin_0 : decode cX9_begin 0 = .ok (.iconst 0, 1) := by decide +kernel
theorem dX9_begin_1 : decode cX9_begin 1 = .ok (.istore_n 3, 1) := by decide +kernel
theorem dX9_begin_2 : decode cX9_begin 2 = .ok (.iload_n 3, 1) := by decide +kernel
theorem dX9_begin_3 : decode cX9_begin 3 = .ok (.bipush 90, 2) := by decide +kernel
theorem dX9_begin_5 : decode cX9_begin 5 = .ok (.if_icmp .ge 13, 3) := by decide +kernel
theorem dX9_begin_8 : decode cX9_begin 8 = .ok (.aload_n 0, 1) := by decide +kernel
theorem dX9_begin_9 : decode cX9_begin 9 = .ok (.iload_n 3, 1) := by decide +kernel
theorem dX9_begin_10 : decode cX9_begin 10 = .ok (.iconst 0, 1) := by decide +kernel
theorem dX9_begin_11 : decode cX9_begin 11 = .ok (.iastore, 1) := by decide +kernel
theorem dX9_begin_12 : decode cX9_begin 12 = .ok (.iinc 3 1, 3) := by decide +kernel
theorem dX9_begin_15 : decode cX9_begin 15 = .ok (.goto (-13), 3) := by decide +kernel
theorem dX9_begin_18 : decode cX9_begin 18 = .ok (.aload_n 0, 1) := by decide +kernel
theorem dX9_begin_19 : decode cX9_begin 19 = .ok (.bipush 30, 2) := by decide +kernel
theorem dX9_begin_21 : decode cX9_begin 21 = .ok (.iload_n 1, 1) := by decide +kernel
theorem dX9_begin_22 : decode cX9_begin 22 = .ok (.iastore, 1) := by decide +kernel
theorem dX9_begin_23 : decode cX9_begin 23 = .ok (.aload_n 0, 1) := by decide +kernel
theorem dX9_begin_24 : decode cX9_begin 24 = .ok (.bipush 31, 2) := by decide +kernel
theorem dX9_begin_26 : decode cX9_begin 26 = .ok (.iload_n 2, 1) := by decide +kernel
theorem dX9_begin_27 : decode cX9_begin 27 = .ok (.iastore, 1) := by decide +kernel
theorem dX9_begin_28 : decode cX9_begin 28 = .ok (.aload_n 0, 1) := by decide +kernel
theorem dX9_begin_29 : decode cX9_begin 29 = .ok (.bipush 12, 2) := by decide +kernel
theorem dX9_begin_31 : decode cX9_begin 31 = .ok (.iconst 1, 1) := by decide +kernel
theorem dX9_begin_32 : decode cX9_begin 32 = .ok (.iastore, 1) := by decide +kernel
theorem dX9_begin_33 : decode cX9_begin 33 = .ok (.aload_n 0, 1) := by decide +kernel
theorem dX9_begin_34 : decode cX9_begin 34 = .ok (.bipush 13, 2) := by decide +kernel
theorem dX9_begin_36 : decode cX9_begin 36 = .ok (.iconst 1, 1) := by decide +kernel
theorem dX9_begin_37 : decode cX9_begin 37 = .ok (.iastore, 1) := by decide +kernel
theorem dX9_begin_38 : decode cX9_begin 38 = .ok (.aload_n 0, 1) := by decide +kernel
theorem dX9_begin_39 : decode cX9_begin 39 = .ok (.bipush 17, 2) := by decide +kernel
theorem dX9_begin_41 : decode cX9_begin 41 = .ok (.iconst (-1), 1) := by decide +kernel
theorem dX9_begin_42 : decode cX9_begin 42 = .ok (.iastore, 1) := by decide +kernel
theorem dX9_begin_43 : decode cX9_begin 43 = .ok (.return_, 1) := by decide +kernel
theorem dX9_many_0 : decode cX9_many 0 = .ok (.aload_n 0, 1) := by decide +kernel
theorem dX9_many_1 : decode cX9_many 1 = .ok (.getfield 7, 3) := by decide +kernel
theorem dX9_many_4 : decode cX9_many 4 = .ok (.iconst 0, 1) := by decide +kernel
theorem dX9_many_5 : decode cX9_many 5 = .ok (.iaload, 1) := by decide +kernel
theorem dX9_many_6 : decode cX9_many 6 = .ok (.ireturn, 1) := by decide +kernel
theorem dX9_isPoint_0 : decode cX9_isPoint 0 = .ok (.iload_n 1, 1) := by decide +kernel
theorem dX9_isPoint_1 : decode cX9_isPoint 1 = .ok (.i2l, 1) := by decide +kernel
theorem dX9_isPoint_2 : decode cX9_isPoint 2 = .ok (.lconst 0, 1) := by decide +kernel
theorem dX9_isPoint_3 : decode cX9_isPoint 3 = .ok (.aload_n 0, 1) := by decide +kernel
theorem dX9_isPoint_4 : decode cX9_isPoint 4 = .ok (.invokevirtual 70, 3) := by decide +kernel
theorem dX9_isPoint_7 : decode cX9_isPoint 7 = .ok (.iconst 1, 1) := by decide +kernel
theorem dX9_isPoint_8 : decode cX9_isPoint 8 = .ok (.isub, 1) := by decide +kernel
theorem dX9_isPoint_9 : decode cX9_isPoint 9 = .ok (.i2l, 1) := by decide +kernel
theorem dX9_isPoint_10 : decode cX9_isPoint 10 = .ok (.invokestatic 74, 3) := by decide +kernel
theorem dX9_isPoint_13 : decode cX9_isPoint 13 = .ok (.ireturn, 1) := by decide +kernel
theorem dX9_isCounsel_0 : decode cX9_isCounsel 0 = .ok (.iload_n 0, 1) := by decide +kernel
theorem dX9_isCounsel_1 : decode cX9_isCounsel 1 = .ok (.i2l, 1) := by decide +kernel
theorem dX9_isCounsel_2 : decode cX9_isCounsel 2 = .ok (.lconst 0, 1) := by decide +kernel
theorem dX9_isCounsel_3 : decode cX9_isCounsel 3 = .ok (.lconst 1, 1) := by decide +kernel
theorem dX9_isCounsel_4 : decode cX9_isCounsel 4 = .ok (.invokestatic 74, 3) := by decide +kernel
theorem dX9_isCounsel_7 : decode cX9_isCounsel 7 = .ok (.ireturn, 1) := by decide +kernel
theorem dX9_isKind_0 : decode cX9_isKind 0 = .ok (.iload_n 0, 1) := by decide +kernel
theorem dX9_isKind_1 : decode cX9_isKind 1 = .ok (.i2l, 1) := by decide +kernel
theorem dX9_isKind_2 : decode cX9_isKind 2 = .ok (.lconst 0, 1) := by decide +kernel
theorem dX9_isKind_3 : decode cX9_isKind 3 = .ok (.ldc2_w 78, 3) := by decide +kernel
theorem dX9_isKind_6 : decode cX9_isKind 6 = .ok (.invokestatic 74, 3) := by decide +kernel
theorem dX9_isKind_9 : decode cX9_isKind 9 = .ok (.ireturn, 1) := by decide +kernel
theorem dX9_suit_0 : decode cX9_suit 0 = .ok (.iload_n 1, 1) := by decide +kernel
theorem dX9_suit_1 : decode cX9_suit 1 = .ok (.invokestatic 80, 3) := by decide +kernel
theorem dX9_suit_4 : decode cX9_suit 4 = .ok (.ifCond .eq 10, 3) := by decide +kernel
theorem dX9_suit_7 : decode cX9_suit 7 = .ok (.iload_n 2, 1) := by decide +kernel
theorem dX9_suit_8 : decode cX9_suit 8 = .ok (.invokestatic 80, 3) := by decide +kernel
theorem dX9_suit_11 : decode cX9_suit 11 = .ok (.ifCond .ne 10, 3) := by decide +kernel
theorem dX9_suit_14 : decode cX9_suit 14 = .ok (.aload_n 0, 1) := by decide +kernel
theorem dX9_suit_15 : decode cX9_suit 15 = .ok (.bipush (-2), 2) := by decide +kernel
theorem dX9_suit_17 : decode cX9_suit 17 = .ok (.invokevirtual 84, 3) := by decide +kernel
theorem dX9_suit_20 : decode cX9_suit 20 = .ok (.ireturn, 1) := by decide +kernel
theorem dX9_suit_21 : decode cX9_suit 21 = .ok (.aload_n 0, 1) := by decide +kernel
theorem dX9_suit_22 : decode cX9_suit 22 = .ok (.invokevirtual 70, 3) := by decide +kernel
theorem dX9_suit_25 : decode cX9_suit 25 = .ok (.istore_n 3, 1) := by decide +kernel
theorem dX9_suit_26 : decode cX9_suit 26 = .ok (.aload_n 0, 1) := by decide +kernel
theorem dX9_suit_27 : decode cX9_suit 27 = .ok (.getfield 7, 3) := by decide +kernel
theorem dX9_suit_30 : decode cX9_suit 30 = .ok (.iload_n 1, 1) := by decide +kernel
theorem dX9_suit_31 : decode cX9_suit 31 = .ok (.iload_n 2, 1) := by decide +kernel
theorem dX9_suit_32 : decode cX9_suit 32 = .ok (.invokestatic 66, 3) := by decide +kernel
theorem dX9_suit_35 : decode cX9_suit 35 = .ok (.iload_n 3, 1) := by decide +kernel
theorem dX9_suit_36 : decode cX9_suit 36 = .ok (.ireturn, 1) := by decide +kernel
theorem dX9_bows_0 : decode cX9_bows 0 = .ok (.iload_n 1, 1) := by decide +kernel
theorem dX9_bows_1 : decode cX9_bows 1 = .ok (.invokestatic 88, 3) := by decide +kernel
theorem dX9_bows_4 : decode cX9_bows 4 = .ok (.ifCond .eq 15, 3) := by decide +kernel
theorem dX9_bows_7 : decode cX9_bows 7 = .ok (.iload_n 2, 1) := by decide +kernel
theorem dX9_bows_8 : decode cX9_bows 8 = .ok (.i2l, 1) := by decide +kernel
theorem dX9_bows_9 : decode cX9_bows 9 = .ok (.lconst 0, 1) := by decide +kernel
theorem dX9_bows_10 : decode cX9_bows 10 = .ok (.ldc2_w 91, 3) := by decide +kernel
theorem dX9_bows_13 : decode cX9_bows 13 = .ok (.invokestatic 74, 3) := by decide +kernel
theorem dX9_bows_16 : decode cX9_bows 16 = .ok (.ifCond .ne 10, 3) := by decide +kernel
theorem dX9_bows_19 : decode cX9_bows 19 = .ok (.aload_n 0, 1) := by decide +kernel
theorem dX9_bows_20 : decode cX9_bows 20 = .ok (.bipush (-2), 2) := by decide +kernel
theorem dX9_bows_22 : decode cX9_bows 22 = .ok (.invokevirtual 84, 3) := by decide +kernel
theorem dX9_bows_25 : decode cX9_bows 25 = .ok (.ireturn, 1) := by decide +kernel
theorem dX9_bows_26 : decode cX9_bows 26 = .ok (.aload_n 0, 1) := by decide +kernel
theorem dX9_bows_27 : decode cX9_bows 27 = .ok (.getfield 7, 3) := by decide +kernel
theorem dX9_bows_30 : decode cX9_bows 30 = .ok (.bipush 12, 2) := by decide +kernel
theorem dX9_bows_32 : decode cX9_bows 32 = .ok (.iload_n 1, 1) := by decide +kernel
theorem dX9_bows_33 : decode cX9_bows 33 = .ok (.iadd, 1) := by decide +kernel
theorem dX9_bows_34 : decode cX9_bows 34 = .ok (.iaload, 1) := by decide +kernel
theorem dX9_bows_35 : decode cX9_bows 35 = .ok (.istore_n 3, 1) := by decide +kernel
theorem dX9_bows_36 : decode cX9_bows 36 = .ok (.aload_n 0, 1) := by decide +kernel
theorem dX9_bows_37 : decode cX9_bows 37 = .ok (.getfield 7, 3) := by decide +kernel
theorem dX9_bows_40 : decode cX9_bows 40 = .ok (.bipush 12, 2) := by decide +kernel
theorem dX9_bows_42 : decode cX9_bows 42 = .ok (.iload_n 1, 1) := by decide +kernel
theorem dX9_bows_43 : decode cX9_bows 43 = .ok (.iadd, 1) := by decide +kernel
theorem dX9_bows_44 : decode cX9_bows 44 = .ok (.iload_n 2, 1) := by decide +kernel
theorem dX9_bows_45 : decode cX9_bows 45 = .ok (.iastore, 1) := by decide +kernel
theorem dX9_bows_46 : decode cX9_bows 46 = .ok (.aload_n 0, 1) := by decide +kernel
theorem dX9_bows_47 : decode cX9_bows 47 = .ok (.getfield 7, 3) := by decide +kernel
theorem dX9_bows_50 : decode cX9_bows 50 = .ok (.iconst 4, 1) := by decide +kernel
theorem dX9_bows_51 : decode cX9_bows 51 = .ok (.iconst 0, 1) := by decide +kernel
theorem dX9_bows_52 : decode cX9_bows 52 = .ok (.iastore, 1) := by decide +kernel
theorem dX9_bows_53 : decode cX9_bows 53 = .ok (.iload_n 3, 1) := by decide +kernel
theorem dX9_bows_54 : decode cX9_bows 54 = .ok (.ireturn, 1) := by decide +kernel
theorem dX9_layPoint_0 : decode cX9_layPoint 0 = .ok (.aload_n 0, 1) := by decide +kernel
theorem dX9_layPoint_1 : decode cX9_layPoint 1 = .ok (.iconst 0, 1) := by decide +kernel
theorem dX9_layPoint_2 : decode cX9_layPoint 2 = .ok (.iaload, 1) := by decide +kernel
theorem dX9_layPoint_3 : decode cX9_layPoint 3 = .ok (.istore 4, 2) := by decide +kernel
theorem dX9_layPoint_5 : decode cX9_layPoint 5 = .ok (.aload_n 0, 1) := by decide +kernel
theorem dX9_layPoint_6 : decode cX9_layPoint 6 = .ok (.bipush 18, 2) := by decide +kernel
theorem dX9_layPoint_8 : decode cX9_layPoint 8 = .ok (.iload 4, 2) := by decide +kernel
theorem dX9_layPoint_10 : decode cX9_layPoint 10 = .ok (.iadd, 1) := by decide +kernel
theorem dX9_layPoint_11 : decode cX9_layPoint 11 = .ok (.iload_n 1, 1) := by decide +kernel
theorem dX9_layPoint_12 : decode cX9_layPoint 12 = .ok (.iastore, 1) := by decide +kernel
theorem dX9_layPoint_13 : decode cX9_layPoint 13 = .ok (.aload_n 0, 1) := by decide +kernel
theorem dX9_layPoint_14 : decode cX9_layPoint 14 = .ok (.bipush 24, 2) := by decide +kernel
theorem dX9_layPoint_16 : decode cX9_layPoint 16 = .ok (.iload 4, 2) := by decide +kernel
theorem dX9_layPoint_18 : decode cX9_layPoint 18 = .ok (.iadd, 1) := by decide +kernel
theorem dX9_layPoint_19 : decode cX9_layPoint 19 = .ok (.iload_n 2, 1) := by decide +kernel
theorem dX9_layPoint_20 : decode cX9_layPoint 20 = .ok (.iastore, 1) := by decide +kernel
theorem dX9_layPoint_21 : decode cX9_layPoint 21 = .ok (.aload_n 0, 1) := by decide +kernel
theorem dX9_layPoint_22 : decode cX9_layPoint 22 = .ok (.bipush 6, 2) := by decide +kernel
theorem dX9_layPoint_24 : decode cX9_layPoint 24 = .ok (.iload 4, 2) := by decide +kernel
theorem dX9_layPoint_26 : decode cX9_layPoint 26 = .ok (.iadd, 1) := by decide +kernel
theorem dX9_layPoint_27 : decode cX9_layPoint 27 = .ok (.iload_n 3, 1) := by decide +kernel
theorem dX9_layPoint_28 : decode cX9_layPoint 28 = .ok (.iastore, 1) := by decide +kernel
theorem dX9_layPoint_29 : decode cX9_layPoint 29 = .ok (.aload_n 0, 1) := by decide +kernel
theorem dX9_layPoint_30 : decode cX9_layPoint 30 = .ok (.iconst 0, 1) := by decide +kernel
theorem dX9_layPoint_31 : decode cX9_layPoint 31 = .ok (.dup2, 1) := by decide +kernel
theorem dX9_layPoint_32 : decode cX9_layPoint 32 = .ok (.iaload, 1) := by decide +kernel
theorem dX9_layPoint_33 : decode cX9_layPoint 33 = .ok (.iconst 1, 1) := by decide +kernel
theorem dX9_layPoint_34 : decode cX9_layPoint 34 = .ok (.iadd, 1) := by decide +kernel
theorem dX9_layPoint_35 : decode cX9_layPoint 35 = .ok (.iastore, 1) := by decide +kernel
theorem dX9_layPoint_36 : decode cX9_layPoint 36 = .ok (.return_, 1) := by decide +kernel
theorem dX9_point_0 : decode cX9_point 0 = .ok (.iload_n 1, 1) := by decide +kernel
theorem dX9_point_1 : decode cX9_point 1 = .ok (.invokestatic 80, 3) := by decide +kernel
theorem dX9_point_4 : decode cX9_point 4 = .ok (.ifCond .eq 27, 3) := by decide +kernel
theorem dX9_point_7 : decode cX9_point 7 = .ok (.iload_n 2, 1) := by decide +kernel
theorem dX9_point_8 : decode cX9_point 8 = .ok (.i2l, 1) := by decide +kernel
theorem dX9_point_9 : decode cX9_point 9 = .ok (.lconst 1, 1) := by decide +kernel
theorem dX9_point_10 : decode cX9_point 10 = .ok (.ldc2_w 93, 3) := by decide +kernel
theorem dX9_point_13 : decode cX9_point 13 = .ok (.invokestatic 74, 3) := by decide +kernel
theorem dX9_point_16 : decode cX9_point 16 = .ok (.ifCond .eq 15, 3) := by decide +kernel
theorem dX9_point_19 : decode cX9_point 19 = .ok (.iload_n 3, 1) := by decide +kernel
theorem dX9_point_20 : decode cX9_point 20 = .ok (.i2l, 1) := by decide +kernel
theorem dX9_point_21 : decode cX9_point 21 = .ok (.lconst 0, 1) := by decide +kernel
theorem dX9_point_22 : decode cX9_point 22 = .ok (.ldc2_w 91, 3) := by decide +kernel
theorem dX9_point_25 : decode cX9_point 25 = .ok (.invokestatic 74, 3) := by decide +kernel
theorem dX9_point_28 : decode cX9_point 28 = .ok (.ifCond .ne 10, 3) := by decide +kernel
theorem dX9_point_31 : decode cX9_point 31 = .ok (.aload_n 0, 1) := by decide +kernel
theorem dX9_point_32 : decode cX9_point 32 = .ok (.bipush (-2), 2) := by decide +kernel
theorem dX9_point_34 : decode cX9_point 34 = .ok (.invokevirtual 84, 3) := by decide +kernel
theorem dX9_point_37 : decode cX9_point 37 = .ok (.ireturn, 1) := by decide +kernel
theorem dX9_point_38 : decode cX9_point 38 = .ok (.aload_n 0, 1) := by decide +kernel
theorem dX9_point_39 : decode cX9_point 39 = .ok (.invokevirtual 70, 3) := by decide +kernel
theorem dX9_point_42 : decode cX9_point 42 = .ok (.bipush 6, 2) := by decide +kernel
theorem dX9_point_44 : decode cX9_point 44 = .ok (.if_icmp .ne 8, 3) := by decide +kernel
theorem dX9_point_47 : decode cX9_point 47 = .ok (.aload_n 0, 1) := by decide +kernel
theorem dX9_point_48 : decode cX9_point 48 = .ok (.invokevirtual 95, 3) := by decide +kernel
theorem dX9_point_51 : decode cX9_point 51 = .ok (.ireturn, 1) := by decide +kernel
theorem dX9_point_52 : decode cX9_point 52 = .ok (.aload_n 0, 1) := by decide +kernel
theorem dX9_point_53 : decode cX9_point 53 = .ok (.getfield 7, 3) := by decide +kernel
theorem dX9_point_56 : decode cX9_point 56 = .ok (.iload_n 1, 1) := by decide +kernel
theorem dX9_point_57 : decode cX9_point 57 = .ok (.iload_n 2, 1) := by decide +kernel
theorem dX9_point_58 : decode cX9_point 58 = .ok (.iload_n 3, 1) := by decide +kernel
theorem dX9_point_59 : decode cX9_point 59 = .ok (.invokestatic 98, 3) := by decide +kernel
theorem dX9_point_62 : decode cX9_point 62 = .ok (.aload_n 0, 1) := by decide +kernel
theorem dX9_point_63 : decode cX9_point 63 = .ok (.getfield 7, 3) := by decide +kernel
theorem dX9_point_66 : decode cX9_point 66 = .ok (.iconst 4, 1) := by decide +kernel
theorem dX9_point_67 : decode cX9_point 67 = .ok (.iconst 0, 1) := by decide +kernel
theorem dX9_point_68 : decode cX9_point 68 = .ok (.iastore, 1) := by decide +kernel
theorem dX9_point_69 : decode cX9_point 69 = .ok (.aload_n 0, 1) := by decide +kernel
theorem dX9_point_70 : decode cX9_point 70 = .ok (.invokevirtual 70, 3) := by decide +kernel
theorem dX9_point_73 : decode cX9_point 73 = .ok (.iconst 1, 1) := by decide +kernel
theorem dX9_point_74 : decode cX9_point 74 = .ok (.isub, 1) := by decide +kernel
theorem dX9_point_75 : decode cX9_point 75 = .ok (.ireturn, 1) := by decide +kernel
theorem dX9_movesAs_0 : decode cX9_movesAs 0 = .ok (.iload_n 1, 1) := by decide +kernel
theorem dX9_movesAs_1 : decode cX9_movesAs 1 = .ok (.iconst 1, 1) := by decide +kernel
theorem dX9_movesAs_2 : decode cX9_movesAs 2 = .ok (.iadd, 1) := by decide +kernel
theorem dX9_movesAs_3 : decode cX9_movesAs 3 = .ok (.iconst 2, 1) := by decide +kernel
theorem dX9_movesAs_4 : decode cX9_movesAs 4 = .ok (.idiv, 1) := by decide +kernel
theorem dX9_movesAs_5 : decode cX9_movesAs 5 = .ok (.istore 4, 2) := by decide +kernel
theorem dX9_movesAs_7 : decode cX9_movesAs 7 = .ok (.iload_n 2, 1) := by decide +kernel
theorem dX9_movesAs_8 : decode cX9_movesAs 8 = .ok (.ifCond .ge 9, 3) := by decide +kernel
theorem dX9_movesAs_11 : decode cX9_movesAs 11 = .ok (.iconst 2, 1) := by decide +kernel
theorem dX9_movesAs_12 : decode cX9_movesAs 12 = .ok (.iload_n 1, 1) := by decide +kernel
theorem dX9_movesAs_13 : decode cX9_movesAs 13 = .ok (.imul, 1) := by decide +kernel
theorem dX9_movesAs_14 : decode cX9_movesAs 14 = .ok (.goto 4, 3) := by decide +kernel
theorem dX9_movesAs_17 : decode cX9_movesAs 17 = .ok (.iload_n 1, 1) := by decide +kernel
theorem dX9_movesAs_18 : decode cX9_movesAs 18 = .ok (.istore 5, 2) := by decide +kernel
theorem dX9_movesAs_20 : decode cX9_movesAs 20 = .ok (.iload_n 0, 1) := by decide +kernel
theorem dX9_movesAs_21 : decode cX9_movesAs 21 = .ok (.tableswitch 64 1 5 #[35, 38, 41, 46, 51], 35) := by decide +kernel
theorem dX9_movesAs_56 : decode cX9_movesAs 56 = .ok (.iload 4, 2) := by decide +kernel
theorem dX9_movesAs_58 : decode cX9_movesAs 58 = .ok (.ireturn, 1) := by decide +kernel
theorem dX9_movesAs_59 : decode cX9_movesAs 59 = .ok (.iload 5, 2) := by decide +kernel
theorem dX9_movesAs_61 : decode cX9_movesAs 61 = .ok (.ireturn, 1) := by decide +kernel
theorem dX9_movesAs_62 : decode cX9_movesAs 62 = .ok (.iload 4, 2) := by decide +kernel
theorem dX9_movesAs_64 : decode cX9_movesAs 64 = .ok (.iload_n 3, 1) := by decide +kernel
theorem dX9_movesAs_65 : decode cX9_movesAs 65 = .ok (.iadd, 1) := by decide +kernel
theorem dX9_movesAs_66 : decode cX9_movesAs 66 = .ok (.ireturn, 1) := by decide +kernel
theorem dX9_movesAs_67 : decode cX9_movesAs 67 = .ok (.iload 5, 2) := by decide +kernel
theorem dX9_movesAs_69 : decode cX9_movesAs 69 = .ok (.iconst 2, 1) := by decide +kernel
theorem dX9_movesAs_70 : decode cX9_movesAs 70 = .ok (.iadd, 1) := by decide +kernel
theorem dX9_movesAs_71 : decode cX9_movesAs 71 = .ok (.ireturn, 1) := by decide +kernel
theorem dX9_movesAs_72 : decode cX9_movesAs 72 = .ok (.iload_n 3, 1) := by decide +kernel
theorem dX9_movesAs_73 : decode cX9_movesAs 73 = .ok (.iconst 2, 1) := by decide +kernel
theorem dX9_movesAs_74 : decode cX9_movesAs 74 = .ok (.irem, 1) := by decide +kernel
theorem dX9_movesAs_75 : decode cX9_movesAs 75 = .ok (.iconst 1, 1) := by decide +kernel
theorem dX9_movesAs_76 : decode cX9_movesAs 76 = .ok (.if_icmp .ne 7, 3) := by decide +kernel
theorem dX9_movesAs_79 : decode cX9_movesAs 79 = .ok (.iconst 0, 1) := by decide +kernel
theorem dX9_movesAs_80 : decode cX9_movesAs 80 = .ok (.goto 4, 3) := by decide +kernel
theorem dX9_movesAs_83 : decode cX9_movesAs 83 = .ok (.iload_n 1, 1) := by decide +kernel
theorem dX9_movesAs_84 : decode cX9_movesAs 84 = .ok (.ireturn, 1) := by decide +kernel
theorem dX9_movesAs_85 : decode cX9_movesAs 85 = .ok (.iload_n 1, 1) := by decide +kernel
theorem dX9_movesAs_86 : decode cX9_movesAs 86 = .ok (.ireturn, 1) := by decide +kernel
theorem dX9_countsAs_0 : decode cX9_countsAs 0 = .ok (.iload_n 1, 1) := by decide +kernel
theorem dX9_countsAs_1 : decode cX9_countsAs 1 = .ok (.iconst 1, 1) := by decide +kernel
theorem dX9_countsAs_2 : decode cX9_countsAs 2 = .ok (.if_icmp .le 9, 3) := by decide +kernel
theorem dX9_countsAs_5 : decode cX9_countsAs 5 = .ok (.iload_n 1, 1) := by decide +kernel
theorem dX9_countsAs_6 : decode cX9_countsAs 6 = .ok (.iconst 1, 1) := by decide +kernel
theorem dX9_countsAs_7 : decode cX9_countsAs 7 = .ok (.isub, 1) := by decide +kernel
theorem dX9_countsAs_8 : decode cX9_countsAs 8 = .ok (.goto 4, 3) := by decide +kernel
theorem dX9_countsAs_11 : decode cX9_countsAs 11 = .ok (.iconst 0, 1) := by decide +kernel
theorem dX9_countsAs_12 : decode cX9_countsAs 12 = .ok (.istore_n 3, 1) := by decide +kernel
theorem dX9_countsAs_13 : decode cX9_countsAs 13 = .ok (.iload_n 0, 1) := by decide +kernel
theorem dX9_countsAs_14 : decode cX9_countsAs 14 = .ok (.tableswitch 75 1 5 #[34, 38, 40, 55, 69], 34) := by decide +kernel
theorem dX9_countsAs_48 : decode cX9_countsAs 48 = .ok (.iload_n 1, 1) := by decide +kernel
theorem dX9_countsAs_49 : decode cX9_countsAs 49 = .ok (.iconst 2, 1) := by decide +kernel
theorem dX9_countsAs_50 : decode cX9_countsAs 50 = .ok (.iadd, 1) := by decide +kernel
theorem dX9_countsAs_51 : decode cX9_countsAs 51 = .ok (.ireturn, 1) := by decide +kernel
theorem dX9_countsAs_52 : decode cX9_countsAs 52 = .ok (.iload_n 3, 1) := by decide +kernel
theorem dX9_countsAs_53 : decode cX9_countsAs 53 = .ok (.ireturn, 1) := by decide +kernel
theorem dX9_countsAs_54 : decode cX9_countsAs 54 = .ok (.iload_n 2, 1) := by decide +kernel
theorem dX9_countsAs_55 : decode cX9_countsAs 55 = .ok (.ifCond .ne 9, 3) := by decide +kernel
theorem dX9_countsAs_58 : decode cX9_countsAs 58 = .ok (.iload_n 1, 1) := by decide +kernel
theorem dX9_countsAs_59 : decode cX9_countsAs 59 = .ok (.iconst 2, 1) := by decide +kernel
theorem dX9_countsAs_60 : decode cX9_countsAs 60 = .ok (.iadd, 1) := by decide +kernel
theorem dX9_countsAs_61 : decode cX9_countsAs 61 = .ok (.goto 7, 3) := by decide +kernel
theorem dX9_countsAs_64 : decode cX9_countsAs 64 = .ok (.iload_n 1, 1) := by decide +kernel
theorem dX9_countsAs_65 : decode cX9_countsAs 65 = .ok (.ineg, 1) := by decide +kernel
theorem dX9_countsAs_66 : decode cX9_countsAs 66 = .ok (.iconst 2, 1) := by decide +kernel
theorem dX9_countsAs_67 : decode cX9_countsAs 67 = .ok (.isub, 1) := by decide +kernel
theorem dX9_countsAs_68 : decode cX9_countsAs 68 = .ok (.ireturn, 1) := by decide +kernel
theorem dX9_countsAs_69 : decode cX9_countsAs 69 = .ok (.iload_n 1, 1) := by decide +kernel
theorem dX9_countsAs_70 : decode cX9_countsAs 70 = .ok (.iconst 2, 1) := by decide +kernel
theorem dX9_countsAs_71 : decode cX9_countsAs 71 = .ok (.irem, 1) := by decide +kernel
theorem dX9_countsAs_72 : decode cX9_countsAs 72 = .ok (.ifCond .ne 9, 3) := by decide +kernel
theorem dX9_countsAs_75 : decode cX9_countsAs 75 = .ok (.iload_n 3, 1) := by decide +kernel
theorem dX9_countsAs_76 : decode cX9_countsAs 76 = .ok (.iconst 3, 1) := by decide +kernel
theorem dX9_countsAs_77 : decode cX9_countsAs 77 = .ok (.iadd, 1) := by decide +kernel
theorem dX9_countsAs_78 : decode cX9_countsAs 78 = .ok (.goto 4, 3) := by decide +kernel
theorem dX9_countsAs_81 : decode cX9_countsAs 81 = .ok (.iload_n 3, 1) := by decide +kernel
theorem dX9_countsAs_82 : decode cX9_countsAs 82 = .ok (.ireturn, 1) := by decide +kernel
theorem dX9_countsAs_83 : decode cX9_countsAs 83 = .ok (.iload_n 1, 1) := by decide +kernel
theorem dX9_countsAs_84 : decode cX9_countsAs 84 = .ok (.iconst 2, 1) := by decide +kernel
theorem dX9_countsAs_85 : decode cX9_countsAs 85 = .ok (.iadd, 1) := by decide +kernel
theorem dX9_countsAs_86 : decode cX9_countsAs 86 = .ok (.iconst 2, 1) := by decide +kernel
theorem dX9_countsAs_87 : decode cX9_countsAs 87 = .ok (.idiv, 1) := by decide +kernel
theorem dX9_countsAs_88 : decode cX9_countsAs 88 = .ok (.ireturn, 1) := by decide +kernel
theorem dX9_countsAs_89 : decode cX9_countsAs 89 = .ok (.iload_n 1, 1) := by decide +kernel
theorem dX9_countsAs_90 : decode cX9_countsAs 90 = .ok (.ireturn, 1) := by decide +kernel
theorem dX9_chairOf_0 : decode cX9_chairOf 0 = .ok (.iload_n 0, 1) := by decide +kernel
theorem dX9_chairOf_1 : decode cX9_chairOf 1 = .ok (.iload_n 1, 1) := by decide +kernel
theorem dX9_chairOf_2 : decode cX9_chairOf 2 = .ok (.if_icmp .ne 7, 3) := by decide +kernel
theorem dX9_chairOf_5 : decode cX9_chairOf 5 = .ok (.iconst 0, 1) := by decide +kernel
theorem dX9_chairOf_6 : decode cX9_chairOf 6 = .ok (.goto 4, 3) := by decide +kernel
theorem dX9_chairOf_9 : decode cX9_chairOf 9 = .ok (.iconst 1, 1) := by decide +kernel
theorem dX9_chairOf_10 : decode cX9_chairOf 10 = .ok (.ireturn, 1) := by decide +kernel
theorem dX9_countsBy_0 : decode cX9_countsBy 0 = .ok (.iload 4, 2) := by decide +kernel
theorem dX9_countsBy_2 : decode cX9_countsBy 2 = .ok (.iconst 2, 1) := by decide +kernel
theorem dX9_countsBy_3 : decode cX9_countsBy 3 = .ok (.irem, 1) := by decide +kernel
theorem dX9_countsBy_4 : decode cX9_countsBy 4 = .ok (.istore 5, 2) := by decide +kernel
theorem dX9_countsBy_6 : decode cX9_countsBy 6 = .ok (.iload_n 2, 1) := by decide +kernel
theorem dX9_countsBy_7 : decode cX9_countsBy 7 = .ok (.iload 5, 2) := by decide +kernel
theorem dX9_countsBy_9 : decode cX9_countsBy 9 = .ok (.invokestatic 102, 3) := by decide +kernel
theorem dX9_countsBy_12 : decode cX9_countsBy 12 = .ok (.istore 6, 2) := by decide +kernel
theorem dX9_countsBy_14 : decode cX9_countsBy 14 = .ok (.aload_n 0, 1) := by decide +kernel
theorem dX9_countsBy_15 : decode cX9_countsBy 15 = .ok (.getfield 7, 3) := by decide +kernel
theorem dX9_countsBy_18 : decode cX9_countsBy 18 = .ok (.bipush 18, 2) := by decide +kernel
theorem dX9_countsBy_20 : decode cX9_countsBy 20 = .ok (.iload_n 1, 1) := by decide +kernel
theorem dX9_countsBy_21 : decode cX9_countsBy 21 = .ok (.iadd, 1) := by decide +kernel
theorem dX9_countsBy_22 : decode cX9_countsBy 22 = .ok (.iaload, 1) := by decide +kernel
theorem dX9_countsBy_23 : decode cX9_countsBy 23 = .ok (.aload_n 0, 1) := by decide +kernel
theorem dX9_countsBy_24 : decode cX9_countsBy 24 = .ok (.getfield 7, 3) := by decide +kernel
theorem dX9_countsBy_27 : decode cX9_countsBy 27 = .ok (.bipush 24, 2) := by decide +kernel
theorem dX9_countsBy_29 : decode cX9_countsBy 29 = .ok (.iload_n 1, 1) := by decide +kernel
theorem dX9_countsBy_30 : decode cX9_countsBy 30 = .ok (.iadd, 1) := by decide +kernel
theorem dX9_countsBy_31 : decode cX9_countsBy 31 = .ok (.iaload, 1) := by decide +kernel
theorem dX9_countsBy_32 : decode cX9_countsBy 32 = .ok (.iload 6, 2) := by decide +kernel
theorem dX9_countsBy_34 : decode cX9_countsBy 34 = .ok (.ifCond .ne 7, 3) := by decide +kernel
theorem dX9_countsBy_37 : decode cX9_countsBy 37 = .ok (.iload_n 3, 1) := by decide +kernel
theorem dX9_countsBy_38 : decode cX9_countsBy 38 = .ok (.goto 5, 3) := by decide +kernel
theorem dX9_countsBy_41 : decode cX9_countsBy 41 = .ok (.iload_n 3, 1) := by decide +kernel
theorem dX9_countsBy_42 : decode cX9_countsBy 42 = .ok (.ineg, 1) := by decide +kernel
theorem dX9_countsBy_43 : decode cX9_countsBy 43 = .ok (.iload 4, 2) := by decide +kernel
theorem dX9_countsBy_45 : decode cX9_countsBy 45 = .ok (.invokestatic 106, 3) := by decide +kernel
theorem dX9_countsBy_48 : decode cX9_countsBy 48 = .ok (.istore 7, 2) := by decide +kernel
theorem dX9_countsBy_50 : decode cX9_countsBy 50 = .ok (.aload_n 0, 1) := by decide +kernel
theorem dX9_countsBy_51 : decode cX9_countsBy 51 = .ok (.getfield 7, 3) := by decide +kernel
theorem dX9_countsBy_54 : decode cX9_countsBy 54 = .ok (.bipush 30, 2) := by decide +kernel
theorem dX9_countsBy_56 : decode cX9_countsBy 56 = .ok (.iload 5, 2) := by decide +kernel
theorem dX9_countsBy_58 : decode cX9_countsBy 58 = .ok (.iadd, 1) := by decide +kernel
theorem dX9_countsBy_59 : decode cX9_countsBy 59 = .ok (.iaload, 1) := by decide +kernel
theorem dX9_countsBy_60 : decode cX9_countsBy 60 = .ok (.iload 7, 2) := by decide +kernel
theorem dX9_countsBy_62 : decode cX9_countsBy 62 = .ok (.iload 6, 2) := by decide +kernel
theorem dX9_countsBy_64 : decode cX9_countsBy 64 = .ok (.invokestatic 110, 3) := by decide +kernel
theorem dX9_countsBy_67 : decode cX9_countsBy 67 = .ok (.ireturn, 1) := by decide +kernel
theorem dX9_meritBy_0 : decode cX9_meritBy 0 = .ok (.aload_n 0, 1) := by decide +kernel
theorem dX9_meritBy_1 : decode cX9_meritBy 1 = .ok (.iload_n 1, 1) := by decide +kernel
theorem dX9_meritBy_2 : decode cX9_meritBy 2 = .ok (.iload_n 2, 1) := by decide +kernel
theorem dX9_meritBy_3 : decode cX9_meritBy 3 = .ok (.iload_n 3, 1) := by decide +kernel
theorem dX9_meritBy_4 : decode cX9_meritBy 4 = .ok (.iload 4, 2) := by decide +kernel
theorem dX9_meritBy_6 : decode cX9_meritBy 6 = .ok (.invokevirtual 114, 3) := by decide +kernel
theorem dX9_meritBy_9 : decode cX9_meritBy 9 = .ok (.istore 5, 2) := by decide +kernel
theorem dX9_meritBy_11 : decode cX9_meritBy 11 = .ok (.iload_n 2, 1) := by decide +kernel
theorem dX9_meritBy_12 : decode cX9_meritBy 12 = .ok (.iload 4, 2) := by decide +kernel
theorem dX9_meritBy_14 : decode cX9_meritBy 14 = .ok (.iconst 2, 1) := by decide +kernel
theorem dX9_meritBy_15 : decode cX9_meritBy 15 = .ok (.irem, 1) := by decide +kernel
theorem dX9_meritBy_16 : decode cX9_meritBy 16 = .ok (.invokestatic 102, 3) := by decide +kernel
theorem dX9_meritBy_19 : decode cX9_meritBy 19 = .ok (.ifCond .ne 10, 3) := by decide +kernel
theorem dX9_meritBy_22 : decode cX9_meritBy 22 = .ok (.iload_n 3, 1) := by decide +kernel
theorem dX9_meritBy_23 : decode cX9_meritBy 23 = .ok (.iload 5, 2) := by decide +kernel
theorem dX9_meritBy_25 : decode cX9_meritBy 25 = .ok (.iadd, 1) := by decide +kernel
theorem dX9_meritBy_26 : decode cX9_meritBy 26 = .ok (.goto 7, 3) := by decide +kernel
theorem dX9_meritBy_29 : decode cX9_meritBy 29 = .ok (.iload_n 3, 1) := by decide +kernel
theorem dX9_meritBy_30 : decode cX9_meritBy 30 = .ok (.iload 5, 2) := by decide +kernel
theorem dX9_meritBy_32 : decode cX9_meritBy 32 = .ok (.isub, 1) := by decide +kernel
theorem dX9_meritBy_33 : decode cX9_meritBy 33 = .ok (.istore 6, 2) := by decide +kernel
theorem dX9_meritBy_35 : decode cX9_meritBy 35 = .ok (.iload 6, 2) := by decide +kernel
theorem dX9_meritBy_37 : decode cX9_meritBy 37 = .ok (.bipush 99, 2) := by decide +kernel
theorem dX9_meritBy_39 : decode cX9_meritBy 39 = .ok (.if_icmp .le 8, 3) := by decide +kernel
theorem dX9_meritBy_42 : decode cX9_meritBy 42 = .ok (.bipush 99, 2) := by decide +kernel
theorem dX9_meritBy_44 : decode cX9_meritBy 44 = .ok (.goto 17, 3) := by decide +kernel
theorem dX9_meritBy_47 : decode cX9_meritBy 47 = .ok (.iload 6, 2) := by decide +kernel
theorem dX9_meritBy_49 : decode cX9_meritBy 49 = .ok (.bipush (-99), 2) := by decide +kernel
theorem dX9_meritBy_51 : decode cX9_meritBy 51 = .ok (.if_icmp .ge 8, 3) := by decide +kernel
theorem dX9_meritBy_54 : decode cX9_meritBy 54 = .ok (.bipush (-99), 2) := by decide +kernel
theorem dX9_meritBy_56 : decode cX9_meritBy 56 = .ok (.goto 5, 3) := by decide +kernel
theorem dX9_meritBy_59 : decode cX9_meritBy 59 = .ok (.iload 6, 2) := by decide +kernel
theorem dX9_meritBy_61 : decode cX9_meritBy 61 = .ok (.ireturn, 1) := by decide +kernel
theorem dX9_save_0 : decode cX9_save 0 = .ok (.aload_n 0, 1) := by decide +kernel
theorem dX9_save_1 : decode cX9_save 1 = .ok (.getfield 7, 3) := by decide +kernel
theorem dX9_save_4 : decode cX9_save 4 = .ok (.iconst 4, 1) := by decide +kernel
theorem dX9_save_5 : decode cX9_save 5 = .ok (.iaload, 1) := by decide +kernel
theorem dX9_save_6 : decode cX9_save 6 = .ok (.bipush 8, 2) := by decide +kernel
theorem dX9_save_8 : decode cX9_save 8 = .ok (.if_icmp .ne 43, 3) := by decide +kernel
theorem dX9_save_11 : decode cX9_save 11 = .ok (.iconst 0, 1) := by decide +kernel
theorem dX9_save_12 : decode cX9_save 12 = .ok (.istore_n 1, 1) := by decide +kernel
theorem dX9_save_13 : decode cX9_save 13 = .ok (.iload_n 1, 1) := by decide +kernel
theorem dX9_save_14 : decode cX9_save 14 = .ok (.bipush 91, 2) := by decide +kernel
theorem dX9_save_16 : decode cX9_save 16 = .ok (.if_icmp .ge 27, 3) := by decide +kernel
theorem dX9_save_19 : decode cX9_save 19 = .ok (.aload_n 0, 1) := by decide +kernel
theorem dX9_save_20 : decode cX9_save 20 = .ok (.getfield 7, 3) := by decide +kernel
theorem dX9_save_23 : decode cX9_save 23 = .ok (.bipush 90, 2) := by decide +kernel
theorem dX9_save_25 : decode cX9_save 25 = .ok (.iload_n 1, 1) := by decide +kernel
theorem dX9_save_26 : decode cX9_save 26 = .ok (.iadd, 1) := by decide +kernel
theorem dX9_save_27 : decode cX9_save 27 = .ok (.aload_n 0, 1) := by decide +kernel
theorem dX9_save_28 : decode cX9_save 28 = .ok (.getfield 7, 3) := by decide +kernel
theorem dX9_save_31 : decode cX9_save 31 = .ok (.bipush 103, 2) := by decide +kernel
theorem dX9_save_33 : decode cX9_save 33 = .ok (.iload_n 1, 1) := by decide +kernel
theorem dX9_save_34 : decode cX9_save 34 = .ok (.iadd, 1) := by decide +kernel
theorem dX9_save_35 : decode cX9_save 35 = .ok (.iaload, 1) := by decide +kernel
theorem dX9_save_36 : decode cX9_save 36 = .ok (.iastore, 1) := by decide +kernel
theorem dX9_save_37 : decode cX9_save 37 = .ok (.iinc 1 1, 3) := by decide +kernel
theorem dX9_save_40 : decode cX9_save 40 = .ok (.goto (-27), 3) := by decide +kernel
theorem dX9_save_43 : decode cX9_save 43 = .ok (.aload_n 0, 1) := by decide +kernel
theorem dX9_save_44 : decode cX9_save 44 = .ok (.getfield 7, 3) := by decide +kernel
theorem dX9_save_47 : decode cX9_save 47 = .ok (.iconst 4, 1) := by decide +kernel
theorem dX9_save_48 : decode cX9_save 48 = .ok (.bipush 7, 2) := by decide +kernel
theorem dX9_save_50 : decode cX9_save 50 = .ok (.iastore, 1) := by decide +kernel
theorem dX9_save_51 : decode cX9_save 51 = .ok (.iconst 0, 1) := by decide +kernel
theorem dX9_save_52 : decode cX9_save 52 = .ok (.istore_n 1, 1) := by decide +kernel
theorem dX9_save_53 : decode cX9_save 53 = .ok (.iload_n 1, 1) := by decide +kernel
theorem dX9_save_54 : decode cX9_save 54 = .ok (.bipush 13, 2) := by decide +kernel
theorem dX9_save_56 : decode cX9_save 56 = .ok (.if_icmp .ge 36, 3) := by decide +kernel
theorem dX9_save_59 : decode cX9_save 59 = .ok (.aload_n 0, 1) := by decide +kernel
theorem dX9_save_60 : decode cX9_save 60 = .ok (.getfield 7, 3) := by decide +kernel
theorem dX9_save_63 : decode cX9_save 63 = .ok (.bipush 90, 2) := by decide +kernel
theorem dX9_save_65 : decode cX9_save 65 = .ok (.bipush 13, 2) := by decide +kernel
theorem dX9_save_67 : decode cX9_save 67 = .ok (.aload_n 0, 1) := by decide +kernel
theorem dX9_save_68 : decode cX9_save 68 = .ok (.getfield 7, 3) := by decide +kernel
theorem dX9_save_71 : decode cX9_save 71 = .ok (.iconst 4, 1) := by decide +kernel
theorem dX9_save_72 : decode cX9_save 72 = .ok (.iaload, 1) := by decide +kernel
theorem dX9_save_73 : decode cX9_save 73 = .ok (.imul, 1) := by decide +kernel
theorem dX9_save_74 : decode cX9_save 74 = .ok (.iadd, 1) := by decide +kernel
theorem dX9_save_75 : decode cX9_save 75 = .ok (.iload_n 1, 1) := by decide +kernel
theorem dX9_save_76 : decode cX9_save 76 = .ok (.iadd, 1) := by decide +kernel
theorem dX9_save_77 : decode cX9_save 77 = .ok (.aload_n 0, 1) := by decide +kernel
theorem dX9_save_78 : decode cX9_save 78 = .ok (.getfield 7, 3) := by decide +kernel
theorem dX9_save_81 : decode cX9_save 81 = .ok (.iconst 5, 1) := by decide +kernel
theorem dX9_save_82 : decode cX9_save 82 = .ok (.iload_n 1, 1) := by decide +kernel
theorem dX9_save_83 : decode cX9_save 83 = .ok (.iadd, 1) := by decide +kernel
theorem dX9_save_84 : decode cX9_save 84 = .ok (.iaload, 1) := by decide +kernel
theorem dX9_save_85 : decode cX9_save 85 = .ok (.iastore, 1) := by decide +kernel
theorem dX9_save_86 : decode cX9_save 86 = .ok (.iinc 1 1, 3) := by decide +kernel
theorem dX9_save_89 : decode cX9_save 89 = .ok (.goto (-36), 3) := by decide +kernel
theorem dX9_save_92 : decode cX9_save 92 = .ok (.aload_n 0, 1) := by decide +kernel
theorem dX9_save_93 : decode cX9_save 93 = .ok (.getfield 7, 3) := by decide +kernel
theorem dX9_save_96 : decode cX9_save 96 = .ok (.iconst 4, 1) := by decide +kernel
theorem dX9_save_97 : decode cX9_save 97 = .ok (.dup2, 1) := by decide +kernel
theorem dX9_save_98 : decode cX9_save 98 = .ok (.iaload, 1) := by decide +kernel
theorem dX9_save_99 : decode cX9_save 99 = .ok (.iconst 1, 1) := by decide +kernel
theorem dX9_save_100 : decode cX9_save 100 = .ok (.iadd, 1) := by decide +kernel
theorem dX9_save_101 : decode cX9_save 101 = .ok (.iastore, 1) := by decide +kernel
theorem dX9_save_102 : decode cX9_save 102 = .ok (.return_, 1) := by decide +kernel
theorem dX9_says_0 : decode cX9_says 0 = .ok (.aload_n 0, 1) := by decide +kernel
theorem dX9_says_1 : decode cX9_says 1 = .ok (.iload_n 1, 1) := by decide +kernel
theorem dX9_says_2 : decode cX9_says 2 = .ok (.invokevirtual 117, 3) := by decide +kernel
theorem dX9_says_5 : decode cX9_says 5 = .ok (.ifCond .ne 11, 3) := by decide +kernel
theorem dX9_says_8 : decode cX9_says 8 = .ok (.aload_n 0, 1) := by decide +kernel
theorem dX9_says_9 : decode cX9_says 9 = .ok (.sipush (-1000), 3) := by decide +kernel
theorem dX9_says_12 : decode cX9_says 12 = .ok (.invokevirtual 84, 3) := by decide +kernel
theorem dX9_says_15 : decode cX9_says 15 = .ok (.ireturn, 1) := by decide +kernel
theorem dX9_says_16 : decode cX9_says 16 = .ok (.aload_n 0, 1) := by decide +kernel
theorem dX9_says_17 : decode cX9_says 17 = .ok (.getfield 7, 3) := by decide +kernel
theorem dX9_says_20 : decode cX9_says 20 = .ok (.iconst 5, 1) := by decide +kernel
theorem dX9_says_21 : decode cX9_says 21 = .ok (.iaload, 1) := by decide +kernel
theorem dX9_says_22 : decode cX9_says 22 = .ok (.iload_n 1, 1) := by decide +kernel
theorem dX9_says_23 : decode cX9_says 23 = .ok (.invokestatic 120, 3) := by decide +kernel
theorem dX9_says_26 : decode cX9_says 26 = .ok (.ifCond .eq 11, 3) := by decide +kernel
theorem dX9_says_29 : decode cX9_says 29 = .ok (.aload_n 0, 1) := by decide +kernel
theorem dX9_says_30 : decode cX9_says 30 = .ok (.sipush (-1001), 3) := by decide +kernel
theorem dX9_says_33 : decode cX9_says 33 = .ok (.invokevirtual 124, 3) := by decide +kernel
theorem dX9_says_36 : decode cX9_says 36 = .ok (.ireturn, 1) := by decide +kernel
theorem dX9_says_37 : decode cX9_says 37 = .ok (.aload_n 0, 1) := by decide +kernel
theorem dX9_says_38 : decode cX9_says 38 = .ok (.invokevirtual 127, 3) := by decide +kernel
theorem dX9_says_41 : decode cX9_says 41 = .ok (.aload_n 0, 1) := by decide +kernel
theorem dX9_says_42 : decode cX9_says 42 = .ok (.getfield 7, 3) := by decide +kernel
theorem dX9_says_45 : decode cX9_says 45 = .ok (.bipush 15, 2) := by decide +kernel
theorem dX9_says_47 : decode cX9_says 47 = .ok (.aload_n 0, 1) := by decide +kernel
theorem dX9_says_48 : decode cX9_says 48 = .ok (.iload_n 1, 1) := by decide +kernel
theorem dX9_says_49 : decode cX9_says 49 = .ok (.aload_n 0, 1) := by decide +kernel
theorem dX9_says_50 : decode cX9_says 50 = .ok (.getfield 7, 3) := by decide +kernel
theorem dX9_says_53 : decode cX9_says 53 = .ok (.bipush 14, 2) := by decide +kernel
theorem dX9_says_55 : decode cX9_says 55 = .ok (.iaload, 1) := by decide +kernel
theorem dX9_says_56 : decode cX9_says 56 = .ok (.aload_n 0, 1) := by decide +kernel
theorem dX9_says_57 : decode cX9_says 57 = .ok (.getfield 7, 3) := by decide +kernel
theorem dX9_says_60 : decode cX9_says 60 = .ok (.bipush 15, 2) := by decide +kernel
theorem dX9_says_62 : decode cX9_says 62 = .ok (.iaload, 1) := by decide +kernel
theorem dX9_says_63 : decode cX9_says 63 = .ok (.aload_n 0, 1) := by decide +kernel
theorem dX9_says_64 : decode cX9_says 64 = .ok (.getfield 7, 3) := by decide +kernel
theorem dX9_says_67 : decode cX9_says 67 = .ok (.bipush 16, 2) := by decide +kernel
theorem dX9_says_69 : decode cX9_says 69 = .ok (.iaload, 1) := by decide +kernel
theorem dX9_says_70 : decode cX9_says 70 = .ok (.invokevirtual 130, 3) := by decide +kernel
theorem dX9_says_73 : decode cX9_says 73 = .ok (.iastore, 1) := by decide +kernel
theorem dX9_says_74 : decode cX9_says 74 = .ok (.aload_n 0, 1) := by decide +kernel
theorem dX9_says_75 : decode cX9_says 75 = .ok (.getfield 7, 3) := by decide +kernel
theorem dX9_says_78 : decode cX9_says 78 = .ok (.iconst 5, 1) := by decide +kernel
theorem dX9_says_79 : decode cX9_says 79 = .ok (.dup2, 1) := by decide +kernel
theorem dX9_says_80 : decode cX9_says 80 = .ok (.iaload, 1) := by decide +kernel
theorem dX9_says_81 : decode cX9_says 81 = .ok (.iconst 1, 1) := by decide +kernel
theorem dX9_says_82 : decode cX9_says 82 = .ok (.iload_n 1, 1) := by decide +kernel
theorem dX9_says_83 : decode cX9_says 83 = .ok (.ishl, 1) := by decide +kernel
theorem dX9_says_84 : decode cX9_says 84 = .ok (.ior, 1) := by decide +kernel
theorem dX9_says_85 : decode cX9_says 85 = .ok (.iastore, 1) := by decide +kernel
theorem dX9_says_86 : decode cX9_says 86 = .ok (.aload_n 0, 1) := by decide +kernel
theorem dX9_says_87 : decode cX9_says 87 = .ok (.getfield 7, 3) := by decide +kernel
theorem dX9_says_90 : decode cX9_says 90 = .ok (.bipush 16, 2) := by decide +kernel
theorem dX9_says_92 : decode cX9_says 92 = .ok (.dup2, 1) := by decide +kernel
theorem dX9_says_93 : decode cX9_says 93 = .ok (.iaload, 1) := by decide +kernel
theorem dX9_says_94 : decode cX9_says 94 = .ok (.iconst 1, 1) := by decide +kernel
theorem dX9_says_95 : decode cX9_says 95 = .ok (.iadd, 1) := by decide +kernel
theorem dX9_says_96 : decode cX9_says 96 = .ok (.iastore, 1) := by decide +kernel
theorem dX9_says_97 : decode cX9_says 97 = .ok (.aload_n 0, 1) := by decide +kernel
theorem dX9_says_98 : decode cX9_says 98 = .ok (.getfield 7, 3) := by decide +kernel
theorem dX9_says_101 : decode cX9_says 101 = .ok (.bipush 17, 2) := by decide +kernel
theorem dX9_says_103 : decode cX9_says 103 = .ok (.iload_n 1, 1) := by decide +kernel
theorem dX9_says_104 : decode cX9_says 104 = .ok (.iastore, 1) := by decide +kernel
theorem dX9_says_105 : decode cX9_says 105 = .ok (.aload_n 0, 1) := by decide +kernel
theorem dX9_says_106 : decode cX9_says 106 = .ok (.getfield 7, 3) := by decide +kernel
theorem dX9_says_109 : decode cX9_says 109 = .ok (.bipush 15, 2) := by decide +kernel
theorem dX9_says_111 : decode cX9_says 111 = .ok (.iaload, 1) := by decide +kernel
theorem dX9_says_112 : decode cX9_says 112 = .ok (.ireturn, 1) := by decide +kernel
theorem dX9_may_0 : decode cX9_may 0 = .ok (.aload_n 0, 1) := by decide +kernel
theorem dX9_may_1 : decode cX9_may 1 = .ok (.getfield 7, 3) := by decide +kernel
theorem dX9_may_4 : decode cX9_may 4 = .ok (.bipush 17, 2) := by decide +kernel
theorem dX9_may_6 : decode cX9_may 6 = .ok (.iaload, 1) := by decide +kernel
theorem dX9_may_7 : decode cX9_may 7 = .ok (.istore_n 1, 1) := by decide +kernel
theorem dX9_may_8 : decode cX9_may 8 = .ok (.iload_n 1, 1) := by decide +kernel
theorem dX9_may_9 : decode cX9_may 9 = .ok (.iconst (-1), 1) := by decide +kernel
theorem dX9_may_10 : decode cX9_may 10 = .ok (.if_icmp .eq 39, 3) := by decide +kernel
theorem dX9_may_13 : decode cX9_may 13 = .ok (.aload_n 0, 1) := by decide +kernel
theorem dX9_may_14 : decode cX9_may 14 = .ok (.getfield 7, 3) := by decide +kernel
theorem dX9_may_17 : decode cX9_may 17 = .ok (.bipush 6, 2) := by decide +kernel
theorem dX9_may_19 : decode cX9_may 19 = .ok (.iload_n 1, 1) := by decide +kernel
theorem dX9_may_20 : decode cX9_may 20 = .ok (.iadd, 1) := by decide +kernel
theorem dX9_may_21 : decode cX9_may 21 = .ok (.iaload, 1) := by decide +kernel
theorem dX9_may_22 : decode cX9_may 22 = .ok (.ifCond .le 27, 3) := by decide +kernel
theorem dX9_may_25 : decode cX9_may 25 = .ok (.aload_n 0, 1) := by decide +kernel
theorem dX9_may_26 : decode cX9_may 26 = .ok (.getfield 7, 3) := by decide +kernel
theorem dX9_may_29 : decode cX9_may 29 = .ok (.bipush 12, 2) := by decide +kernel
theorem dX9_may_31 : decode cX9_may 31 = .ok (.aload_n 0, 1) := by decide +kernel
theorem dX9_may_32 : decode cX9_may 32 = .ok (.getfield 7, 3) := by decide +kernel
theorem dX9_may_35 : decode cX9_may 35 = .ok (.bipush 16, 2) := by decide +kernel
theorem dX9_may_37 : decode cX9_may 37 = .ok (.iaload, 1) := by decide +kernel
theorem dX9_may_38 : decode cX9_may 38 = .ok (.iconst 2, 1) := by decide +kernel
theorem dX9_may_39 : decode cX9_may 39 = .ok (.irem, 1) := by decide +kernel
theorem dX9_may_40 : decode cX9_may 40 = .ok (.iadd, 1) := by decide +kernel
theorem dX9_may_41 : decode cX9_may 41 = .ok (.iaload, 1) := by decide +kernel
theorem dX9_may_42 : decode cX9_may 42 = .ok (.ifCond .le 7, 3) := by decide +kernel
theorem dX9_may_45 : decode cX9_may 45 = .ok (.iconst 1, 1) := by decide +kernel
theorem dX9_may_46 : decode cX9_may 46 = .ok (.goto 4, 3) := by decide +kernel
theorem dX9_may_49 : decode cX9_may 49 = .ok (.iconst 0, 1) := by decide +kernel
theorem dX9_may_50 : decode cX9_may 50 = .ok (.ireturn, 1) := by decide +kernel
theorem dX9_objects_0 : decode cX9_objects 0 = .ok (.aload_n 0, 1) := by decide +kernel
theorem dX9_objects_1 : decode cX9_objects 1 = .ok (.invokevirtual 133, 3) := by decide +kernel
theorem dX9_objects_4 : decode cX9_objects 4 = .ok (.ifCond .ne 10, 3) := by decide +kernel
theorem dX9_objects_7 : decode cX9_objects 7 = .ok (.aload_n 0, 1) := by decide +kernel
theorem dX9_objects_8 : decode cX9_objects 8 = .ok (.bipush (-3), 2) := by decide +kernel
theorem dX9_objects_10 : decode cX9_objects 10 = .ok (.invokevirtual 124, 3) := by decide +kernel
theorem dX9_objects_13 : decode cX9_objects 13 = .ok (.ireturn, 1) := by decide +kernel
theorem dX9_objects_14 : decode cX9_objects 14 = .ok (.aload_n 0, 1) := by decide +kernel
theorem dX9_objects_15 : decode cX9_objects 15 = .ok (.invokevirtual 127, 3) := by decide +kernel
theorem dX9_objects_18 : decode cX9_objects 18 = .ok (.aload_n 0, 1) := by decide +kernel
theorem dX9_objects_19 : decode cX9_objects 19 = .ok (.getfield 7, 3) := by decide +kernel
theorem dX9_objects_22 : decode cX9_objects 22 = .ok (.bipush 12, 2) := by decide +kernel
theorem dX9_objects_24 : decode cX9_objects 24 = .ok (.aload_n 0, 1) := by decide +kernel
theorem dX9_objects_25 : decode cX9_objects 25 = .ok (.getfield 7, 3) := by decide +kernel
theorem dX9_objects_28 : decode cX9_objects 28 = .ok (.bipush 16, 2) := by decide +kernel
theorem dX9_objects_30 : decode cX9_objects 30 = .ok (.iaload, 1) := by decide +kernel
theorem dX9_objects_31 : decode cX9_objects 31 = .ok (.iconst 2, 1) := by decide +kernel
theorem dX9_objects_32 : decode cX9_objects 32 = .ok (.irem, 1) := by decide +kernel
theorem dX9_objects_33 : decode cX9_objects 33 = .ok (.iadd, 1) := by decide +kernel
theorem dX9_objects_34 : decode cX9_objects 34 = .ok (.dup2, 1) := by decide +kernel
theorem dX9_objects_35 : decode cX9_objects 35 = .ok (.iaload, 1) := by decide +kernel
theorem dX9_objects_36 : decode cX9_objects 36 = .ok (.iconst 1, 1) := by decide +kernel
theorem dX9_objects_37 : decode cX9_objects 37 = .ok (.isub, 1) := by decide +kernel
theorem dX9_objects_38 : decode cX9_objects 38 = .ok (.iastore, 1) := by decide +kernel
theorem dX9_objects_39 : decode cX9_objects 39 = .ok (.aload_n 0, 1) := by decide +kernel
theorem dX9_objects_40 : decode cX9_objects 40 = .ok (.getfield 7, 3) := by decide +kernel
theorem dX9_objects_43 : decode cX9_objects 43 = .ok (.bipush 6, 2) := by decide +kernel
theorem dX9_objects_45 : decode cX9_objects 45 = .ok (.aload_n 0, 1) := by decide +kernel
theorem dX9_objects_46 : decode cX9_objects 46 = .ok (.getfield 7, 3) := by decide +kernel
theorem dX9_objects_49 : decode cX9_objects 49 = .ok (.bipush 17, 2) := by decide +kernel
theorem dX9_objects_51 : decode cX9_objects 51 = .ok (.iaload, 1) := by decide +kernel
theorem dX9_objects_52 : decode cX9_objects 52 = .ok (.iadd, 1) := by decide +kernel
theorem dX9_objects_53 : decode cX9_objects 53 = .ok (.dup2, 1) := by decide +kernel
theorem dX9_objects_54 : decode cX9_objects 54 = .ok (.iaload, 1) := by decide +kernel
theorem dX9_objects_55 : decode cX9_objects 55 = .ok (.iconst 1, 1) := by decide +kernel
theorem dX9_objects_56 : decode cX9_objects 56 = .ok (.isub, 1) := by decide +kernel
theorem dX9_objects_57 : decode cX9_objects 57 = .ok (.iastore, 1) := by decide +kernel
theorem dX9_objects_58 : decode cX9_objects 58 = .ok (.aload_n 0, 1) := by decide +kernel
theorem dX9_objects_59 : decode cX9_objects 59 = .ok (.getfield 7, 3) := by decide +kernel
theorem dX9_objects_62 : decode cX9_objects 62 = .ok (.bipush 14, 2) := by decide +kernel
theorem dX9_objects_64 : decode cX9_objects 64 = .ok (.iconst 1, 1) := by decide +kernel
theorem dX9_objects_65 : decode cX9_objects 65 = .ok (.aload_n 0, 1) := by decide +kernel
theorem dX9_objects_66 : decode cX9_objects 66 = .ok (.getfield 7, 3) := by decide +kernel
theorem dX9_objects_69 : decode cX9_objects 69 = .ok (.bipush 14, 2) := by decide +kernel
theorem dX9_objects_71 : decode cX9_objects 71 = .ok (.iaload, 1) := by decide +kernel
theorem dX9_objects_72 : decode cX9_objects 72 = .ok (.isub, 1) := by decide +kernel
theorem dX9_objects_73 : decode cX9_objects 73 = .ok (.iastore, 1) := by decide +kernel
theorem dX9_objects_74 : decode cX9_objects 74 = .ok (.aload_n 0, 1) := by decide +kernel
theorem dX9_objects_75 : decode cX9_objects 75 = .ok (.getfield 7, 3) := by decide +kernel
theorem dX9_objects_78 : decode cX9_objects 78 = .ok (.bipush 17, 2) := by decide +kernel
theorem dX9_objects_80 : decode cX9_objects 80 = .ok (.iconst (-1), 1) := by decide +kernel
theorem dX9_objects_81 : decode cX9_objects 81 = .ok (.iastore, 1) := by decide +kernel
theorem dX9_objects_82 : decode cX9_objects 82 = .ok (.aload_n 0, 1) := by decide +kernel
theorem dX9_objects_83 : decode cX9_objects 83 = .ok (.getfield 7, 3) := by decide +kernel
theorem dX9_objects_86 : decode cX9_objects 86 = .ok (.bipush 14, 2) := by decide +kernel
theorem dX9_objects_88 : decode cX9_objects 88 = .ok (.iaload, 1) := by decide +kernel
theorem dX9_objects_89 : decode cX9_objects 89 = .ok (.ireturn, 1) := by decide +kernel
theorem dX9_undo_0 : decode cX9_undo 0 = .ok (.aload_n 0, 1) := by decide +kernel
theorem dX9_undo_1 : decode cX9_undo 1 = .ok (.getfield 7, 3) := by decide +kernel
theorem dX9_undo_4 : decode cX9_undo 4 = .ok (.iconst 4, 1) := by decide +kernel
theorem dX9_undo_5 : decode cX9_undo 5 = .ok (.iaload, 1) := by decide +kernel
theorem dX9_undo_6 : decode cX9_undo 6 = .ok (.ifCond .ne 10, 3) := by decide +kernel
theorem dX9_undo_9 : decode cX9_undo 9 = .ok (.aload_n 0, 1) := by decide +kernel
theorem dX9_undo_10 : decode cX9_undo 10 = .ok (.bipush (-3), 2) := by decide +kernel
theorem dX9_undo_12 : decode cX9_undo 12 = .ok (.invokevirtual 124, 3) := by decide +kernel
theorem dX9_undo_15 : decode cX9_undo 15 = .ok (.ireturn, 1) := by decide +kernel
theorem dX9_undo_16 : decode cX9_undo 16 = .ok (.aload_n 0, 1) := by decide +kernel
theorem dX9_undo_17 : decode cX9_undo 17 = .ok (.getfield 7, 3) := by decide +kernel
theorem dX9_undo_20 : decode cX9_undo 20 = .ok (.iconst 4, 1) := by decide +kernel
theorem dX9_undo_21 : decode cX9_undo 21 = .ok (.dup2, 1) := by decide +kernel
theorem dX9_undo_22 : decode cX9_undo 22 = .ok (.iaload, 1) := by decide +kernel
theorem dX9_undo_23 : decode cX9_undo 23 = .ok (.iconst 1, 1) := by decide +kernel
theorem dX9_undo_24 : decode cX9_undo 24 = .ok (.isub, 1) := by decide +kernel
theorem dX9_undo_25 : decode cX9_undo 25 = .ok (.iastore, 1) := by decide +kernel
theorem dX9_undo_26 : decode cX9_undo 26 = .ok (.iconst 0, 1) := by decide +kernel
theorem dX9_undo_27 : decode cX9_undo 27 = .ok (.istore_n 1, 1) := by decide +kernel
theorem dX9_undo_28 : decode cX9_undo 28 = .ok (.iload_n 1, 1) := by decide +kernel
theorem dX9_undo_29 : decode cX9_undo 29 = .ok (.bipush 13, 2) := by decide +kernel
theorem dX9_undo_31 : decode cX9_undo 31 = .ok (.if_icmp .ge 36, 3) := by decide +kernel
theorem dX9_undo_34 : decode cX9_undo 34 = .ok (.aload_n 0, 1) := by decide +kernel
theorem dX9_undo_35 : decode cX9_undo 35 = .ok (.getfield 7, 3) := by decide +kernel
theorem dX9_undo_38 : decode cX9_undo 38 = .ok (.iconst 5, 1) := by decide +kernel
theorem dX9_undo_39 : decode cX9_undo 39 = .ok (.iload_n 1, 1) := by decide +kernel
theorem dX9_undo_40 : decode cX9_undo 40 = .ok (.iadd, 1) := by decide +kernel
theorem dX9_undo_41 : decode cX9_undo 41 = .ok (.aload_n 0, 1) := by decide +kernel
theorem dX9_undo_42 : decode cX9_undo 42 = .ok (.getfield 7, 3) := by decide +kernel
theorem dX9_undo_45 : decode cX9_undo 45 = .ok (.bipush 90, 2) := by decide +kernel
theorem dX9_undo_47 : decode cX9_undo 47 = .ok (.bipush 13, 2) := by decide +kernel
theorem dX9_undo_49 : decode cX9_undo 49 = .ok (.aload_n 0, 1) := by decide +kernel
theorem dX9_undo_50 : decode cX9_undo 50 = .ok (.getfield 7, 3) := by decide +kernel
theorem dX9_undo_53 : decode cX9_undo 53 = .ok (.iconst 4, 1) := by decide +kernel
theorem dX9_undo_54 : decode cX9_undo 54 = .ok (.iaload, 1) := by decide +kernel
theorem dX9_undo_55 : decode cX9_undo 55 = .ok (.imul, 1) := by decide +kernel
theorem dX9_undo_56 : decode cX9_undo 56 = .ok (.iadd, 1) := by decide +kernel
theorem dX9_undo_57 : decode cX9_undo 57 = .ok (.iload_n 1, 1) := by decide +kernel
theorem dX9_undo_58 : decode cX9_undo 58 = .ok (.iadd, 1) := by decide +kernel
theorem dX9_undo_59 : decode cX9_undo 59 = .ok (.iaload, 1) := by decide +kernel
theorem dX9_undo_60 : decode cX9_undo 60 = .ok (.iastore, 1) := by decide +kernel
theorem dX9_undo_61 : decode cX9_undo 61 = .ok (.iinc 1 1, 3) := by decide +kernel
theorem dX9_undo_64 : decode cX9_undo 64 = .ok (.goto (-36), 3) := by decide +kernel
theorem dX9_undo_67 : decode cX9_undo 67 = .ok (.aload_n 0, 1) := by decide +kernel
theorem dX9_undo_68 : decode cX9_undo 68 = .ok (.getfield 7, 3) := by decide +kernel
theorem dX9_undo_71 : decode cX9_undo 71 = .ok (.bipush 16, 2) := by decide +kernel
theorem dX9_undo_73 : decode cX9_undo 73 = .ok (.iaload, 1) := by decide +kernel
theorem dX9_undo_74 : decode cX9_undo 74 = .ok (.ireturn, 1) := by decide +kernel
theorem dX9_open_0 : decode cX9_open 0 = .ok (.iconst 1, 1) := by decide +kernel
theorem dX9_open_1 : decode cX9_open 1 = .ok (.aload_n 0, 1) := by decide +kernel
theorem dX9_open_2 : decode cX9_open 2 = .ok (.invokevirtual 70, 3) := by decide +kernel
theorem dX9_open_5 : decode cX9_open 5 = .ok (.ishl, 1) := by decide +kernel
theorem dX9_open_6 : decode cX9_open 6 = .ok (.iconst 1, 1) := by decide +kernel
theorem dX9_open_7 : decode cX9_open 7 = .ok (.isub, 1) := by decide +kernel
theorem dX9_open_8 : decode cX9_open 8 = .ok (.aload_n 0, 1) := by decide +kernel
theorem dX9_open_9 : decode cX9_open 9 = .ok (.getfield 7, 3) := by decide +kernel
theorem dX9_open_12 : decode cX9_open 12 = .ok (.iconst 5, 1) := by decide +kernel
theorem dX9_open_13 : decode cX9_open 13 = .ok (.iaload, 1) := by decide +kernel
theorem dX9_open_14 : decode cX9_open 14 = .ok (.iconst (-1), 1) := by decide +kernel
theorem dX9_open_15 : decode cX9_open 15 = .ok (.ixor, 1) := by decide +kernel
theorem dX9_open_16 : decode cX9_open 16 = .ok (.iand, 1) := by decide +kernel
theorem dX9_open_17 : decode cX9_open 17 = .ok (.ireturn, 1) := by decide +kernel
theorem dX9_toldNow_0 : decode cX9_toldNow 0 = .ok (.iload_n 1, 1) := by decide +kernel
theorem dX9_toldNow_1 : decode cX9_toldNow 1 = .ok (.tableswitch 82 0 4 #[35, 43, 51, 59, 69], 35) := by decide +kernel
theorem dX9_toldNow_36 : decode cX9_toldNow 36 = .ok (.aload_n 0, 1) := by decide +kernel
theorem dX9_toldNow_37 : decode cX9_toldNow 37 = .ok (.getfield 7, 3) := by decide +kernel
theorem dX9_toldNow_40 : decode cX9_toldNow 40 = .ok (.bipush 15, 2) := by decide +kernel
theorem dX9_toldNow_42 : decode cX9_toldNow 42 = .ok (.iaload, 1) := by decide +kernel
theorem dX9_toldNow_43 : decode cX9_toldNow 43 = .ok (.ireturn, 1) := by decide +kernel
theorem dX9_toldNow_44 : decode cX9_toldNow 44 = .ok (.aload_n 0, 1) := by decide +kernel
theorem dX9_toldNow_45 : decode cX9_toldNow 45 = .ok (.getfield 7, 3) := by decide +kernel
theorem dX9_toldNow_48 : decode cX9_toldNow 48 = .ok (.bipush 14, 2) := by decide +kernel
theorem dX9_toldNow_50 : decode cX9_toldNow 50 = .ok (.iaload, 1) := by decide +kernel
theorem dX9_toldNow_51 : decode cX9_toldNow 51 = .ok (.ireturn, 1) := by decide +kernel
theorem dX9_toldNow_52 : decode cX9_toldNow 52 = .ok (.aload_n 0, 1) := by decide +kernel
theorem dX9_toldNow_53 : decode cX9_toldNow 53 = .ok (.getfield 7, 3) := by decide +kernel
theorem dX9_toldNow_56 : decode cX9_toldNow 56 = .ok (.bipush 16, 2) := by decide +kernel
theorem dX9_toldNow_58 : decode cX9_toldNow 58 = .ok (.iaload, 1) := by decide +kernel
theorem dX9_toldNow_59 : decode cX9_toldNow 59 = .ok (.ireturn, 1) := by decide +kernel
theorem dX9_toldNow_60 : decode cX9_toldNow 60 = .ok (.aload_n 0, 1) := by decide +kernel
theorem dX9_toldNow_61 : decode cX9_toldNow 61 = .ok (.getfield 7, 3) := by decide +kernel
theorem dX9_toldNow_64 : decode cX9_toldNow 64 = .ok (.bipush 16, 2) := by decide +kernel
theorem dX9_toldNow_66 : decode cX9_toldNow 66 = .ok (.iaload, 1) := by decide +kernel
theorem dX9_toldNow_67 : decode cX9_toldNow 67 = .ok (.iconst 2, 1) := by decide +kernel
theorem dX9_toldNow_68 : decode cX9_toldNow 68 = .ok (.irem, 1) := by decide +kernel
theorem dX9_toldNow_69 : decode cX9_toldNow 69 = .ok (.ireturn, 1) := by decide +kernel
theorem dX9_toldNow_70 : decode cX9_toldNow 70 = .ok (.aload_n 0, 1) := by decide +kernel
theorem dX9_toldNow_71 : decode cX9_toldNow 71 = .ok (.invokevirtual 133, 3) := by decide +kernel
theorem dX9_toldNow_74 : decode cX9_toldNow 74 = .ok (.ifCond .eq 7, 3) := by decide +kernel
theorem dX9_toldNow_77 : decode cX9_toldNow 77 = .ok (.iconst 1, 1) := by decide +kernel
theorem dX9_toldNow_78 : decode cX9_toldNow 78 = .ok (.goto 4, 3) := by decide +kernel
theorem dX9_toldNow_81 : decode cX9_toldNow 81 = .ok (.iconst 0, 1) := by decide +kernel
theorem dX9_toldNow_82 : decode cX9_toldNow 82 = .ok (.ireturn, 1) := by decide +kernel
theorem dX9_toldNow_83 : decode cX9_toldNow 83 = .ok (.aload_n 0, 1) := by decide +kernel
theorem dX9_toldNow_84 : decode cX9_toldNow 84 = .ok (.invokevirtual 137, 3) := by decide +kernel
theorem dX9_toldNow_87 : decode cX9_toldNow 87 = .ok (.ifCond .eq 7, 3) := by decide +kernel
theorem dX9_toldNow_90 : decode cX9_toldNow 90 = .ok (.iconst (-1), 1) := by decide +kernel
theorem dX9_toldNow_91 : decode cX9_toldNow 91 = .ok (.goto 18, 3) := by decide +kernel
theorem dX9_toldNow_94 : decode cX9_toldNow 94 = .ok (.aload_n 0, 1) := by decide +kernel
theorem dX9_toldNow_95 : decode cX9_toldNow 95 = .ok (.getfield 7, 3) := by decide +kernel
theorem dX9_toldNow_98 : decode cX9_toldNow 98 = .ok (.bipush 15, 2) := by decide +kernel
theorem dX9_toldNow_100 : decode cX9_toldNow 100 = .ok (.iaload, 1) := by decide +kernel
theorem dX9_toldNow_101 : decode cX9_toldNow 101 = .ok (.ifCond .le 7, 3) := by decide +kernel
theorem dX9_toldNow_104 : decode cX9_toldNow 104 = .ok (.iconst 0, 1) := by decide +kernel
theorem dX9_toldNow_105 : decode cX9_toldNow 105 = .ok (.goto 4, 3) := by decide +kernel
theorem dX9_toldNow_108 : decode cX9_toldNow 108 = .ok (.iconst 1, 1) := by decide +kernel
theorem dX9_toldNow_109 : decode cX9_toldNow 109 = .ok (.ireturn, 1) := by decide +kernel
theorem dX9_now_0 : decode cX9_now 0 = .ok (.iload_n 1, 1) := by decide +kernel
theorem dX9_now_1 : decode cX9_now 1 = .ok (.i2l, 1) := by decide +kernel
theorem dX9_now_2 : decode cX9_now 2 = .ok (.lconst 0, 1) := by decide +kernel
theorem dX9_now_3 : decode cX9_now 3 = .ok (.ldc2_w 78, 3) := by decide +kernel
theorem dX9_now_6 : decode cX9_now 6 = .ok (.invokestatic 74, 3) := by decide +kernel
theorem dX9_now_9 : decode cX9_now 9 = .ok (.ifCond .eq 11, 3) := by decide +kernel
theorem dX9_now_12 : decode cX9_now 12 = .ok (.aload_n 0, 1) := by decide +kernel
theorem dX9_now_13 : decode cX9_now 13 = .ok (.iload_n 1, 1) := by decide +kernel
theorem dX9_now_14 : decode cX9_now 14 = .ok (.invokevirtual 140, 3) := by decide +kernel
theorem dX9_now_17 : decode cX9_now 17 = .ok (.goto 10, 3) := by decide +kernel
theorem dX9_now_20 : decode cX9_now 20 = .ok (.aload_n 0, 1) := by decide +kernel
theorem dX9_now_21 : decode cX9_now 21 = .ok (.sipush (-1000), 3) := by decide +kernel
theorem dX9_now_24 : decode cX9_now 24 = .ok (.invokevirtual 84, 3) := by decide +kernel
theorem dX9_now_27 : decode cX9_now 27 = .ok (.ireturn, 1) := by decide +kernel
theorem dX9_of_0 : decode cX9_of 0 = .ok (.aload_n 0, 1) := by decide +kernel
theorem dX9_of_1 : decode cX9_of 1 = .ok (.iload_n 1, 1) := by decide +kernel
theorem dX9_of_2 : decode cX9_of 2 = .ok (.invokevirtual 117, 3) := by decide +kernel
theorem dX9_of_5 : decode cX9_of 5 = .ok (.ifCond .eq 15, 3) := by decide +kernel
theorem dX9_of_8 : decode cX9_of 8 = .ok (.iload_n 2, 1) := by decide +kernel
theorem dX9_of_9 : decode cX9_of 9 = .ok (.i2l, 1) := by decide +kernel
theorem dX9_of_10 : decode cX9_of 10 = .ok (.lconst 0, 1) := by decide +kernel
theorem dX9_of_11 : decode cX9_of 11 = .ok (.ldc2_w 91, 3) := by decide +kernel
theorem dX9_of_14 : decode cX9_of 14 = .ok (.invokestatic 74, 3) := by decide +kernel
theorem dX9_of_17 : decode cX9_of 17 = .ok (.ifCond .ne 10, 3) := by decide +kernel
theorem dX9_of_20 : decode cX9_of 20 = .ok (.aload_n 0, 1) := by decide +kernel
theorem dX9_of_21 : decode cX9_of 21 = .ok (.bipush (-2), 2) := by decide +kernel
theorem dX9_of_23 : decode cX9_of 23 = .ok (.invokevirtual 84, 3) := by decide +kernel
theorem dX9_of_26 : decode cX9_of 26 = .ok (.ireturn, 1) := by decide +kernel
theorem dX9_of_27 : decode cX9_of 27 = .ok (.iload_n 2, 1) := by decide +kernel
theorem dX9_of_28 : decode cX9_of 28 = .ok (.iconst 3, 1) := by decide +kernel
theorem dX9_of_29 : decode cX9_of 29 = .ok (.if_icmp .ne 16, 3) := by decide +kernel
theorem dX9_of_32 : decode cX9_of 32 = .ok (.aload_n 0, 1) := by decide +kernel
theorem dX9_of_33 : decode cX9_of 33 = .ok (.getfield 7, 3) := by decide +kernel
theorem dX9_of_36 : decode cX9_of 36 = .ok (.iconst 5, 1) := by decide +kernel
theorem dX9_of_37 : decode cX9_of 37 = .ok (.iaload, 1) := by decide +kernel
theorem dX9_of_38 : decode cX9_of 38 = .ok (.iload_n 1, 1) := by decide +kernel
theorem dX9_of_39 : decode cX9_of 39 = .ok (.ishr, 1) := by decide +kernel
theorem dX9_of_40 : decode cX9_of 40 = .ok (.iconst 1, 1) := by decide +kernel
theorem dX9_of_41 : decode cX9_of 41 = .ok (.iand, 1) := by decide +kernel
theorem dX9_of_42 : decode cX9_of 42 = .ok (.goto 31, 3) := by decide +kernel
theorem dX9_of_45 : decode cX9_of 45 = .ok (.aload_n 0, 1) := by decide +kernel
theorem dX9_of_46 : decode cX9_of 46 = .ok (.getfield 7, 3) := by decide +kernel
theorem dX9_of_49 : decode cX9_of 49 = .ok (.iload_n 2, 1) := by decide +kernel
theorem dX9_of_50 : decode cX9_of 50 = .ok (.ifCond .ne 8, 3) := by decide +kernel
theorem dX9_of_53 : decode cX9_of 53 = .ok (.bipush 18, 2) := by decide +kernel
theorem dX9_of_55 : decode cX9_of 55 = .ok (.goto 15, 3) := by decide +kernel
theorem dX9_of_58 : decode cX9_of 58 = .ok (.iload_n 2, 1) := by decide +kernel
theorem dX9_of_59 : decode cX9_of 59 = .ok (.iconst 1, 1) := by decide +kernel
theorem dX9_of_60 : decode cX9_of 60 = .ok (.if_icmp .ne 8, 3) := by decide +kernel
theorem dX9_of_63 : decode cX9_of 63 = .ok (.bipush 24, 2) := by decide +kernel
theorem dX9_of_65 : decode cX9_of 65 = .ok (.goto 5, 3) := by decide +kernel
theorem dX9_of_68 : decode cX9_of 68 = .ok (.bipush 6, 2) := by decide +kernel
theorem dX9_of_70 : decode cX9_of 70 = .ok (.iload_n 1, 1) := by decide +kernel
theorem dX9_of_71 : decode cX9_of 71 = .ok (.iadd, 1) := by decide +kernel
theorem dX9_of_72 : decode cX9_of 72 = .ok (.iaload, 1) := by decide +kernel
theorem dX9_of_73 : decode cX9_of 73 = .ok (.ireturn, 1) := by decide +kernel
theorem dX9_about_0 : decode cX9_about 0 = .ok (.iload_n 1, 1) := by decide +kernel
theorem dX9_about_1 : decode cX9_about 1 = .ok (.invokestatic 88, 3) := by decide +kernel
theorem dX9_about_4 : decode cX9_about 4 = .ok (.ifCond .eq 15, 3) := by decide +kernel
theorem dX9_about_7 : decode cX9_about 7 = .ok (.iload_n 2, 1) := by decide +kernel
theorem dX9_about_8 : decode cX9_about 8 = .ok (.i2l, 1) := by decide +kernel
theorem dX9_about_9 : decode cX9_about 9 = .ok (.lconst 0, 1) := by decide +kernel
theorem dX9_about_10 : decode cX9_about 10 = .ok (.ldc2_w 143, 3) := by decide +kernel
theorem dX9_about_13 : decode cX9_about 13 = .ok (.invokestatic 74, 3) := by decide +kernel
theorem dX9_about_16 : decode cX9_about 16 = .ok (.ifCond .ne 10, 3) := by decide +kernel
theorem dX9_about_19 : decode cX9_about 19 = .ok (.aload_n 0, 1) := by decide +kernel
theorem dX9_about_20 : decode cX9_about 20 = .ok (.bipush (-2), 2) := by decide +kernel
theorem dX9_about_22 : decode cX9_about 22 = .ok (.invokevirtual 84, 3) := by decide +kernel
theorem dX9_about_25 : decode cX9_about 25 = .ok (.ireturn, 1) := by decide +kernel
theorem dX9_about_26 : decode cX9_about 26 = .ok (.iload_n 2, 1) := by decide +kernel
theorem dX9_about_27 : decode cX9_about 27 = .ok (.ifCond .ne 15, 3) := by decide +kernel
theorem dX9_about_30 : decode cX9_about 30 = .ok (.aload_n 0, 1) := by decide +kernel
theorem dX9_about_31 : decode cX9_about 31 = .ok (.getfield 7, 3) := by decide +kernel
theorem dX9_about_34 : decode cX9_about 34 = .ok (.bipush 30, 2) := by decide +kernel
theorem dX9_about_36 : decode cX9_about 36 = .ok (.iload_n 1, 1) := by decide +kernel
theorem dX9_about_37 : decode cX9_about 37 = .ok (.iadd, 1) := by decide +kernel
theorem dX9_about_38 : decode cX9_about 38 = .ok (.iaload, 1) := by decide +kernel
theorem dX9_about_39 : decode cX9_about 39 = .ok (.goto 31, 3) := by decide +kernel
theorem dX9_about_42 : decode cX9_about 42 = .ok (.iload_n 2, 1) := by decide +kernel
theorem dX9_about_43 : decode cX9_about 43 = .ok (.iconst 1, 1) := by decide +kernel
theorem dX9_about_44 : decode cX9_about 44 = .ok (.if_icmp .ne 15, 3) := by decide +kernel
theorem dX9_about_47 : decode cX9_about 47 = .ok (.aload_n 0, 1) := by decide +kernel
theorem dX9_about_48 : decode cX9_about 48 = .ok (.getfield 7, 3) := by decide +kernel
theorem dX9_about_51 : decode cX9_about 51 = .ok (.bipush 12, 2) := by decide +kernel
theorem dX9_about_53 : decode cX9_about 53 = .ok (.iload_n 1, 1) := by decide +kernel
theorem dX9_about_54 : decode cX9_about 54 = .ok (.iadd, 1) := by decide +kernel
theorem dX9_about_55 : decode cX9_about 55 = .ok (.iaload, 1) := by decide +kernel
theorem dX9_about_56 : decode cX9_about 56 = .ok (.goto 14, 3) := by decide +kernel
theorem dX9_about_59 : decode cX9_about 59 = .ok (.aload_n 0, 1) := by decide +kernel
theorem dX9_about_60 : decode cX9_about 60 = .ok (.getfield 7, 3) := by decide +kernel
theorem dX9_about_63 : decode cX9_about 63 = .ok (.bipush 14, 2) := by decide +kernel
theorem dX9_about_65 : decode cX9_about 65 = .ok (.iaload, 1) := by decide +kernel
theorem dX9_about_66 : decode cX9_about 66 = .ok (.iload_n 1, 1) := by decide +kernel
theorem dX9_about_67 : decode cX9_about 67 = .ok (.invokestatic 102, 3) := by decide +kernel
theorem dX9_about_70 : decode cX9_about 70 = .ok (.ireturn, 1) := by decide +kernel
theorem dX9_moves_0 : decode cX9_moves 0 = .ok (.aload_n 0, 1) := by decide +kernel
theorem dX9_moves_1 : decode cX9_moves 1 = .ok (.iload_n 1, 1) := by decide +kernel
theorem dX9_moves_2 : decode cX9_moves 2 = .ok (.invokevirtual 117, 3) := by decide +kernel
theorem dX9_moves_5 : decode cX9_moves 5 = .ok (.ifCond .ne 11, 3) := by decide +kernel
theorem dX9_moves_8 : decode cX9_moves 8 = .ok (.aload_n 0, 1) := by decide +kernel
theorem dX9_moves_9 : decode cX9_moves 9 = .ok (.sipush (-1000), 3) := by decide +kernel
theorem dX9_moves_12 : decode cX9_moves 12 = .ok (.invokevirtual 84, 3) := by decide +kernel
theorem dX9_moves_15 : decode cX9_moves 15 = .ok (.ireturn, 1) := by decide +kernel
theorem dX9_moves_16 : decode cX9_moves 16 = .ok (.aload_n 0, 1) := by decide +kernel
theorem dX9_moves_17 : decode cX9_moves 17 = .ok (.getfield 7, 3) := by decide +kernel
theorem dX9_moves_20 : decode cX9_moves 20 = .ok (.iconst 5, 1) := by decide +kernel
theorem dX9_moves_21 : decode cX9_moves 21 = .ok (.iaload, 1) := by decide +kernel
theorem dX9_moves_22 : decode cX9_moves 22 = .ok (.iload_n 1, 1) := by decide +kernel
theorem dX9_moves_23 : decode cX9_moves 23 = .ok (.invokestatic 120, 3) := by decide +kernel
theorem dX9_moves_26 : decode cX9_moves 26 = .ok (.ifCond .eq 13, 3) := by decide +kernel
theorem dX9_moves_29 : decode cX9_moves 29 = .ok (.aload_n 0, 1) := by decide +kernel
theorem dX9_moves_30 : decode cX9_moves 30 = .ok (.sipush (-1001), 3) := by decide +kernel
theorem dX9_moves_33 : decode cX9_moves 33 = .ok (.invokevirtual 124, 3) := by decide +kernel
theorem dX9_moves_36 : decode cX9_moves 36 = .ok (.goto 29, 3) := by decide +kernel
theorem dX9_moves_39 : decode cX9_moves 39 = .ok (.aload_n 0, 1) := by decide +kernel
theorem dX9_moves_40 : decode cX9_moves 40 = .ok (.iload_n 1, 1) := by decide +kernel
theorem dX9_moves_41 : decode cX9_moves 41 = .ok (.aload_n 0, 1) := by decide +kernel
theorem dX9_moves_42 : decode cX9_moves 42 = .ok (.getfield 7, 3) := by decide +kernel
theorem dX9_moves_45 : decode cX9_moves 45 = .ok (.bipush 14, 2) := by decide +kernel
theorem dX9_moves_47 : decode cX9_moves 47 = .ok (.iaload, 1) := by decide +kernel
theorem dX9_moves_48 : decode cX9_moves 48 = .ok (.aload_n 0, 1) := by decide +kernel
theorem dX9_moves_49 : decode cX9_moves 49 = .ok (.getfield 7, 3) := by decide +kernel
theorem dX9_moves_52 : decode cX9_moves 52 = .ok (.bipush 15, 2) := by decide +kernel
theorem dX9_moves_54 : decode cX9_moves 54 = .ok (.iaload, 1) := by decide +kernel
theorem dX9_moves_55 : decode cX9_moves 55 = .ok (.aload_n 0, 1) := by decide +kernel
theorem dX9_moves_56 : decode cX9_moves 56 = .ok (.getfield 7, 3) := by decide +kernel
theorem dX9_moves_59 : decode cX9_moves 59 = .ok (.bipush 16, 2) := by decide +kernel
theorem dX9_moves_61 : decode cX9_moves 61 = .ok (.iaload, 1) := by decide +kernel
theorem dX9_moves_62 : decode cX9_moves 62 = .ok (.invokevirtual 114, 3) := by decide +kernel
theorem dX9_moves_65 : decode cX9_moves 65 = .ok (.ireturn, 1) := by decide +kernel
theorem dX9_worstOf_0 : decode cX9_worstOf 0 = .ok (.iload_n 0, 1) := by decide +kernel
theorem dX9_worstOf_1 : decode cX9_worstOf 1 = .ok (.ifCond .ne 8, 3) := by decide +kernel
theorem dX9_worstOf_4 : decode cX9_worstOf 4 = .ok (.ldc 145, 2) := by decide +kernel
theorem dX9_worstOf_6 : decode cX9_worstOf 6 = .ok (.goto 5, 3) := by decide +kernel
theorem dX9_worstOf_9 : decode cX9_worstOf 9 = .ok (.ldc 146, 2) := by decide +kernel
theorem dX9_worstOf_11 : decode cX9_worstOf 11 = .ok (.ireturn, 1) := by decide +kernel
theorem dX9_layLevel_0 : decode cX9_layLevel 0 = .ok (.aload_n 0, 1) := by decide +kernel
theorem dX9_layLevel_1 : decode cX9_layLevel 1 = .ok (.getfield 27, 3) := by decide +kernel
theorem dX9_layLevel_4 : decode cX9_layLevel 4 = .ok (.iload_n 1, 1) := by decide +kernel
theorem dX9_layLevel_5 : decode cX9_layLevel 5 = .ok (.aload_n 0, 1) := by decide +kernel
theorem dX9_layLevel_6 : decode cX9_layLevel 6 = .ok (.getfield 27, 3) := by decide +kernel
theorem dX9_layLevel_9 : decode cX9_layLevel 9 = .ok (.iload_n 2, 1) := by decide +kernel
theorem dX9_layLevel_10 : decode cX9_layLevel 10 = .ok (.iaload, 1) := by decide +kernel
theorem dX9_layLevel_11 : decode cX9_layLevel 11 = .ok (.iastore, 1) := by decide +kernel
theorem dX9_layLevel_12 : decode cX9_layLevel 12 = .ok (.aload_n 0, 1) := by decide +kernel
theorem dX9_layLevel_13 : decode cX9_layLevel 13 = .ok (.getfield 30, 3) := by decide +kernel
theorem dX9_layLevel_16 : decode cX9_layLevel 16 = .ok (.iload_n 1, 1) := by decide +kernel
theorem dX9_layLevel_17 : decode cX9_layLevel 17 = .ok (.aload_n 0, 1) := by decide +kernel
theorem dX9_layLevel_18 : decode cX9_layLevel 18 = .ok (.getfield 30, 3) := by decide +kernel
theorem dX9_layLevel_21 : decode cX9_layLevel 21 = .ok (.iload_n 2, 1) := by decide +kernel
theorem dX9_layLevel_22 : decode cX9_layLevel 22 = .ok (.iaload, 1) := by decide +kernel
theorem dX9_layLevel_23 : decode cX9_layLevel 23 = .ok (.iastore, 1) := by decide +kernel
theorem dX9_layLevel_24 : decode cX9_layLevel 24 = .ok (.aload_n 0, 1) := by decide +kernel
theorem dX9_layLevel_25 : decode cX9_layLevel 25 = .ok (.getfield 33, 3) := by decide +kernel
theorem dX9_layLevel_28 : decode cX9_layLevel 28 = .ok (.iload_n 1, 1) := by decide +kernel
theorem dX9_layLevel_29 : decode cX9_layLevel 29 = .ok (.aload_n 0, 1) := by decide +kernel
theorem dX9_layLevel_30 : decode cX9_layLevel 30 = .ok (.getfield 33, 3) := by decide +kernel
theorem dX9_layLevel_33 : decode cX9_layLevel 33 = .ok (.iload_n 2, 1) := by decide +kernel
theorem dX9_layLevel_34 : decode cX9_layLevel 34 = .ok (.iaload, 1) := by decide +kernel
theorem dX9_layLevel_35 : decode cX9_layLevel 35 = .ok (.iastore, 1) := by decide +kernel
theorem dX9_layLevel_36 : decode cX9_layLevel 36 = .ok (.aload_n 0, 1) := by decide +kernel
theorem dX9_layLevel_37 : decode cX9_layLevel 37 = .ok (.getfield 36, 3) := by decide +kernel
theorem dX9_layLevel_40 : decode cX9_layLevel 40 = .ok (.iload_n 1, 1) := by decide +kernel
theorem dX9_layLevel_41 : decode cX9_layLevel 41 = .ok (.aload_n 0, 1) := by decide +kernel
theorem dX9_layLevel_42 : decode cX9_layLevel 42 = .ok (.getfield 36, 3) := by decide +kernel
theorem dX9_layLevel_45 : decode cX9_layLevel 45 = .ok (.iload_n 2, 1) := by decide +kernel
theorem dX9_layLevel_46 : decode cX9_layLevel 46 = .ok (.iaload, 1) := by decide +kernel
theorem dX9_layLevel_47 : decode cX9_layLevel 47 = .ok (.iastore, 1) := by decide +kernel
theorem dX9_layLevel_48 : decode cX9_layLevel 48 = .ok (.aload_n 0, 1) := by decide +kernel
theorem dX9_layLevel_49 : decode cX9_layLevel 49 = .ok (.getfield 39, 3) := by decide +kernel
theorem dX9_layLevel_52 : decode cX9_layLevel 52 = .ok (.iconst 2, 1) := by decide +kernel
theorem dX9_layLevel_53 : decode cX9_layLevel 53 = .ok (.iload_n 1, 1) := by decide +kernel
theorem dX9_layLevel_54 : decode cX9_layLevel 54 = .ok (.imul, 1) := by decide +kernel
theorem dX9_layLevel_55 : decode cX9_layLevel 55 = .ok (.aload_n 0, 1) := by decide +kernel
theorem dX9_layLevel_56 : decode cX9_layLevel 56 = .ok (.getfield 39, 3) := by decide +kernel
theorem dX9_layLevel_59 : decode cX9_layLevel 59 = .ok (.iconst 2, 1) := by decide +kernel
theorem dX9_layLevel_60 : decode cX9_layLevel 60 = .ok (.iload_n 2, 1) := by decide +kernel
theorem dX9_layLevel_61 : decode cX9_layLevel 61 = .ok (.imul, 1) := by decide +kernel
theorem dX9_layLevel_62 : decode cX9_layLevel 62 = .ok (.iaload, 1) := by decide +kernel
theorem dX9_layLevel_63 : decode cX9_layLevel 63 = .ok (.iastore, 1) := by decide +kernel
theorem dX9_layLevel_64 : decode cX9_layLevel 64 = .ok (.aload_n 0, 1) := by decide +kernel
theorem dX9_layLevel_65 : decode cX9_layLevel 65 = .ok (.getfield 39, 3) := by decide +kernel
theorem dX9_layLevel_68 : decode cX9_layLevel 68 = .ok (.iconst 2, 1) := by decide +kernel
theorem dX9_layLevel_69 : decode cX9_layLevel 69 = .ok (.iload_n 1, 1) := by decide +kernel
theorem dX9_layLevel_70 : decode cX9_layLevel 70 = .ok (.imul, 1) := by decide +kernel
theorem dX9_layLevel_71 : decode cX9_layLevel 71 = .ok (.iconst 1, 1) := by decide +kernel
theorem dX9_layLevel_72 : decode cX9_layLevel 72 = .ok (.iadd, 1) := by decide +kernel
theorem dX9_layLevel_73 : decode cX9_layLevel 73 = .ok (.aload_n 0, 1) := by decide +kernel
theorem dX9_layLevel_74 : decode cX9_layLevel 74 = .ok (.getfield 39, 3) := by decide +kernel
theorem dX9_layLevel_77 : decode cX9_layLevel 77 = .ok (.iconst 2, 1) := by decide +kernel
theorem dX9_layLevel_78 : decode cX9_layLevel 78 = .ok (.iload_n 2, 1) := by decide +kernel
theorem dX9_layLevel_79 : decode cX9_layLevel 79 = .ok (.imul, 1) := by decide +kernel
theorem dX9_layLevel_80 : decode cX9_layLevel 80 = .ok (.iconst 1, 1) := by decide +kernel
theorem dX9_layLevel_81 : decode cX9_layLevel 81 = .ok (.iadd, 1) := by decide +kernel
theorem dX9_layLevel_82 : decode cX9_layLevel 82 = .ok (.iaload, 1) := by decide +kernel
theorem dX9_layLevel_83 : decode cX9_layLevel 83 = .ok (.iastore, 1) := by decide +kernel
theorem dX9_layLevel_84 : decode cX9_layLevel 84 = .ok (.aload_n 0, 1) := by decide +kernel
theorem dX9_layLevel_85 : decode cX9_layLevel 85 = .ok (.getfield 42, 3) := by decide +kernel
theorem dX9_layLevel_88 : decode cX9_layLevel 88 = .ok (.iload_n 1, 1) := by decide +kernel
theorem dX9_layLevel_89 : decode cX9_layLevel 89 = .ok (.aload_n 0, 1) := by decide +kernel
theorem dX9_layLevel_90 : decode cX9_layLevel 90 = .ok (.getfield 42, 3) := by decide +kernel
theorem dX9_layLevel_93 : decode cX9_layLevel 93 = .ok (.iload_n 2, 1) := by decide +kernel
theorem dX9_layLevel_94 : decode cX9_layLevel 94 = .ok (.iaload, 1) := by decide +kernel
theorem dX9_layLevel_95 : decode cX9_layLevel 95 = .ok (.iastore, 1) := by decide +kernel
theorem dX9_layLevel_96 : decode cX9_layLevel 96 = .ok (.aload_n 0, 1) := by decide +kernel
theorem dX9_layLevel_97 : decode cX9_layLevel 97 = .ok (.iload_n 1, 1) := by decide +kernel
theorem dX9_layLevel_98 : decode cX9_layLevel 98 = .ok (.invokevirtual 147, 3) := by decide +kernel
theorem dX9_layLevel_101 : decode cX9_layLevel 101 = .ok (.return_, 1) := by decide +kernel
theorem dX9_openLevel_0 : decode cX9_openLevel 0 = .ok (.aload_n 0, 1) := by decide +kernel
theorem dX9_openLevel_1 : decode cX9_openLevel 1 = .ok (.getfield 45, 3) := by decide +kernel
theorem dX9_openLevel_4 : decode cX9_openLevel 4 = .ok (.iload_n 1, 1) := by decide +kernel
theorem dX9_openLevel_5 : decode cX9_openLevel 5 = .ok (.iconst (-1), 1) := by decide +kernel
theorem dX9_openLevel_6 : decode cX9_openLevel 6 = .ok (.iastore, 1) := by decide +kernel
theorem dX9_openLevel_7 : decode cX9_openLevel 7 = .ok (.aload_n 0, 1) := by decide +kernel
theorem dX9_openLevel_8 : decode cX9_openLevel 8 = .ok (.getfield 48, 3) := by decide +kernel
theorem dX9_openLevel_11 : decode cX9_openLevel 11 = .ok (.iload_n 1, 1) := by decide +kernel
theorem dX9_openLevel_12 : decode cX9_openLevel 12 = .ok (.aload_n 0, 1) := by decide +kernel
theorem dX9_openLevel_13 : decode cX9_openLevel 13 = .ok (.getfield 36, 3) := by decide +kernel
theorem dX9_openLevel_16 : decode cX9_openLevel 16 = .ok (.iload_n 1, 1) := by decide +kernel
theorem dX9_openLevel_17 : decode cX9_openLevel 17 = .ok (.iaload, 1) := by decide +kernel
theorem dX9_openLevel_18 : decode cX9_openLevel 18 = .ok (.iconst 2, 1) := by decide +kernel
theorem dX9_openLevel_19 : decode cX9_openLevel 19 = .ok (.irem, 1) := by decide +kernel
theorem dX9_openLevel_20 : decode cX9_openLevel 20 = .ok (.invokestatic 151, 3) := by decide +kernel
theorem dX9_openLevel_23 : decode cX9_openLevel 23 = .ok (.iastore, 1) := by decide +kernel
theorem dX9_openLevel_24 : decode cX9_openLevel 24 = .ok (.return_, 1) := by decide +kernel
theorem dX9_mayAt_0 : decode cX9_mayAt 0 = .ok (.aload_n 0, 1) := by decide +kernel
theorem dX9_mayAt_1 : decode cX9_mayAt 1 = .ok (.getfield 42, 3) := by decide +kernel
theorem dX9_mayAt_4 : decode cX9_mayAt 4 = .ok (.iload_n 1, 1) := by decide +kernel
theorem dX9_mayAt_5 : decode cX9_mayAt 5 = .ok (.iaload, 1) := by decide +kernel
theorem dX9_mayAt_6 : decode cX9_mayAt 6 = .ok (.istore_n 2, 1) := by decide +kernel
theorem dX9_mayAt_7 : decode cX9_mayAt 7 = .ok (.iload_n 2, 1) := by decide +kernel
theorem dX9_mayAt_8 : decode cX9_mayAt 8 = .ok (.iconst (-1), 1) := by decide +kernel
theorem dX9_mayAt_9 : decode cX9_mayAt 9 = .ok (.if_icmp .eq 39, 3) := by decide +kernel
theorem dX9_mayAt_12 : decode cX9_mayAt 12 = .ok (.aload_n 0, 1) := by decide +kernel
theorem dX9_mayAt_13 : decode cX9_mayAt 13 = .ok (.getfield 7, 3) := by decide +kernel
theorem dX9_mayAt_16 : decode cX9_mayAt 16 = .ok (.bipush 6, 2) := by decide +kernel
theorem dX9_mayAt_18 : decode cX9_mayAt 18 = .ok (.iload_n 2, 1) := by decide +kernel
theorem dX9_mayAt_19 : decode cX9_mayAt 19 = .ok (.iadd, 1) := by decide +kernel
theorem dX9_mayAt_20 : decode cX9_mayAt 20 = .ok (.iaload, 1) := by decide +kernel
theorem dX9_mayAt_21 : decode cX9_mayAt 21 = .ok (.ifCond .le 27, 3) := by decide +kernel
theorem dX9_mayAt_24 : decode cX9_mayAt 24 = .ok (.aload_n 0, 1) := by decide +kernel
theorem dX9_mayAt_25 : decode cX9_mayAt 25 = .ok (.getfield 39, 3) := by decide +kernel
theorem dX9_mayAt_28 : decode cX9_mayAt 28 = .ok (.iconst 2, 1) := by decide +kernel
theorem dX9_mayAt_29 : decode cX9_mayAt 29 = .ok (.iload_n 1, 1) := by decide +kernel
theorem dX9_mayAt_30 : decode cX9_mayAt 30 = .ok (.imul, 1) := by decide +kernel
theorem dX9_mayAt_31 : decode cX9_mayAt 31 = .ok (.aload_n 0, 1) := by decide +kernel
theorem dX9_mayAt_32 : decode cX9_mayAt 32 = .ok (.getfield 36, 3) := by decide +kernel
theorem dX9_mayAt_35 : decode cX9_mayAt 35 = .ok (.iload_n 1, 1) := by decide +kernel
theorem dX9_mayAt_36 : decode cX9_mayAt 36 = .ok (.iaload, 1) := by decide +kernel
theorem dX9_mayAt_37 : decode cX9_mayAt 37 = .ok (.iconst 2, 1) := by decide +kernel
theorem dX9_mayAt_38 : decode cX9_mayAt 38 = .ok (.irem, 1) := by decide +kernel
theorem dX9_mayAt_39 : decode cX9_mayAt 39 = .ok (.iadd, 1) := by decide +kernel
theorem dX9_mayAt_40 : decode cX9_mayAt 40 = .ok (.iaload, 1) := by decide +kernel
theorem dX9_mayAt_41 : decode cX9_mayAt 41 = .ok (.ifCond .le 7, 3) := by decide +kernel
theorem dX9_mayAt_44 : decode cX9_mayAt 44 = .ok (.iconst 1, 1) := by decide +kernel
theorem dX9_mayAt_45 : decode cX9_mayAt 45 = .ok (.goto 4, 3) := by decide +kernel
theorem dX9_mayAt_48 : decode cX9_mayAt 48 = .ok (.iconst 0, 1) := by decide +kernel
theorem dX9_mayAt_49 : decode cX9_mayAt 49 = .ok (.ireturn, 1) := by decide +kernel
theorem dX9_layFirst_0 : decode cX9_layFirst 0 = .ok (.aload_n 0, 1) := by decide +kernel
theorem dX9_layFirst_1 : decode cX9_layFirst 1 = .ok (.getfield 27, 3) := by decide +kernel
theorem dX9_layFirst_4 : decode cX9_layFirst 4 = .ok (.iconst 0, 1) := by decide +kernel
theorem dX9_layFirst_5 : decode cX9_layFirst 5 = .ok (.aload_n 0, 1) := by decide +kernel
theorem dX9_layFirst_6 : decode cX9_layFirst 6 = .ok (.getfield 7, 3) := by decide +kernel
theorem dX9_layFirst_9 : decode cX9_layFirst 9 = .ok (.iconst 5, 1) := by decide +kernel
theorem dX9_layFirst_10 : decode cX9_layFirst 10 = .ok (.iaload, 1) := by decide +kernel
theorem dX9_layFirst_11 : decode cX9_layFirst 11 = .ok (.iastore, 1) := by decide +kernel
theorem dX9_layFirst_12 : decode cX9_layFirst 12 = .ok (.aload_n 0, 1) := by decide +kernel
theorem dX9_layFirst_13 : decode cX9_layFirst 13 = .ok (.getfield 30, 3) := by decide +kernel
theorem dX9_layFirst_16 : decode cX9_layFirst 16 = .ok (.iconst 0, 1) := by decide +kernel
theorem dX9_layFirst_17 : decode cX9_layFirst 17 = .ok (.iload_n 1, 1) := by decide +kernel
theorem dX9_layFirst_18 : decode cX9_layFirst 18 = .ok (.ifCond .eq 15, 3) := by decide +kernel
theorem dX9_layFirst_21 : decode cX9_layFirst 21 = .ok (.iconst 1, 1) := by decide +kernel
theorem dX9_layFirst_22 : decode cX9_layFirst 22 = .ok (.aload_n 0, 1) := by decide +kernel
theorem dX9_layFirst_23 : decode cX9_layFirst 23 = .ok (.getfield 7, 3) := by decide +kernel
theorem dX9_layFirst_26 : decode cX9_layFirst 26 = .ok (.bipush 14, 2) := by decide +kernel
theorem dX9_layFirst_28 : decode cX9_layFirst 28 = .ok (.iaload, 1) := by decide +kernel
theorem dX9_layFirst_29 : decode cX9_layFirst 29 = .ok (.isub, 1) := by decide +kernel
theorem dX9_layFirst_30 : decode cX9_layFirst 30 = .ok (.goto 10, 3) := by decide +kernel
theorem dX9_layFirst_33 : decode cX9_layFirst 33 = .ok (.aload_n 0, 1) := by decide +kernel
theorem dX9_layFirst_34 : decode cX9_layFirst 34 = .ok (.getfield 7, 3) := by decide +kernel
theorem dX9_layFirst_37 : decode cX9_layFirst 37 = .ok (.bipush 14, 2) := by decide +kernel
theorem dX9_layFirst_39 : decode cX9_layFirst 39 = .ok (.iaload, 1) := by decide +kernel
theorem dX9_layFirst_40 : decode cX9_layFirst 40 = .ok (.iastore, 1) := by decide +kernel
theorem dX9_layFirst_41 : decode cX9_layFirst 41 = .ok (.aload_n 0, 1) := by decide +kernel
theorem dX9_layFirst_42 : decode cX9_layFirst 42 = .ok (.getfield 33, 3) := by decide +kernel
theorem dX9_layFirst_45 : decode cX9_layFirst 45 = .ok (.iconst 0, 1) := by decide +kernel
theorem dX9_layFirst_46 : decode cX9_layFirst 46 = .ok (.aload_n 0, 1) := by decide +kernel
theorem dX9_layFirst_47 : decode cX9_layFirst 47 = .ok (.getfield 7, 3) := by decide +kernel
theorem dX9_layFirst_50 : decode cX9_layFirst 50 = .ok (.bipush 15, 2) := by decide +kernel
theorem dX9_layFirst_52 : decode cX9_layFirst 52 = .ok (.iaload, 1) := by decide +kernel
theorem dX9_layFirst_53 : decode cX9_layFirst 53 = .ok (.iastore, 1) := by decide +kernel
theorem dX9_layFirst_54 : decode cX9_layFirst 54 = .ok (.aload_n 0, 1) := by decide +kernel
theorem dX9_layFirst_55 : decode cX9_layFirst 55 = .ok (.getfield 36, 3) := by decide +kernel
theorem dX9_layFirst_58 : decode cX9_layFirst 58 = .ok (.iconst 0, 1) := by decide +kernel
theorem dX9_layFirst_59 : decode cX9_layFirst 59 = .ok (.aload_n 0, 1) := by decide +kernel
theorem dX9_layFirst_60 : decode cX9_layFirst 60 = .ok (.getfield 7, 3) := by decide +kernel
theorem dX9_layFirst_63 : decode cX9_layFirst 63 = .ok (.bipush 16, 2) := by decide +kernel
theorem dX9_layFirst_65 : decode cX9_layFirst 65 = .ok (.iaload, 1) := by decide +kernel
theorem dX9_layFirst_66 : decode cX9_layFirst 66 = .ok (.iastore, 1) := by decide +kernel
theorem dX9_layFirst_67 : decode cX9_layFirst 67 = .ok (.aload_n 0, 1) := by decide +kernel
theorem dX9_layFirst_68 : decode cX9_layFirst 68 = .ok (.getfield 39, 3) := by decide +kernel
theorem dX9_layFirst_71 : decode cX9_layFirst 71 = .ok (.iconst 0, 1) := by decide +kernel
theorem dX9_layFirst_72 : decode cX9_layFirst 72 = .ok (.aload_n 0, 1) := by decide +kernel
theorem dX9_layFirst_73 : decode cX9_layFirst 73 = .ok (.getfield 7, 3) := by decide +kernel
theorem dX9_layFirst_76 : decode cX9_layFirst 76 = .ok (.bipush 12, 2) := by decide +kernel
theorem dX9_layFirst_78 : decode cX9_layFirst 78 = .ok (.iaload, 1) := by decide +kernel
theorem dX9_layFirst_79 : decode cX9_layFirst 79 = .ok (.iastore, 1) := by decide +kernel
theorem dX9_layFirst_80 : decode cX9_layFirst 80 = .ok (.aload_n 0, 1) := by decide +kernel
theorem dX9_layFirst_81 : decode cX9_layFirst 81 = .ok (.getfield 39, 3) := by decide +kernel
theorem dX9_layFirst_84 : decode cX9_layFirst 84 = .ok (.iconst 1, 1) := by decide +kernel
theorem dX9_layFirst_85 : decode cX9_layFirst 85 = .ok (.aload_n 0, 1) := by decide +kernel
theorem dX9_layFirst_86 : decode cX9_layFirst 86 = .ok (.getfield 7, 3) := by decide +kernel
theorem dX9_layFirst_89 : decode cX9_layFirst 89 = .ok (.bipush 13, 2) := by decide +kernel
theorem dX9_layFirst_91 : decode cX9_layFirst 91 = .ok (.iaload, 1) := by decide +kernel
theorem dX9_layFirst_92 : decode cX9_layFirst 92 = .ok (.iastore, 1) := by decide +kernel
theorem dX9_layFirst_93 : decode cX9_layFirst 93 = .ok (.aload_n 0, 1) := by decide +kernel
theorem dX9_layFirst_94 : decode cX9_layFirst 94 = .ok (.getfield 39, 3) := by decide +kernel
theorem dX9_layFirst_97 : decode cX9_layFirst 97 = .ok (.aload_n 0, 1) := by decide +kernel
theorem dX9_layFirst_98 : decode cX9_layFirst 98 = .ok (.getfield 36, 3) := by decide +kernel
theorem dX9_layFirst_101 : decode cX9_layFirst 101 = .ok (.iconst 0, 1) := by decide +kernel
theorem dX9_layFirst_102 : decode cX9_layFirst 102 = .ok (.iaload, 1) := by decide +kernel
theorem dX9_layFirst_103 : decode cX9_layFirst 103 = .ok (.iconst 2, 1) := by decide +kernel
theorem dX9_layFirst_104 : decode cX9_layFirst 104 = .ok (.irem, 1) := by decide +kernel
theorem dX9_layFirst_105 : decode cX9_layFirst 105 = .ok (.dup2, 1) := by decide +kernel
theorem dX9_layFirst_106 : decode cX9_layFirst 106 = .ok (.iaload, 1) := by decide +kernel
theorem dX9_layFirst_107 : decode cX9_layFirst 107 = .ok (.iload_n 1, 1) := by decide +kernel
theorem dX9_layFirst_108 : decode cX9_layFirst 108 = .ok (.ifCond .eq 7, 3) := by decide +kernel
theorem dX9_layFirst_111 : decode cX9_layFirst 111 = .ok (.iconst 1, 1) := by decide +kernel
theorem dX9_layFirst_112 : decode cX9_layFirst 112 = .ok (.goto 4, 3) := by decide +kernel
theorem dX9_layFirst_115 : decode cX9_layFirst 115 = .ok (.iconst 0, 1) := by decide +kernel
theorem dX9_layFirst_116 : decode cX9_layFirst 116 = .ok (.isub, 1) := by decide +kernel
theorem dX9_layFirst_117 : decode cX9_layFirst 117 = .ok (.iastore, 1) := by decide +kernel
theorem dX9_layFirst_118 : decode cX9_layFirst 118 = .ok (.aload_n 0, 1) := by decide +kernel
theorem dX9_layFirst_119 : decode cX9_layFirst 119 = .ok (.getfield 42, 3) := by decide +kernel
theorem dX9_layFirst_122 : decode cX9_layFirst 122 = .ok (.iconst 0, 1) := by decide +kernel
theorem dX9_layFirst_123 : decode cX9_layFirst 123 = .ok (.iconst (-1), 1) := by decide +kernel
theorem dX9_layFirst_124 : decode cX9_layFirst 124 = .ok (.iastore, 1) := by decide +kernel
theorem dX9_layFirst_125 : decode cX9_layFirst 125 = .ok (.aload_n 0, 1) := by decide +kernel
theorem dX9_layFirst_126 : decode cX9_layFirst 126 = .ok (.iconst 0, 1) := by decide +kernel
theorem dX9_layFirst_127 : decode cX9_layFirst 127 = .ok (.invokevirtual 147, 3) := by decide +kernel
theorem dX9_layFirst_130 : decode cX9_layFirst 130 = .ok (.return_, 1) := by decide +kernel
theorem dX9_choosesAt_0 : decode cX9_choosesAt 0 = .ok (.aload_n 0, 1) := by decide +kernel
theorem dX9_choosesAt_1 : decode cX9_choosesAt 1 = .ok (.getfield 45, 3) := by decide +kernel
theorem dX9_choosesAt_4 : decode cX9_choosesAt 4 = .ok (.iload_n 1, 1) := by decide +kernel
theorem dX9_choosesAt_5 : decode cX9_choosesAt 5 = .ok (.iaload, 1) := by decide +kernel
theorem dX9_choosesAt_6 : decode cX9_choosesAt 6 = .ok (.iconst 1, 1) := by decide +kernel
theorem dX9_choosesAt_7 : decode cX9_choosesAt 7 = .ok (.iadd, 1) := by decide +kernel
theorem dX9_choosesAt_8 : decode cX9_choosesAt 8 = .ok (.istore_n 2, 1) := by decide +kernel
theorem dX9_choosesAt_9 : decode cX9_choosesAt 9 = .ok (.aload_n 0, 1) := by decide +kernel
theorem dX9_choosesAt_10 : decode cX9_choosesAt 10 = .ok (.iload_n 1, 1) := by decide +kernel
theorem dX9_choosesAt_11 : decode cX9_choosesAt 11 = .ok (.invokevirtual 154, 3) := by decide +kernel
theorem dX9_choosesAt_14 : decode cX9_choosesAt 14 = .ok (.ifCond .eq 80, 3) := by decide +kernel
theorem dX9_choosesAt_17 : decode cX9_choosesAt 17 = .ok (.iload_n 2, 1) := by decide +kernel
theorem dX9_choosesAt_18 : decode cX9_choosesAt 18 = .ok (.iconst 1, 1) := by decide +kernel
theorem dX9_choosesAt_19 : decode cX9_choosesAt 19 = .ok (.if_icmp .le 5, 3) := by decide +kernel
theorem dX9_choosesAt_22 : decode cX9_choosesAt 22 = .ok (.iconst 0, 1) := by decide +kernel
theorem dX9_choosesAt_23 : decode cX9_choosesAt 23 = .ok (.ireturn, 1) := by decide +kernel
theorem dX9_choosesAt_24 : decode cX9_choosesAt 24 = .ok (.aload_n 0, 1) := by decide +kernel
theorem dX9_choosesAt_25 : decode cX9_choosesAt 25 = .ok (.iload_n 1, 1) := by decide +kernel
theorem dX9_choosesAt_26 : decode cX9_choosesAt 26 = .ok (.iconst 1, 1) := by decide +kernel
theorem dX9_choosesAt_27 : decode cX9_choosesAt 27 = .ok (.iadd, 1) := by decide +kernel
theorem dX9_choosesAt_28 : decode cX9_choosesAt 28 = .ok (.iload_n 1, 1) := by decide +kernel
theorem dX9_choosesAt_29 : decode cX9_choosesAt 29 = .ok (.invokevirtual 157, 3) := by decide +kernel
theorem dX9_choosesAt_32 : decode cX9_choosesAt 32 = .ok (.aload_n 0, 1) := by decide +kernel
theorem dX9_choosesAt_33 : decode cX9_choosesAt 33 = .ok (.getfield 42, 3) := by decide +kernel
theorem dX9_choosesAt_36 : decode cX9_choosesAt 36 = .ok (.iload_n 1, 1) := by decide +kernel
theorem dX9_choosesAt_37 : decode cX9_choosesAt 37 = .ok (.iconst 1, 1) := by decide +kernel
theorem dX9_choosesAt_38 : decode cX9_choosesAt 38 = .ok (.iadd, 1) := by decide +kernel
theorem dX9_choosesAt_39 : decode cX9_choosesAt 39 = .ok (.iconst (-1), 1) := by decide +kernel
theorem dX9_choosesAt_40 : decode cX9_choosesAt 40 = .ok (.iastore, 1) := by decide +kernel
theorem dX9_choosesAt_41 : decode cX9_choosesAt 41 = .ok (.iload_n 2, 1) := by decide +kernel
theorem dX9_choosesAt_42 : decode cX9_choosesAt 42 = .ok (.iconst 1, 1) := by decide +kernel
theorem dX9_choosesAt_43 : decode cX9_choosesAt 43 = .ok (.if_icmp .ne 42, 3) := by decide +kernel
theorem dX9_choosesAt_46 : decode cX9_choosesAt 46 = .ok (.aload_n 0, 1) := by decide +kernel
theorem dX9_choosesAt_47 : decode cX9_choosesAt 47 = .ok (.getfield 39, 3) := by decide +kernel
theorem dX9_choosesAt_50 : decode cX9_choosesAt 50 = .ok (.iconst 2, 1) := by decide +kernel
theorem dX9_choosesAt_51 : decode cX9_choosesAt 51 = .ok (.iload_n 1, 1) := by decide +kernel
theorem dX9_choosesAt_52 : decode cX9_choosesAt 52 = .ok (.imul, 1) := by decide +kernel
theorem dX9_choosesAt_53 : decode cX9_choosesAt 53 = .ok (.iconst 2, 1) := by decide +kernel
theorem dX9_choosesAt_54 : decode cX9_choosesAt 54 = .ok (.iadd, 1) := by decide +kernel
theorem dX9_choosesAt_55 : decode cX9_choosesAt 55 = .ok (.aload_n 0, 1) := by decide +kernel
theorem dX9_choosesAt_56 : decode cX9_choosesAt 56 = .ok (.getfield 36, 3) := by decide +kernel
theorem dX9_choosesAt_59 : decode cX9_choosesAt 59 = .ok (.iload_n 1, 1) := by decide +kernel
theorem dX9_choosesAt_60 : decode cX9_choosesAt 60 = .ok (.iaload, 1) := by decide +kernel
theorem dX9_choosesAt_61 : decode cX9_choosesAt 61 = .ok (.iconst 2, 1) := by decide +kernel
theorem dX9_choosesAt_62 : decode cX9_choosesAt 62 = .ok (.irem, 1) := by decide +kernel
theorem dX9_choosesAt_63 : decode cX9_choosesAt 63 = .ok (.iadd, 1) := by decide +kernel
theorem dX9_choosesAt_64 : decode cX9_choosesAt 64 = .ok (.dup2, 1) := by decide +kernel
theorem dX9_choosesAt_65 : decode cX9_choosesAt 65 = .ok (.iaload, 1) := by decide +kernel
theorem dX9_choosesAt_66 : decode cX9_choosesAt 66 = .ok (.iconst 1, 1) := by decide +kernel
theorem dX9_choosesAt_67 : decode cX9_choosesAt 67 = .ok (.isub, 1) := by decide +kernel
theorem dX9_choosesAt_68 : decode cX9_choosesAt 68 = .ok (.iastore, 1) := by decide +kernel
theorem dX9_choosesAt_69 : decode cX9_choosesAt 69 = .ok (.aload_n 0, 1) := by decide +kernel
theorem dX9_choosesAt_70 : decode cX9_choosesAt 70 = .ok (.getfield 30, 3) := by decide +kernel
theorem dX9_choosesAt_73 : decode cX9_choosesAt 73 = .ok (.iload_n 1, 1) := by decide +kernel
theorem dX9_choosesAt_74 : decode cX9_choosesAt 74 = .ok (.iconst 1, 1) := by decide +kernel
theorem dX9_choosesAt_75 : decode cX9_choosesAt 75 = .ok (.iadd, 1) := by decide +kernel
theorem dX9_choosesAt_76 : decode cX9_choosesAt 76 = .ok (.iconst 1, 1) := by decide +kernel
theorem dX9_choosesAt_77 : decode cX9_choosesAt 77 = .ok (.aload_n 0, 1) := by decide +kernel
theorem dX9_choosesAt_78 : decode cX9_choosesAt 78 = .ok (.getfield 30, 3) := by decide +kernel
theorem dX9_choosesAt_81 : decode cX9_choosesAt 81 = .ok (.iload_n 1, 1) := by decide +kernel
theorem dX9_choosesAt_82 : decode cX9_choosesAt 82 = .ok (.iaload, 1) := by decide +kernel
theorem dX9_choosesAt_83 : decode cX9_choosesAt 83 = .ok (.isub, 1) := by decide +kernel
theorem dX9_choosesAt_84 : decode cX9_choosesAt 84 = .ok (.iastore, 1) := by decide +kernel
theorem dX9_choosesAt_85 : decode cX9_choosesAt 85 = .ok (.aload_n 0, 1) := by decide +kernel
theorem dX9_choosesAt_86 : decode cX9_choosesAt 86 = .ok (.getfield 45, 3) := by decide +kernel
theorem dX9_choosesAt_89 : decode cX9_choosesAt 89 = .ok (.iload_n 1, 1) := by decide +kernel
theorem dX9_choosesAt_90 : decode cX9_choosesAt 90 = .ok (.iload_n 2, 1) := by decide +kernel
theorem dX9_choosesAt_91 : decode cX9_choosesAt 91 = .ok (.iastore, 1) := by decide +kernel
theorem dX9_choosesAt_92 : decode cX9_choosesAt 92 = .ok (.iconst 1, 1) := by decide +kernel
theorem dX9_choosesAt_93 : decode cX9_choosesAt 93 = .ok (.ireturn, 1) := by decide +kernel
theorem dX9_choosesAt_94 : decode cX9_choosesAt 94 = .ok (.iload_n 2, 1) := by decide +kernel
theorem dX9_choosesAt_95 : decode cX9_choosesAt 95 = .ok (.aload_n 0, 1) := by decide +kernel
theorem dX9_choosesAt_96 : decode cX9_choosesAt 96 = .ok (.invokevirtual 70, 3) := by decide +kernel
theorem dX9_choosesAt_99 : decode cX9_choosesAt 99 = .ok (.if_icmp .ge 22, 3) := by decide +kernel
theorem dX9_choosesAt_102 : decode cX9_choosesAt 102 = .ok (.aload_n 0, 1) := by decide +kernel
theorem dX9_choosesAt_103 : decode cX9_choosesAt 103 = .ok (.getfield 27, 3) := by decide +kernel
theorem dX9_choosesAt_106 : decode cX9_choosesAt 106 = .ok (.iload_n 1, 1) := by decide +kernel
theorem dX9_choosesAt_107 : decode cX9_choosesAt 107 = .ok (.iaload, 1) := by decide +kernel
theorem dX9_choosesAt_108 : decode cX9_choosesAt 108 = .ok (.iload_n 2, 1) := by decide +kernel
theorem dX9_choosesAt_109 : decode cX9_choosesAt 109 = .ok (.invokestatic 120, 3) := by decide +kernel
theorem dX9_choosesAt_112 : decode cX9_choosesAt 112 = .ok (.ifCond .eq 9, 3) := by decide +kernel
theorem dX9_choosesAt_115 : decode cX9_choosesAt 115 = .ok (.iinc 2 1, 3) := by decide +kernel
theorem dX9_choosesAt_118 : decode cX9_choosesAt 118 = .ok (.goto (-24), 3) := by decide +kernel
theorem dX9_choosesAt_121 : decode cX9_choosesAt 121 = .ok (.iload_n 2, 1) := by decide +kernel
theorem dX9_choosesAt_122 : decode cX9_choosesAt 122 = .ok (.aload_n 0, 1) := by decide +kernel
theorem dX9_choosesAt_123 : decode cX9_choosesAt 123 = .ok (.invokevirtual 70, 3) := by decide +kernel
theorem dX9_choosesAt_126 : decode cX9_choosesAt 126 = .ok (.if_icmp .lt 5, 3) := by decide +kernel
theorem dX9_choosesAt_129 : decode cX9_choosesAt 129 = .ok (.iconst 0, 1) := by decide +kernel
theorem dX9_choosesAt_130 : decode cX9_choosesAt 130 = .ok (.ireturn, 1) := by decide +kernel
theorem dX9_choosesAt_131 : decode cX9_choosesAt 131 = .ok (.aload_n 0, 1) := by decide +kernel
theorem dX9_choosesAt_132 : decode cX9_choosesAt 132 = .ok (.iload_n 1, 1) := by decide +kernel
theorem dX9_choosesAt_133 : decode cX9_choosesAt 133 = .ok (.iconst 1, 1) := by decide +kernel
theorem dX9_choosesAt_134 : decode cX9_choosesAt 134 = .ok (.iadd, 1) := by decide +kernel
theorem dX9_choosesAt_135 : decode cX9_choosesAt 135 = .ok (.iload_n 1, 1) := by decide +kernel
theorem dX9_choosesAt_136 : decode cX9_choosesAt 136 = .ok (.invokevirtual 157, 3) := by decide +kernel
theorem dX9_choosesAt_139 : decode cX9_choosesAt 139 = .ok (.aload_n 0, 1) := by decide +kernel
theorem dX9_choosesAt_140 : decode cX9_choosesAt 140 = .ok (.getfield 27, 3) := by decide +kernel
theorem dX9_choosesAt_143 : decode cX9_choosesAt 143 = .ok (.iload_n 1, 1) := by decide +kernel
theorem dX9_choosesAt_144 : decode cX9_choosesAt 144 = .ok (.iconst 1, 1) := by decide +kernel
theorem dX9_choosesAt_145 : decode cX9_choosesAt 145 = .ok (.iadd, 1) := by decide +kernel
theorem dX9_choosesAt_146 : decode cX9_choosesAt 146 = .ok (.dup2, 1) := by decide +kernel
theorem dX9_choosesAt_147 : decode cX9_choosesAt 147 = .ok (.iaload, 1) := by decide +kernel
theorem dX9_choosesAt_148 : decode cX9_choosesAt 148 = .ok (.iconst 1, 1) := by decide +kernel
theorem dX9_choosesAt_149 : decode cX9_choosesAt 149 = .ok (.iload_n 2, 1) := by decide +kernel
theorem dX9_choosesAt_150 : decode cX9_choosesAt 150 = .ok (.ishl, 1) := by decide +kernel
theorem dX9_choosesAt_151 : decode cX9_choosesAt 151 = .ok (.ior, 1) := by decide +kernel
theorem dX9_choosesAt_152 : decode cX9_choosesAt 152 = .ok (.iastore, 1) := by decide +kernel
theorem dX9_choosesAt_153 : decode cX9_choosesAt 153 = .ok (.aload_n 0, 1) := by decide +kernel
theorem dX9_choosesAt_154 : decode cX9_choosesAt 154 = .ok (.getfield 33, 3) := by decide +kernel
theorem dX9_choosesAt_157 : decode cX9_choosesAt 157 = .ok (.iload_n 1, 1) := by decide +kernel
theorem dX9_choosesAt_158 : decode cX9_choosesAt 158 = .ok (.iconst 1, 1) := by decide +kernel
theorem dX9_choosesAt_159 : decode cX9_choosesAt 159 = .ok (.iadd, 1) := by decide +kernel
theorem dX9_choosesAt_160 : decode cX9_choosesAt 160 = .ok (.aload_n 0, 1) := by decide +kernel
theorem dX9_choosesAt_161 : decode cX9_choosesAt 161 = .ok (.iload_n 2, 1) := by decide +kernel
theorem dX9_choosesAt_162 : decode cX9_choosesAt 162 = .ok (.aload_n 0, 1) := by decide +kernel
theorem dX9_choosesAt_163 : decode cX9_choosesAt 163 = .ok (.getfield 30, 3) := by decide +kernel
theorem dX9_choosesAt_166 : decode cX9_choosesAt 166 = .ok (.iload_n 1, 1) := by decide +kernel
theorem dX9_choosesAt_167 : decode cX9_choosesAt 167 = .ok (.iaload, 1) := by decide +kernel
theorem dX9_choosesAt_168 : decode cX9_choosesAt 168 = .ok (.aload_n 0, 1) := by decide +kernel
theorem dX9_choosesAt_169 : decode cX9_choosesAt 169 = .ok (.getfield 33, 3) := by decide +kernel
theorem dX9_choosesAt_172 : decode cX9_choosesAt 172 = .ok (.iload_n 1, 1) := by decide +kernel
theorem dX9_choosesAt_173 : decode cX9_choosesAt 173 = .ok (.iaload, 1) := by decide +kernel
theorem dX9_choosesAt_174 : decode cX9_choosesAt 174 = .ok (.aload_n 0, 1) := by decide +kernel
theorem dX9_choosesAt_175 : decode cX9_choosesAt 175 = .ok (.getfield 36, 3) := by decide +kernel
theorem dX9_choosesAt_178 : decode cX9_choosesAt 178 = .ok (.iload_n 1, 1) := by decide +kernel
theorem dX9_choosesAt_179 : decode cX9_choosesAt 179 = .ok (.iaload, 1) := by decide +kernel
theorem dX9_choosesAt_180 : decode cX9_choosesAt 180 = .ok (.invokevirtual 130, 3) := by decide +kernel
theorem dX9_choosesAt_183 : decode cX9_choosesAt 183 = .ok (.iastore, 1) := by decide +kernel
theorem dX9_choosesAt_184 : decode cX9_choosesAt 184 = .ok (.aload_n 0, 1) := by decide +kernel
theorem dX9_choosesAt_185 : decode cX9_choosesAt 185 = .ok (.getfield 36, 3) := by decide +kernel
theorem dX9_choosesAt_188 : decode cX9_choosesAt 188 = .ok (.iload_n 1, 1) := by decide +kernel
theorem dX9_choosesAt_189 : decode cX9_choosesAt 189 = .ok (.iconst 1, 1) := by decide +kernel
theorem dX9_choosesAt_190 : decode cX9_choosesAt 190 = .ok (.iadd, 1) := by decide +kernel
theorem dX9_choosesAt_191 : decode cX9_choosesAt 191 = .ok (.aload_n 0, 1) := by decide +kernel
theorem dX9_choosesAt_192 : decode cX9_choosesAt 192 = .ok (.getfield 36, 3) := by decide +kernel
theorem dX9_choosesAt_195 : decode cX9_choosesAt 195 = .ok (.iload_n 1, 1) := by decide +kernel
theorem dX9_choosesAt_196 : decode cX9_choosesAt 196 = .ok (.iaload, 1) := by decide +kernel
theorem dX9_choosesAt_197 : decode cX9_choosesAt 197 = .ok (.iconst 1, 1) := by decide +kernel
theorem dX9_choosesAt_198 : decode cX9_choosesAt 198 = .ok (.iadd, 1) := by decide +kernel
theorem dX9_choosesAt_199 : decode cX9_choosesAt 199 = .ok (.iastore, 1) := by decide +kernel
theorem dX9_choosesAt_200 : decode cX9_choosesAt 200 = .ok (.aload_n 0, 1) := by decide +kernel
theorem dX9_choosesAt_201 : decode cX9_choosesAt 201 = .ok (.getfield 42, 3) := by decide +kernel
theorem dX9_choosesAt_204 : decode cX9_choosesAt 204 = .ok (.iload_n 1, 1) := by decide +kernel
theorem dX9_choosesAt_205 : decode cX9_choosesAt 205 = .ok (.iconst 1, 1) := by decide +kernel
theorem dX9_choosesAt_206 : decode cX9_choosesAt 206 = .ok (.iadd, 1) := by decide +kernel
theorem dX9_choosesAt_207 : decode cX9_choosesAt 207 = .ok (.iload_n 2, 1) := by decide +kernel
theorem dX9_choosesAt_208 : decode cX9_choosesAt 208 = .ok (.iastore, 1) := by decide +kernel
theorem dX9_choosesAt_209 : decode cX9_choosesAt 209 = .ok (.aload_n 0, 1) := by decide +kernel
theorem dX9_choosesAt_210 : decode cX9_choosesAt 210 = .ok (.iload_n 1, 1) := by decide +kernel
theorem dX9_choosesAt_211 : decode cX9_choosesAt 211 = .ok (.iconst 1, 1) := by decide +kernel
theorem dX9_choosesAt_212 : decode cX9_choosesAt 212 = .ok (.iadd, 1) := by decide +kernel
theorem dX9_choosesAt_213 : decode cX9_choosesAt 213 = .ok (.invokevirtual 147, 3) := by decide +kernel
theorem dX9_choosesAt_216 : decode cX9_choosesAt 216 = .ok (.aload_n 0, 1) := by decide +kernel
theorem dX9_choosesAt_217 : decode cX9_choosesAt 217 = .ok (.getfield 45, 3) := by decide +kernel
theorem dX9_choosesAt_220 : decode cX9_choosesAt 220 = .ok (.iload_n 1, 1) := by decide +kernel
theorem dX9_choosesAt_221 : decode cX9_choosesAt 221 = .ok (.iload_n 2, 1) := by decide +kernel
theorem dX9_choosesAt_222 : decode cX9_choosesAt 222 = .ok (.iastore, 1) := by decide +kernel
theorem dX9_choosesAt_223 : decode cX9_choosesAt 223 = .ok (.iconst 1, 1) := by decide +kernel
theorem dX9_choosesAt_224 : decode cX9_choosesAt 224 = .ok (.ireturn, 1) := by decide +kernel
theorem dX9_isEnd_0 : decode cX9_isEnd 0 = .ok (.aload_n 0, 1) := by decide +kernel
theorem dX9_isEnd_1 : decode cX9_isEnd 1 = .ok (.getfield 27, 3) := by decide +kernel
theorem dX9_isEnd_4 : decode cX9_isEnd 4 = .ok (.iload_n 1, 1) := by decide +kernel
theorem dX9_isEnd_5 : decode cX9_isEnd 5 = .ok (.iaload, 1) := by decide +kernel
theorem dX9_isEnd_6 : decode cX9_isEnd 6 = .ok (.iconst 1, 1) := by decide +kernel
theorem dX9_isEnd_7 : decode cX9_isEnd 7 = .ok (.aload_n 0, 1) := by decide +kernel
theorem dX9_isEnd_8 : decode cX9_isEnd 8 = .ok (.invokevirtual 70, 3) := by decide +kernel
theorem dX9_isEnd_11 : decode cX9_isEnd 11 = .ok (.ishl, 1) := by decide +kernel
theorem dX9_isEnd_12 : decode cX9_isEnd 12 = .ok (.iconst 1, 1) := by decide +kernel
theorem dX9_isEnd_13 : decode cX9_isEnd 13 = .ok (.isub, 1) := by decide +kernel
theorem dX9_isEnd_14 : decode cX9_isEnd 14 = .ok (.if_icmp .ne 15, 3) := by decide +kernel
theorem dX9_isEnd_17 : decode cX9_isEnd 17 = .ok (.aload_n 0, 1) := by decide +kernel
theorem dX9_isEnd_18 : decode cX9_isEnd 18 = .ok (.iload_n 1, 1) := by decide +kernel
theorem dX9_isEnd_19 : decode cX9_isEnd 19 = .ok (.invokevirtual 154, 3) := by decide +kernel
theorem dX9_isEnd_22 : decode cX9_isEnd 22 = .ok (.ifCond .ne 7, 3) := by decide +kernel
theorem dX9_isEnd_25 : decode cX9_isEnd 25 = .ok (.iconst 1, 1) := by decide +kernel
theorem dX9_isEnd_26 : decode cX9_isEnd 26 = .ok (.goto 4, 3) := by decide +kernel
theorem dX9_isEnd_29 : decode cX9_isEnd 29 = .ok (.iconst 0, 1) := by decide +kernel
theorem dX9_isEnd_30 : decode cX9_isEnd 30 = .ok (.ireturn, 1) := by decide +kernel
theorem dX9_solve_0 : decode cX9_solve 0 = .ok (.iconst 0, 1) := by decide +kernel
theorem dX9_solve_1 : decode cX9_solve 1 = .ok (.istore_n 1, 1) := by decide +kernel
theorem dX9_solve_2 : decode cX9_solve 2 = .ok (.aload_n 0, 1) := by decide +kernel
theorem dX9_solve_3 : decode cX9_solve 3 = .ok (.iconst (-1), 1) := by decide +kernel
theorem dX9_solve_4 : decode cX9_solve 4 = .ok (.putfield 161, 3) := by decide +kernel
theorem dX9_solve_7 : decode cX9_solve 7 = .ok (.aload_n 0, 1) := by decide +kernel
theorem dX9_solve_8 : decode cX9_solve 8 = .ok (.iconst 0, 1) := by decide +kernel
theorem dX9_solve_9 : decode cX9_solve 9 = .ok (.invokevirtual 165, 3) := by decide +kernel
theorem dX9_solve_12 : decode cX9_solve 12 = .ok (.ifCond .eq 29, 3) := by decide +kernel
theorem dX9_solve_15 : decode cX9_solve 15 = .ok (.aload_n 0, 1) := by decide +kernel
theorem dX9_solve_16 : decode cX9_solve 16 = .ok (.getfield 30, 3) := by decide +kernel
theorem dX9_solve_19 : decode cX9_solve 19 = .ok (.iconst 0, 1) := by decide +kernel
theorem dX9_solve_20 : decode cX9_solve 20 = .ok (.iaload, 1) := by decide +kernel
theorem dX9_solve_21 : decode cX9_solve 21 = .ok (.ifCond .ne 12, 3) := by decide +kernel
theorem dX9_solve_24 : decode cX9_solve 24 = .ok (.aload_n 0, 1) := by decide +kernel
theorem dX9_solve_25 : decode cX9_solve 25 = .ok (.getfield 33, 3) := by decide +kernel
theorem dX9_solve_28 : decode cX9_solve 28 = .ok (.iconst 0, 1) := by decide +kernel
theorem dX9_solve_29 : decode cX9_solve 29 = .ok (.iaload, 1) := by decide +kernel
theorem dX9_solve_30 : decode cX9_solve 30 = .ok (.goto 10, 3) := by decide +kernel
theorem dX9_solve_33 : decode cX9_solve 33 = .ok (.aload_n 0, 1) := by decide +kernel
theorem dX9_solve_34 : decode cX9_solve 34 = .ok (.getfield 33, 3) := by decide +kernel
theorem dX9_solve_37 : decode cX9_solve 37 = .ok (.iconst 0, 1) := by decide +kernel
theorem dX9_solve_38 : decode cX9_solve 38 = .ok (.iaload, 1) := by decide +kernel
theorem dX9_solve_39 : decode cX9_solve 39 = .ok (.ineg, 1) := by decide +kernel
theorem dX9_solve_40 : decode cX9_solve 40 = .ok (.ireturn, 1) := by decide +kernel
theorem dX9_solve_41 : decode cX9_solve 41 = .ok (.iload_n 1, 1) := by decide +kernel
theorem dX9_solve_42 : decode cX9_solve 42 = .ok (.ifCond .lt 169, 3) := by decide +kernel
theorem dX9_solve_45 : decode cX9_solve 45 = .ok (.aload_n 0, 1) := by decide +kernel
theorem dX9_solve_46 : decode cX9_solve 46 = .ok (.iload_n 1, 1) := by decide +kernel
theorem dX9_solve_47 : decode cX9_solve 47 = .ok (.invokevirtual 165, 3) := by decide +kernel
theorem dX9_solve_50 : decode cX9_solve 50 = .ok (.istore_n 2, 1) := by decide +kernel
theorem dX9_solve_51 : decode cX9_solve 51 = .ok (.iload_n 2, 1) := by decide +kernel
theorem dX9_solve_52 : decode cX9_solve 52 = .ok (.ifCond .ne 17, 3) := by decide +kernel
theorem dX9_solve_55 : decode cX9_solve 55 = .ok (.aload_n 0, 1) := by decide +kernel
theorem dX9_solve_56 : decode cX9_solve 56 = .ok (.iload_n 1, 1) := by decide +kernel
theorem dX9_solve_57 : decode cX9_solve 57 = .ok (.invokevirtual 168, 3) := by decide +kernel
theorem dX9_solve_60 : decode cX9_solve 60 = .ok (.ifCond .eq 9, 3) := by decide +kernel
theorem dX9_solve_63 : decode cX9_solve 63 = .ok (.iinc 1 1, 3) := by decide +kernel
theorem dX9_solve_66 : decode cX9_solve 66 = .ok (.goto 142, 3) := by decide +kernel
theorem dX9_solve_69 : decode cX9_solve 69 = .ok (.iload_n 2, 1) := by decide +kernel
theorem dX9_solve_70 : decode cX9_solve 70 = .ok (.ifCond .ne 12, 3) := by decide +kernel
theorem dX9_solve_73 : decode cX9_solve 73 = .ok (.aload_n 0, 1) := by decide +kernel
theorem dX9_solve_74 : decode cX9_solve 74 = .ok (.getfield 48, 3) := by decide +kernel
theorem dX9_solve_77 : decode cX9_solve 77 = .ok (.iload_n 1, 1) := by decide +kernel
theorem dX9_solve_78 : decode cX9_solve 78 = .ok (.iaload, 1) := by decide +kernel
theorem dX9_solve_79 : decode cX9_solve 79 = .ok (.goto 28, 3) := by decide +kernel
theorem dX9_solve_82 : decode cX9_solve 82 = .ok (.aload_n 0, 1) := by decide +kernel
theorem dX9_solve_83 : decode cX9_solve 83 = .ok (.getfield 30, 3) := by decide +kernel
theorem dX9_solve_86 : decode cX9_solve 86 = .ok (.iload_n 1, 1) := by decide +kernel
theorem dX9_solve_87 : decode cX9_solve 87 = .ok (.iaload, 1) := by decide +kernel
theorem dX9_solve_88 : decode cX9_solve 88 = .ok (.ifCond .ne 12, 3) := by decide +kernel
theorem dX9_solve_91 : decode cX9_solve 91 = .ok (.aload_n 0, 1) := by decide +kernel
theorem dX9_solve_92 : decode cX9_solve 92 = .ok (.getfield 33, 3) := by decide +kernel
theorem dX9_solve_95 : decode cX9_solve 95 = .ok (.iload_n 1, 1) := by decide +kernel
theorem dX9_solve_96 : decode cX9_solve 96 = .ok (.iaload, 1) := by decide +kernel
theorem dX9_solve_97 : decode cX9_solve 97 = .ok (.goto 10, 3) := by decide +kernel
theorem dX9_solve_100 : decode cX9_solve 100 = .ok (.aload_n 0, 1) := by decide +kernel
theorem dX9_solve_101 : decode cX9_solve 101 = .ok (.getfield 33, 3) := by decide +kernel
theorem dX9_solve_104 : decode cX9_solve 104 = .ok (.iload_n 1, 1) := by decide +kernel
theorem dX9_solve_105 : decode cX9_solve 105 = .ok (.iaload, 1) := by decide +kernel
theorem dX9_solve_106 : decode cX9_solve 106 = .ok (.ineg, 1) := by decide +kernel
theorem dX9_solve_107 : decode cX9_solve 107 = .ok (.istore_n 3, 1) := by decide +kernel
theorem dX9_solve_108 : decode cX9_solve 108 = .ok (.iinc 1 (-1), 3) := by decide +kernel
theorem dX9_solve_111 : decode cX9_solve 111 = .ok (.iload_n 1, 1) := by decide +kernel
theorem dX9_solve_112 : decode cX9_solve 112 = .ok (.ifCond .lt 96, 3) := by decide +kernel
theorem dX9_solve_115 : decode cX9_solve 115 = .ok (.aload_n 0, 1) := by decide +kernel
theorem dX9_solve_116 : decode cX9_solve 116 = .ok (.getfield 36, 3) := by decide +kernel
theorem dX9_solve_119 : decode cX9_solve 119 = .ok (.iload_n 1, 1) := by decide +kernel
theorem dX9_solve_120 : decode cX9_solve 120 = .ok (.iaload, 1) := by decide +kernel
theorem dX9_solve_121 : decode cX9_solve 121 = .ok (.iconst 2, 1) := by decide +kernel
theorem dX9_solve_122 : decode cX9_solve 122 = .ok (.irem, 1) := by decide +kernel
theorem dX9_solve_123 : decode cX9_solve 123 = .ok (.ifCond .ne 21, 3) := by decide +kernel
theorem dX9_solve_126 : decode cX9_solve 126 = .ok (.iload_n 3, 1) := by decide +kernel
theorem dX9_solve_127 : decode cX9_solve 127 = .ok (.aload_n 0, 1) := by decide +kernel
theorem dX9_solve_128 : decode cX9_solve 128 = .ok (.getfield 48, 3) := by decide +kernel
theorem dX9_solve_131 : decode cX9_solve 131 = .ok (.iload_n 1, 1) := by decide +kernel
theorem dX9_solve_132 : decode cX9_solve 132 = .ok (.iaload, 1) := by decide +kernel
theorem dX9_solve_133 : decode cX9_solve 133 = .ok (.if_icmp .le 7, 3) := by decide +kernel
theorem dX9_solve_136 : decode cX9_solve 136 = .ok (.iconst 1, 1) := by decide +kernel
theorem dX9_solve_137 : decode cX9_solve 137 = .ok (.goto 22, 3) := by decide +kernel
theorem dX9_solve_140 : decode cX9_solve 140 = .ok (.iconst 0, 1) := by decide +kernel
theorem dX9_solve_141 : decode cX9_solve 141 = .ok (.goto 18, 3) := by decide +kernel
theorem dX9_solve_144 : decode cX9_solve 144 = .ok (.iload_n 3, 1) := by decide +kernel
theorem dX9_solve_145 : decode cX9_solve 145 = .ok (.aload_n 0, 1) := by decide +kernel
theorem dX9_solve_146 : decode cX9_solve 146 = .ok (.getfield 48, 3) := by decide +kernel
theorem dX9_solve_149 : decode cX9_solve 149 = .ok (.iload_n 1, 1) := by decide +kernel
theorem dX9_solve_150 : decode cX9_solve 150 = .ok (.iaload, 1) := by decide +kernel
theorem dX9_solve_151 : decode cX9_solve 151 = .ok (.if_icmp .ge 7, 3) := by decide +kernel
theorem dX9_solve_154 : decode cX9_solve 154 = .ok (.iconst 1, 1) := by decide +kernel
theorem dX9_solve_155 : decode cX9_solve 155 = .ok (.goto 4, 3) := by decide +kernel
theorem dX9_solve_158 : decode cX9_solve 158 = .ok (.iconst 0, 1) := by decide +kernel
theorem dX9_solve_159 : decode cX9_solve 159 = .ok (.istore 4, 2) := by decide +kernel
theorem dX9_solve_161 : decode cX9_solve 161 = .ok (.aload_n 0, 1) := by decide +kernel
theorem dX9_solve_162 : decode cX9_solve 162 = .ok (.getfield 48, 3) := by decide +kernel
theorem dX9_solve_165 : decode cX9_solve 165 = .ok (.iload_n 1, 1) := by decide +kernel
theorem dX9_solve_166 : decode cX9_solve 166 = .ok (.iload 4, 2) := by decide +kernel
theorem dX9_solve_168 : decode cX9_solve 168 = .ok (.ifCond .eq 7, 3) := by decide +kernel
theorem dX9_solve_171 : decode cX9_solve 171 = .ok (.iload_n 3, 1) := by decide +kernel
theorem dX9_solve_172 : decode cX9_solve 172 = .ok (.goto 9, 3) := by decide +kernel
theorem dX9_solve_175 : decode cX9_solve 175 = .ok (.aload_n 0, 1) := by decide +kernel
theorem dX9_solve_176 : decode cX9_solve 176 = .ok (.getfield 48, 3) := by decide +kernel
theorem dX9_solve_179 : decode cX9_solve 179 = .ok (.iload_n 1, 1) := by decide +kernel
theorem dX9_solve_180 : decode cX9_solve 180 = .ok (.iaload, 1) := by decide +kernel
theorem dX9_solve_181 : decode cX9_solve 181 = .ok (.iastore, 1) := by decide +kernel
theorem dX9_solve_182 : decode cX9_solve 182 = .ok (.aload_n 0, 1) := by decide +kernel
theorem dX9_solve_183 : decode cX9_solve 183 = .ok (.iload 4, 2) := by decide +kernel
theorem dX9_solve_185 : decode cX9_solve 185 = .ok (.ifCond .eq 16, 3) := by decide +kernel
theorem dX9_solve_188 : decode cX9_solve 188 = .ok (.iload_n 1, 1) := by decide +kernel
theorem dX9_solve_189 : decode cX9_solve 189 = .ok (.ifCond .ne 12, 3) := by decide +kernel
theorem dX9_solve_192 : decode cX9_solve 192 = .ok (.aload_n 0, 1) := by decide +kernel
theorem dX9_solve_193 : decode cX9_solve 193 = .ok (.getfield 45, 3) := by decide +kernel
theorem dX9_solve_196 : decode cX9_solve 196 = .ok (.iconst 0, 1) := by decide +kernel
theorem dX9_solve_197 : decode cX9_solve 197 = .ok (.iaload, 1) := by decide +kernel
theorem dX9_solve_198 : decode cX9_solve 198 = .ok (.goto 7, 3) := by decide +kernel
theorem dX9_solve_201 : decode cX9_solve 201 = .ok (.aload_n 0, 1) := by decide +kernel
theorem dX9_solve_202 : decode cX9_solve 202 = .ok (.getfield 161, 3) := by decide +kernel
theorem dX9_solve_205 : decode cX9_solve 205 = .ok (.putfield 161, 3) := by decide +kernel
theorem dX9_solve_208 : decode cX9_solve 208 = .ok (.goto (-167), 3) := by decide +kernel
theorem dX9_solve_211 : decode cX9_solve 211 = .ok (.aload_n 0, 1) := by decide +kernel
theorem dX9_solve_212 : decode cX9_solve 212 = .ok (.getfield 48, 3) := by decide +kernel
theorem dX9_solve_215 : decode cX9_solve 215 = .ok (.iconst 0, 1) := by decide +kernel
theorem dX9_solve_216 : decode cX9_solve 216 = .ok (.iaload, 1) := by decide +kernel
theorem dX9_solve_217 : decode cX9_solve 217 = .ok (.ireturn, 1) := by decide +kernel
theorem dX9_solveBy_0 : decode cX9_solveBy 0 = .ok (.aload_n 0, 1) := by decide +kernel
theorem dX9_solveBy_1 : decode cX9_solveBy 1 = .ok (.iload_n 1, 1) := by decide +kernel
theorem dX9_solveBy_2 : decode cX9_solveBy 2 = .ok (.invokevirtual 171, 3) := by decide +kernel
theorem dX9_solveBy_5 : decode cX9_solveBy 5 = .ok (.aload_n 0, 1) := by decide +kernel
theorem dX9_solveBy_6 : decode cX9_solveBy 6 = .ok (.invokevirtual 175, 3) := by decide +kernel
theorem dX9_solveBy_9 : decode cX9_solveBy 9 = .ok (.ireturn, 1) := by decide +kernel
theorem dX9_isBetterObjected_0 : decode cX9_isBetterObjected 0 = .ok (.aload_n 0, 1) := by decide +kernel
theorem dX9_isBetterObjected_1 : decode cX9_isBetterObjected 1 = .ok (.iconst 0, 1) := by decide +kernel
theorem dX9_isBetterObjected_2 : decode cX9_isBetterObjected 2 = .ok (.invokevirtual 178, 3) := by decide +kernel
theorem dX9_isBetterObjected_5 : decode cX9_isBetterObjected 5 = .ok (.istore_n 1, 1) := by decide +kernel
theorem dX9_isBetterObjected_6 : decode cX9_isBetterObjected 6 = .ok (.aload_n 0, 1) := by decide +kernel
theorem dX9_isBetterObjected_7 : decode cX9_isBetterObjected 7 = .ok (.iconst 1, 1) := by decide +kernel
theorem dX9_isBetterObjected_8 : decode cX9_isBetterObjected 8 = .ok (.invokevirtual 178, 3) := by decide +kernel
theorem dX9_isBetterObjected_11 : decode cX9_isBetterObjected 11 = .ok (.istore_n 2, 1) := by decide +kernel
theorem dX9_isBetterObjected_12 : decode cX9_isBetterObjected 12 = .ok (.aload_n 0, 1) := by decide +kernel
theorem dX9_isBetterObjected_13 : decode cX9_isBetterObjected 13 = .ok (.getfield 7, 3) := by decide +kernel
theorem dX9_isBetterObjected_16 : decode cX9_isBetterObjected 16 = .ok (.bipush 16, 2) := by decide +kernel
theorem dX9_isBetterObjected_18 : decode cX9_isBetterObjected 18 = .ok (.iaload, 1) := by decide +kernel
theorem dX9_isBetterObjected_19 : decode cX9_isBetterObjected 19 = .ok (.iconst 2, 1) := by decide +kernel
theorem dX9_isBetterObjected_20 : decode cX9_isBetterObjected 20 = .ok (.irem, 1) := by decide +kernel
theorem dX9_isBetterObjected_21 : decode cX9_isBetterObjected 21 = .ok (.ifCond .ne 16, 3) := by decide +kernel
theorem dX9_isBetterObjected_24 : decode cX9_isBetterObjected 24 = .ok (.iload_n 2, 1) := by decide +kernel
theorem dX9_isBetterObjected_25 : decode cX9_isBetterObjected 25 = .ok (.iload_n 1, 1) := by decide +kernel
theorem dX9_isBetterObjected_26 : decode cX9_isBetterObjected 26 = .ok (.if_icmp .le 7, 3) := by decide +kernel
theorem dX9_isBetterObjected_29 : decode cX9_isBetterObjected 29 = .ok (.iconst 1, 1) := by decide +kernel
theorem dX9_isBetterObjected_30 : decode cX9_isBetterObjected 30 = .ok (.goto 17, 3) := by decide +kernel
theorem dX9_isBetterObjected_33 : decode cX9_isBetterObjected 33 = .ok (.iconst 0, 1) := by decide +kernel
theorem dX9_isBetterObjected_34 : decode cX9_isBetterObjected 34 = .ok (.goto 13, 3) := by decide +kernel
theorem dX9_isBetterObjected_37 : decode cX9_isBetterObjected 37 = .ok (.iload_n 2, 1) := by decide +kernel
theorem dX9_isBetterObjected_38 : decode cX9_isBetterObjected 38 = .ok (.iload_n 1, 1) := by decide +kernel
theorem dX9_isBetterObjected_39 : decode cX9_isBetterObjected 39 = .ok (.if_icmp .ge 7, 3) := by decide +kernel
theorem dX9_isBetterObjected_42 : decode cX9_isBetterObjected 42 = .ok (.iconst 1, 1) := by decide +kernel
theorem dX9_isBetterObjected_43 : decode cX9_isBetterObjected 43 = .ok (.goto 4, 3) := by decide +kernel
theorem dX9_isBetterObjected_46 : decode cX9_isBetterObjected 46 = .ok (.iconst 0, 1) := by decide +kernel
theorem dX9_isBetterObjected_47 : decode cX9_isBetterObjected 47 = .ok (.ireturn, 1) := by decide +kernel
theorem dX9_playIs_0 : decode cX9_playIs 0 = .ok (.aload_n 0, 1) := by decide +kernel
theorem dX9_playIs_1 : decode cX9_playIs 1 = .ok (.iconst 0, 1) := by decide +kernel
theorem dX9_playIs_2 : decode cX9_playIs 2 = .ok (.invokevirtual 178, 3) := by decide +kernel
theorem dX9_playIs_5 : decode cX9_playIs 5 = .ok (.istore_n 1, 1) := by decide +kernel
theorem dX9_playIs_6 : decode cX9_playIs 6 = .ok (.aload_n 0, 1) := by decide +kernel
theorem dX9_playIs_7 : decode cX9_playIs 7 = .ok (.invokevirtual 133, 3) := by decide +kernel
theorem dX9_playIs_10 : decode cX9_playIs 10 = .ok (.ifCond .eq 11, 3) := by decide +kernel
theorem dX9_playIs_13 : decode cX9_playIs 13 = .ok (.aload_n 0, 1) := by decide +kernel
theorem dX9_playIs_14 : decode cX9_playIs 14 = .ok (.iconst 1, 1) := by decide +kernel
theorem dX9_playIs_15 : decode cX9_playIs 15 = .ok (.invokevirtual 178, 3) := by decide +kernel
theorem dX9_playIs_18 : decode cX9_playIs 18 = .ok (.goto 4, 3) := by decide +kernel
theorem dX9_playIs_21 : decode cX9_playIs 21 = .ok (.iload_n 1, 1) := by decide +kernel
theorem dX9_playIs_22 : decode cX9_playIs 22 = .ok (.istore_n 2, 1) := by decide +kernel
theorem dX9_playIs_23 : decode cX9_playIs 23 = .ok (.aload_n 0, 1) := by decide +kernel
theorem dX9_playIs_24 : decode cX9_playIs 24 = .ok (.getfield 7, 3) := by decide +kernel
theorem dX9_playIs_27 : decode cX9_playIs 27 = .ok (.bipush 16, 2) := by decide +kernel
theorem dX9_playIs_29 : decode cX9_playIs 29 = .ok (.iaload, 1) := by decide +kernel
theorem dX9_playIs_30 : decode cX9_playIs 30 = .ok (.iconst 2, 1) := by decide +kernel
theorem dX9_playIs_31 : decode cX9_playIs 31 = .ok (.irem, 1) := by decide +kernel
theorem dX9_playIs_32 : decode cX9_playIs 32 = .ok (.ifCond .ne 16, 3) := by decide +kernel
theorem dX9_playIs_35 : decode cX9_playIs 35 = .ok (.iload_n 2, 1) := by decide +kernel
theorem dX9_playIs_36 : decode cX9_playIs 36 = .ok (.iload_n 1, 1) := by decide +kernel
theorem dX9_playIs_37 : decode cX9_playIs 37 = .ok (.if_icmp .le 7, 3) := by decide +kernel
theorem dX9_playIs_40 : decode cX9_playIs 40 = .ok (.iconst 1, 1) := by decide +kernel
theorem dX9_playIs_41 : decode cX9_playIs 41 = .ok (.goto 17, 3) := by decide +kernel
theorem dX9_playIs_44 : decode cX9_playIs 44 = .ok (.iconst 0, 1) := by decide +kernel
theorem dX9_playIs_45 : decode cX9_playIs 45 = .ok (.goto 13, 3) := by decide +kernel
theorem dX9_playIs_48 : decode cX9_playIs 48 = .ok (.iload_n 2, 1) := by decide +kernel
theorem dX9_playIs_49 : decode cX9_playIs 49 = .ok (.iload_n 1, 1) := by decide +kernel
theorem dX9_playIs_50 : decode cX9_playIs 50 = .ok (.if_icmp .ge 7, 3) := by decide +kernel
theorem dX9_playIs_53 : decode cX9_playIs 53 = .ok (.iconst 1, 1) := by decide +kernel
theorem dX9_playIs_54 : decode cX9_playIs 54 = .ok (.goto 4, 3) := by decide +kernel
theorem dX9_playIs_57 : decode cX9_playIs 57 = .ok (.iconst 0, 1) := by decide +kernel
theorem dX9_playIs_58 : decode cX9_playIs 58 = .ok (.istore_n 3, 1) := by decide +kernel
theorem dX9_playIs_59 : decode cX9_playIs 59 = .ok (.iload_n 3, 1) := by decide +kernel
theorem dX9_playIs_60 : decode cX9_playIs 60 = .ok (.ifCond .eq 7, 3) := by decide +kernel
theorem dX9_playIs_63 : decode cX9_playIs 63 = .ok (.iload_n 2, 1) := by decide +kernel
theorem dX9_playIs_64 : decode cX9_playIs 64 = .ok (.goto 4, 3) := by decide +kernel
theorem dX9_playIs_67 : decode cX9_playIs 67 = .ok (.iload_n 1, 1) := by decide +kernel
theorem dX9_playIs_68 : decode cX9_playIs 68 = .ok (.ireturn, 1) := by decide +kernel
theorem dX9_play_0 : decode cX9_play 0 = .ok (.iload_n 1, 1) := by decide +kernel
theorem dX9_play_1 : decode cX9_play 1 = .ok (.i2l, 1) := by decide +kernel
theorem dX9_play_2 : decode cX9_play 2 = .ok (.lconst 0, 1) := by decide +kernel
theorem dX9_play_3 : decode cX9_play 3 = .ok (.ldc2_w 143, 3) := by decide +kernel
theorem dX9_play_6 : decode cX9_play 6 = .ok (.invokestatic 74, 3) := by decide +kernel
theorem dX9_play_9 : decode cX9_play 9 = .ok (.ifCond .ne 11, 3) := by decide +kernel
theorem dX9_play_12 : decode cX9_play 12 = .ok (.aload_n 0, 1) := by decide +kernel
theorem dX9_play_13 : decode cX9_play 13 = .ok (.sipush (-1000), 3) := by decide +kernel
theorem dX9_play_16 : decode cX9_play 16 = .ok (.invokevirtual 84, 3) := by decide +kernel
theorem dX9_play_19 : decode cX9_play 19 = .ok (.ireturn, 1) := by decide +kernel
theorem dX9_play_20 : decode cX9_play 20 = .ok (.iload_n 1, 1) := by decide +kernel
theorem dX9_play_21 : decode cX9_play 21 = .ok (.ifCond .ne 8, 3) := by decide +kernel
theorem dX9_play_24 : decode cX9_play 24 = .ok (.aload_n 0, 1) := by decide +kernel
theorem dX9_play_25 : decode cX9_play 25 = .ok (.invokevirtual 182, 3) := by decide +kernel
theorem dX9_play_28 : decode cX9_play 28 = .ok (.ireturn, 1) := by decide +kernel
theorem dX9_play_29 : decode cX9_play 29 = .ok (.iload_n 1, 1) := by decide +kernel
theorem dX9_play_30 : decode cX9_play 30 = .ok (.iconst 1, 1) := by decide +kernel
theorem dX9_play_31 : decode cX9_play 31 = .ok (.if_icmp .ne 27, 3) := by decide +kernel
theorem dX9_play_34 : decode cX9_play 34 = .ok (.aload_n 0, 1) := by decide +kernel
theorem dX9_play_35 : decode cX9_play 35 = .ok (.invokevirtual 133, 3) := by decide +kernel
theorem dX9_play_38 : decode cX9_play 38 = .ok (.ifCond .ne 7, 3) := by decide +kernel
theorem dX9_play_41 : decode cX9_play 41 = .ok (.iconst (-1), 1) := by decide +kernel
theorem dX9_play_42 : decode cX9_play 42 = .ok (.goto 15, 3) := by decide +kernel
theorem dX9_play_45 : decode cX9_play 45 = .ok (.aload_n 0, 1) := by decide +kernel
theorem dX9_play_46 : decode cX9_play 46 = .ok (.invokevirtual 185, 3) := by decide +kernel
theorem dX9_play_49 : decode cX9_play 49 = .ok (.ifCond .eq 7, 3) := by decide +kernel
theorem dX9_play_52 : decode cX9_play 52 = .ok (.iconst 1, 1) := by decide +kernel
theorem dX9_play_53 : decode cX9_play 53 = .ok (.goto 4, 3) := by decide +kernel
theorem dX9_play_56 : decode cX9_play 56 = .ok (.iconst 0, 1) := by decide +kernel
theorem dX9_play_57 : decode cX9_play 57 = .ok (.ireturn, 1) := by decide +kernel
theorem dX9_play_58 : decode cX9_play 58 = .ok (.aload_n 0, 1) := by decide +kernel
theorem dX9_play_59 : decode cX9_play 59 = .ok (.iconst 0, 1) := by decide +kernel
theorem dX9_play_60 : decode cX9_play 60 = .ok (.invokevirtual 178, 3) := by decide +kernel
theorem dX9_play_63 : decode cX9_play 63 = .ok (.istore_n 2, 1) := by decide +kernel
theorem dX9_play_64 : decode cX9_play 64 = .ok (.aload_n 0, 1) := by decide +kernel
theorem dX9_play_65 : decode cX9_play 65 = .ok (.getfield 161, 3) := by decide +kernel
theorem dX9_play_68 : decode cX9_play 68 = .ok (.ireturn, 1) := by decide +kernel
theorem dX9_layNow_0 : decode cX9_layNow 0 = .ok (.aload_n 0, 1) := by decide +kernel
theorem dX9_layNow_1 : decode cX9_layNow 1 = .ok (.aload_n 0, 1) := by decide +kernel
theorem dX9_layNow_2 : decode cX9_layNow 2 = .ok (.getfield 7, 3) := by decide +kernel
theorem dX9_layNow_5 : decode cX9_layNow 5 = .ok (.bipush 14, 2) := by decide +kernel
theorem dX9_layNow_7 : decode cX9_layNow 7 = .ok (.iaload, 1) := by decide +kernel
theorem dX9_layNow_8 : decode cX9_layNow 8 = .ok (.putfield 188, 3) := by decide +kernel
theorem dX9_layNow_11 : decode cX9_layNow 11 = .ok (.aload_n 0, 1) := by decide +kernel
theorem dX9_layNow_12 : decode cX9_layNow 12 = .ok (.aload_n 0, 1) := by decide +kernel
theorem dX9_layNow_13 : decode cX9_layNow 13 = .ok (.getfield 7, 3) := by decide +kernel
theorem dX9_layNow_16 : decode cX9_layNow 16 = .ok (.bipush 15, 2) := by decide +kernel
theorem dX9_layNow_18 : decode cX9_layNow 18 = .ok (.iaload, 1) := by decide +kernel
theorem dX9_layNow_19 : decode cX9_layNow 19 = .ok (.putfield 191, 3) := by decide +kernel
theorem dX9_layNow_22 : decode cX9_layNow 22 = .ok (.aload_n 0, 1) := by decide +kernel
theorem dX9_layNow_23 : decode cX9_layNow 23 = .ok (.aload_n 0, 1) := by decide +kernel
theorem dX9_layNow_24 : decode cX9_layNow 24 = .ok (.getfield 7, 3) := by decide +kernel
theorem dX9_layNow_27 : decode cX9_layNow 27 = .ok (.bipush 16, 2) := by decide +kernel
theorem dX9_layNow_29 : decode cX9_layNow 29 = .ok (.iaload, 1) := by decide +kernel
theorem dX9_layNow_30 : decode cX9_layNow 30 = .ok (.putfield 194, 3) := by decide +kernel
theorem dX9_layNow_33 : decode cX9_layNow 33 = .ok (.aload_n 0, 1) := by decide +kernel
theorem dX9_layNow_34 : decode cX9_layNow 34 = .ok (.getfield 51, 3) := by decide +kernel
theorem dX9_layNow_37 : decode cX9_layNow 37 = .ok (.iconst 0, 1) := by decide +kernel
theorem dX9_layNow_38 : decode cX9_layNow 38 = .ok (.aload_n 0, 1) := by decide +kernel
theorem dX9_layNow_39 : decode cX9_layNow 39 = .ok (.getfield 7, 3) := by decide +kernel
theorem dX9_layNow_42 : decode cX9_layNow 42 = .ok (.bipush 12, 2) := by decide +kernel
theorem dX9_layNow_44 : decode cX9_layNow 44 = .ok (.iaload, 1) := by decide +kernel
theorem dX9_layNow_45 : decode cX9_layNow 45 = .ok (.iastore, 1) := by decide +kernel
theorem dX9_layNow_46 : decode cX9_layNow 46 = .ok (.aload_n 0, 1) := by decide +kernel
theorem dX9_layNow_47 : decode cX9_layNow 47 = .ok (.getfield 51, 3) := by decide +kernel
theorem dX9_layNow_50 : decode cX9_layNow 50 = .ok (.iconst 1, 1) := by decide +kernel
theorem dX9_layNow_51 : decode cX9_layNow 51 = .ok (.aload_n 0, 1) := by decide +kernel
theorem dX9_layNow_52 : decode cX9_layNow 52 = .ok (.getfield 7, 3) := by decide +kernel
theorem dX9_layNow_55 : decode cX9_layNow 55 = .ok (.bipush 13, 2) := by decide +kernel
theorem dX9_layNow_57 : decode cX9_layNow 57 = .ok (.iaload, 1) := by decide +kernel
theorem dX9_layNow_58 : decode cX9_layNow 58 = .ok (.iastore, 1) := by decide +kernel
theorem dX9_layNow_59 : decode cX9_layNow 59 = .ok (.return_, 1) := by decide +kernel
theorem dX9_goSaying_0 : decode cX9_goSaying 0 = .ok (.aload_n 0, 1) := by decide +kernel
theorem dX9_goSaying_1 : decode cX9_goSaying 1 = .ok (.aload_n 0, 1) := by decide +kernel
theorem dX9_goSaying_2 : decode cX9_goSaying 2 = .ok (.iload_n 1, 1) := by decide +kernel
theorem dX9_goSaying_3 : decode cX9_goSaying 3 = .ok (.aload_n 0, 1) := by decide +kernel
theorem dX9_goSaying_4 : decode cX9_goSaying 4 = .ok (.getfield 188, 3) := by decide +kernel
theorem dX9_goSaying_7 : decode cX9_goSaying 7 = .ok (.aload_n 0, 1) := by decide +kernel
theorem dX9_goSaying_8 : decode cX9_goSaying 8 = .ok (.getfield 191, 3) := by decide +kernel
theorem dX9_goSaying_11 : decode cX9_goSaying 11 = .ok (.aload_n 0, 1) := by decide +kernel
theorem dX9_goSaying_12 : decode cX9_goSaying 12 = .ok (.getfield 194, 3) := by decide +kernel
theorem dX9_goSaying_15 : decode cX9_goSaying 15 = .ok (.invokevirtual 130, 3) := by decide +kernel
theorem dX9_goSaying_18 : decode cX9_goSaying 18 = .ok (.putfield 191, 3) := by decide +kernel
theorem dX9_goSaying_21 : decode cX9_goSaying 21 = .ok (.aload_n 0, 1) := by decide +kernel
theorem dX9_goSaying_22 : decode cX9_goSaying 22 = .ok (.dup, 1) := by decide +kernel
theorem dX9_goSaying_23 : decode cX9_goSaying 23 = .ok (.getfield 194, 3) := by decide +kernel
theorem dX9_goSaying_26 : decode cX9_goSaying 26 = .ok (.iconst 1, 1) := by decide +kernel
theorem dX9_goSaying_27 : decode cX9_goSaying 27 = .ok (.iadd, 1) := by decide +kernel
theorem dX9_goSaying_28 : decode cX9_goSaying 28 = .ok (.putfield 194, 3) := by decide +kernel
theorem dX9_goSaying_31 : decode cX9_goSaying 31 = .ok (.return_, 1) := by decide +kernel
theorem dX9_mayTo_0 : decode cX9_mayTo 0 = .ok (.aload_n 0, 1) := by decide +kernel
theorem dX9_mayTo_1 : decode cX9_mayTo 1 = .ok (.getfield 7, 3) := by decide +kernel
theorem dX9_mayTo_4 : decode cX9_mayTo 4 = .ok (.bipush 6, 2) := by decide +kernel
theorem dX9_mayTo_6 : decode cX9_mayTo 6 = .ok (.iload_n 1, 1) := by decide +kernel
theorem dX9_mayTo_7 : decode cX9_mayTo 7 = .ok (.iadd, 1) := by decide +kernel
theorem dX9_mayTo_8 : decode cX9_mayTo 8 = .ok (.iaload, 1) := by decide +kernel
theorem dX9_mayTo_9 : decode cX9_mayTo 9 = .ok (.ifCond .le 21, 3) := by decide +kernel
theorem dX9_mayTo_12 : decode cX9_mayTo 12 = .ok (.aload_n 0, 1) := by decide +kernel
theorem dX9_mayTo_13 : decode cX9_mayTo 13 = .ok (.getfield 51, 3) := by decide +kernel
theorem dX9_mayTo_16 : decode cX9_mayTo 16 = .ok (.aload_n 0, 1) := by decide +kernel
theorem dX9_mayTo_17 : decode cX9_mayTo 17 = .ok (.getfield 194, 3) := by decide +kernel
theorem dX9_mayTo_20 : decode cX9_mayTo 20 = .ok (.iconst 2, 1) := by decide +kernel
theorem dX9_mayTo_21 : decode cX9_mayTo 21 = .ok (.irem, 1) := by decide +kernel
theorem dX9_mayTo_22 : decode cX9_mayTo 22 = .ok (.iaload, 1) := by decide +kernel
theorem dX9_mayTo_23 : decode cX9_mayTo 23 = .ok (.ifCond .le 7, 3) := by decide +kernel
theorem dX9_mayTo_26 : decode cX9_mayTo 26 = .ok (.iconst 1, 1) := by decide +kernel
theorem dX9_mayTo_27 : decode cX9_mayTo 27 = .ok (.goto 4, 3) := by decide +kernel
theorem dX9_mayTo_30 : decode cX9_mayTo 30 = .ok (.iconst 0, 1) := by decide +kernel
theorem dX9_mayTo_31 : decode cX9_mayTo 31 = .ok (.ireturn, 1) := by decide +kernel
theorem dX9_goObjecting_0 : decode cX9_goObjecting 0 = .ok (.aload_n 0, 1) := by decide +kernel
theorem dX9_goObjecting_1 : decode cX9_goObjecting 1 = .ok (.getfield 51, 3) := by decide +kernel
theorem dX9_goObjecting_4 : decode cX9_goObjecting 4 = .ok (.aload_n 0, 1) := by decide +kernel
theorem dX9_goObjecting_5 : decode cX9_goObjecting 5 = .ok (.getfield 194, 3) := by decide +kernel
theorem dX9_goObjecting_8 : decode cX9_goObjecting 8 = .ok (.iconst 2, 1) := by decide +kernel
theorem dX9_goObjecting_9 : decode cX9_goObjecting 9 = .ok (.irem, 1) := by decide +kernel
theorem dX9_goObjecting_10 : decode cX9_goObjecting 10 = .ok (.dup2, 1) := by decide +kernel
theorem dX9_goObjecting_11 : decode cX9_goObjecting 11 = .ok (.iaload, 1) := by decide +kernel
theorem dX9_goObjecting_12 : decode cX9_goObjecting 12 = .ok (.iconst 1, 1) := by decide +kernel
theorem dX9_goObjecting_13 : decode cX9_goObjecting 13 = .ok (.isub, 1) := by decide +kernel
theorem dX9_goObjecting_14 : decode cX9_goObjecting 14 = .ok (.iastore, 1) := by decide +kernel
theorem dX9_goObjecting_15 : decode cX9_goObjecting 15 = .ok (.aload_n 0, 1) := by decide +kernel
theorem dX9_goObjecting_16 : decode cX9_goObjecting 16 = .ok (.iconst 1, 1) := by decide +kernel
theorem dX9_goObjecting_17 : decode cX9_goObjecting 17 = .ok (.aload_n 0, 1) := by decide +kernel
theorem dX9_goObjecting_18 : decode cX9_goObjecting 18 = .ok (.getfield 188, 3) := by decide +kernel
theorem dX9_goObjecting_21 : decode cX9_goObjecting 21 = .ok (.isub, 1) := by decide +kernel
theorem dX9_goObjecting_22 : decode cX9_goObjecting 22 = .ok (.putfield 188, 3) := by decide +kernel
theorem dX9_goObjecting_25 : decode cX9_goObjecting 25 = .ok (.return_, 1) := by decide +kernel
theorem dX9_proof_0 : decode cX9_proof 0 = .ok (.iload_n 1, 1) := by decide +kernel
theorem dX9_proof_1 : decode cX9_proof 1 = .ok (.i2l, 1) := by decide +kernel
theorem dX9_proof_2 : decode cX9_proof 2 = .ok (.lconst 0, 1) := by decide +kernel
theorem dX9_proof_3 : decode cX9_proof 3 = .ok (.lconst 1, 1) := by decide +kernel
theorem dX9_proof_4 : decode cX9_proof 4 = .ok (.invokestatic 74, 3) := by decide +kernel
theorem dX9_proof_7 : decode cX9_proof 7 = .ok (.ifCond .ne 10, 3) := by decide +kernel
theorem dX9_proof_10 : decode cX9_proof 10 = .ok (.aload_n 0, 1) := by decide +kernel
theorem dX9_proof_11 : decode cX9_proof 11 = .ok (.bipush (-2), 2) := by decide +kernel
theorem dX9_proof_13 : decode cX9_proof 13 = .ok (.invokevirtual 84, 3) := by decide +kernel
theorem dX9_proof_16 : decode cX9_proof 16 = .ok (.ireturn, 1) := by decide +kernel
theorem dX9_proof_17 : decode cX9_proof 17 = .ok (.iconst (-1), 1) := by decide +kernel
theorem dX9_proof_18 : decode cX9_proof 18 = .ok (.istore_n 2, 1) := by decide +kernel
theorem dX9_proof_19 : decode cX9_proof 19 = .ok (.iconst 0, 1) := by decide +kernel
theorem dX9_proof_20 : decode cX9_proof 20 = .ok (.istore_n 3, 1) := by decide +kernel
theorem dX9_proof_21 : decode cX9_proof 21 = .ok (.iload_n 3, 1) := by decide +kernel
theorem dX9_proof_22 : decode cX9_proof 22 = .ok (.iconst 1, 1) := by decide +kernel
theorem dX9_proof_23 : decode cX9_proof 23 = .ok (.aload_n 0, 1) := by decide +kernel
theorem dX9_proof_24 : decode cX9_proof 24 = .ok (.invokevirtual 70, 3) := by decide +kernel
theorem dX9_proof_27 : decode cX9_proof 27 = .ok (.ishl, 1) := by decide +kernel
theorem dX9_proof_28 : decode cX9_proof 28 = .ok (.if_icmp .ge 114, 3) := by decide +kernel
theorem dX9_proof_31 : decode cX9_proof 31 = .ok (.iload_n 2, 1) := by decide +kernel
theorem dX9_proof_32 : decode cX9_proof 32 = .ok (.iconst (-1), 1) := by decide +kernel
theorem dX9_proof_33 : decode cX9_proof 33 = .ok (.if_icmp .eq 14, 3) := by decide +kernel
theorem dX9_proof_36 : decode cX9_proof 36 = .ok (.iload_n 3, 1) := by decide +kernel
theorem dX9_proof_37 : decode cX9_proof 37 = .ok (.invokestatic 197, 3) := by decide +kernel
theorem dX9_proof_40 : decode cX9_proof 40 = .ok (.iload_n 2, 1) := by decide +kernel
theorem dX9_proof_41 : decode cX9_proof 41 = .ok (.invokestatic 197, 3) := by decide +kernel
theorem dX9_proof_44 : decode cX9_proof 44 = .ok (.if_icmp .ge 7, 3) := by decide +kernel
theorem dX9_proof_47 : decode cX9_proof 47 = .ok (.iconst 1, 1) := by decide +kernel
theorem dX9_proof_48 : decode cX9_proof 48 = .ok (.goto 4, 3) := by decide +kernel
theorem dX9_proof_51 : decode cX9_proof 51 = .ok (.iconst 0, 1) := by decide +kernel
theorem dX9_proof_52 : decode cX9_proof 52 = .ok (.istore 4, 2) := by decide +kernel
theorem dX9_proof_54 : decode cX9_proof 54 = .ok (.iload_n 3, 1) := by decide +kernel
theorem dX9_proof_55 : decode cX9_proof 55 = .ok (.aload_n 0, 1) := by decide +kernel
theorem dX9_proof_56 : decode cX9_proof 56 = .ok (.getfield 7, 3) := by decide +kernel
theorem dX9_proof_59 : decode cX9_proof 59 = .ok (.iconst 5, 1) := by decide +kernel
theorem dX9_proof_60 : decode cX9_proof 60 = .ok (.iaload, 1) := by decide +kernel
theorem dX9_proof_61 : decode cX9_proof 61 = .ok (.iand, 1) := by decide +kernel
theorem dX9_proof_62 : decode cX9_proof 62 = .ok (.ifCond .ne 74, 3) := by decide +kernel
theorem dX9_proof_65 : decode cX9_proof 65 = .ok (.iload 4, 2) := by decide +kernel
theorem dX9_proof_67 : decode cX9_proof 67 = .ok (.ifCond .eq 69, 3) := by decide +kernel
theorem dX9_proof_70 : decode cX9_proof 70 = .ok (.aload_n 0, 1) := by decide +kernel
theorem dX9_proof_71 : decode cX9_proof 71 = .ok (.invokevirtual 200, 3) := by decide +kernel
theorem dX9_proof_74 : decode cX9_proof 74 = .ok (.iconst 0, 1) := by decide +kernel
theorem dX9_proof_75 : decode cX9_proof 75 = .ok (.istore 5, 2) := by decide +kernel
theorem dX9_proof_77 : decode cX9_proof 77 = .ok (.iload 5, 2) := by decide +kernel
theorem dX9_proof_79 : decode cX9_proof 79 = .ok (.aload_n 0, 1) := by decide +kernel
theorem dX9_proof_80 : decode cX9_proof 80 = .ok (.invokevirtual 70, 3) := by decide +kernel
theorem dX9_proof_83 : decode cX9_proof 83 = .ok (.if_icmp .ge 24, 3) := by decide +kernel
theorem dX9_proof_86 : decode cX9_proof 86 = .ok (.iload_n 3, 1) := by decide +kernel
theorem dX9_proof_87 : decode cX9_proof 87 = .ok (.iload 5, 2) := by decide +kernel
theorem dX9_proof_89 : decode cX9_proof 89 = .ok (.invokestatic 120, 3) := by decide +kernel
theorem dX9_proof_92 : decode cX9_proof 92 = .ok (.ifCond .eq 9, 3) := by decide +kernel
theorem dX9_proof_95 : decode cX9_proof 95 = .ok (.aload_n 0, 1) := by decide +kernel
theorem dX9_proof_96 : decode cX9_proof 96 = .ok (.iload 5, 2) := by decide +kernel
theorem dX9_proof_98 : decode cX9_proof 98 = .ok (.invokevirtual 203, 3) := by decide +kernel
theorem dX9_proof_101 : decode cX9_proof 101 = .ok (.iinc 5 1, 3) := by decide +kernel
theorem dX9_proof_104 : decode cX9_proof 104 = .ok (.goto (-27), 3) := by decide +kernel
theorem dX9_proof_107 : decode cX9_proof 107 = .ok (.iload_n 1, 1) := by decide +kernel
theorem dX9_proof_108 : decode cX9_proof 108 = .ok (.ifCond .ne 10, 3) := by decide +kernel
theorem dX9_proof_111 : decode cX9_proof 111 = .ok (.aload_n 0, 1) := by decide +kernel
theorem dX9_proof_112 : decode cX9_proof 112 = .ok (.getfield 191, 3) := by decide +kernel
theorem dX9_proof_115 : decode cX9_proof 115 = .ok (.ifCond .gt 15, 3) := by decide +kernel
theorem dX9_proof_118 : decode cX9_proof 118 = .ok (.iload_n 1, 1) := by decide +kernel
theorem dX9_proof_119 : decode cX9_proof 119 = .ok (.iconst 1, 1) := by decide +kernel
theorem dX9_proof_120 : decode cX9_proof 120 = .ok (.if_icmp .ne 14, 3) := by decide +kernel
theorem dX9_proof_123 : decode cX9_proof 123 = .ok (.aload_n 0, 1) := by decide +kernel
theorem dX9_proof_124 : decode cX9_proof 124 = .ok (.getfield 191, 3) := by decide +kernel
theorem dX9_proof_127 : decode cX9_proof 127 = .ok (.ifCond .ge 7, 3) := by decide +kernel
theorem dX9_proof_130 : decode cX9_proof 130 = .ok (.iload_n 3, 1) := by decide +kernel
theorem dX9_proof_131 : decode cX9_proof 131 = .ok (.goto 4, 3) := by decide +kernel
theorem dX9_proof_134 : decode cX9_proof 134 = .ok (.iload_n 2, 1) := by decide +kernel
theorem dX9_proof_135 : decode cX9_proof 135 = .ok (.istore_n 2, 1) := by decide +kernel
theorem dX9_proof_136 : decode cX9_proof 136 = .ok (.iinc 3 1, 3) := by decide +kernel
theorem dX9_proof_139 : decode cX9_proof 139 = .ok (.goto (-118), 3) := by decide +kernel
theorem dX9_proof_142 : decode cX9_proof 142 = .ok (.iload_n 2, 1) := by decide +kernel
theorem dX9_proof_143 : decode cX9_proof 143 = .ok (.ireturn, 1) := by decide +kernel
theorem dX9_ends_0 : decode cX9_ends 0 = .ok (.iload_n 1, 1) := by decide +kernel
theorem dX9_ends_1 : decode cX9_ends 1 = .ok (.i2l, 1) := by decide +kernel
theorem dX9_ends_2 : decode cX9_ends 2 = .ok (.ldc2_w 206, 3) := by decide +kernel
theorem dX9_ends_5 : decode cX9_ends 5 = .ok (.ldc2_w 208, 3) := by decide +kernel
theorem dX9_ends_8 : decode cX9_ends 8 = .ok (.invokestatic 74, 3) := by decide +kernel
theorem dX9_ends_11 : decode cX9_ends 11 = .ok (.ifCond .ne 10, 3) := by decide +kernel
theorem dX9_ends_14 : decode cX9_ends 14 = .ok (.aload_n 0, 1) := by decide +kernel
theorem dX9_ends_15 : decode cX9_ends 15 = .ok (.bipush (-2), 2) := by decide +kernel
theorem dX9_ends_17 : decode cX9_ends 17 = .ok (.invokevirtual 84, 3) := by decide +kernel
theorem dX9_ends_20 : decode cX9_ends 20 = .ok (.ireturn, 1) := by decide +kernel
theorem dX9_ends_21 : decode cX9_ends 21 = .ok (.aload_n 0, 1) := by decide +kernel
theorem dX9_ends_22 : decode cX9_ends 22 = .ok (.getfield 7, 3) := by decide +kernel
theorem dX9_ends_25 : decode cX9_ends 25 = .ok (.iconst 1, 1) := by decide +kernel
theorem dX9_ends_26 : decode cX9_ends 26 = .ok (.iaload, 1) := by decide +kernel
theorem dX9_ends_27 : decode cX9_ends 27 = .ok (.iconst 4, 1) := by decide +kernel
theorem dX9_ends_28 : decode cX9_ends 28 = .ok (.if_icmp .ne 8, 3) := by decide +kernel
theorem dX9_ends_31 : decode cX9_ends 31 = .ok (.aload_n 0, 1) := by decide +kernel
theorem dX9_ends_32 : decode cX9_ends 32 = .ok (.invokevirtual 95, 3) := by decide +kernel
theorem dX9_ends_35 : decode cX9_ends 35 = .ok (.ireturn, 1) := by decide +kernel
theorem dX9_ends_36 : decode cX9_ends 36 = .ok (.aload_n 0, 1) := by decide +kernel
theorem dX9_ends_37 : decode cX9_ends 37 = .ok (.getfield 7, 3) := by decide +kernel
theorem dX9_ends_40 : decode cX9_ends 40 = .ok (.bipush 32, 2) := by decide +kernel
theorem dX9_ends_42 : decode cX9_ends 42 = .ok (.aload_n 0, 1) := by decide +kernel
theorem dX9_ends_43 : decode cX9_ends 43 = .ok (.getfield 7, 3) := by decide +kernel
theorem dX9_ends_46 : decode cX9_ends 46 = .ok (.iconst 1, 1) := by decide +kernel
theorem dX9_ends_47 : decode cX9_ends 47 = .ok (.iaload, 1) := by decide +kernel
theorem dX9_ends_48 : decode cX9_ends 48 = .ok (.iadd, 1) := by decide +kernel
theorem dX9_ends_49 : decode cX9_ends 49 = .ok (.iload_n 1, 1) := by decide +kernel
theorem dX9_ends_50 : decode cX9_ends 50 = .ok (.iastore, 1) := by decide +kernel
theorem dX9_ends_51 : decode cX9_ends 51 = .ok (.aload_n 0, 1) := by decide +kernel
theorem dX9_ends_52 : decode cX9_ends 52 = .ok (.getfield 7, 3) := by decide +kernel
theorem dX9_ends_55 : decode cX9_ends 55 = .ok (.iconst 1, 1) := by decide +kernel
theorem dX9_ends_56 : decode cX9_ends 56 = .ok (.dup2, 1) := by decide +kernel
theorem dX9_ends_57 : decode cX9_ends 57 = .ok (.iaload, 1) := by decide +kernel
theorem dX9_ends_58 : decode cX9_ends 58 = .ok (.iconst 1, 1) := by decide +kernel
theorem dX9_ends_59 : decode cX9_ends 59 = .ok (.iadd, 1) := by decide +kernel
theorem dX9_ends_60 : decode cX9_ends 60 = .ok (.iastore, 1) := by decide +kernel
theorem dX9_ends_61 : decode cX9_ends 61 = .ok (.aload_n 0, 1) := by decide +kernel
theorem dX9_ends_62 : decode cX9_ends 62 = .ok (.getfield 7, 3) := by decide +kernel
theorem dX9_ends_65 : decode cX9_ends 65 = .ok (.iconst 1, 1) := by decide +kernel
theorem dX9_ends_66 : decode cX9_ends 66 = .ok (.iaload, 1) := by decide +kernel
theorem dX9_ends_67 : decode cX9_ends 67 = .ok (.ireturn, 1) := by decide +kernel
theorem dX9_goesAll_0 : decode cX9_goesAll 0 = .ok (.iconst 1, 1) := by decide +kernel
theorem dX9_goesAll_1 : decode cX9_goesAll 1 = .ok (.istore_n 2, 1) := by decide +kernel
theorem dX9_goesAll_2 : decode cX9_goesAll 2 = .ok (.aload_n 0, 1) := by decide +kernel
theorem dX9_goesAll_3 : decode cX9_goesAll 3 = .ok (.invokevirtual 200, 3) := by decide +kernel
theorem dX9_goesAll_6 : decode cX9_goesAll 6 = .ok (.iconst 0, 1) := by decide +kernel
theorem dX9_goesAll_7 : decode cX9_goesAll 7 = .ok (.istore_n 3, 1) := by decide +kernel
theorem dX9_goesAll_8 : decode cX9_goesAll 8 = .ok (.iload_n 3, 1) := by decide +kernel
theorem dX9_goesAll_9 : decode cX9_goesAll 9 = .ok (.aload_n 0, 1) := by decide +kernel
theorem dX9_goesAll_10 : decode cX9_goesAll 10 = .ok (.invokevirtual 70, 3) := by decide +kernel
theorem dX9_goesAll_13 : decode cX9_goesAll 13 = .ok (.if_icmp .ge 69, 3) := by decide +kernel
theorem dX9_goesAll_16 : decode cX9_goesAll 16 = .ok (.iload_n 2, 1) := by decide +kernel
theorem dX9_goesAll_17 : decode cX9_goesAll 17 = .ok (.ifCond .eq 65, 3) := by decide +kernel
theorem dX9_goesAll_20 : decode cX9_goesAll 20 = .ok (.aload_n 0, 1) := by decide +kernel
theorem dX9_goesAll_21 : decode cX9_goesAll 21 = .ok (.getfield 7, 3) := by decide +kernel
theorem dX9_goesAll_24 : decode cX9_goesAll 24 = .ok (.iconst 5, 1) := by decide +kernel
theorem dX9_goesAll_25 : decode cX9_goesAll 25 = .ok (.iaload, 1) := by decide +kernel
theorem dX9_goesAll_26 : decode cX9_goesAll 26 = .ok (.iload_n 3, 1) := by decide +kernel
theorem dX9_goesAll_27 : decode cX9_goesAll 27 = .ok (.invokestatic 120, 3) := by decide +kernel
theorem dX9_goesAll_30 : decode cX9_goesAll 30 = .ok (.ifCond .ne 46, 3) := by decide +kernel
theorem dX9_goesAll_33 : decode cX9_goesAll 33 = .ok (.aload_n 0, 1) := by decide +kernel
theorem dX9_goesAll_34 : decode cX9_goesAll 34 = .ok (.iload_n 3, 1) := by decide +kernel
theorem dX9_goesAll_35 : decode cX9_goesAll 35 = .ok (.invokevirtual 203, 3) := by decide +kernel
theorem dX9_goesAll_38 : decode cX9_goesAll 38 = .ok (.iload_n 1, 1) := by decide +kernel
theorem dX9_goesAll_39 : decode cX9_goesAll 39 = .ok (.iload_n 3, 1) := by decide +kernel
theorem dX9_goesAll_40 : decode cX9_goesAll 40 = .ok (.invokestatic 120, 3) := by decide +kernel
theorem dX9_goesAll_43 : decode cX9_goesAll 43 = .ok (.ifCond .eq 11, 3) := by decide +kernel
theorem dX9_goesAll_46 : decode cX9_goesAll 46 = .ok (.aload_n 0, 1) := by decide +kernel
theorem dX9_goesAll_47 : decode cX9_goesAll 47 = .ok (.iload_n 3, 1) := by decide +kernel
theorem dX9_goesAll_48 : decode cX9_goesAll 48 = .ok (.invokevirtual 210, 3) := by decide +kernel
theorem dX9_goesAll_51 : decode cX9_goesAll 51 = .ok (.ifCond .eq 7, 3) := by decide +kernel
theorem dX9_goesAll_54 : decode cX9_goesAll 54 = .ok (.iconst 1, 1) := by decide +kernel
theorem dX9_goesAll_55 : decode cX9_goesAll 55 = .ok (.goto 4, 3) := by decide +kernel
theorem dX9_goesAll_58 : decode cX9_goesAll 58 = .ok (.iconst 0, 1) := by decide +kernel
theorem dX9_goesAll_59 : decode cX9_goesAll 59 = .ok (.istore_n 2, 1) := by decide +kernel
theorem dX9_goesAll_60 : decode cX9_goesAll 60 = .ok (.iload_n 2, 1) := by decide +kernel
theorem dX9_goesAll_61 : decode cX9_goesAll 61 = .ok (.ifCond .eq 15, 3) := by decide +kernel
theorem dX9_goesAll_64 : decode cX9_goesAll 64 = .ok (.iload_n 1, 1) := by decide +kernel
theorem dX9_goesAll_65 : decode cX9_goesAll 65 = .ok (.iload_n 3, 1) := by decide +kernel
theorem dX9_goesAll_66 : decode cX9_goesAll 66 = .ok (.invokestatic 120, 3) := by decide +kernel
theorem dX9_goesAll_69 : decode cX9_goesAll 69 = .ok (.ifCond .eq 7, 3) := by decide +kernel
theorem dX9_goesAll_72 : decode cX9_goesAll 72 = .ok (.aload_n 0, 1) := by decide +kernel
theorem dX9_goesAll_73 : decode cX9_goesAll 73 = .ok (.invokevirtual 213, 3) := by decide +kernel
theorem dX9_goesAll_76 : decode cX9_goesAll 76 = .ok (.iinc 3 1, 3) := by decide +kernel
theorem dX9_goesAll_79 : decode cX9_goesAll 79 = .ok (.goto (-71), 3) := by decide +kernel
theorem dX9_goesAll_82 : decode cX9_goesAll 82 = .ok (.iload_n 2, 1) := by decide +kernel
theorem dX9_goesAll_83 : decode cX9_goesAll 83 = .ok (.ireturn, 1) := by decide +kernel
theorem dX9_bowed_0 : decode cX9_bowed 0 = .ok (.iload_n 1, 1) := by decide +kernel
theorem dX9_bowed_1 : decode cX9_bowed 1 = .ok (.i2l, 1) := by decide +kernel
theorem dX9_bowed_2 : decode cX9_bowed 2 = .ok (.lconst 0, 1) := by decide +kernel
theorem dX9_bowed_3 : decode cX9_bowed 3 = .ok (.ldc2_w 143, 3) := by decide +kernel
theorem dX9_bowed_6 : decode cX9_bowed 6 = .ok (.invokestatic 74, 3) := by decide +kernel
theorem dX9_bowed_9 : decode cX9_bowed 9 = .ok (.ifCond .ne 10, 3) := by decide +kernel
theorem dX9_bowed_12 : decode cX9_bowed 12 = .ok (.aload_n 0, 1) := by decide +kernel
theorem dX9_bowed_13 : decode cX9_bowed 13 = .ok (.bipush (-2), 2) := by decide +kernel
theorem dX9_bowed_15 : decode cX9_bowed 15 = .ok (.invokevirtual 84, 3) := by decide +kernel
theorem dX9_bowed_18 : decode cX9_bowed 18 = .ok (.ireturn, 1) := by decide +kernel
theorem dX9_bowed_19 : decode cX9_bowed 19 = .ok (.iconst 0, 1) := by decide +kernel
theorem dX9_bowed_20 : decode cX9_bowed 20 = .ok (.istore_n 2, 1) := by decide +kernel
theorem dX9_bowed_21 : decode cX9_bowed 21 = .ok (.aload_n 0, 1) := by decide +kernel
theorem dX9_bowed_22 : decode cX9_bowed 22 = .ok (.invokevirtual 137, 3) := by decide +kernel
theorem dX9_bowed_25 : decode cX9_bowed 25 = .ok (.istore_n 3, 1) := by decide +kernel
theorem dX9_bowed_26 : decode cX9_bowed 26 = .ok (.iconst 0, 1) := by decide +kernel
theorem dX9_bowed_27 : decode cX9_bowed 27 = .ok (.istore 4, 2) := by decide +kernel
theorem dX9_bowed_29 : decode cX9_bowed 29 = .ok (.iconst 0, 1) := by decide +kernel
theorem dX9_bowed_30 : decode cX9_bowed 30 = .ok (.istore 5, 2) := by decide +kernel
theorem dX9_bowed_32 : decode cX9_bowed 32 = .ok (.iload 5, 2) := by decide +kernel
theorem dX9_bowed_34 : decode cX9_bowed 34 = .ok (.iconst 1, 1) := by decide +kernel
theorem dX9_bowed_35 : decode cX9_bowed 35 = .ok (.aload_n 0, 1) := by decide +kernel
theorem dX9_bowed_36 : decode cX9_bowed 36 = .ok (.invokevirtual 70, 3) := by decide +kernel
theorem dX9_bowed_39 : decode cX9_bowed 39 = .ok (.ishl, 1) := by decide +kernel
theorem dX9_bowed_40 : decode cX9_bowed 40 = .ok (.if_icmp .ge 129, 3) := by decide +kernel
theorem dX9_bowed_43 : decode cX9_bowed 43 = .ok (.iload 5, 2) := by decide +kernel
theorem dX9_bowed_45 : decode cX9_bowed 45 = .ok (.aload_n 0, 1) := by decide +kernel
theorem dX9_bowed_46 : decode cX9_bowed 46 = .ok (.getfield 7, 3) := by decide +kernel
theorem dX9_bowed_49 : decode cX9_bowed 49 = .ok (.iconst 5, 1) := by decide +kernel
theorem dX9_bowed_50 : decode cX9_bowed 50 = .ok (.iaload, 1) := by decide +kernel
theorem dX9_bowed_51 : decode cX9_bowed 51 = .ok (.iand, 1) := by decide +kernel
theorem dX9_bowed_52 : decode cX9_bowed 52 = .ok (.ifCond .ne 16, 3) := by decide +kernel
theorem dX9_bowed_55 : decode cX9_bowed 55 = .ok (.aload_n 0, 1) := by decide +kernel
theorem dX9_bowed_56 : decode cX9_bowed 56 = .ok (.iload 5, 2) := by decide +kernel
theorem dX9_bowed_58 : decode cX9_bowed 58 = .ok (.invokevirtual 216, 3) := by decide +kernel
theorem dX9_bowed_61 : decode cX9_bowed 61 = .ok (.ifCond .eq 7, 3) := by decide +kernel
theorem dX9_bowed_64 : decode cX9_bowed 64 = .ok (.iconst 1, 1) := by decide +kernel
theorem dX9_bowed_65 : decode cX9_bowed 65 = .ok (.goto 4, 3) := by decide +kernel
theorem dX9_bowed_68 : decode cX9_bowed 68 = .ok (.iconst 0, 1) := by decide +kernel
theorem dX9_bowed_69 : decode cX9_bowed 69 = .ok (.istore 6, 2) := by decide +kernel
theorem dX9_bowed_71 : decode cX9_bowed 71 = .ok (.iconst 0, 1) := by decide +kernel
theorem dX9_bowed_72 : decode cX9_bowed 72 = .ok (.istore 7, 2) := by decide +kernel
theorem dX9_bowed_74 : decode cX9_bowed 74 = .ok (.iload 7, 2) := by decide +kernel
theorem dX9_bowed_76 : decode cX9_bowed 76 = .ok (.aload_n 0, 1) := by decide +kernel
theorem dX9_bowed_77 : decode cX9_bowed 77 = .ok (.getfield 7, 3) := by decide +kernel
theorem dX9_bowed_80 : decode cX9_bowed 80 = .ok (.iconst 1, 1) := by decide +kernel
theorem dX9_bowed_81 : decode cX9_bowed 81 = .ok (.iaload, 1) := by decide +kernel
theorem dX9_bowed_82 : decode cX9_bowed 82 = .ok (.if_icmp .ge 38, 3) := by decide +kernel
theorem dX9_bowed_85 : decode cX9_bowed 85 = .ok (.iload 6, 2) := by decide +kernel
theorem dX9_bowed_87 : decode cX9_bowed 87 = .ok (.ifCond .eq 33, 3) := by decide +kernel
theorem dX9_bowed_90 : decode cX9_bowed 90 = .ok (.aload_n 0, 1) := by decide +kernel
theorem dX9_bowed_91 : decode cX9_bowed 91 = .ok (.getfield 191, 3) := by decide +kernel
theorem dX9_bowed_94 : decode cX9_bowed 94 = .ok (.aload_n 0, 1) := by decide +kernel
theorem dX9_bowed_95 : decode cX9_bowed 95 = .ok (.getfield 7, 3) := by decide +kernel
theorem dX9_bowed_98 : decode cX9_bowed 98 = .ok (.bipush 32, 2) := by decide +kernel
theorem dX9_bowed_100 : decode cX9_bowed 100 = .ok (.iload 7, 2) := by decide +kernel
theorem dX9_bowed_102 : decode cX9_bowed 102 = .ok (.iadd, 1) := by decide +kernel
theorem dX9_bowed_103 : decode cX9_bowed 103 = .ok (.iaload, 1) := by decide +kernel
theorem dX9_bowed_104 : decode cX9_bowed 104 = .ok (.if_icmp .ne 7, 3) := by decide +kernel
theorem dX9_bowed_107 : decode cX9_bowed 107 = .ok (.iconst 1, 1) := by decide +kernel
theorem dX9_bowed_108 : decode cX9_bowed 108 = .ok (.goto 4, 3) := by decide +kernel
theorem dX9_bowed_111 : decode cX9_bowed 111 = .ok (.iconst 0, 1) := by decide +kernel
theorem dX9_bowed_112 : decode cX9_bowed 112 = .ok (.istore 6, 2) := by decide +kernel
theorem dX9_bowed_114 : decode cX9_bowed 114 = .ok (.iinc 7 1, 3) := by decide +kernel
theorem dX9_bowed_117 : decode cX9_bowed 117 = .ok (.goto (-43), 3) := by decide +kernel
theorem dX9_bowed_120 : decode cX9_bowed 120 = .ok (.iload_n 2, 1) := by decide +kernel
theorem dX9_bowed_121 : decode cX9_bowed 121 = .ok (.iload 6, 2) := by decide +kernel
theorem dX9_bowed_123 : decode cX9_bowed 123 = .ok (.ifCond .eq 7, 3) := by decide +kernel
theorem dX9_bowed_126 : decode cX9_bowed 126 = .ok (.iconst 1, 1) := by decide +kernel
theorem dX9_bowed_127 : decode cX9_bowed 127 = .ok (.goto 4, 3) := by decide +kernel
theorem dX9_bowed_130 : decode cX9_bowed 130 = .ok (.iconst 0, 1) := by decide +kernel
theorem dX9_bowed_131 : decode cX9_bowed 131 = .ok (.iadd, 1) := by decide +kernel
theorem dX9_bowed_132 : decode cX9_bowed 132 = .ok (.istore_n 2, 1) := by decide +kernel
theorem dX9_bowed_133 : decode cX9_bowed 133 = .ok (.iload_n 3, 1) := by decide +kernel
theorem dX9_bowed_134 : decode cX9_bowed 134 = .ok (.iload 6, 2) := by decide +kernel
theorem dX9_bowed_136 : decode cX9_bowed 136 = .ok (.ifCond .eq 8, 3) := by decide +kernel
theorem dX9_bowed_139 : decode cX9_bowed 139 = .ok (.iload 5, 2) := by decide +kernel
theorem dX9_bowed_141 : decode cX9_bowed 141 = .ok (.goto 4, 3) := by decide +kernel
theorem dX9_bowed_144 : decode cX9_bowed 144 = .ok (.iload_n 3, 1) := by decide +kernel
theorem dX9_bowed_145 : decode cX9_bowed 145 = .ok (.iand, 1) := by decide +kernel
theorem dX9_bowed_146 : decode cX9_bowed 146 = .ok (.istore_n 3, 1) := by decide +kernel
theorem dX9_bowed_147 : decode cX9_bowed 147 = .ok (.iload 4, 2) := by decide +kernel
theorem dX9_bowed_149 : decode cX9_bowed 149 = .ok (.iload 6, 2) := by decide +kernel
theorem dX9_bowed_151 : decode cX9_bowed 151 = .ok (.ifCond .eq 8, 3) := by decide +kernel
theorem dX9_bowed_154 : decode cX9_bowed 154 = .ok (.iload 5, 2) := by decide +kernel
theorem dX9_bowed_156 : decode cX9_bowed 156 = .ok (.goto 4, 3) := by decide +kernel
theorem dX9_bowed_159 : decode cX9_bowed 159 = .ok (.iconst 0, 1) := by decide +kernel
theorem dX9_bowed_160 : decode cX9_bowed 160 = .ok (.ior, 1) := by decide +kernel
theorem dX9_bowed_161 : decode cX9_bowed 161 = .ok (.istore 4, 2) := by decide +kernel
theorem dX9_bowed_163 : decode cX9_bowed 163 = .ok (.iinc 5 1, 3) := by decide +kernel
theorem dX9_bowed_166 : decode cX9_bowed 166 = .ok (.goto (-134), 3) := by decide +kernel
theorem dX9_bowed_169 : decode cX9_bowed 169 = .ok (.iload_n 1, 1) := by decide +kernel
theorem dX9_bowed_170 : decode cX9_bowed 170 = .ok (.ifCond .ne 7, 3) := by decide +kernel
theorem dX9_bowed_173 : decode cX9_bowed 173 = .ok (.iload_n 2, 1) := by decide +kernel
theorem dX9_bowed_174 : decode cX9_bowed 174 = .ok (.goto 22, 3) := by decide +kernel
theorem dX9_bowed_177 : decode cX9_bowed 177 = .ok (.iload_n 1, 1) := by decide +kernel
theorem dX9_bowed_178 : decode cX9_bowed 178 = .ok (.iconst 2, 1) := by decide +kernel
theorem dX9_bowed_179 : decode cX9_bowed 179 = .ok (.if_icmp .ne 8, 3) := by decide +kernel
theorem dX9_bowed_182 : decode cX9_bowed 182 = .ok (.iload 4, 2) := by decide +kernel
theorem dX9_bowed_184 : decode cX9_bowed 184 = .ok (.goto 12, 3) := by decide +kernel
theorem dX9_bowed_187 : decode cX9_bowed 187 = .ok (.iload_n 2, 1) := by decide +kernel
theorem dX9_bowed_188 : decode cX9_bowed 188 = .ok (.ifCond .ne 7, 3) := by decide +kernel
theorem dX9_bowed_191 : decode cX9_bowed 191 = .ok (.iconst (-1), 1) := by decide +kernel
theorem dX9_bowed_192 : decode cX9_bowed 192 = .ok (.goto 4, 3) := by decide +kernel
theorem dX9_bowed_195 : decode cX9_bowed 195 = .ok (.iload_n 3, 1) := by decide +kernel
theorem dX9_bowed_196 : decode cX9_bowed 196 = .ok (.ireturn, 1) := by decide +kernel
theorem dX9_note_0 : decode cX9_note 0 = .ok (.aload_n 0, 1) := by decide +kernel
theorem dX9_note_1 : decode cX9_note 1 = .ok (.iload_n 1, 1) := by decide +kernel
theorem dX9_note_2 : decode cX9_note 2 = .ok (.invokevirtual 117, 3) := by decide +kernel
theorem dX9_note_5 : decode cX9_note 5 = .ok (.ifCond .eq 55, 3) := by decide +kernel
theorem dX9_note_8 : decode cX9_note 8 = .ok (.iload_n 2, 1) := by decide +kernel
theorem dX9_note_9 : decode cX9_note 9 = .ok (.i2l, 1) := by decide +kernel
theorem dX9_note_10 : decode cX9_note 10 = .ok (.lconst 1, 1) := by decide +kernel
theorem dX9_note_11 : decode cX9_note 11 = .ok (.ldc2_w 93, 3) := by decide +kernel
theorem dX9_note_14 : decode cX9_note 14 = .ok (.invokestatic 74, 3) := by decide +kernel
theorem dX9_note_17 : decode cX9_note 17 = .ok (.ifCond .eq 43, 3) := by decide +kernel
theorem dX9_note_20 : decode cX9_note 20 = .ok (.iload_n 3, 1) := by decide +kernel
theorem dX9_note_21 : decode cX9_note 21 = .ok (.i2l, 1) := by decide +kernel
theorem dX9_note_22 : decode cX9_note 22 = .ok (.ldc2_w 206, 3) := by decide +kernel
theorem dX9_note_25 : decode cX9_note 25 = .ok (.ldc2_w 208, 3) := by decide +kernel
theorem dX9_note_28 : decode cX9_note 28 = .ok (.invokestatic 74, 3) := by decide +kernel
theorem dX9_note_31 : decode cX9_note 31 = .ok (.ifCond .eq 29, 3) := by decide +kernel
theorem dX9_note_34 : decode cX9_note 34 = .ok (.iload 4, 2) := by decide +kernel
theorem dX9_note_36 : decode cX9_note 36 = .ok (.i2l, 1) := by decide +kernel
theorem dX9_note_37 : decode cX9_note 37 = .ok (.lconst 0, 1) := by decide +kernel
theorem dX9_note_38 : decode cX9_note 38 = .ok (.ldc2_w 93, 3) := by decide +kernel
theorem dX9_note_41 : decode cX9_note 41 = .ok (.invokestatic 74, 3) := by decide +kernel
theorem dX9_note_44 : decode cX9_note 44 = .ok (.ifCond .eq 16, 3) := by decide +kernel
theorem dX9_note_47 : decode cX9_note 47 = .ok (.iload 5, 2) := by decide +kernel
theorem dX9_note_49 : decode cX9_note 49 = .ok (.i2l, 1) := by decide +kernel
theorem dX9_note_50 : decode cX9_note 50 = .ok (.lconst 0, 1) := by decide +kernel
theorem dX9_note_51 : decode cX9_note 51 = .ok (.ldc2_w 219, 3) := by decide +kernel
theorem dX9_note_54 : decode cX9_note 54 = .ok (.invokestatic 74, 3) := by decide +kernel
theorem dX9_note_57 : decode cX9_note 57 = .ok (.ifCond .ne 10, 3) := by decide +kernel
theorem dX9_note_60 : decode cX9_note 60 = .ok (.aload_n 0, 1) := by decide +kernel
theorem dX9_note_61 : decode cX9_note 61 = .ok (.bipush (-2), 2) := by decide +kernel
theorem dX9_note_63 : decode cX9_note 63 = .ok (.invokevirtual 84, 3) := by decide +kernel
theorem dX9_note_66 : decode cX9_note 66 = .ok (.ireturn, 1) := by decide +kernel
theorem dX9_note_67 : decode cX9_note 67 = .ok (.aload_n 0, 1) := by decide +kernel
theorem dX9_note_68 : decode cX9_note 68 = .ok (.getfield 7, 3) := by decide +kernel
theorem dX9_note_71 : decode cX9_note 71 = .ok (.iconst 2, 1) := by decide +kernel
theorem dX9_note_72 : decode cX9_note 72 = .ok (.iaload, 1) := by decide +kernel
theorem dX9_note_73 : decode cX9_note 73 = .ok (.bipush 6, 2) := by decide +kernel
theorem dX9_note_75 : decode cX9_note 75 = .ok (.if_icmp .ne 8, 3) := by decide +kernel
theorem dX9_note_78 : decode cX9_note 78 = .ok (.aload_n 0, 1) := by decide +kernel
theorem dX9_note_79 : decode cX9_note 79 = .ok (.invokevirtual 95, 3) := by decide +kernel
theorem dX9_note_82 : decode cX9_note 82 = .ok (.ireturn, 1) := by decide +kernel
theorem dX9_note_83 : decode cX9_note 83 = .ok (.bipush 36, 2) := by decide +kernel
theorem dX9_note_85 : decode cX9_note 85 = .ok (.iconst 5, 1) := by decide +kernel
theorem dX9_note_86 : decode cX9_note 86 = .ok (.aload_n 0, 1) := by decide +kernel
theorem dX9_note_87 : decode cX9_note 87 = .ok (.getfield 7, 3) := by decide +kernel
theorem dX9_note_90 : decode cX9_note 90 = .ok (.iconst 2, 1) := by decide +kernel
theorem dX9_note_91 : decode cX9_note 91 = .ok (.iaload, 1) := by decide +kernel
theorem dX9_note_92 : decode cX9_note 92 = .ok (.imul, 1) := by decide +kernel
theorem dX9_note_93 : decode cX9_note 93 = .ok (.iadd, 1) := by decide +kernel
theorem dX9_note_94 : decode cX9_note 94 = .ok (.istore 6, 2) := by decide +kernel
theorem dX9_note_96 : decode cX9_note 96 = .ok (.aload_n 0, 1) := by decide +kernel
theorem dX9_note_97 : decode cX9_note 97 = .ok (.getfield 7, 3) := by decide +kernel
theorem dX9_note_100 : decode cX9_note 100 = .ok (.iload 6, 2) := by decide +kernel
theorem dX9_note_102 : decode cX9_note 102 = .ok (.iload_n 1, 1) := by decide +kernel
theorem dX9_note_103 : decode cX9_note 103 = .ok (.iastore, 1) := by decide +kernel
theorem dX9_note_104 : decode cX9_note 104 = .ok (.aload_n 0, 1) := by decide +kernel
theorem dX9_note_105 : decode cX9_note 105 = .ok (.getfield 7, 3) := by decide +kernel
theorem dX9_note_108 : decode cX9_note 108 = .ok (.iload 6, 2) := by decide +kernel
theorem dX9_note_110 : decode cX9_note 110 = .ok (.iconst 1, 1) := by decide +kernel
theorem dX9_note_111 : decode cX9_note 111 = .ok (.iadd, 1) := by decide +kernel
theorem dX9_note_112 : decode cX9_note 112 = .ok (.iload_n 2, 1) := by decide +kernel
theorem dX9_note_113 : decode cX9_note 113 = .ok (.iastore, 1) := by decide +kernel
theorem dX9_note_114 : decode cX9_note 114 = .ok (.aload_n 0, 1) := by decide +kernel
theorem dX9_note_115 : decode cX9_note 115 = .ok (.getfield 7, 3) := by decide +kernel
theorem dX9_note_118 : decode cX9_note 118 = .ok (.iload 6, 2) := by decide +kernel
theorem dX9_note_120 : decode cX9_note 120 = .ok (.iconst 2, 1) := by decide +kernel
theorem dX9_note_121 : decode cX9_note 121 = .ok (.iadd, 1) := by decide +kernel
theorem dX9_note_122 : decode cX9_note 122 = .ok (.iload_n 3, 1) := by decide +kernel
theorem dX9_note_123 : decode cX9_note 123 = .ok (.iastore, 1) := by decide +kernel
theorem dX9_note_124 : decode cX9_note 124 = .ok (.aload_n 0, 1) := by decide +kernel
theorem dX9_note_125 : decode cX9_note 125 = .ok (.getfield 7, 3) := by decide +kernel
theorem dX9_note_128 : decode cX9_note 128 = .ok (.iload 6, 2) := by decide +kernel
theorem dX9_note_130 : decode cX9_note 130 = .ok (.iconst 3, 1) := by decide +kernel
theorem dX9_note_131 : decode cX9_note 131 = .ok (.iadd, 1) := by decide +kernel
theorem dX9_note_132 : decode cX9_note 132 = .ok (.iload 4, 2) := by decide +kernel
theorem dX9_note_134 : decode cX9_note 134 = .ok (.iastore, 1) := by decide +kernel
theorem dX9_note_135 : decode cX9_note 135 = .ok (.aload_n 0, 1) := by decide +kernel
theorem dX9_note_136 : decode cX9_note 136 = .ok (.getfield 7, 3) := by decide +kernel
theorem dX9_note_139 : decode cX9_note 139 = .ok (.iload 6, 2) := by decide +kernel
theorem dX9_note_141 : decode cX9_note 141 = .ok (.iconst 4, 1) := by decide +kernel
theorem dX9_note_142 : decode cX9_note 142 = .ok (.iadd, 1) := by decide +kernel
theorem dX9_note_143 : decode cX9_note 143 = .ok (.iload 5, 2) := by decide +kernel
theorem dX9_note_145 : decode cX9_note 145 = .ok (.iastore, 1) := by decide +kernel
theorem dX9_note_146 : decode cX9_note 146 = .ok (.aload_n 0, 1) := by decide +kernel
theorem dX9_note_147 : decode cX9_note 147 = .ok (.getfield 7, 3) := by decide +kernel
theorem dX9_note_150 : decode cX9_note 150 = .ok (.iconst 2, 1) := by decide +kernel
theorem dX9_note_151 : decode cX9_note 151 = .ok (.dup2, 1) := by decide +kernel
theorem dX9_note_152 : decode cX9_note 152 = .ok (.iaload, 1) := by decide +kernel
theorem dX9_note_153 : decode cX9_note 153 = .ok (.iconst 1, 1) := by decide +kernel
theorem dX9_note_154 : decode cX9_note 154 = .ok (.iadd, 1) := by decide +kernel
theorem dX9_note_155 : decode cX9_note 155 = .ok (.iastore, 1) := by decide +kernel
theorem dX9_note_156 : decode cX9_note 156 = .ok (.aload_n 0, 1) := by decide +kernel
theorem dX9_note_157 : decode cX9_note 157 = .ok (.getfield 7, 3) := by decide +kernel
theorem dX9_note_160 : decode cX9_note 160 = .ok (.iconst 2, 1) := by decide +kernel
theorem dX9_note_161 : decode cX9_note 161 = .ok (.iaload, 1) := by decide +kernel
theorem dX9_note_162 : decode cX9_note 162 = .ok (.ireturn, 1) := by decide +kernel
theorem dX9_mark_0 : decode cX9_mark 0 = .ok (.iload_n 1, 1) := by decide +kernel
theorem dX9_mark_1 : decode cX9_mark 1 = .ok (.invokestatic 88, 3) := by decide +kernel
theorem dX9_mark_4 : decode cX9_mark 4 = .ok (.ifCond .eq 40, 3) := by decide +kernel
theorem dX9_mark_7 : decode cX9_mark 7 = .ok (.iload_n 2, 1) := by decide +kernel
theorem dX9_mark_8 : decode cX9_mark 8 = .ok (.i2l, 1) := by decide +kernel
theorem dX9_mark_9 : decode cX9_mark 9 = .ok (.lconst 0, 1) := by decide +kernel
theorem dX9_mark_10 : decode cX9_mark 10 = .ok (.ldc2_w 219, 3) := by decide +kernel
theorem dX9_mark_13 : decode cX9_mark 13 = .ok (.invokestatic 74, 3) := by decide +kernel
theorem dX9_mark_16 : decode cX9_mark 16 = .ok (.ifCond .eq 28, 3) := by decide +kernel
theorem dX9_mark_19 : decode cX9_mark 19 = .ok (.iload_n 3, 1) := by decide +kernel
theorem dX9_mark_20 : decode cX9_mark 20 = .ok (.i2l, 1) := by decide +kernel
theorem dX9_mark_21 : decode cX9_mark 21 = .ok (.lconst 0, 1) := by decide +kernel
theorem dX9_mark_22 : decode cX9_mark 22 = .ok (.lconst 1, 1) := by decide +kernel
theorem dX9_mark_23 : decode cX9_mark 23 = .ok (.invokestatic 74, 3) := by decide +kernel
theorem dX9_mark_26 : decode cX9_mark 26 = .ok (.ifCond .eq 18, 3) := by decide +kernel
theorem dX9_mark_29 : decode cX9_mark 29 = .ok (.iload 4, 2) := by decide +kernel
theorem dX9_mark_31 : decode cX9_mark 31 = .ok (.i2l, 1) := by decide +kernel
theorem dX9_mark_32 : decode cX9_mark 32 = .ok (.ldc2_w 221, 3) := by decide +kernel
theorem dX9_mark_35 : decode cX9_mark 35 = .ok (.ldc2_w 223, 3) := by decide +kernel
theorem dX9_mark_38 : decode cX9_mark 38 = .ok (.invokestatic 74, 3) := by decide +kernel
theorem dX9_mark_41 : decode cX9_mark 41 = .ok (.ifCond .ne 10, 3) := by decide +kernel
theorem dX9_mark_44 : decode cX9_mark 44 = .ok (.aload_n 0, 1) := by decide +kernel
theorem dX9_mark_45 : decode cX9_mark 45 = .ok (.bipush (-2), 2) := by decide +kernel
theorem dX9_mark_47 : decode cX9_mark 47 = .ok (.invokevirtual 84, 3) := by decide +kernel
theorem dX9_mark_50 : decode cX9_mark 50 = .ok (.ireturn, 1) := by decide +kernel
theorem dX9_mark_51 : decode cX9_mark 51 = .ok (.aload_n 0, 1) := by decide +kernel
theorem dX9_mark_52 : decode cX9_mark 52 = .ok (.getfield 7, 3) := by decide +kernel
theorem dX9_mark_55 : decode cX9_mark 55 = .ok (.iconst 3, 1) := by decide +kernel
theorem dX9_mark_56 : decode cX9_mark 56 = .ok (.iaload, 1) := by decide +kernel
theorem dX9_mark_57 : decode cX9_mark 57 = .ok (.bipush 6, 2) := by decide +kernel
theorem dX9_mark_59 : decode cX9_mark 59 = .ok (.if_icmp .ne 8, 3) := by decide +kernel
theorem dX9_mark_62 : decode cX9_mark 62 = .ok (.aload_n 0, 1) := by decide +kernel
theorem dX9_mark_63 : decode cX9_mark 63 = .ok (.invokevirtual 95, 3) := by decide +kernel
theorem dX9_mark_66 : decode cX9_mark 66 = .ok (.ireturn, 1) := by decide +kernel
theorem dX9_mark_67 : decode cX9_mark 67 = .ok (.bipush 66, 2) := by decide +kernel
theorem dX9_mark_69 : decode cX9_mark 69 = .ok (.iconst 4, 1) := by decide +kernel
theorem dX9_mark_70 : decode cX9_mark 70 = .ok (.aload_n 0, 1) := by decide +kernel
theorem dX9_mark_71 : decode cX9_mark 71 = .ok (.getfield 7, 3) := by decide +kernel
theorem dX9_mark_74 : decode cX9_mark 74 = .ok (.iconst 3, 1) := by decide +kernel
theorem dX9_mark_75 : decode cX9_mark 75 = .ok (.iaload, 1) := by decide +kernel
theorem dX9_mark_76 : decode cX9_mark 76 = .ok (.imul, 1) := by decide +kernel
theorem dX9_mark_77 : decode cX9_mark 77 = .ok (.iadd, 1) := by decide +kernel
theorem dX9_mark_78 : decode cX9_mark 78 = .ok (.istore 5, 2) := by decide +kernel
theorem dX9_mark_80 : decode cX9_mark 80 = .ok (.aload_n 0, 1) := by decide +kernel
theorem dX9_mark_81 : decode cX9_mark 81 = .ok (.getfield 7, 3) := by decide +kernel
theorem dX9_mark_84 : decode cX9_mark 84 = .ok (.iload 5, 2) := by decide +kernel
theorem dX9_mark_86 : decode cX9_mark 86 = .ok (.iload_n 1, 1) := by decide +kernel
theorem dX9_mark_87 : decode cX9_mark 87 = .ok (.iastore, 1) := by decide +kernel
theorem dX9_mark_88 : decode cX9_mark 88 = .ok (.aload_n 0, 1) := by decide +kernel
theorem dX9_mark_89 : decode cX9_mark 89 = .ok (.getfield 7, 3) := by decide +kernel
theorem dX9_mark_92 : decode cX9_mark 92 = .ok (.iload 5, 2) := by decide +kernel
theorem dX9_mark_94 : decode cX9_mark 94 = .ok (.iconst 1, 1) := by decide +kernel
theorem dX9_mark_95 : decode cX9_mark 95 = .ok (.iadd, 1) := by decide +kernel
theorem dX9_mark_96 : decode cX9_mark 96 = .ok (.iload_n 2, 1) := by decide +kernel
theorem dX9_mark_97 : decode cX9_mark 97 = .ok (.iastore, 1) := by decide +kernel
theorem dX9_mark_98 : decode cX9_mark 98 = .ok (.aload_n 0, 1) := by decide +kernel
theorem dX9_mark_99 : decode cX9_mark 99 = .ok (.getfield 7, 3) := by decide +kernel
theorem dX9_mark_102 : decode cX9_mark 102 = .ok (.iload 5, 2) := by decide +kernel
theorem dX9_mark_104 : decode cX9_mark 104 = .ok (.iconst 2, 1) := by decide +kernel
theorem dX9_mark_105 : decode cX9_mark 105 = .ok (.iadd, 1) := by decide +kernel
theorem dX9_mark_106 : decode cX9_mark 106 = .ok (.iload_n 3, 1) := by decide +kernel
theorem dX9_mark_107 : decode cX9_mark 107 = .ok (.iastore, 1) := by decide +kernel
theorem dX9_mark_108 : decode cX9_mark 108 = .ok (.aload_n 0, 1) := by decide +kernel
theorem dX9_mark_109 : decode cX9_mark 109 = .ok (.getfield 7, 3) := by decide +kernel
theorem dX9_mark_112 : decode cX9_mark 112 = .ok (.iload 5, 2) := by decide +kernel
theorem dX9_mark_114 : decode cX9_mark 114 = .ok (.iconst 3, 1) := by decide +kernel
theorem dX9_mark_115 : decode cX9_mark 115 = .ok (.iadd, 1) := by decide +kernel
theorem dX9_mark_116 : decode cX9_mark 116 = .ok (.iload 4, 2) := by decide +kernel
theorem dX9_mark_118 : decode cX9_mark 118 = .ok (.iastore, 1) := by decide +kernel
theorem dX9_mark_119 : decode cX9_mark 119 = .ok (.aload_n 0, 1) := by decide +kernel
theorem dX9_mark_120 : decode cX9_mark 120 = .ok (.getfield 7, 3) := by decide +kernel
theorem dX9_mark_123 : decode cX9_mark 123 = .ok (.iconst 3, 1) := by decide +kernel
theorem dX9_mark_124 : decode cX9_mark 124 = .ok (.dup2, 1) := by decide +kernel
theorem dX9_mark_125 : decode cX9_mark 125 = .ok (.iaload, 1) := by decide +kernel
theorem dX9_mark_126 : decode cX9_mark 126 = .ok (.iconst 1, 1) := by decide +kernel
theorem dX9_mark_127 : decode cX9_mark 127 = .ok (.iadd, 1) := by decide +kernel
theorem dX9_mark_128 : decode cX9_mark 128 = .ok (.iastore, 1) := by decide +kernel
theorem dX9_mark_129 : decode cX9_mark 129 = .ok (.aload_n 0, 1) := by decide +kernel
theorem dX9_mark_130 : decode cX9_mark 130 = .ok (.getfield 7, 3) := by decide +kernel
theorem dX9_mark_133 : decode cX9_mark 133 = .ok (.iconst 3, 1) := by decide +kernel
theorem dX9_mark_134 : decode cX9_mark 134 = .ok (.iaload, 1) := by decide +kernel
theorem dX9_mark_135 : decode cX9_mark 135 = .ok (.ireturn, 1) := by decide +kernel
theorem dX9_forget_0 : decode cX9_forget 0 = .ok (.iload_n 1, 1) := by decide +kernel
theorem dX9_forget_1 : decode cX9_forget 1 = .ok (.i2l, 1) := by decide +kernel
theorem dX9_forget_2 : decode cX9_forget 2 = .ok (.lconst 0, 1) := by decide +kernel
theorem dX9_forget_3 : decode cX9_forget 3 = .ok (.ldc2_w 143, 3) := by decide +kernel
theorem dX9_forget_6 : decode cX9_forget 6 = .ok (.invokestatic 74, 3) := by decide +kernel
theorem dX9_forget_9 : decode cX9_forget 9 = .ok (.ifCond .ne 10, 3) := by decide +kernel
theorem dX9_forget_12 : decode cX9_forget 12 = .ok (.aload_n 0, 1) := by decide +kernel
theorem dX9_forget_13 : decode cX9_forget 13 = .ok (.bipush (-2), 2) := by decide +kernel
theorem dX9_forget_15 : decode cX9_forget 15 = .ok (.invokevirtual 84, 3) := by decide +kernel
theorem dX9_forget_18 : decode cX9_forget 18 = .ok (.ireturn, 1) := by decide +kernel
theorem dX9_forget_19 : decode cX9_forget 19 = .ok (.aload_n 0, 1) := by decide +kernel
theorem dX9_forget_20 : decode cX9_forget 20 = .ok (.getfield 7, 3) := by decide +kernel
theorem dX9_forget_23 : decode cX9_forget 23 = .ok (.iconst 1, 1) := by decide +kernel
theorem dX9_forget_24 : decode cX9_forget 24 = .ok (.iload_n 1, 1) := by decide +kernel
theorem dX9_forget_25 : decode cX9_forget 25 = .ok (.iadd, 1) := by decide +kernel
theorem dX9_forget_26 : decode cX9_forget 26 = .ok (.iaload, 1) := by decide +kernel
theorem dX9_forget_27 : decode cX9_forget 27 = .ok (.istore_n 2, 1) := by decide +kernel
theorem dX9_forget_28 : decode cX9_forget 28 = .ok (.aload_n 0, 1) := by decide +kernel
theorem dX9_forget_29 : decode cX9_forget 29 = .ok (.getfield 7, 3) := by decide +kernel
theorem dX9_forget_32 : decode cX9_forget 32 = .ok (.iconst 1, 1) := by decide +kernel
theorem dX9_forget_33 : decode cX9_forget 33 = .ok (.iload_n 1, 1) := by decide +kernel
theorem dX9_forget_34 : decode cX9_forget 34 = .ok (.iadd, 1) := by decide +kernel
theorem dX9_forget_35 : decode cX9_forget 35 = .ok (.iconst 0, 1) := by decide +kernel
theorem dX9_forget_36 : decode cX9_forget 36 = .ok (.iastore, 1) := by decide +kernel
theorem dX9_forget_37 : decode cX9_forget 37 = .ok (.iload_n 2, 1) := by decide +kernel
theorem dX9_forget_38 : decode cX9_forget 38 = .ok (.ireturn, 1) := by decide +kernel
theorem dX9_kindsOf_0 : decode cX9_kindsOf 0 = .ok (.iconst 0, 1) := by decide +kernel
theorem dX9_kindsOf_1 : decode cX9_kindsOf 1 = .ok (.istore_n 2, 1) := by decide +kernel
theorem dX9_kindsOf_2 : decode cX9_kindsOf 2 = .ok (.iconst 0, 1) := by decide +kernel
theorem dX9_kindsOf_3 : decode cX9_kindsOf 3 = .ok (.istore_n 3, 1) := by decide +kernel
theorem dX9_kindsOf_4 : decode cX9_kindsOf 4 = .ok (.iload_n 3, 1) := by decide +kernel
theorem dX9_kindsOf_5 : decode cX9_kindsOf 5 = .ok (.bipush 6, 2) := by decide +kernel
theorem dX9_kindsOf_7 : decode cX9_kindsOf 7 = .ok (.if_icmp .ge 122, 3) := by decide +kernel
theorem dX9_kindsOf_10 : decode cX9_kindsOf 10 = .ok (.iconst 1, 1) := by decide +kernel
theorem dX9_kindsOf_11 : decode cX9_kindsOf 11 = .ok (.istore 4, 2) := by decide +kernel
theorem dX9_kindsOf_13 : decode cX9_kindsOf 13 = .ok (.iconst 0, 1) := by decide +kernel
theorem dX9_kindsOf_14 : decode cX9_kindsOf 14 = .ok (.istore 5, 2) := by decide +kernel
theorem dX9_kindsOf_16 : decode cX9_kindsOf 16 = .ok (.iload 5, 2) := by decide +kernel
theorem dX9_kindsOf_18 : decode cX9_kindsOf 18 = .ok (.aload_n 0, 1) := by decide +kernel
theorem dX9_kindsOf_19 : decode cX9_kindsOf 19 = .ok (.getfield 7, 3) := by decide +kernel
theorem dX9_kindsOf_22 : decode cX9_kindsOf 22 = .ok (.iconst 2, 1) := by decide +kernel
theorem dX9_kindsOf_23 : decode cX9_kindsOf 23 = .ok (.iaload, 1) := by decide +kernel
theorem dX9_kindsOf_24 : decode cX9_kindsOf 24 = .ok (.if_icmp .ge 84, 3) := by decide +kernel
theorem dX9_kindsOf_27 : decode cX9_kindsOf 27 = .ok (.bipush 36, 2) := by decide +kernel
theorem dX9_kindsOf_29 : decode cX9_kindsOf 29 = .ok (.iconst 5, 1) := by decide +kernel
theorem dX9_kindsOf_30 : decode cX9_kindsOf 30 = .ok (.iload 5, 2) := by decide +kernel
theorem dX9_kindsOf_32 : decode cX9_kindsOf 32 = .ok (.imul, 1) := by decide +kernel
theorem dX9_kindsOf_33 : decode cX9_kindsOf 33 = .ok (.iadd, 1) := by decide +kernel
theorem dX9_kindsOf_34 : decode cX9_kindsOf 34 = .ok (.istore 6, 2) := by decide +kernel
theorem dX9_kindsOf_36 : decode cX9_kindsOf 36 = .ok (.iload 4, 2) := by decide +kernel
theorem dX9_kindsOf_38 : decode cX9_kindsOf 38 = .ok (.ifCond .eq 61, 3) := by decide +kernel
theorem dX9_kindsOf_41 : decode cX9_kindsOf 41 = .ok (.aload_n 0, 1) := by decide +kernel
theorem dX9_kindsOf_42 : decode cX9_kindsOf 42 = .ok (.getfield 7, 3) := by decide +kernel
theorem dX9_kindsOf_45 : decode cX9_kindsOf 45 = .ok (.iload 6, 2) := by decide +kernel
theorem dX9_kindsOf_47 : decode cX9_kindsOf 47 = .ok (.iaload, 1) := by decide +kernel
theorem dX9_kindsOf_48 : decode cX9_kindsOf 48 = .ok (.iload_n 1, 1) := by decide +kernel
theorem dX9_kindsOf_49 : decode cX9_kindsOf 49 = .ok (.if_icmp .ne 46, 3) := by decide +kernel
theorem dX9_kindsOf_52 : decode cX9_kindsOf 52 = .ok (.iload_n 3, 1) := by decide +kernel
theorem dX9_kindsOf_53 : decode cX9_kindsOf 53 = .ok (.aload_n 0, 1) := by decide +kernel
theorem dX9_kindsOf_54 : decode cX9_kindsOf 54 = .ok (.getfield 7, 3) := by decide +kernel
theorem dX9_kindsOf_57 : decode cX9_kindsOf 57 = .ok (.iload 6, 2) := by decide +kernel
theorem dX9_kindsOf_59 : decode cX9_kindsOf 59 = .ok (.iconst 1, 1) := by decide +kernel
theorem dX9_kindsOf_60 : decode cX9_kindsOf 60 = .ok (.iadd, 1) := by decide +kernel
theorem dX9_kindsOf_61 : decode cX9_kindsOf 61 = .ok (.iaload, 1) := by decide +kernel
theorem dX9_kindsOf_62 : decode cX9_kindsOf 62 = .ok (.aload_n 0, 1) := by decide +kernel
theorem dX9_kindsOf_63 : decode cX9_kindsOf 63 = .ok (.getfield 7, 3) := by decide +kernel
theorem dX9_kindsOf_66 : decode cX9_kindsOf 66 = .ok (.iload 6, 2) := by decide +kernel
theorem dX9_kindsOf_68 : decode cX9_kindsOf 68 = .ok (.iconst 2, 1) := by decide +kernel
theorem dX9_kindsOf_69 : decode cX9_kindsOf 69 = .ok (.iadd, 1) := by decide +kernel
theorem dX9_kindsOf_70 : decode cX9_kindsOf 70 = .ok (.iaload, 1) := by decide +kernel
theorem dX9_kindsOf_71 : decode cX9_kindsOf 71 = .ok (.aload_n 0, 1) := by decide +kernel
theorem dX9_kindsOf_72 : decode cX9_kindsOf 72 = .ok (.getfield 7, 3) := by decide +kernel
theorem dX9_kindsOf_75 : decode cX9_kindsOf 75 = .ok (.iload 6, 2) := by decide +kernel
theorem dX9_kindsOf_77 : decode cX9_kindsOf 77 = .ok (.iconst 3, 1) := by decide +kernel
theorem dX9_kindsOf_78 : decode cX9_kindsOf 78 = .ok (.iadd, 1) := by decide +kernel
theorem dX9_kindsOf_79 : decode cX9_kindsOf 79 = .ok (.iaload, 1) := by decide +kernel
theorem dX9_kindsOf_80 : decode cX9_kindsOf 80 = .ok (.invokestatic 106, 3) := by decide +kernel
theorem dX9_kindsOf_83 : decode cX9_kindsOf 83 = .ok (.aload_n 0, 1) := by decide +kernel
theorem dX9_kindsOf_84 : decode cX9_kindsOf 84 = .ok (.getfield 7, 3) := by decide +kernel
theorem dX9_kindsOf_87 : decode cX9_kindsOf 87 = .ok (.iload 6, 2) := by decide +kernel
theorem dX9_kindsOf_89 : decode cX9_kindsOf 89 = .ok (.iconst 4, 1) := by decide +kernel
theorem dX9_kindsOf_90 : decode cX9_kindsOf 90 = .ok (.iadd, 1) := by decide +kernel
theorem dX9_kindsOf_91 : decode cX9_kindsOf 91 = .ok (.iaload, 1) := by decide +kernel
theorem dX9_kindsOf_92 : decode cX9_kindsOf 92 = .ok (.if_icmp .ne 7, 3) := by decide +kernel
theorem dX9_kindsOf_95 : decode cX9_kindsOf 95 = .ok (.iconst 1, 1) := by decide +kernel
theorem dX9_kindsOf_96 : decode cX9_kindsOf 96 = .ok (.goto 4, 3) := by decide +kernel
theorem dX9_kindsOf_99 : decode cX9_kindsOf 99 = .ok (.iconst 0, 1) := by decide +kernel
theorem dX9_kindsOf_100 : decode cX9_kindsOf 100 = .ok (.istore 4, 2) := by decide +kernel
theorem dX9_kindsOf_102 : decode cX9_kindsOf 102 = .ok (.iinc 5 1, 3) := by decide +kernel
theorem dX9_kindsOf_105 : decode cX9_kindsOf 105 = .ok (.goto (-89), 3) := by decide +kernel
theorem dX9_kindsOf_108 : decode cX9_kindsOf 108 = .ok (.iload_n 2, 1) := by decide +kernel
theorem dX9_kindsOf_109 : decode cX9_kindsOf 109 = .ok (.iload 4, 2) := by decide +kernel
theorem dX9_kindsOf_111 : decode cX9_kindsOf 111 = .ok (.ifCond .eq 9, 3) := by decide +kernel
theorem dX9_kindsOf_114 : decode cX9_kindsOf 114 = .ok (.iconst 1, 1) := by decide +kernel
theorem dX9_kindsOf_115 : decode cX9_kindsOf 115 = .ok (.iload_n 3, 1) := by decide +kernel
theorem dX9_kindsOf_116 : decode cX9_kindsOf 116 = .ok (.ishl, 1) := by decide +kernel
theorem dX9_kindsOf_117 : decode cX9_kindsOf 117 = .ok (.goto 4, 3) := by decide +kernel
theorem dX9_kindsOf_120 : decode cX9_kindsOf 120 = .ok (.iconst 0, 1) := by decide +kernel
theorem dX9_kindsOf_121 : decode cX9_kindsOf 121 = .ok (.ior, 1) := by decide +kernel
theorem dX9_kindsOf_122 : decode cX9_kindsOf 122 = .ok (.istore_n 2, 1) := by decide +kernel
theorem dX9_kindsOf_123 : decode cX9_kindsOf 123 = .ok (.iinc 3 1, 3) := by decide +kernel
theorem dX9_kindsOf_126 : decode cX9_kindsOf 126 = .ok (.goto (-122), 3) := by decide +kernel
theorem dX9_kindsOf_129 : decode cX9_kindsOf 129 = .ok (.iload_n 2, 1) := by decide +kernel
theorem dX9_kindsOf_130 : decode cX9_kindsOf 130 = .ok (.ireturn, 1) := by decide +kernel
theorem dX9_kindsOfCounsel_0 : decode cX9_kindsOfCounsel 0 = .ok (.iconst 0, 1) := by decide +kernel
theorem dX9_kindsOfCounsel_1 : decode cX9_kindsOfCounsel 1 = .ok (.istore_n 2, 1) := by decide +kernel
theorem dX9_kindsOfCounsel_2 : decode cX9_kindsOfCounsel 2 = .ok (.iconst 0, 1) := by decide +kernel
theorem dX9_kindsOfCounsel_3 : decode cX9_kindsOfCounsel 3 = .ok (.istore_n 3, 1) := by decide +kernel
theorem dX9_kindsOfCounsel_4 : decode cX9_kindsOfCounsel 4 = .ok (.iload_n 3, 1) := by decide +kernel
theorem dX9_kindsOfCounsel_5 : decode cX9_kindsOfCounsel 5 = .ok (.bipush 6, 2) := by decide +kernel
theorem dX9_kindsOfCounsel_7 : decode cX9_kindsOfCounsel 7 = .ok (.if_icmp .ge 113, 3) := by decide +kernel
theorem dX9_kindsOfCounsel_10 : decode cX9_kindsOfCounsel 10 = .ok (.iconst 1, 1) := by decide +kernel
theorem dX9_kindsOfCounsel_11 : decode cX9_kindsOfCounsel 11 = .ok (.istore 4, 2) := by decide +kernel
theorem dX9_kindsOfCounsel_13 : decode cX9_kindsOfCounsel 13 = .ok (.iconst 0, 1) := by decide +kernel
theorem dX9_kindsOfCounsel_14 : decode cX9_kindsOfCounsel 14 = .ok (.istore 5, 2) := by decide +kernel
theorem dX9_kindsOfCounsel_16 : decode cX9_kindsOfCounsel 16 = .ok (.iload 5, 2) := by decide +kernel
theorem dX9_kindsOfCounsel_18 : decode cX9_kindsOfCounsel 18 = .ok (.aload_n 0, 1) := by decide +kernel
theorem dX9_kindsOfCounsel_19 : decode cX9_kindsOfCounsel 19 = .ok (.getfield 7, 3) := by decide +kernel
theorem dX9_kindsOfCounsel_22 : decode cX9_kindsOfCounsel 22 = .ok (.iconst 3, 1) := by decide +kernel
theorem dX9_kindsOfCounsel_23 : decode cX9_kindsOfCounsel 23 = .ok (.iaload, 1) := by decide +kernel
theorem dX9_kindsOfCounsel_24 : decode cX9_kindsOfCounsel 24 = .ok (.if_icmp .ge 75, 3) := by decide +kernel
theorem dX9_kindsOfCounsel_27 : decode cX9_kindsOfCounsel 27 = .ok (.bipush 66, 2) := by decide +kernel
theorem dX9_kindsOfCounsel_29 : decode cX9_kindsOfCounsel 29 = .ok (.iconst 4, 1) := by decide +kernel
theorem dX9_kindsOfCounsel_30 : decode cX9_kindsOfCounsel 30 = .ok (.iload 5, 2) := by decide +kernel
theorem dX9_kindsOfCounsel_32 : decode cX9_kindsOfCounsel 32 = .ok (.imul, 1) := by decide +kernel
theorem dX9_kindsOfCounsel_33 : decode cX9_kindsOfCounsel 33 = .ok (.iadd, 1) := by decide +kernel
theorem dX9_kindsOfCounsel_34 : decode cX9_kindsOfCounsel 34 = .ok (.istore 6, 2) := by decide +kernel
theorem dX9_kindsOfCounsel_36 : decode cX9_kindsOfCounsel 36 = .ok (.iload 4, 2) := by decide +kernel
theorem dX9_kindsOfCounsel_38 : decode cX9_kindsOfCounsel 38 = .ok (.ifCond .eq 52, 3) := by decide +kernel
theorem dX9_kindsOfCounsel_41 : decode cX9_kindsOfCounsel 41 = .ok (.aload_n 0, 1) := by decide +kernel
theorem dX9_kindsOfCounsel_42 : decode cX9_kindsOfCounsel 42 = .ok (.getfield 7, 3) := by decide +kernel
theorem dX9_kindsOfCounsel_45 : decode cX9_kindsOfCounsel 45 = .ok (.iload 6, 2) := by decide +kernel
theorem dX9_kindsOfCounsel_47 : decode cX9_kindsOfCounsel 47 = .ok (.iaload, 1) := by decide +kernel
theorem dX9_kindsOfCounsel_48 : decode cX9_kindsOfCounsel 48 = .ok (.iload_n 1, 1) := by decide +kernel
theorem dX9_kindsOfCounsel_49 : decode cX9_kindsOfCounsel 49 = .ok (.if_icmp .ne 37, 3) := by decide +kernel
theorem dX9_kindsOfCounsel_52 : decode cX9_kindsOfCounsel 52 = .ok (.iload_n 3, 1) := by decide +kernel
theorem dX9_kindsOfCounsel_53 : decode cX9_kindsOfCounsel 53 = .ok (.aload_n 0, 1) := by decide +kernel
theorem dX9_kindsOfCounsel_54 : decode cX9_kindsOfCounsel 54 = .ok (.getfield 7, 3) := by decide +kernel
theorem dX9_kindsOfCounsel_57 : decode cX9_kindsOfCounsel 57 = .ok (.iload 6, 2) := by decide +kernel
theorem dX9_kindsOfCounsel_59 : decode cX9_kindsOfCounsel 59 = .ok (.iconst 1, 1) := by decide +kernel
theorem dX9_kindsOfCounsel_60 : decode cX9_kindsOfCounsel 60 = .ok (.iadd, 1) := by decide +kernel
theorem dX9_kindsOfCounsel_61 : decode cX9_kindsOfCounsel 61 = .ok (.iaload, 1) := by decide +kernel
theorem dX9_kindsOfCounsel_62 : decode cX9_kindsOfCounsel 62 = .ok (.aload_n 0, 1) := by decide +kernel
theorem dX9_kindsOfCounsel_63 : decode cX9_kindsOfCounsel 63 = .ok (.getfield 7, 3) := by decide +kernel
theorem dX9_kindsOfCounsel_66 : decode cX9_kindsOfCounsel 66 = .ok (.iload 6, 2) := by decide +kernel
theorem dX9_kindsOfCounsel_68 : decode cX9_kindsOfCounsel 68 = .ok (.iconst 2, 1) := by decide +kernel
theorem dX9_kindsOfCounsel_69 : decode cX9_kindsOfCounsel 69 = .ok (.iadd, 1) := by decide +kernel
theorem dX9_kindsOfCounsel_70 : decode cX9_kindsOfCounsel 70 = .ok (.iaload, 1) := by decide +kernel
theorem dX9_kindsOfCounsel_71 : decode cX9_kindsOfCounsel 71 = .ok (.invokestatic 110, 3) := by decide +kernel
theorem dX9_kindsOfCounsel_74 : decode cX9_kindsOfCounsel 74 = .ok (.aload_n 0, 1) := by decide +kernel
theorem dX9_kindsOfCounsel_75 : decode cX9_kindsOfCounsel 75 = .ok (.getfield 7, 3) := by decide +kernel
theorem dX9_kindsOfCounsel_78 : decode cX9_kindsOfCounsel 78 = .ok (.iload 6, 2) := by decide +kernel
theorem dX9_kindsOfCounsel_80 : decode cX9_kindsOfCounsel 80 = .ok (.iconst 3, 1) := by decide +kernel
theorem dX9_kindsOfCounsel_81 : decode cX9_kindsOfCounsel 81 = .ok (.iadd, 1) := by decide +kernel
theorem dX9_kindsOfCounsel_82 : decode cX9_kindsOfCounsel 82 = .ok (.iaload, 1) := by decide +kernel
theorem dX9_kindsOfCounsel_83 : decode cX9_kindsOfCounsel 83 = .ok (.if_icmp .ne 7, 3) := by decide +kernel
theorem dX9_kindsOfCounsel_86 : decode cX9_kindsOfCounsel 86 = .ok (.iconst 1, 1) := by decide +kernel
theorem dX9_kindsOfCounsel_87 : decode cX9_kindsOfCounsel 87 = .ok (.goto 4, 3) := by decide +kernel
theorem dX9_kindsOfCounsel_90 : decode cX9_kindsOfCounsel 90 = .ok (.iconst 0, 1) := by decide +kernel
theorem dX9_kindsOfCounsel_91 : decode cX9_kindsOfCounsel 91 = .ok (.istore 4, 2) := by decide +kernel
theorem dX9_kindsOfCounsel_93 : decode cX9_kindsOfCounsel 93 = .ok (.iinc 5 1, 3) := by decide +kernel
theorem dX9_kindsOfCounsel_96 : decode cX9_kindsOfCounsel 96 = .ok (.goto (-80), 3) := by decide +kernel
theorem dX9_kindsOfCounsel_99 : decode cX9_kindsOfCounsel 99 = .ok (.iload_n 2, 1) := by decide +kernel
theorem dX9_kindsOfCounsel_100 : decode cX9_kindsOfCounsel 100 = .ok (.iload 4, 2) := by decide +kernel
theorem dX9_kindsOfCounsel_102 : decode cX9_kindsOfCounsel 102 = .ok (.ifCond .eq 9, 3) := by decide +kernel
theorem dX9_kindsOfCounsel_105 : decode cX9_kindsOfCounsel 105 = .ok (.iconst 1, 1) := by decide +kernel
theorem dX9_kindsOfCounsel_106 : decode cX9_kindsOfCounsel 106 = .ok (.iload_n 3, 1) := by decide +kernel
theorem dX9_kindsOfCounsel_107 : decode cX9_kindsOfCounsel 107 = .ok (.ishl, 1) := by decide +kernel
theorem dX9_kindsOfCounsel_108 : decode cX9_kindsOfCounsel 108 = .ok (.goto 4, 3) := by decide +kernel
theorem dX9_kindsOfCounsel_111 : decode cX9_kindsOfCounsel 111 = .ok (.iconst 0, 1) := by decide +kernel
theorem dX9_kindsOfCounsel_112 : decode cX9_kindsOfCounsel 112 = .ok (.ior, 1) := by decide +kernel
theorem dX9_kindsOfCounsel_113 : decode cX9_kindsOfCounsel 113 = .ok (.istore_n 2, 1) := by decide +kernel
theorem dX9_kindsOfCounsel_114 : decode cX9_kindsOfCounsel 114 = .ok (.iinc 3 1, 3) := by decide +kernel
theorem dX9_kindsOfCounsel_117 : decode cX9_kindsOfCounsel 117 = .ok (.goto (-113), 3) := by decide +kernel
theorem dX9_kindsOfCounsel_120 : decode cX9_kindsOfCounsel 120 = .ok (.iload_n 2, 1) := by decide +kernel
theorem dX9_kindsOfCounsel_121 : decode cX9_kindsOfCounsel 121 = .ok (.ireturn, 1) := by decide +kernel
theorem dX9_is_0 : decode cX9_is 0 = .ok (.aload_n 0, 1) := by decide +kernel
theorem dX9_is_1 : decode cX9_is 1 = .ok (.iload_n 1, 1) := by decide +kernel
theorem dX9_is_2 : decode cX9_is 2 = .ok (.invokevirtual 117, 3) := by decide +kernel
theorem dX9_is_5 : decode cX9_is 5 = .ok (.ifCond .eq 11, 3) := by decide +kernel
theorem dX9_is_8 : decode cX9_is 8 = .ok (.aload_n 0, 1) := by decide +kernel
theorem dX9_is_9 : decode cX9_is 9 = .ok (.iload_n 1, 1) := by decide +kernel
theorem dX9_is_10 : decode cX9_is 10 = .ok (.invokevirtual 225, 3) := by decide +kernel
theorem dX9_is_13 : decode cX9_is 13 = .ok (.goto 9, 3) := by decide +kernel
theorem dX9_is_16 : decode cX9_is 16 = .ok (.aload_n 0, 1) := by decide +kernel
theorem dX9_is_17 : decode cX9_is 17 = .ok (.bipush (-2), 2) := by decide +kernel
theorem dX9_is_19 : decode cX9_is 19 = .ok (.invokevirtual 84, 3) := by decide +kernel
theorem dX9_is_22 : decode cX9_is 22 = .ok (.ireturn, 1) := by decide +kernel
theorem dX9_kinds_0 : decode cX9_kinds 0 = .ok (.iload_n 1, 1) := by decide +kernel
theorem dX9_kinds_1 : decode cX9_kinds 1 = .ok (.invokestatic 88, 3) := by decide +kernel
theorem dX9_kinds_4 : decode cX9_kinds 4 = .ok (.ifCond .eq 11, 3) := by decide +kernel
theorem dX9_kinds_7 : decode cX9_kinds 7 = .ok (.aload_n 0, 1) := by decide +kernel
theorem dX9_kinds_8 : decode cX9_kinds 8 = .ok (.iload_n 1, 1) := by decide +kernel
theorem dX9_kinds_9 : decode cX9_kinds 9 = .ok (.invokevirtual 228, 3) := by decide +kernel
theorem dX9_kinds_12 : decode cX9_kinds 12 = .ok (.goto 9, 3) := by decide +kernel
theorem dX9_kinds_15 : decode cX9_kinds 15 = .ok (.aload_n 0, 1) := by decide +kernel
theorem dX9_kinds_16 : decode cX9_kinds 16 = .ok (.bipush (-2), 2) := by decide +kernel
theorem dX9_kinds_18 : decode cX9_kinds 18 = .ok (.invokevirtual 84, 3) := by decide +kernel
theorem dX9_kinds_21 : decode cX9_kinds 21 = .ok (.ireturn, 1) := by decide +kernel
theorem dX9_mostAlike_0 : decode cX9_mostAlike 0 = .ok (.iconst 0, 1) := by decide +kernel
theorem dX9_mostAlike_1 : decode cX9_mostAlike 1 = .ok (.istore_n 2, 1) := by decide +kernel
theorem dX9_mostAlike_2 : decode cX9_mostAlike 2 = .ok (.iconst 0, 1) := by decide +kernel
theorem dX9_mostAlike_3 : decode cX9_mostAlike 3 = .ok (.istore_n 3, 1) := by decide +kernel
theorem dX9_mostAlike_4 : decode cX9_mostAlike 4 = .ok (.iload_n 3, 1) := by decide +kernel
theorem dX9_mostAlike_5 : decode cX9_mostAlike 5 = .ok (.bipush 6, 2) := by decide +kernel
theorem dX9_mostAlike_7 : decode cX9_mostAlike 7 = .ok (.if_icmp .ge 84, 3) := by decide +kernel
theorem dX9_mostAlike_10 : decode cX9_mostAlike 10 = .ok (.iconst 0, 1) := by decide +kernel
theorem dX9_mostAlike_11 : decode cX9_mostAlike 11 = .ok (.istore 4, 2) := by decide +kernel
theorem dX9_mostAlike_13 : decode cX9_mostAlike 13 = .ok (.iconst 0, 1) := by decide +kernel
theorem dX9_mostAlike_14 : decode cX9_mostAlike 14 = .ok (.istore 5, 2) := by decide +kernel
theorem dX9_mostAlike_16 : decode cX9_mostAlike 16 = .ok (.iload 5, 2) := by decide +kernel
theorem dX9_mostAlike_18 : decode cX9_mostAlike 18 = .ok (.bipush 6, 2) := by decide +kernel
theorem dX9_mostAlike_20 : decode cX9_mostAlike 20 = .ok (.if_icmp .ge 52, 3) := by decide +kernel
theorem dX9_mostAlike_23 : decode cX9_mostAlike 23 = .ok (.iload_n 1, 1) := by decide +kernel
theorem dX9_mostAlike_24 : decode cX9_mostAlike 24 = .ok (.iload_n 3, 1) := by decide +kernel
theorem dX9_mostAlike_25 : decode cX9_mostAlike 25 = .ok (.invokestatic 120, 3) := by decide +kernel
theorem dX9_mostAlike_28 : decode cX9_mostAlike 28 = .ok (.ifCond .eq 44, 3) := by decide +kernel
theorem dX9_mostAlike_31 : decode cX9_mostAlike 31 = .ok (.iload 4, 2) := by decide +kernel
theorem dX9_mostAlike_33 : decode cX9_mostAlike 33 = .ok (.iload_n 1, 1) := by decide +kernel
theorem dX9_mostAlike_34 : decode cX9_mostAlike 34 = .ok (.iload 5, 2) := by decide +kernel
theorem dX9_mostAlike_36 : decode cX9_mostAlike 36 = .ok (.invokestatic 120, 3) := by decide +kernel
theorem dX9_mostAlike_39 : decode cX9_mostAlike 39 = .ok (.ifCond .eq 23, 3) := by decide +kernel
theorem dX9_mostAlike_42 : decode cX9_mostAlike 42 = .ok (.aload_n 0, 1) := by decide +kernel
theorem dX9_mostAlike_43 : decode cX9_mostAlike 43 = .ok (.getfield 54, 3) := by decide +kernel
theorem dX9_mostAlike_46 : decode cX9_mostAlike 46 = .ok (.iload_n 3, 1) := by decide +kernel
theorem dX9_mostAlike_47 : decode cX9_mostAlike 47 = .ok (.iaload, 1) := by decide +kernel
theorem dX9_mostAlike_48 : decode cX9_mostAlike 48 = .ok (.aload_n 0, 1) := by decide +kernel
theorem dX9_mostAlike_49 : decode cX9_mostAlike 49 = .ok (.getfield 54, 3) := by decide +kernel
theorem dX9_mostAlike_52 : decode cX9_mostAlike 52 = .ok (.iload 5, 2) := by decide +kernel
theorem dX9_mostAlike_54 : decode cX9_mostAlike 54 = .ok (.iaload, 1) := by decide +kernel
theorem dX9_mostAlike_55 : decode cX9_mostAlike 55 = .ok (.if_icmp .ne 7, 3) := by decide +kernel
theorem dX9_mostAlike_58 : decode cX9_mostAlike 58 = .ok (.iconst 1, 1) := by decide +kernel
theorem dX9_mostAlike_59 : decode cX9_mostAlike 59 = .ok (.goto 4, 3) := by decide +kernel
theorem dX9_mostAlike_62 : decode cX9_mostAlike 62 = .ok (.iconst 0, 1) := by decide +kernel
theorem dX9_mostAlike_63 : decode cX9_mostAlike 63 = .ok (.iadd, 1) := by decide +kernel
theorem dX9_mostAlike_64 : decode cX9_mostAlike 64 = .ok (.istore 4, 2) := by decide +kernel
theorem dX9_mostAlike_66 : decode cX9_mostAlike 66 = .ok (.iinc 5 1, 3) := by decide +kernel
theorem dX9_mostAlike_69 : decode cX9_mostAlike 69 = .ok (.goto (-53), 3) := by decide +kernel
theorem dX9_mostAlike_72 : decode cX9_mostAlike 72 = .ok (.iload 4, 2) := by decide +kernel
theorem dX9_mostAlike_74 : decode cX9_mostAlike 74 = .ok (.iload_n 2, 1) := by decide +kernel
theorem dX9_mostAlike_75 : decode cX9_mostAlike 75 = .ok (.if_icmp .le 8, 3) := by decide +kernel
theorem dX9_mostAlike_78 : decode cX9_mostAlike 78 = .ok (.iload 4, 2) := by decide +kernel
theorem dX9_mostAlike_80 : decode cX9_mostAlike 80 = .ok (.goto 4, 3) := by decide +kernel
theorem dX9_mostAlike_83 : decode cX9_mostAlike 83 = .ok (.iload_n 2, 1) := by decide +kernel
theorem dX9_mostAlike_84 : decode cX9_mostAlike 84 = .ok (.istore_n 2, 1) := by decide +kernel
theorem dX9_mostAlike_85 : decode cX9_mostAlike 85 = .ok (.iinc 3 1, 3) := by decide +kernel
theorem dX9_mostAlike_88 : decode cX9_mostAlike 88 = .ok (.goto (-84), 3) := by decide +kernel
theorem dX9_mostAlike_91 : decode cX9_mostAlike 91 = .ok (.iload_n 2, 1) := by decide +kernel
theorem dX9_mostAlike_92 : decode cX9_mostAlike 92 = .ok (.ireturn, 1) := by decide +kernel
theorem dX9_look_0 : decode cX9_look 0 = .ok (.aload_n 0, 1) := by decide +kernel
theorem dX9_look_1 : decode cX9_look 1 = .ok (.iload_n 1, 1) := by decide +kernel
theorem dX9_look_2 : decode cX9_look 2 = .ok (.invokevirtual 117, 3) := by decide +kernel
theorem dX9_look_5 : decode cX9_look 5 = .ok (.ifCond .ne 10, 3) := by decide +kernel
theorem dX9_look_8 : decode cX9_look 8 = .ok (.aload_n 0, 1) := by decide +kernel
theorem dX9_look_9 : decode cX9_look 9 = .ok (.bipush (-2), 2) := by decide +kernel
theorem dX9_look_11 : decode cX9_look 11 = .ok (.invokevirtual 84, 3) := by decide +kernel
theorem dX9_look_14 : decode cX9_look 14 = .ok (.ireturn, 1) := by decide +kernel
theorem dX9_look_15 : decode cX9_look 15 = .ok (.aload_n 0, 1) := by decide +kernel
theorem dX9_look_16 : decode cX9_look 16 = .ok (.iload_n 1, 1) := by decide +kernel
theorem dX9_look_17 : decode cX9_look 17 = .ok (.invokevirtual 225, 3) := by decide +kernel
theorem dX9_look_20 : decode cX9_look 20 = .ok (.istore_n 2, 1) := by decide +kernel
theorem dX9_look_21 : decode cX9_look 21 = .ok (.iconst (-1), 1) := by decide +kernel
theorem dX9_look_22 : decode cX9_look 22 = .ok (.istore_n 3, 1) := by decide +kernel
theorem dX9_look_23 : decode cX9_look 23 = .ok (.ldc 146, 2) := by decide +kernel
theorem dX9_look_25 : decode cX9_look 25 = .ok (.istore 4, 2) := by decide +kernel
theorem dX9_look_27 : decode cX9_look 27 = .ok (.iconst 0, 1) := by decide +kernel
theorem dX9_look_28 : decode cX9_look 28 = .ok (.istore 5, 2) := by decide +kernel
theorem dX9_look_30 : decode cX9_look 30 = .ok (.iload 5, 2) := by decide +kernel
theorem dX9_look_32 : decode cX9_look 32 = .ok (.bipush 6, 2) := by decide +kernel
theorem dX9_look_34 : decode cX9_look 34 = .ok (.if_icmp .ge 116, 3) := by decide +kernel
theorem dX9_look_37 : decode cX9_look 37 = .ok (.iload_n 2, 1) := by decide +kernel
theorem dX9_look_38 : decode cX9_look 38 = .ok (.ifCond .le 112, 3) := by decide +kernel
theorem dX9_look_41 : decode cX9_look 41 = .ok (.iconst 0, 1) := by decide +kernel
theorem dX9_look_42 : decode cX9_look 42 = .ok (.istore 6, 2) := by decide +kernel
theorem dX9_look_44 : decode cX9_look 44 = .ok (.iload 6, 2) := by decide +kernel
theorem dX9_look_46 : decode cX9_look 46 = .ok (.bipush 21, 2) := by decide +kernel
theorem dX9_look_48 : decode cX9_look 48 = .ok (.if_icmp .ge 96, 3) := by decide +kernel
theorem dX9_look_51 : decode cX9_look 51 = .ok (.iconst 0, 1) := by decide +kernel
theorem dX9_look_52 : decode cX9_look 52 = .ok (.istore 7, 2) := by decide +kernel
theorem dX9_look_54 : decode cX9_look 54 = .ok (.iload 7, 2) := by decide +kernel
theorem dX9_look_56 : decode cX9_look 56 = .ok (.bipush 6, 2) := by decide +kernel
theorem dX9_look_58 : decode cX9_look 58 = .ok (.if_icmp .ge 37, 3) := by decide +kernel
theorem dX9_look_61 : decode cX9_look 61 = .ok (.aload_n 0, 1) := by decide +kernel
theorem dX9_look_62 : decode cX9_look 62 = .ok (.getfield 54, 3) := by decide +kernel
theorem dX9_look_65 : decode cX9_look 65 = .ok (.iload 7, 2) := by decide +kernel
theorem dX9_look_67 : decode cX9_look 67 = .ok (.iload 7, 2) := by decide +kernel
theorem dX9_look_69 : decode cX9_look 69 = .ok (.aload_n 0, 1) := by decide +kernel
theorem dX9_look_70 : decode cX9_look 70 = .ok (.getfield 7, 3) := by decide +kernel
theorem dX9_look_73 : decode cX9_look 73 = .ok (.bipush 24, 2) := by decide +kernel
theorem dX9_look_75 : decode cX9_look 75 = .ok (.iload_n 1, 1) := by decide +kernel
theorem dX9_look_76 : decode cX9_look 76 = .ok (.iadd, 1) := by decide +kernel
theorem dX9_look_77 : decode cX9_look 77 = .ok (.iaload, 1) := by decide +kernel
theorem dX9_look_78 : decode cX9_look 78 = .ok (.iload 6, 2) := by decide +kernel
theorem dX9_look_80 : decode cX9_look 80 = .ok (.bipush 10, 2) := by decide +kernel
theorem dX9_look_82 : decode cX9_look 82 = .ok (.isub, 1) := by decide +kernel
theorem dX9_look_83 : decode cX9_look 83 = .ok (.iload 5, 2) := by decide +kernel
theorem dX9_look_85 : decode cX9_look 85 = .ok (.invokestatic 106, 3) := by decide +kernel
theorem dX9_look_88 : decode cX9_look 88 = .ok (.iastore, 1) := by decide +kernel
theorem dX9_look_89 : decode cX9_look 89 = .ok (.iinc 7 1, 3) := by decide +kernel
theorem dX9_look_92 : decode cX9_look 92 = .ok (.goto (-38), 3) := by decide +kernel
theorem dX9_look_95 : decode cX9_look 95 = .ok (.aload_n 0, 1) := by decide +kernel
theorem dX9_look_96 : decode cX9_look 96 = .ok (.iload_n 2, 1) := by decide +kernel
theorem dX9_look_97 : decode cX9_look 97 = .ok (.invokevirtual 231, 3) := by decide +kernel
theorem dX9_look_100 : decode cX9_look 100 = .ok (.istore 7, 2) := by decide +kernel
theorem dX9_look_102 : decode cX9_look 102 = .ok (.iload 7, 2) := by decide +kernel
theorem dX9_look_104 : decode cX9_look 104 = .ok (.iload 4, 2) := by decide +kernel
theorem dX9_look_106 : decode cX9_look 106 = .ok (.if_icmp .ge 14, 3) := by decide +kernel
theorem dX9_look_109 : decode cX9_look 109 = .ok (.bipush 100, 2) := by decide +kernel
theorem dX9_look_111 : decode cX9_look 111 = .ok (.iload 5, 2) := by decide +kernel
theorem dX9_look_113 : decode cX9_look 113 = .ok (.imul, 1) := by decide +kernel
theorem dX9_look_114 : decode cX9_look 114 = .ok (.iload 6, 2) := by decide +kernel
theorem dX9_look_116 : decode cX9_look 116 = .ok (.iadd, 1) := by decide +kernel
theorem dX9_look_117 : decode cX9_look 117 = .ok (.goto 4, 3) := by decide +kernel
theorem dX9_look_120 : decode cX9_look 120 = .ok (.iload_n 3, 1) := by decide +kernel
theorem dX9_look_121 : decode cX9_look 121 = .ok (.istore_n 3, 1) := by decide +kernel
theorem dX9_look_122 : decode cX9_look 122 = .ok (.iload 7, 2) := by decide +kernel
theorem dX9_look_124 : decode cX9_look 124 = .ok (.iload 4, 2) := by decide +kernel
theorem dX9_look_126 : decode cX9_look 126 = .ok (.if_icmp .ge 8, 3) := by decide +kernel
theorem dX9_look_129 : decode cX9_look 129 = .ok (.iload 7, 2) := by decide +kernel
theorem dX9_look_131 : decode cX9_look 131 = .ok (.goto 5, 3) := by decide +kernel
theorem dX9_look_134 : decode cX9_look 134 = .ok (.iload 4, 2) := by decide +kernel
theorem dX9_look_136 : decode cX9_look 136 = .ok (.istore 4, 2) := by decide +kernel
theorem dX9_look_138 : decode cX9_look 138 = .ok (.iinc 6 1, 3) := by decide +kernel
theorem dX9_look_141 : decode cX9_look 141 = .ok (.goto (-97), 3) := by decide +kernel
theorem dX9_look_144 : decode cX9_look 144 = .ok (.iinc 5 1, 3) := by decide +kernel
theorem dX9_look_147 : decode cX9_look 147 = .ok (.goto (-117), 3) := by decide +kernel
theorem dX9_look_150 : decode cX9_look 150 = .ok (.iload_n 3, 1) := by decide +kernel
theorem dX9_look_151 : decode cX9_look 151 = .ok (.ireturn, 1) := by decide +kernel
theorem dX9_ask_0 : decode cX9_ask 0 = .ok (.iload_n 1, 1) := by decide +kernel
theorem dX9_ask_1 : decode cX9_ask 1 = .ok (.invokestatic 88, 3) := by decide +kernel
theorem dX9_ask_4 : decode cX9_ask 4 = .ok (.ifCond .ne 10, 3) := by decide +kernel
theorem dX9_ask_7 : decode cX9_ask 7 = .ok (.aload_n 0, 1) := by decide +kernel
theorem dX9_ask_8 : decode cX9_ask 8 = .ok (.bipush (-2), 2) := by decide +kernel
theorem dX9_ask_10 : decode cX9_ask 10 = .ok (.invokevirtual 84, 3) := by decide +kernel
theorem dX9_ask_13 : decode cX9_ask 13 = .ok (.ireturn, 1) := by decide +kernel
theorem dX9_ask_14 : decode cX9_ask 14 = .ok (.aload_n 0, 1) := by decide +kernel
theorem dX9_ask_15 : decode cX9_ask 15 = .ok (.iload_n 1, 1) := by decide +kernel
theorem dX9_ask_16 : decode cX9_ask 16 = .ok (.invokevirtual 228, 3) := by decide +kernel
theorem dX9_ask_19 : decode cX9_ask 19 = .ok (.istore_n 2, 1) := by decide +kernel
theorem dX9_ask_20 : decode cX9_ask 20 = .ok (.iconst (-1), 1) := by decide +kernel
theorem dX9_ask_21 : decode cX9_ask 21 = .ok (.istore_n 3, 1) := by decide +kernel
theorem dX9_ask_22 : decode cX9_ask 22 = .ok (.ldc 146, 2) := by decide +kernel
theorem dX9_ask_24 : decode cX9_ask 24 = .ok (.istore 4, 2) := by decide +kernel
theorem dX9_ask_26 : decode cX9_ask 26 = .ok (.iconst 0, 1) := by decide +kernel
theorem dX9_ask_27 : decode cX9_ask 27 = .ok (.istore 5, 2) := by decide +kernel
theorem dX9_ask_29 : decode cX9_ask 29 = .ok (.iload 5, 2) := by decide +kernel
theorem dX9_ask_31 : decode cX9_ask 31 = .ok (.iconst 2, 1) := by decide +kernel
theorem dX9_ask_32 : decode cX9_ask 32 = .ok (.if_icmp .ge 104, 3) := by decide +kernel
theorem dX9_ask_35 : decode cX9_ask 35 = .ok (.iload_n 2, 1) := by decide +kernel
theorem dX9_ask_36 : decode cX9_ask 36 = .ok (.ifCond .le 100, 3) := by decide +kernel
theorem dX9_ask_39 : decode cX9_ask 39 = .ok (.iconst 0, 1) := by decide +kernel
theorem dX9_ask_40 : decode cX9_ask 40 = .ok (.istore 6, 2) := by decide +kernel
theorem dX9_ask_42 : decode cX9_ask 42 = .ok (.iload 6, 2) := by decide +kernel
theorem dX9_ask_44 : decode cX9_ask 44 = .ok (.bipush 41, 2) := by decide +kernel
theorem dX9_ask_46 : decode cX9_ask 46 = .ok (.if_icmp .ge 84, 3) := by decide +kernel
theorem dX9_ask_49 : decode cX9_ask 49 = .ok (.iconst 0, 1) := by decide +kernel
theorem dX9_ask_50 : decode cX9_ask 50 = .ok (.istore 7, 2) := by decide +kernel
theorem dX9_ask_52 : decode cX9_ask 52 = .ok (.iload 7, 2) := by decide +kernel
theorem dX9_ask_54 : decode cX9_ask 54 = .ok (.bipush 6, 2) := by decide +kernel
theorem dX9_ask_56 : decode cX9_ask 56 = .ok (.if_icmp .ge 25, 3) := by decide +kernel
theorem dX9_ask_59 : decode cX9_ask 59 = .ok (.aload_n 0, 1) := by decide +kernel
theorem dX9_ask_60 : decode cX9_ask 60 = .ok (.getfield 54, 3) := by decide +kernel
theorem dX9_ask_63 : decode cX9_ask 63 = .ok (.iload 7, 2) := by decide +kernel
theorem dX9_ask_65 : decode cX9_ask 65 = .ok (.iload 7, 2) := by decide +kernel
theorem dX9_ask_67 : decode cX9_ask 67 = .ok (.iload 6, 2) := by decide +kernel
theorem dX9_ask_69 : decode cX9_ask 69 = .ok (.iload 5, 2) := by decide +kernel
theorem dX9_ask_71 : decode cX9_ask 71 = .ok (.invokestatic 110, 3) := by decide +kernel
theorem dX9_ask_74 : decode cX9_ask 74 = .ok (.iastore, 1) := by decide +kernel
theorem dX9_ask_75 : decode cX9_ask 75 = .ok (.iinc 7 1, 3) := by decide +kernel
theorem dX9_ask_78 : decode cX9_ask 78 = .ok (.goto (-26), 3) := by decide +kernel
theorem dX9_ask_81 : decode cX9_ask 81 = .ok (.aload_n 0, 1) := by decide +kernel
theorem dX9_ask_82 : decode cX9_ask 82 = .ok (.iload_n 2, 1) := by decide +kernel
theorem dX9_ask_83 : decode cX9_ask 83 = .ok (.invokevirtual 231, 3) := by decide +kernel
theorem dX9_ask_86 : decode cX9_ask 86 = .ok (.istore 7, 2) := by decide +kernel
theorem dX9_ask_88 : decode cX9_ask 88 = .ok (.iload 7, 2) := by decide +kernel
theorem dX9_ask_90 : decode cX9_ask 90 = .ok (.iload 4, 2) := by decide +kernel
theorem dX9_ask_92 : decode cX9_ask 92 = .ok (.if_icmp .ge 14, 3) := by decide +kernel
theorem dX9_ask_95 : decode cX9_ask 95 = .ok (.bipush 100, 2) := by decide +kernel
theorem dX9_ask_97 : decode cX9_ask 97 = .ok (.iload 5, 2) := by decide +kernel
theorem dX9_ask_99 : decode cX9_ask 99 = .ok (.imul, 1) := by decide +kernel
theorem dX9_ask_100 : decode cX9_ask 100 = .ok (.iload 6, 2) := by decide +kernel
theorem dX9_ask_102 : decode cX9_ask 102 = .ok (.iadd, 1) := by decide +kernel
theorem dX9_ask_103 : decode cX9_ask 103 = .ok (.goto 4, 3) := by decide +kernel
theorem dX9_ask_106 : decode cX9_ask 106 = .ok (.iload_n 3, 1) := by decide +kernel
theorem dX9_ask_107 : decode cX9_ask 107 = .ok (.istore_n 3, 1) := by decide +kernel
theorem dX9_ask_108 : decode cX9_ask 108 = .ok (.iload 7, 2) := by decide +kernel
theorem dX9_ask_110 : decode cX9_ask 110 = .ok (.iload 4, 2) := by decide +kernel
theorem dX9_ask_112 : decode cX9_ask 112 = .ok (.if_icmp .ge 8, 3) := by decide +kernel
theorem dX9_ask_115 : decode cX9_ask 115 = .ok (.iload 7, 2) := by decide +kernel
theorem dX9_ask_117 : decode cX9_ask 117 = .ok (.goto 5, 3) := by decide +kernel
theorem dX9_ask_120 : decode cX9_ask 120 = .ok (.iload 4, 2) := by decide +kernel
theorem dX9_ask_122 : decode cX9_ask 122 = .ok (.istore 4, 2) := by decide +kernel
theorem dX9_ask_124 : decode cX9_ask 124 = .ok (.iinc 6 1, 3) := by decide +kernel
theorem dX9_ask_127 : decode cX9_ask 127 = .ok (.goto (-85), 3) := by decide +kernel
theorem dX9_ask_130 : decode cX9_ask 130 = .ok (.iinc 5 1, 3) := by decide +kernel
theorem dX9_ask_133 : decode cX9_ask 133 = .ok (.goto (-104), 3) := by decide +kernel
theorem dX9_ask_136 : decode cX9_ask 136 = .ok (.iload_n 3, 1) := by decide +kernel
theorem dX9_ask_137 : decode cX9_ask 137 = .ok (.ireturn, 1) := by decide +kernel
theorem dX9_getsBy_0 : decode cX9_getsBy 0 = .ok (.iload_n 0, 1) := by decide +kernel
theorem dX9_getsBy_1 : decode cX9_getsBy 1 = .ok (.iload_n 1, 1) := by decide +kernel
theorem dX9_getsBy_2 : decode cX9_getsBy 2 = .ok (.iadd, 1) := by decide +kernel
theorem dX9_getsBy_3 : decode cX9_getsBy 3 = .ok (.bipush 10, 2) := by decide +kernel
theorem dX9_getsBy_5 : decode cX9_getsBy 5 = .ok (.if_icmp .lt 7, 3) := by decide +kernel
theorem dX9_getsBy_8 : decode cX9_getsBy 8 = .ok (.iload_n 2, 1) := by decide +kernel
theorem dX9_getsBy_9 : decode cX9_getsBy 9 = .ok (.goto 8, 3) := by decide +kernel
theorem dX9_getsBy_12 : decode cX9_getsBy 12 = .ok (.iconst 5, 1) := by decide +kernel
theorem dX9_getsBy_13 : decode cX9_getsBy 13 = .ok (.iload_n 1, 1) := by decide +kernel
theorem dX9_getsBy_14 : decode cX9_getsBy 14 = .ok (.iadd, 1) := by decide +kernel
theorem dX9_getsBy_15 : decode cX9_getsBy 15 = .ok (.iload_n 0, 1) := by decide +kernel
theorem dX9_getsBy_16 : decode cX9_getsBy 16 = .ok (.isub, 1) := by decide +kernel
theorem dX9_getsBy_17 : decode cX9_getsBy 17 = .ok (.ireturn, 1) := by decide +kernel
theorem dX9_isBest_0 : decode cX9_isBest 0 = .ok (.iconst 1, 1) := by decide +kernel
theorem dX9_isBest_1 : decode cX9_isBest 1 = .ok (.istore_n 3, 1) := by decide +kernel
theorem dX9_isBest_2 : decode cX9_isBest 2 = .ok (.iconst 0, 1) := by decide +kernel
theorem dX9_isBest_3 : decode cX9_isBest 3 = .ok (.istore 4, 2) := by decide +kernel
theorem dX9_isBest_5 : decode cX9_isBest 5 = .ok (.iload 4, 2) := by decide +kernel
theorem dX9_isBest_7 : decode cX9_isBest 7 = .ok (.bipush 10, 2) := by decide +kernel
theorem dX9_isBest_9 : decode cX9_isBest 9 = .ok (.if_icmp .ge 35, 3) := by decide +kernel
theorem dX9_isBest_12 : decode cX9_isBest 12 = .ok (.iload_n 3, 1) := by decide +kernel
theorem dX9_isBest_13 : decode cX9_isBest 13 = .ok (.ifCond .eq 31, 3) := by decide +kernel
theorem dX9_isBest_16 : decode cX9_isBest 16 = .ok (.iload 4, 2) := by decide +kernel
theorem dX9_isBest_18 : decode cX9_isBest 18 = .ok (.iload_n 1, 1) := by decide +kernel
theorem dX9_isBest_19 : decode cX9_isBest 19 = .ok (.iload_n 2, 1) := by decide +kernel
theorem dX9_isBest_20 : decode cX9_isBest 20 = .ok (.invokestatic 234, 3) := by decide +kernel
theorem dX9_isBest_23 : decode cX9_isBest 23 = .ok (.iload_n 0, 1) := by decide +kernel
theorem dX9_isBest_24 : decode cX9_isBest 24 = .ok (.iload_n 1, 1) := by decide +kernel
theorem dX9_isBest_25 : decode cX9_isBest 25 = .ok (.iload_n 2, 1) := by decide +kernel
theorem dX9_isBest_26 : decode cX9_isBest 26 = .ok (.invokestatic 234, 3) := by decide +kernel
theorem dX9_isBest_29 : decode cX9_isBest 29 = .ok (.if_icmp .gt 7, 3) := by decide +kernel
theorem dX9_isBest_32 : decode cX9_isBest 32 = .ok (.iconst 1, 1) := by decide +kernel
theorem dX9_isBest_33 : decode cX9_isBest 33 = .ok (.goto 4, 3) := by decide +kernel
theorem dX9_isBest_36 : decode cX9_isBest 36 = .ok (.iconst 0, 1) := by decide +kernel
theorem dX9_isBest_37 : decode cX9_isBest 37 = .ok (.istore_n 3, 1) := by decide +kernel
theorem dX9_isBest_38 : decode cX9_isBest 38 = .ok (.iinc 4 1, 3) := by decide +kernel
theorem dX9_isBest_41 : decode cX9_isBest 41 = .ok (.goto (-36), 3) := by decide +kernel
theorem dX9_isBest_44 : decode cX9_isBest 44 = .ok (.iload_n 3, 1) := by decide +kernel
theorem dX9_isBest_45 : decode cX9_isBest 45 = .ok (.ireturn, 1) := by decide +kernel
theorem dX9_settle_0 : decode cX9_settle 0 = .ok (.iload_n 1, 1) := by decide +kernel
theorem dX9_settle_1 : decode cX9_settle 1 = .ok (.iconst (-1), 1) := by decide +kernel
theorem dX9_settle_2 : decode cX9_settle 2 = .ok (.if_icmp .ge 10, 3) := by decide +kernel
theorem dX9_settle_5 : decode cX9_settle 5 = .ok (.aload_n 0, 1) := by decide +kernel
theorem dX9_settle_6 : decode cX9_settle 6 = .ok (.bipush (-10), 2) := by decide +kernel
theorem dX9_settle_8 : decode cX9_settle 8 = .ok (.invokevirtual 84, 3) := by decide +kernel
theorem dX9_settle_11 : decode cX9_settle 11 = .ok (.ireturn, 1) := by decide +kernel
theorem dX9_settle_12 : decode cX9_settle 12 = .ok (.aload_n 0, 1) := by decide +kernel
theorem dX9_settle_13 : decode cX9_settle 13 = .ok (.invokevirtual 182, 3) := by decide +kernel
theorem dX9_settle_16 : decode cX9_settle 16 = .ok (.istore_n 2, 1) := by decide +kernel
theorem dX9_settle_17 : decode cX9_settle 17 = .ok (.iconst 0, 1) := by decide +kernel
theorem dX9_settle_18 : decode cX9_settle 18 = .ok (.istore_n 3, 1) := by decide +kernel
theorem dX9_settle_19 : decode cX9_settle 19 = .ok (.iconst 0, 1) := by decide +kernel
theorem dX9_settle_20 : decode cX9_settle 20 = .ok (.istore 4, 2) := by decide +kernel
theorem dX9_settle_22 : decode cX9_settle 22 = .ok (.iload 4, 2) := by decide +kernel
theorem dX9_settle_24 : decode cX9_settle 24 = .ok (.bipush 100, 2) := by decide +kernel
theorem dX9_settle_26 : decode cX9_settle 26 = .ok (.if_icmp .ge 55, 3) := by decide +kernel
theorem dX9_settle_29 : decode cX9_settle 29 = .ok (.iload 4, 2) := by decide +kernel
theorem dX9_settle_31 : decode cX9_settle 31 = .ok (.bipush 10, 2) := by decide +kernel
theorem dX9_settle_33 : decode cX9_settle 33 = .ok (.idiv, 1) := by decide +kernel
theorem dX9_settle_34 : decode cX9_settle 34 = .ok (.iload 4, 2) := by decide +kernel
theorem dX9_settle_36 : decode cX9_settle 36 = .ok (.bipush 10, 2) := by decide +kernel
theorem dX9_settle_38 : decode cX9_settle 38 = .ok (.irem, 1) := by decide +kernel
theorem dX9_settle_39 : decode cX9_settle 39 = .ok (.iload_n 2, 1) := by decide +kernel
theorem dX9_settle_40 : decode cX9_settle 40 = .ok (.invokestatic 237, 3) := by decide +kernel
theorem dX9_settle_43 : decode cX9_settle 43 = .ok (.ifCond .eq 32, 3) := by decide +kernel
theorem dX9_settle_46 : decode cX9_settle 46 = .ok (.iload 4, 2) := by decide +kernel
theorem dX9_settle_48 : decode cX9_settle 48 = .ok (.bipush 10, 2) := by decide +kernel
theorem dX9_settle_50 : decode cX9_settle 50 = .ok (.irem, 1) := by decide +kernel
theorem dX9_settle_51 : decode cX9_settle 51 = .ok (.iload 4, 2) := by decide +kernel
theorem dX9_settle_53 : decode cX9_settle 53 = .ok (.bipush 10, 2) := by decide +kernel
theorem dX9_settle_55 : decode cX9_settle 55 = .ok (.idiv, 1) := by decide +kernel
theorem dX9_settle_56 : decode cX9_settle 56 = .ok (.iload_n 2, 1) := by decide +kernel
theorem dX9_settle_57 : decode cX9_settle 57 = .ok (.ineg, 1) := by decide +kernel
theorem dX9_settle_58 : decode cX9_settle 58 = .ok (.invokestatic 237, 3) := by decide +kernel
theorem dX9_settle_61 : decode cX9_settle 61 = .ok (.ifCond .eq 14, 3) := by decide +kernel
theorem dX9_settle_64 : decode cX9_settle 64 = .ok (.iload_n 3, 1) := by decide +kernel
theorem dX9_settle_65 : decode cX9_settle 65 = .ok (.iload_n 1, 1) := by decide +kernel
theorem dX9_settle_66 : decode cX9_settle 66 = .ok (.if_icmp .ne 6, 3) := by decide +kernel
theorem dX9_settle_69 : decode cX9_settle 69 = .ok (.iload 4, 2) := by decide +kernel
theorem dX9_settle_71 : decode cX9_settle 71 = .ok (.ireturn, 1) := by decide +kernel
theorem dX9_settle_72 : decode cX9_settle 72 = .ok (.iinc 3 1, 3) := by decide +kernel
theorem dX9_settle_75 : decode cX9_settle 75 = .ok (.iinc 4 1, 3) := by decide +kernel
theorem dX9_settle_78 : decode cX9_settle 78 = .ok (.goto (-56), 3) := by decide +kernel
theorem dX9_settle_81 : decode cX9_settle 81 = .ok (.iload_n 1, 1) := by decide +kernel
theorem dX9_settle_82 : decode cX9_settle 82 = .ok (.iconst (-1), 1) := by decide +kernel
theorem dX9_settle_83 : decode cX9_settle 83 = .ok (.if_icmp .ne 7, 3) := by decide +kernel
theorem dX9_settle_86 : decode cX9_settle 86 = .ok (.iload_n 3, 1) := by decide +kernel
theorem dX9_settle_87 : decode cX9_settle 87 = .ok (.goto 5, 3) := by decide +kernel
theorem dX9_settle_90 : decode cX9_settle 90 = .ok (.bipush (-5), 2) := by decide +kernel
theorem dX9_settle_92 : decode cX9_settle 92 = .ok (.ireturn, 1) := by decide +kernel
theorem dX9_fraction_0 : decode cX9_fraction 0 = .ok (.lload_n 1, 1) := by decide +kernel
theorem dX9_fraction_1 : decode cX9_fraction 1 = .ok (.lstore 5, 2) := by decide +kernel
theorem dX9_fraction_3 : decode cX9_fraction 3 = .ok (.lload_n 3, 1) := by decide +kernel
theorem dX9_fraction_4 : decode cX9_fraction 4 = .ok (.lstore 7, 2) := by decide +kernel
theorem dX9_fraction_6 : decode cX9_fraction 6 = .ok (.lload 7, 2) := by decide +kernel
theorem dX9_fraction_8 : decode cX9_fraction 8 = .ok (.lconst 0, 1) := by decide +kernel
theorem dX9_fraction_9 : decode cX9_fraction 9 = .ok (.lcmp, 1) := by decide +kernel
theorem dX9_fraction_10 : decode cX9_fraction 10 = .ok (.ifCond .eq 21, 3) := by decide +kernel
theorem dX9_fraction_13 : decode cX9_fraction 13 = .ok (.lload 5, 2) := by decide +kernel
theorem dX9_fraction_15 : decode cX9_fraction 15 = .ok (.lload 7, 2) := by decide +kernel
theorem dX9_fraction_17 : decode cX9_fraction 17 = .ok (.lrem, 1) := by decide +kernel
theorem dX9_fraction_18 : decode cX9_fraction 18 = .ok (.lstore 9, 2) := by decide +kernel
theorem dX9_fraction_20 : decode cX9_fraction 20 = .ok (.lload 7, 2) := by decide +kernel
theorem dX9_fraction_22 : decode cX9_fraction 22 = .ok (.lstore 5, 2) := by decide +kernel
theorem dX9_fraction_24 : decode cX9_fraction 24 = .ok (.lload 9, 2) := by decide +kernel
theorem dX9_fraction_26 : decode cX9_fraction 26 = .ok (.lstore 7, 2) := by decide +kernel
theorem dX9_fraction_28 : decode cX9_fraction 28 = .ok (.goto (-22), 3) := by decide +kernel
theorem dX9_fraction_31 : decode cX9_fraction 31 = .ok (.aload_n 0, 1) := by decide +kernel
theorem dX9_fraction_32 : decode cX9_fraction 32 = .ok (.lload_n 1, 1) := by decide +kernel
theorem dX9_fraction_33 : decode cX9_fraction 33 = .ok (.lload 5, 2) := by decide +kernel
theorem dX9_fraction_35 : decode cX9_fraction 35 = .ok (.ldiv, 1) := by decide +kernel
theorem dX9_fraction_36 : decode cX9_fraction 36 = .ok (.putfield 241, 3) := by decide +kernel
theorem dX9_fraction_39 : decode cX9_fraction 39 = .ok (.aload_n 0, 1) := by decide +kernel
theorem dX9_fraction_40 : decode cX9_fraction 40 = .ok (.lload_n 3, 1) := by decide +kernel
theorem dX9_fraction_41 : decode cX9_fraction 41 = .ok (.lload 5, 2) := by decide +kernel
theorem dX9_fraction_43 : decode cX9_fraction 43 = .ok (.ldiv, 1) := by decide +kernel
theorem dX9_fraction_44 : decode cX9_fraction 44 = .ok (.putfield 23, 3) := by decide +kernel
theorem dX9_fraction_47 : decode cX9_fraction 47 = .ok (.return_, 1) := by decide +kernel
theorem dX9_isWon_0 : decode cX9_isWon 0 = .ok (.aload_n 0, 1) := by decide +kernel
theorem dX9_isWon_1 : decode cX9_isWon 1 = .ok (.getfield 188, 3) := by decide +kernel
theorem dX9_isWon_4 : decode cX9_isWon 4 = .ok (.ifCond .ne 18, 3) := by decide +kernel
theorem dX9_isWon_7 : decode cX9_isWon 7 = .ok (.aload_n 0, 1) := by decide +kernel
theorem dX9_isWon_8 : decode cX9_isWon 8 = .ok (.getfield 191, 3) := by decide +kernel
theorem dX9_isWon_11 : decode cX9_isWon 11 = .ok (.ifCond .le 7, 3) := by decide +kernel
theorem dX9_isWon_14 : decode cX9_isWon 14 = .ok (.iconst 1, 1) := by decide +kernel
theorem dX9_isWon_15 : decode cX9_isWon 15 = .ok (.goto 19, 3) := by decide +kernel
theorem dX9_isWon_18 : decode cX9_isWon 18 = .ok (.iconst 0, 1) := by decide +kernel
theorem dX9_isWon_19 : decode cX9_isWon 19 = .ok (.goto 15, 3) := by decide +kernel
theorem dX9_isWon_22 : decode cX9_isWon 22 = .ok (.aload_n 0, 1) := by decide +kernel
theorem dX9_isWon_23 : decode cX9_isWon 23 = .ok (.getfield 191, 3) := by decide +kernel
theorem dX9_isWon_26 : decode cX9_isWon 26 = .ok (.ifCond .gt 7, 3) := by decide +kernel
theorem dX9_isWon_29 : decode cX9_isWon 29 = .ok (.iconst 1, 1) := by decide +kernel
theorem dX9_isWon_30 : decode cX9_isWon 30 = .ok (.goto 4, 3) := by decide +kernel
theorem dX9_isWon_33 : decode cX9_isWon 33 = .ok (.iconst 0, 1) := by decide +kernel
theorem dX9_isWon_34 : decode cX9_isWon 34 = .ok (.ireturn, 1) := by decide +kernel
theorem dX9_hearings_0 : decode cX9_hearings 0 = .ok (.iload_n 1, 1) := by decide +kernel
theorem dX9_hearings_1 : decode cX9_hearings 1 = .ok (.i2l, 1) := by decide +kernel
theorem dX9_hearings_2 : decode cX9_hearings 2 = .ok (.lconst 0, 1) := by decide +kernel
theorem dX9_hearings_3 : decode cX9_hearings 3 = .ok (.ldc2_w 244, 3) := by decide +kernel
theorem dX9_hearings_6 : decode cX9_hearings 6 = .ok (.invokestatic 74, 3) := by decide +kernel
theorem dX9_hearings_9 : decode cX9_hearings 9 = .ok (.ifCond .ne 10, 3) := by decide +kernel
theorem dX9_hearings_12 : decode cX9_hearings 12 = .ok (.aload_n 0, 1) := by decide +kernel
theorem dX9_hearings_13 : decode cX9_hearings 13 = .ok (.bipush (-2), 2) := by decide +kernel
theorem dX9_hearings_15 : decode cX9_hearings 15 = .ok (.invokevirtual 84, 3) := by decide +kernel
theorem dX9_hearings_18 : decode cX9_hearings 18 = .ok (.ireturn, 1) := by decide +kernel
theorem dX9_hearings_19 : decode cX9_hearings 19 = .ok (.lconst 0, 1) := by decide +kernel
theorem dX9_hearings_20 : decode cX9_hearings 20 = .ok (.lstore_n 2, 1) := by decide +kernel
theorem dX9_hearings_21 : decode cX9_hearings 21 = .ok (.lconst 1, 1) := by decide +kernel
theorem dX9_hearings_22 : decode cX9_hearings 22 = .ok (.lstore 4, 2) := by decide +kernel
theorem dX9_hearings_24 : decode cX9_hearings 24 = .ok (.iconst 0, 1) := by decide +kernel
theorem dX9_hearings_25 : decode cX9_hearings 25 = .ok (.istore 6, 2) := by decide +kernel
theorem dX9_hearings_27 : decode cX9_hearings 27 = .ok (.iload 6, 2) := by decide +kernel
theorem dX9_hearings_29 : decode cX9_hearings 29 = .ok (.aload_n 0, 1) := by decide +kernel
theorem dX9_hearings_30 : decode cX9_hearings 30 = .ok (.invokevirtual 137, 3) := by decide +kernel
theorem dX9_hearings_33 : decode cX9_hearings 33 = .ok (.invokestatic 197, 3) := by decide +kernel
theorem dX9_hearings_36 : decode cX9_hearings 36 = .ok (.if_icmp .ge 17, 3) := by decide +kernel
theorem dX9_hearings_39 : decode cX9_hearings 39 = .ok (.lload 4, 2) := by decide +kernel
theorem dX9_hearings_41 : decode cX9_hearings 41 = .ok (.ldc2_w 244, 3) := by decide +kernel
theorem dX9_hearings_44 : decode cX9_hearings 44 = .ok (.lmul, 1) := by decide +kernel
theorem dX9_hearings_45 : decode cX9_hearings 45 = .ok (.lstore 4, 2) := by decide +kernel
theorem dX9_hearings_47 : decode cX9_hearings 47 = .ok (.iinc 6 1, 3) := by decide +kernel
theorem dX9_hearings_50 : decode cX9_hearings 50 = .ok (.goto (-23), 3) := by decide +kernel
theorem dX9_hearings_53 : decode cX9_hearings 53 = .ok (.iconst 0, 1) := by decide +kernel
theorem dX9_hearings_54 : decode cX9_hearings 54 = .ok (.istore 6, 2) := by decide +kernel
theorem dX9_hearings_56 : decode cX9_hearings 56 = .ok (.iload 6, 2) := by decide +kernel
theorem dX9_hearings_58 : decode cX9_hearings 58 = .ok (.iconst 1, 1) := by decide +kernel
theorem dX9_hearings_59 : decode cX9_hearings 59 = .ok (.aload_n 0, 1) := by decide +kernel
theorem dX9_hearings_60 : decode cX9_hearings 60 = .ok (.invokevirtual 70, 3) := by decide +kernel
theorem dX9_hearings_63 : decode cX9_hearings 63 = .ok (.ishl, 1) := by decide +kernel
theorem dX9_hearings_64 : decode cX9_hearings 64 = .ok (.if_icmp .ge 162, 3) := by decide +kernel
theorem dX9_hearings_67 : decode cX9_hearings 67 = .ok (.iload 6, 2) := by decide +kernel
theorem dX9_hearings_69 : decode cX9_hearings 69 = .ok (.aload_n 0, 1) := by decide +kernel
theorem dX9_hearings_70 : decode cX9_hearings 70 = .ok (.getfield 7, 3) := by decide +kernel
theorem dX9_hearings_73 : decode cX9_hearings 73 = .ok (.iconst 5, 1) := by decide +kernel
theorem dX9_hearings_74 : decode cX9_hearings 74 = .ok (.iaload, 1) := by decide +kernel
theorem dX9_hearings_75 : decode cX9_hearings 75 = .ok (.iand, 1) := by decide +kernel
theorem dX9_hearings_76 : decode cX9_hearings 76 = .ok (.ifCond .ne 7, 3) := by decide +kernel
theorem dX9_hearings_79 : decode cX9_hearings 79 = .ok (.lconst 1, 1) := by decide +kernel
theorem dX9_hearings_80 : decode cX9_hearings 80 = .ok (.goto 4, 3) := by decide +kernel
theorem dX9_hearings_83 : decode cX9_hearings 83 = .ok (.lconst 0, 1) := by decide +kernel
theorem dX9_hearings_84 : decode cX9_hearings 84 = .ok (.lstore 7, 2) := by decide +kernel
theorem dX9_hearings_86 : decode cX9_hearings 86 = .ok (.aload_n 0, 1) := by decide +kernel
theorem dX9_hearings_87 : decode cX9_hearings 87 = .ok (.invokevirtual 200, 3) := by decide +kernel
theorem dX9_hearings_90 : decode cX9_hearings 90 = .ok (.iconst 0, 1) := by decide +kernel
theorem dX9_hearings_91 : decode cX9_hearings 91 = .ok (.istore 9, 2) := by decide +kernel
theorem dX9_hearings_93 : decode cX9_hearings 93 = .ok (.iload 9, 2) := by decide +kernel
theorem dX9_hearings_95 : decode cX9_hearings 95 = .ok (.aload_n 0, 1) := by decide +kernel
theorem dX9_hearings_96 : decode cX9_hearings 96 = .ok (.invokevirtual 70, 3) := by decide +kernel
theorem dX9_hearings_99 : decode cX9_hearings 99 = .ok (.if_icmp .ge 105, 3) := by decide +kernel
theorem dX9_hearings_102 : decode cX9_hearings 102 = .ok (.lload 7, 2) := by decide +kernel
theorem dX9_hearings_104 : decode cX9_hearings 104 = .ok (.lconst 0, 1) := by decide +kernel
theorem dX9_hearings_105 : decode cX9_hearings 105 = .ok (.lcmp, 1) := by decide +kernel
theorem dX9_hearings_106 : decode cX9_hearings 106 = .ok (.ifCond .le 98, 3) := by decide +kernel
theorem dX9_hearings_109 : decode cX9_hearings 109 = .ok (.aload_n 0, 1) := by decide +kernel
theorem dX9_hearings_110 : decode cX9_hearings 110 = .ok (.getfield 7, 3) := by decide +kernel
theorem dX9_hearings_113 : decode cX9_hearings 113 = .ok (.iconst 5, 1) := by decide +kernel
theorem dX9_hearings_114 : decode cX9_hearings 114 = .ok (.iaload, 1) := by decide +kernel
theorem dX9_hearings_115 : decode cX9_hearings 115 = .ok (.iload 9, 2) := by decide +kernel
theorem dX9_hearings_117 : decode cX9_hearings 117 = .ok (.invokestatic 120, 3) := by decide +kernel
theorem dX9_hearings_120 : decode cX9_hearings 120 = .ok (.ifCond .ne 78, 3) := by decide +kernel
theorem dX9_hearings_123 : decode cX9_hearings 123 = .ok (.aload_n 0, 1) := by decide +kernel
theorem dX9_hearings_124 : decode cX9_hearings 124 = .ok (.iload 9, 2) := by decide +kernel
theorem dX9_hearings_126 : decode cX9_hearings 126 = .ok (.invokevirtual 203, 3) := by decide +kernel
theorem dX9_hearings_129 : decode cX9_hearings 129 = .ok (.iload 6, 2) := by decide +kernel
theorem dX9_hearings_131 : decode cX9_hearings 131 = .ok (.iload 9, 2) := by decide +kernel
theorem dX9_hearings_133 : decode cX9_hearings 133 = .ok (.invokestatic 120, 3) := by decide +kernel
theorem dX9_hearings_136 : decode cX9_hearings 136 = .ok (.istore 10, 2) := by decide +kernel
theorem dX9_hearings_138 : decode cX9_hearings 138 = .ok (.lload 7, 2) := by decide +kernel
theorem dX9_hearings_140 : decode cX9_hearings 140 = .ok (.aload_n 0, 1) := by decide +kernel
theorem dX9_hearings_141 : decode cX9_hearings 141 = .ok (.iload 9, 2) := by decide +kernel
theorem dX9_hearings_143 : decode cX9_hearings 143 = .ok (.invokevirtual 210, 3) := by decide +kernel
theorem dX9_hearings_146 : decode cX9_hearings 146 = .ok (.ifCond .ne 18, 3) := by decide +kernel
theorem dX9_hearings_149 : decode cX9_hearings 149 = .ok (.iload 10, 2) := by decide +kernel
theorem dX9_hearings_151 : decode cX9_hearings 151 = .ok (.ifCond .eq 7, 3) := by decide +kernel
theorem dX9_hearings_154 : decode cX9_hearings 154 = .ok (.lconst 0, 1) := by decide +kernel
theorem dX9_hearings_155 : decode cX9_hearings 155 = .ok (.goto 24, 3) := by decide +kernel
theorem dX9_hearings_158 : decode cX9_hearings 158 = .ok (.ldc2_w 244, 3) := by decide +kernel
theorem dX9_hearings_161 : decode cX9_hearings 161 = .ok (.goto 18, 3) := by decide +kernel
theorem dX9_hearings_164 : decode cX9_hearings 164 = .ok (.iload 10, 2) := by decide +kernel
theorem dX9_hearings_166 : decode cX9_hearings 166 = .ok (.ifCond .eq 8, 3) := by decide +kernel
theorem dX9_hearings_169 : decode cX9_hearings 169 = .ok (.iload_n 1, 1) := by decide +kernel
theorem dX9_hearings_170 : decode cX9_hearings 170 = .ok (.i2l, 1) := by decide +kernel
theorem dX9_hearings_171 : decode cX9_hearings 171 = .ok (.goto 8, 3) := by decide +kernel
theorem dX9_hearings_174 : decode cX9_hearings 174 = .ok (.bipush 10, 2) := by decide +kernel
theorem dX9_hearings_176 : decode cX9_hearings 176 = .ok (.iload_n 1, 1) := by decide +kernel
theorem dX9_hearings_177 : decode cX9_hearings 177 = .ok (.isub, 1) := by decide +kernel
theorem dX9_hearings_178 : decode cX9_hearings 178 = .ok (.i2l, 1) := by decide +kernel
theorem dX9_hearings_179 : decode cX9_hearings 179 = .ok (.lmul, 1) := by decide +kernel
theorem dX9_hearings_180 : decode cX9_hearings 180 = .ok (.lstore 7, 2) := by decide +kernel
theorem dX9_hearings_182 : decode cX9_hearings 182 = .ok (.iload 10, 2) := by decide +kernel
theorem dX9_hearings_184 : decode cX9_hearings 184 = .ok (.ifCond .eq 14, 3) := by decide +kernel
theorem dX9_hearings_187 : decode cX9_hearings 187 = .ok (.lload 7, 2) := by decide +kernel
theorem dX9_hearings_189 : decode cX9_hearings 189 = .ok (.lconst 0, 1) := by decide +kernel
theorem dX9_hearings_190 : decode cX9_hearings 190 = .ok (.lcmp, 1) := by decide +kernel
theorem dX9_hearings_191 : decode cX9_hearings 191 = .ok (.ifCond .le 7, 3) := by decide +kernel
theorem dX9_hearings_194 : decode cX9_hearings 194 = .ok (.aload_n 0, 1) := by decide +kernel
theorem dX9_hearings_195 : decode cX9_hearings 195 = .ok (.invokevirtual 213, 3) := by decide +kernel
theorem dX9_hearings_198 : decode cX9_hearings 198 = .ok (.iinc 9 1, 3) := by decide +kernel
theorem dX9_hearings_201 : decode cX9_hearings 201 = .ok (.goto (-108), 3) := by decide +kernel
theorem dX9_hearings_204 : decode cX9_hearings 204 = .ok (.lload_n 2, 1) := by decide +kernel
theorem dX9_hearings_205 : decode cX9_hearings 205 = .ok (.aload_n 0, 1) := by decide +kernel
theorem dX9_hearings_206 : decode cX9_hearings 206 = .ok (.invokevirtual 246, 3) := by decide +kernel
theorem dX9_hearings_209 : decode cX9_hearings 209 = .ok (.ifCond .eq 8, 3) := by decide +kernel
theorem dX9_hearings_212 : decode cX9_hearings 212 = .ok (.lload 7, 2) := by decide +kernel
theorem dX9_hearings_214 : decode cX9_hearings 214 = .ok (.goto 4, 3) := by decide +kernel
theorem dX9_hearings_217 : decode cX9_hearings 217 = .ok (.lconst 0, 1) := by decide +kernel
theorem dX9_hearings_218 : decode cX9_hearings 218 = .ok (.ladd, 1) := by decide +kernel
theorem dX9_hearings_219 : decode cX9_hearings 219 = .ok (.lstore_n 2, 1) := by decide +kernel
theorem dX9_hearings_220 : decode cX9_hearings 220 = .ok (.iinc 6 1, 3) := by decide +kernel
theorem dX9_hearings_223 : decode cX9_hearings 223 = .ok (.goto (-167), 3) := by decide +kernel
theorem dX9_hearings_226 : decode cX9_hearings 226 = .ok (.aload_n 0, 1) := by decide +kernel
theorem dX9_hearings_227 : decode cX9_hearings 227 = .ok (.lload_n 2, 1) := by decide +kernel
theorem dX9_hearings_228 : decode cX9_hearings 228 = .ok (.lload 4, 2) := by decide +kernel
theorem dX9_hearings_230 : decode cX9_hearings 230 = .ok (.invokevirtual 249, 3) := by decide +kernel
theorem dX9_hearings_233 : decode cX9_hearings 233 = .ok (.iconst 1, 1) := by decide +kernel
theorem dX9_hearings_234 : decode cX9_hearings 234 = .ok (.ireturn, 1) := by decide +kernel
theorem dX9_days_0 : decode cX9_days 0 = .ok (.iload_n 1, 1) := by decide +kernel
theorem dX9_days_1 : decode cX9_days 1 = .ok (.i2l, 1) := by decide +kernel
theorem dX9_days_2 : decode cX9_days 2 = .ok (.lconst 0, 1) := by decide +kernel
theorem dX9_days_3 : decode cX9_days 3 = .ok (.ldc2_w 253, 3) := by decide +kernel
theorem dX9_days_6 : decode cX9_days 6 = .ok (.invokestatic 74, 3) := by decide +kernel
theorem dX9_days_9 : decode cX9_days 9 = .ok (.ifCond .eq 15, 3) := by decide +kernel
theorem dX9_days_12 : decode cX9_days 12 = .ok (.iload_n 2, 1) := by decide +kernel
theorem dX9_days_13 : decode cX9_days 13 = .ok (.i2l, 1) := by decide +kernel
theorem dX9_days_14 : decode cX9_days 14 = .ok (.lconst 0, 1) := by decide +kernel
theorem dX9_days_15 : decode cX9_days 15 = .ok (.ldc2_w 255, 3) := by decide +kernel
theorem dX9_days_18 : decode cX9_days 18 = .ok (.invokestatic 74, 3) := by decide +kernel
theorem dX9_days_21 : decode cX9_days 21 = .ok (.ifCond .ne 10, 3) := by decide +kernel
theorem dX9_days_24 : decode cX9_days 24 = .ok (.aload_n 0, 1) := by decide +kernel
theorem dX9_days_25 : decode cX9_days 25 = .ok (.bipush (-2), 2) := by decide +kernel
theorem dX9_days_27 : decode cX9_days 27 = .ok (.invokevirtual 84, 3) := by decide +kernel
theorem dX9_days_30 : decode cX9_days 30 = .ok (.ireturn, 1) := by decide +kernel
theorem dX9_days_31 : decode cX9_days 31 = .ok (.iload_n 1, 1) := by decide +kernel
theorem dX9_days_32 : decode cX9_days 32 = .ok (.i2l, 1) := by decide +kernel
theorem dX9_days_33 : decode cX9_days 33 = .ok (.lstore_n 3, 1) := by decide +kernel
theorem dX9_days_34 : decode cX9_days 34 = .ok (.iconst 0, 1) := by decide +kernel
theorem dX9_days_35 : decode cX9_days 35 = .ok (.istore 5, 2) := by decide +kernel
theorem dX9_days_37 : decode cX9_days 37 = .ok (.iconst 0, 1) := by decide +kernel
theorem dX9_days_38 : decode cX9_days 38 = .ok (.istore 6, 2) := by decide +kernel
theorem dX9_days_40 : decode cX9_days 40 = .ok (.iload 6, 2) := by decide +kernel
theorem dX9_days_42 : decode cX9_days 42 = .ok (.iload_n 2, 1) := by decide +kernel
theorem dX9_days_43 : decode cX9_days 43 = .ok (.if_icmp .ge 109, 3) := by decide +kernel
theorem dX9_days_46 : decode cX9_days 46 = .ok (.aload_n 0, 1) := by decide +kernel
theorem dX9_days_47 : decode cX9_days 47 = .ok (.invokevirtual 200, 3) := by decide +kernel
theorem dX9_days_50 : decode cX9_days 50 = .ok (.iconst 0, 1) := by decide +kernel
theorem dX9_days_51 : decode cX9_days 51 = .ok (.istore 7, 2) := by decide +kernel
theorem dX9_days_53 : decode cX9_days 53 = .ok (.iload 7, 2) := by decide +kernel
theorem dX9_days_55 : decode cX9_days 55 = .ok (.aload_n 0, 1) := by decide +kernel
theorem dX9_days_56 : decode cX9_days 56 = .ok (.invokevirtual 70, 3) := by decide +kernel
theorem dX9_days_59 : decode cX9_days 59 = .ok (.if_icmp .ge 70, 3) := by decide +kernel
theorem dX9_days_62 : decode cX9_days 62 = .ok (.aload_n 0, 1) := by decide +kernel
theorem dX9_days_63 : decode cX9_days 63 = .ok (.getfield 7, 3) := by decide +kernel
theorem dX9_days_66 : decode cX9_days 66 = .ok (.iconst 5, 1) := by decide +kernel
theorem dX9_days_67 : decode cX9_days 67 = .ok (.iaload, 1) := by decide +kernel
theorem dX9_days_68 : decode cX9_days 68 = .ok (.iload 7, 2) := by decide +kernel
theorem dX9_days_70 : decode cX9_days 70 = .ok (.invokestatic 120, 3) := by decide +kernel
theorem dX9_days_73 : decode cX9_days 73 = .ok (.ifCond .ne 50, 3) := by decide +kernel
theorem dX9_days_76 : decode cX9_days 76 = .ok (.lload_n 3, 1) := by decide +kernel
theorem dX9_days_77 : decode cX9_days 77 = .ok (.ldc2_w 257, 3) := by decide +kernel
theorem dX9_days_80 : decode cX9_days 80 = .ok (.lmul, 1) := by decide +kernel
theorem dX9_days_81 : decode cX9_days 81 = .ok (.ldc2_w 259, 3) := by decide +kernel
theorem dX9_days_84 : decode cX9_days 84 = .ok (.ladd, 1) := by decide +kernel
theorem dX9_days_85 : decode cX9_days 85 = .ok (.ldc2_w 261, 3) := by decide +kernel
theorem dX9_days_88 : decode cX9_days 88 = .ok (.lrem, 1) := by decide +kernel
theorem dX9_days_89 : decode cX9_days 89 = .ok (.lstore_n 3, 1) := by decide +kernel
theorem dX9_days_90 : decode cX9_days 90 = .ok (.aload_n 0, 1) := by decide +kernel
theorem dX9_days_91 : decode cX9_days 91 = .ok (.iload 7, 2) := by decide +kernel
theorem dX9_days_93 : decode cX9_days 93 = .ok (.invokevirtual 203, 3) := by decide +kernel
theorem dX9_days_96 : decode cX9_days 96 = .ok (.lload_n 3, 1) := by decide +kernel
theorem dX9_days_97 : decode cX9_days 97 = .ok (.ldc2_w 263, 3) := by decide +kernel
theorem dX9_days_100 : decode cX9_days 100 = .ok (.ldiv, 1) := by decide +kernel
theorem dX9_days_101 : decode cX9_days 101 = .ok (.ldc2_w 143, 3) := by decide +kernel
theorem dX9_days_104 : decode cX9_days 104 = .ok (.lrem, 1) := by decide +kernel
theorem dX9_days_105 : decode cX9_days 105 = .ok (.lconst 1, 1) := by decide +kernel
theorem dX9_days_106 : decode cX9_days 106 = .ok (.lcmp, 1) := by decide +kernel
theorem dX9_days_107 : decode cX9_days 107 = .ok (.ifCond .ne 16, 3) := by decide +kernel
theorem dX9_days_110 : decode cX9_days 110 = .ok (.aload_n 0, 1) := by decide +kernel
theorem dX9_days_111 : decode cX9_days 111 = .ok (.iload 7, 2) := by decide +kernel
theorem dX9_days_113 : decode cX9_days 113 = .ok (.invokevirtual 210, 3) := by decide +kernel
theorem dX9_days_116 : decode cX9_days 116 = .ok (.ifCond .eq 7, 3) := by decide +kernel
theorem dX9_days_119 : decode cX9_days 119 = .ok (.aload_n 0, 1) := by decide +kernel
theorem dX9_days_120 : decode cX9_days 120 = .ok (.invokevirtual 213, 3) := by decide +kernel
theorem dX9_days_123 : decode cX9_days 123 = .ok (.iinc 7 1, 3) := by decide +kernel
theorem dX9_days_126 : decode cX9_days 126 = .ok (.goto (-73), 3) := by decide +kernel
theorem dX9_days_129 : decode cX9_days 129 = .ok (.iload 5, 2) := by decide +kernel
theorem dX9_days_131 : decode cX9_days 131 = .ok (.aload_n 0, 1) := by decide +kernel
theorem dX9_days_132 : decode cX9_days 132 = .ok (.invokevirtual 246, 3) := by decide +kernel
theorem dX9_days_135 : decode cX9_days 135 = .ok (.ifCond .eq 7, 3) := by decide +kernel
theorem dX9_days_138 : decode cX9_days 138 = .ok (.iconst 1, 1) := by decide +kernel
theorem dX9_days_139 : decode cX9_days 139 = .ok (.goto 4, 3) := by decide +kernel
theorem dX9_days_142 : decode cX9_days 142 = .ok (.iconst 0, 1) := by decide +kernel
theorem dX9_days_143 : decode cX9_days 143 = .ok (.iadd, 1) := by decide +kernel
theorem dX9_days_144 : decode cX9_days 144 = .ok (.istore 5, 2) := by decide +kernel
theorem dX9_days_146 : decode cX9_days 146 = .ok (.iinc 6 1, 3) := by decide +kernel
theorem dX9_days_149 : decode cX9_days 149 = .ok (.goto (-109), 3) := by decide +kernel
theorem dX9_days_152 : decode cX9_days 152 = .ok (.iload 5, 2) := by decide +kernel
theorem dX9_days_154 : decode cX9_days 154 = .ok (.ireturn, 1) := by decide +kernel
theorem dX9_type_0 : decode cX9_type 0 = .ok (.iload_n 1, 1) := by decide +kernel
theorem dX9_type_1 : decode cX9_type 1 = .ok (.i2l, 1) := by decide +kernel
theorem dX9_type_2 : decode cX9_type 2 = .ok (.lconst 0, 1) := by decide +kernel
theorem dX9_type_3 : decode cX9_type 3 = .ok (.ldc2_w 265, 3) := by decide +kernel
theorem dX9_type_6 : decode cX9_type 6 = .ok (.invokestatic 74, 3) := by decide +kernel
theorem dX9_type_9 : decode cX9_type 9 = .ok (.ifCond .ne 10, 3) := by decide +kernel
theorem dX9_type_12 : decode cX9_type 12 = .ok (.aload_n 0, 1) := by decide +kernel
theorem dX9_type_13 : decode cX9_type 13 = .ok (.bipush (-2), 2) := by decide +kernel
theorem dX9_type_15 : decode cX9_type 15 = .ok (.invokevirtual 84, 3) := by decide +kernel
theorem dX9_type_18 : decode cX9_type 18 = .ok (.ireturn, 1) := by decide +kernel
theorem dX9_type_19 : decode cX9_type 19 = .ok (.aload_n 0, 1) := by decide +kernel
theorem dX9_type_20 : decode cX9_type 20 = .ok (.getfield 267, 3) := by decide +kernel
theorem dX9_type_23 : decode cX9_type 23 = .ok (.sipush 150, 3) := by decide +kernel
theorem dX9_type_26 : decode cX9_type 26 = .ok (.if_icmp .ne 8, 3) := by decide +kernel
theorem dX9_type_29 : decode cX9_type 29 = .ok (.aload_n 0, 1) := by decide +kernel
theorem dX9_type_30 : decode cX9_type 30 = .ok (.invokevirtual 95, 3) := by decide +kernel
theorem dX9_type_33 : decode cX9_type 33 = .ok (.ireturn, 1) := by decide +kernel
theorem dX9_type_34 : decode cX9_type 34 = .ok (.aload_n 0, 1) := by decide +kernel
theorem dX9_type_35 : decode cX9_type 35 = .ok (.getfield 57, 3) := by decide +kernel
theorem dX9_type_38 : decode cX9_type 38 = .ok (.aload_n 0, 1) := by decide +kernel
theorem dX9_type_39 : decode cX9_type 39 = .ok (.getfield 267, 3) := by decide +kernel
theorem dX9_type_42 : decode cX9_type 42 = .ok (.iload_n 1, 1) := by decide +kernel
theorem dX9_type_43 : decode cX9_type 43 = .ok (.iastore, 1) := by decide +kernel
theorem dX9_type_44 : decode cX9_type 44 = .ok (.aload_n 0, 1) := by decide +kernel
theorem dX9_type_45 : decode cX9_type 45 = .ok (.dup, 1) := by decide +kernel
theorem dX9_type_46 : decode cX9_type 46 = .ok (.getfield 267, 3) := by decide +kernel
theorem dX9_type_49 : decode cX9_type 49 = .ok (.iconst 1, 1) := by decide +kernel
theorem dX9_type_50 : decode cX9_type 50 = .ok (.iadd, 1) := by decide +kernel
theorem dX9_type_51 : decode cX9_type 51 = .ok (.putfield 267, 3) := by decide +kernel
theorem dX9_type_54 : decode cX9_type 54 = .ok (.aload_n 0, 1) := by decide +kernel
theorem dX9_type_55 : decode cX9_type 55 = .ok (.getfield 267, 3) := by decide +kernel
theorem dX9_type_58 : decode cX9_type 58 = .ok (.ireturn, 1) := by decide +kernel
theorem dX9_clear_0 : decode cX9_clear 0 = .ok (.aload_n 0, 1) := by decide +kernel
theorem dX9_clear_1 : decode cX9_clear 1 = .ok (.getfield 267, 3) := by decide +kernel
theorem dX9_clear_4 : decode cX9_clear 4 = .ok (.istore_n 1, 1) := by decide +kernel
theorem dX9_clear_5 : decode cX9_clear 5 = .ok (.aload_n 0, 1) := by decide +kernel
theorem dX9_clear_6 : decode cX9_clear 6 = .ok (.iconst 0, 1) := by decide +kernel
theorem dX9_clear_7 : decode cX9_clear 7 = .ok (.putfield 267, 3) := by decide +kernel
theorem dX9_clear_10 : decode cX9_clear 10 = .ok (.iload_n 1, 1) := by decide +kernel
theorem dX9_clear_11 : decode cX9_clear 11 = .ok (.ireturn, 1) := by decide +kernel
theorem dX9_isSmall_0 : decode cX9_isSmall 0 = .ok (.iload_n 0, 1) := by decide +kernel
theorem dX9_isSmall_1 : decode cX9_isSmall 1 = .ok (.i2l, 1) := by decide +kernel
theorem dX9_isSmall_2 : decode cX9_isSmall 2 = .ok (.ldc2_w 270, 3) := by decide +kernel
theorem dX9_isSmall_5 : decode cX9_isSmall 5 = .ok (.ldc2_w 272, 3) := by decide +kernel
theorem dX9_isSmall_8 : decode cX9_isSmall 8 = .ok (.invokestatic 74, 3) := by decide +kernel
theorem dX9_isSmall_11 : decode cX9_isSmall 11 = .ok (.ireturn, 1) := by decide +kernel
theorem dX9_isFigure_0 : decode cX9_isFigure 0 = .ok (.iload_n 0, 1) := by decide +kernel
theorem dX9_isFigure_1 : decode cX9_isFigure 1 = .ok (.i2l, 1) := by decide +kernel
theorem dX9_isFigure_2 : decode cX9_isFigure 2 = .ok (.ldc2_w 274, 3) := by decide +kernel
theorem dX9_isFigure_5 : decode cX9_isFigure 5 = .ok (.ldc2_w 276, 3) := by decide +kernel
theorem dX9_isFigure_8 : decode cX9_isFigure 8 = .ok (.invokestatic 74, 3) := by decide +kernel
theorem dX9_isFigure_11 : decode cX9_isFigure 11 = .ok (.ireturn, 1) := by decide +kernel
theorem dX9_lookAt_0 : decode cX9_lookAt 0 = .ok (.aload_n 0, 1) := by decide +kernel
theorem dX9_lookAt_1 : decode cX9_lookAt 1 = .ok (.iload_n 1, 1) := by decide +kernel
theorem dX9_lookAt_2 : decode cX9_lookAt 2 = .ok (.putfield 278, 3) := by decide +kernel
theorem dX9_lookAt_5 : decode cX9_lookAt 5 = .ok (.aload_n 0, 1) := by decide +kernel
theorem dX9_lookAt_6 : decode cX9_lookAt 6 = .ok (.getfield 278, 3) := by decide +kernel
theorem dX9_lookAt_9 : decode cX9_lookAt 9 = .ok (.aload_n 0, 1) := by decide +kernel
theorem dX9_lookAt_10 : decode cX9_lookAt 10 = .ok (.getfield 267, 3) := by decide +kernel
theorem dX9_lookAt_13 : decode cX9_lookAt 13 = .ok (.if_icmp .ge 30, 3) := by decide +kernel
theorem dX9_lookAt_16 : decode cX9_lookAt 16 = .ok (.aload_n 0, 1) := by decide +kernel
theorem dX9_lookAt_17 : decode cX9_lookAt 17 = .ok (.getfield 57, 3) := by decide +kernel
theorem dX9_lookAt_20 : decode cX9_lookAt 20 = .ok (.aload_n 0, 1) := by decide +kernel
theorem dX9_lookAt_21 : decode cX9_lookAt 21 = .ok (.getfield 278, 3) := by decide +kernel
theorem dX9_lookAt_24 : decode cX9_lookAt 24 = .ok (.iaload, 1) := by decide +kernel
theorem dX9_lookAt_25 : decode cX9_lookAt 25 = .ok (.bipush 32, 2) := by decide +kernel
theorem dX9_lookAt_27 : decode cX9_lookAt 27 = .ok (.if_icmp .ne 16, 3) := by decide +kernel
theorem dX9_lookAt_30 : decode cX9_lookAt 30 = .ok (.aload_n 0, 1) := by decide +kernel
theorem dX9_lookAt_31 : decode cX9_lookAt 31 = .ok (.dup, 1) := by decide +kernel
theorem dX9_lookAt_32 : decode cX9_lookAt 32 = .ok (.getfield 278, 3) := by decide +kernel
theorem dX9_lookAt_35 : decode cX9_lookAt 35 = .ok (.iconst 1, 1) := by decide +kernel
theorem dX9_lookAt_36 : decode cX9_lookAt 36 = .ok (.iadd, 1) := by decide +kernel
theorem dX9_lookAt_37 : decode cX9_lookAt 37 = .ok (.putfield 278, 3) := by decide +kernel
theorem dX9_lookAt_40 : decode cX9_lookAt 40 = .ok (.goto (-35), 3) := by decide +kernel
theorem dX9_lookAt_43 : decode cX9_lookAt 43 = .ok (.aload_n 0, 1) := by decide +kernel
theorem dX9_lookAt_44 : decode cX9_lookAt 44 = .ok (.iconst 0, 1) := by decide +kernel
theorem dX9_lookAt_45 : decode cX9_lookAt 45 = .ok (.putfield 281, 3) := by decide +kernel
theorem dX9_lookAt_48 : decode cX9_lookAt 48 = .ok (.aload_n 0, 1) := by decide +kernel
theorem dX9_lookAt_49 : decode cX9_lookAt 49 = .ok (.iconst 0, 1) := by decide +kernel
theorem dX9_lookAt_50 : decode cX9_lookAt 50 = .ok (.putfield 284, 3) := by decide +kernel
theorem dX9_lookAt_53 : decode cX9_lookAt 53 = .ok (.aload_n 0, 1) := by decide +kernel
theorem dX9_lookAt_54 : decode cX9_lookAt 54 = .ok (.iconst 0, 1) := by decide +kernel
theorem dX9_lookAt_55 : decode cX9_lookAt 55 = .ok (.putfield 287, 3) := by decide +kernel
theorem dX9_lookAt_58 : decode cX9_lookAt 58 = .ok (.aload_n 0, 1) := by decide +kernel
theorem dX9_lookAt_59 : decode cX9_lookAt 59 = .ok (.getfield 278, 3) := by decide +kernel
theorem dX9_lookAt_62 : decode cX9_lookAt 62 = .ok (.aload_n 0, 1) := by decide +kernel
theorem dX9_lookAt_63 : decode cX9_lookAt 63 = .ok (.getfield 267, 3) := by decide +kernel
theorem dX9_lookAt_66 : decode cX9_lookAt 66 = .ok (.if_icmp .ne 4, 3) := by decide +kernel
theorem dX9_lookAt_69 : decode cX9_lookAt 69 = .ok (.return_, 1) := by decide +kernel
theorem dX9_lookAt_70 : decode cX9_lookAt 70 = .ok (.aload_n 0, 1) := by decide +kernel
theorem dX9_lookAt_71 : decode cX9_lookAt 71 = .ok (.getfield 57, 3) := by decide +kernel
theorem dX9_lookAt_74 : decode cX9_lookAt 74 = .ok (.aload_n 0, 1) := by decide +kernel
theorem dX9_lookAt_75 : decode cX9_lookAt 75 = .ok (.getfield 278, 3) := by decide +kernel
theorem dX9_lookAt_78 : decode cX9_lookAt 78 = .ok (.iaload, 1) := by decide +kernel
theorem dX9_lookAt_79 : decode cX9_lookAt 79 = .ok (.istore_n 2, 1) := by decide +kernel
theorem dX9_lookAt_80 : decode cX9_lookAt 80 = .ok (.aload_n 0, 1) := by decide +kernel
theorem dX9_lookAt_81 : decode cX9_lookAt 81 = .ok (.iload_n 2, 1) := by decide +kernel
theorem dX9_lookAt_82 : decode cX9_lookAt 82 = .ok (.invokestatic 290, 3) := by decide +kernel
theorem dX9_lookAt_85 : decode cX9_lookAt 85 = .ok (.ifCond .eq 7, 3) := by decide +kernel
theorem dX9_lookAt_88 : decode cX9_lookAt 88 = .ok (.iconst 1, 1) := by decide +kernel
theorem dX9_lookAt_89 : decode cX9_lookAt 89 = .ok (.goto 25, 3) := by decide +kernel
theorem dX9_lookAt_92 : decode cX9_lookAt 92 = .ok (.iload_n 2, 1) := by decide +kernel
theorem dX9_lookAt_93 : decode cX9_lookAt 93 = .ok (.invokestatic 293, 3) := by decide +kernel
theorem dX9_lookAt_96 : decode cX9_lookAt 96 = .ok (.ifCond .eq 7, 3) := by decide +kernel
theorem dX9_lookAt_99 : decode cX9_lookAt 99 = .ok (.iconst 2, 1) := by decide +kernel
theorem dX9_lookAt_100 : decode cX9_lookAt 100 = .ok (.goto 14, 3) := by decide +kernel
theorem dX9_lookAt_103 : decode cX9_lookAt 103 = .ok (.iload_n 2, 1) := by decide +kernel
theorem dX9_lookAt_104 : decode cX9_lookAt 104 = .ok (.bipush 59, 2) := by decide +kernel
theorem dX9_lookAt_106 : decode cX9_lookAt 106 = .ok (.if_icmp .ne 7, 3) := by decide +kernel
theorem dX9_lookAt_109 : decode cX9_lookAt 109 = .ok (.iconst 3, 1) := by decide +kernel
theorem dX9_lookAt_110 : decode cX9_lookAt 110 = .ok (.goto 4, 3) := by decide +kernel
theorem dX9_lookAt_113 : decode cX9_lookAt 113 = .ok (.iconst 4, 1) := by decide +kernel
theorem dX9_lookAt_114 : decode cX9_lookAt 114 = .ok (.putfield 284, 3) := by decide +kernel
theorem dX9_lookAt_117 : decode cX9_lookAt 117 = .ok (.aload_n 0, 1) := by decide +kernel
theorem dX9_lookAt_118 : decode cX9_lookAt 118 = .ok (.iconst 1, 1) := by decide +kernel
theorem dX9_lookAt_119 : decode cX9_lookAt 119 = .ok (.putfield 281, 3) := by decide +kernel
theorem dX9_lookAt_122 : decode cX9_lookAt 122 = .ok (.aload_n 0, 1) := by decide +kernel
theorem dX9_lookAt_123 : decode cX9_lookAt 123 = .ok (.getfield 284, 3) := by decide +kernel
theorem dX9_lookAt_126 : decode cX9_lookAt 126 = .ok (.iconst 3, 1) := by decide +kernel
theorem dX9_lookAt_127 : decode cX9_lookAt 127 = .ok (.if_icmp .ge 7, 3) := by decide +kernel
theorem dX9_lookAt_130 : decode cX9_lookAt 130 = .ok (.iconst 1, 1) := by decide +kernel
theorem dX9_lookAt_131 : decode cX9_lookAt 131 = .ok (.goto 4, 3) := by decide +kernel
theorem dX9_lookAt_134 : decode cX9_lookAt 134 = .ok (.iconst 0, 1) := by decide +kernel
theorem dX9_lookAt_135 : decode cX9_lookAt 135 = .ok (.istore_n 3, 1) := by decide +kernel
theorem dX9_lookAt_136 : decode cX9_lookAt 136 = .ok (.iload_n 3, 1) := by decide +kernel
theorem dX9_lookAt_137 : decode cX9_lookAt 137 = .ok (.ifCond .eq 78, 3) := by decide +kernel
theorem dX9_lookAt_140 : decode cX9_lookAt 140 = .ok (.aload_n 0, 1) := by decide +kernel
theorem dX9_lookAt_141 : decode cX9_lookAt 141 = .ok (.getfield 278, 3) := by decide +kernel
theorem dX9_lookAt_144 : decode cX9_lookAt 144 = .ok (.aload_n 0, 1) := by decide +kernel
theorem dX9_lookAt_145 : decode cX9_lookAt 145 = .ok (.getfield 281, 3) := by decide +kernel
theorem dX9_lookAt_148 : decode cX9_lookAt 148 = .ok (.iadd, 1) := by decide +kernel
theorem dX9_lookAt_149 : decode cX9_lookAt 149 = .ok (.aload_n 0, 1) := by decide +kernel
theorem dX9_lookAt_150 : decode cX9_lookAt 150 = .ok (.getfield 267, 3) := by decide +kernel
theorem dX9_lookAt_153 : decode cX9_lookAt 153 = .ok (.if_icmp .ge 62, 3) := by decide +kernel
theorem dX9_lookAt_156 : decode cX9_lookAt 156 = .ok (.aload_n 0, 1) := by decide +kernel
theorem dX9_lookAt_157 : decode cX9_lookAt 157 = .ok (.getfield 57, 3) := by decide +kernel
theorem dX9_lookAt_160 : decode cX9_lookAt 160 = .ok (.aload_n 0, 1) := by decide +kernel
theorem dX9_lookAt_161 : decode cX9_lookAt 161 = .ok (.getfield 278, 3) := by decide +kernel
theorem dX9_lookAt_164 : decode cX9_lookAt 164 = .ok (.aload_n 0, 1) := by decide +kernel
theorem dX9_lookAt_165 : decode cX9_lookAt 165 = .ok (.getfield 281, 3) := by decide +kernel
theorem dX9_lookAt_168 : decode cX9_lookAt 168 = .ok (.iadd, 1) := by decide +kernel
theorem dX9_lookAt_169 : decode cX9_lookAt 169 = .ok (.iaload, 1) := by decide +kernel
theorem dX9_lookAt_170 : decode cX9_lookAt 170 = .ok (.istore 4, 2) := by decide +kernel
theorem dX9_lookAt_172 : decode cX9_lookAt 172 = .ok (.aload_n 0, 1) := by decide +kernel
theorem dX9_lookAt_173 : decode cX9_lookAt 173 = .ok (.getfield 284, 3) := by decide +kernel
theorem dX9_lookAt_176 : decode cX9_lookAt 176 = .ok (.iconst 1, 1) := by decide +kernel
theorem dX9_lookAt_177 : decode cX9_lookAt 177 = .ok (.if_icmp .ne 11, 3) := by decide +kernel
theorem dX9_lookAt_180 : decode cX9_lookAt 180 = .ok (.iload 4, 2) := by decide +kernel
theorem dX9_lookAt_182 : decode cX9_lookAt 182 = .ok (.invokestatic 290, 3) := by decide +kernel
theorem dX9_lookAt_185 : decode cX9_lookAt 185 = .ok (.goto 8, 3) := by decide +kernel
theorem dX9_lookAt_188 : decode cX9_lookAt 188 = .ok (.iload 4, 2) := by decide +kernel
theorem dX9_lookAt_190 : decode cX9_lookAt 190 = .ok (.invokestatic 293, 3) := by decide +kernel
theorem dX9_lookAt_193 : decode cX9_lookAt 193 = .ok (.istore_n 3, 1) := by decide +kernel
theorem dX9_lookAt_194 : decode cX9_lookAt 194 = .ok (.aload_n 0, 1) := by decide +kernel
theorem dX9_lookAt_195 : decode cX9_lookAt 195 = .ok (.dup, 1) := by decide +kernel
theorem dX9_lookAt_196 : decode cX9_lookAt 196 = .ok (.getfield 281, 3) := by decide +kernel
theorem dX9_lookAt_199 : decode cX9_lookAt 199 = .ok (.iload_n 3, 1) := by decide +kernel
theorem dX9_lookAt_200 : decode cX9_lookAt 200 = .ok (.ifCond .eq 7, 3) := by decide +kernel
theorem dX9_lookAt_203 : decode cX9_lookAt 203 = .ok (.iconst 1, 1) := by decide +kernel
theorem dX9_lookAt_204 : decode cX9_lookAt 204 = .ok (.goto 4, 3) := by decide +kernel
theorem dX9_lookAt_207 : decode cX9_lookAt 207 = .ok (.iconst 0, 1) := by decide +kernel
theorem dX9_lookAt_208 : decode cX9_lookAt 208 = .ok (.iadd, 1) := by decide +kernel
theorem dX9_lookAt_209 : decode cX9_lookAt 209 = .ok (.putfield 281, 3) := by decide +kernel
theorem dX9_lookAt_212 : decode cX9_lookAt 212 = .ok (.goto (-76), 3) := by decide +kernel
theorem dX9_lookAt_215 : decode cX9_lookAt 215 = .ok (.iconst 0, 1) := by decide +kernel
theorem dX9_lookAt_216 : decode cX9_lookAt 216 = .ok (.istore 4, 2) := by decide +kernel
theorem dX9_lookAt_218 : decode cX9_lookAt 218 = .ok (.iload 4, 2) := by decide +kernel
theorem dX9_lookAt_220 : decode cX9_lookAt 220 = .ok (.aload_n 0, 1) := by decide +kernel
theorem dX9_lookAt_221 : decode cX9_lookAt 221 = .ok (.getfield 281, 3) := by decide +kernel
theorem dX9_lookAt_224 : decode cX9_lookAt 224 = .ok (.if_icmp .ge 50, 3) := by decide +kernel
theorem dX9_lookAt_227 : decode cX9_lookAt 227 = .ok (.iload 4, 2) := by decide +kernel
theorem dX9_lookAt_229 : decode cX9_lookAt 229 = .ok (.iconst 2, 1) := by decide +kernel
theorem dX9_lookAt_230 : decode cX9_lookAt 230 = .ok (.if_icmp .ge 44, 3) := by decide +kernel
theorem dX9_lookAt_233 : decode cX9_lookAt 233 = .ok (.aload_n 0, 1) := by decide +kernel
theorem dX9_lookAt_234 : decode cX9_lookAt 234 = .ok (.getfield 284, 3) := by decide +kernel
theorem dX9_lookAt_237 : decode cX9_lookAt 237 = .ok (.iconst 2, 1) := by decide +kernel
theorem dX9_lookAt_238 : decode cX9_lookAt 238 = .ok (.if_icmp .ne 36, 3) := by decide +kernel
theorem dX9_lookAt_241 : decode cX9_lookAt 241 = .ok (.aload_n 0, 1) := by decide +kernel
theorem dX9_lookAt_242 : decode cX9_lookAt 242 = .ok (.bipush 10, 2) := by decide +kernel
theorem dX9_lookAt_244 : decode cX9_lookAt 244 = .ok (.aload_n 0, 1) := by decide +kernel
theorem dX9_lookAt_245 : decode cX9_lookAt 245 = .ok (.getfield 287, 3) := by decide +kernel
theorem dX9_lookAt_248 : decode cX9_lookAt 248 = .ok (.imul, 1) := by decide +kernel
theorem dX9_lookAt_249 : decode cX9_lookAt 249 = .ok (.aload_n 0, 1) := by decide +kernel
theorem dX9_lookAt_250 : decode cX9_lookAt 250 = .ok (.getfield 57, 3) := by decide +kernel
theorem dX9_lookAt_253 : decode cX9_lookAt 253 = .ok (.aload_n 0, 1) := by decide +kernel
theorem dX9_lookAt_254 : decode cX9_lookAt 254 = .ok (.getfield 278, 3) := by decide +kernel
theorem dX9_lookAt_257 : decode cX9_lookAt 257 = .ok (.iload 4, 2) := by decide +kernel
theorem dX9_lookAt_259 : decode cX9_lookAt 259 = .ok (.iadd, 1) := by decide +kernel
theorem dX9_lookAt_260 : decode cX9_lookAt 260 = .ok (.iaload, 1) := by decide +kernel
theorem dX9_lookAt_261 : decode cX9_lookAt 261 = .ok (.iadd, 1) := by decide +kernel
theorem dX9_lookAt_262 : decode cX9_lookAt 262 = .ok (.bipush 48, 2) := by decide +kernel
theorem dX9_lookAt_264 : decode cX9_lookAt 264 = .ok (.isub, 1) := by decide +kernel
theorem dX9_lookAt_265 : decode cX9_lookAt 265 = .ok (.putfield 287, 3) := by decide +kernel
theorem dX9_lookAt_268 : decode cX9_lookAt 268 = .ok (.iinc 4 1, 3) := by decide +kernel
theorem dX9_lookAt_271 : decode cX9_lookAt 271 = .ok (.goto (-53), 3) := by decide +kernel
theorem dX9_lookAt_274 : decode cX9_lookAt 274 = .ok (.aload_n 0, 1) := by decide +kernel
theorem dX9_lookAt_275 : decode cX9_lookAt 275 = .ok (.aload_n 0, 1) := by decide +kernel
theorem dX9_lookAt_276 : decode cX9_lookAt 276 = .ok (.getfield 284, 3) := by decide +kernel
theorem dX9_lookAt_279 : decode cX9_lookAt 279 = .ok (.iconst 2, 1) := by decide +kernel
theorem dX9_lookAt_280 : decode cX9_lookAt 280 = .ok (.if_icmp .ne 15, 3) := by decide +kernel
theorem dX9_lookAt_283 : decode cX9_lookAt 283 = .ok (.aload_n 0, 1) := by decide +kernel
theorem dX9_lookAt_284 : decode cX9_lookAt 284 = .ok (.getfield 281, 3) := by decide +kernel
theorem dX9_lookAt_287 : decode cX9_lookAt 287 = .ok (.iconst 2, 1) := by decide +kernel
theorem dX9_lookAt_288 : decode cX9_lookAt 288 = .ok (.if_icmp .le 7, 3) := by decide +kernel
theorem dX9_lookAt_291 : decode cX9_lookAt 291 = .ok (.iconst 4, 1) := by decide +kernel
theorem dX9_lookAt_292 : decode cX9_lookAt 292 = .ok (.goto 7, 3) := by decide +kernel
theorem dX9_lookAt_295 : decode cX9_lookAt 295 = .ok (.aload_n 0, 1) := by decide +kernel
theorem dX9_lookAt_296 : decode cX9_lookAt 296 = .ok (.getfield 284, 3) := by decide +kernel
theorem dX9_lookAt_299 : decode cX9_lookAt 299 = .ok (.putfield 284, 3) := by decide +kernel
theorem dX9_lookAt_302 : decode cX9_lookAt 302 = .ok (.return_, 1) := by decide +kernel
theorem dX9_goBehind_0 : decode cX9_goBehind 0 = .ok (.aload_n 0, 1) := by decide +kernel
theorem dX9_goBehind_1 : decode cX9_goBehind 1 = .ok (.aload_n 0, 1) := by decide +kernel
theorem dX9_goBehind_2 : decode cX9_goBehind 2 = .ok (.getfield 278, 3) := by decide +kernel
theorem dX9_goBehind_5 : decode cX9_goBehind 5 = .ok (.aload_n 0, 1) := by decide +kernel
theorem dX9_goBehind_6 : decode cX9_goBehind 6 = .ok (.getfield 281, 3) := by decide +kernel
theorem dX9_goBehind_9 : decode cX9_goBehind 9 = .ok (.iadd, 1) := by decide +kernel
theorem dX9_goBehind_10 : decode cX9_goBehind 10 = .ok (.invokevirtual 296, 3) := by decide +kernel
theorem dX9_goBehind_13 : decode cX9_goBehind 13 = .ok (.return_, 1) := by decide +kernel
theorem dX9_spells_0 : decode cX9_spells 0 = .ok (.aload_n 0, 1) := by decide +kernel
theorem dX9_spells_1 : decode cX9_spells 1 = .ok (.getfield 284, 3) := by decide +kernel
theorem dX9_spells_4 : decode cX9_spells 4 = .ok (.iconst 1, 1) := by decide +kernel
theorem dX9_spells_5 : decode cX9_spells 5 = .ok (.if_icmp .ne 15, 3) := by decide +kernel
theorem dX9_spells_8 : decode cX9_spells 8 = .ok (.aload_n 0, 1) := by decide +kernel
theorem dX9_spells_9 : decode cX9_spells 9 = .ok (.getfield 281, 3) := by decide +kernel
theorem dX9_spells_12 : decode cX9_spells 12 = .ok (.iload_n 1, 1) := by decide +kernel
theorem dX9_spells_13 : decode cX9_spells 13 = .ok (.if_icmp .ne 7, 3) := by decide +kernel
theorem dX9_spells_16 : decode cX9_spells 16 = .ok (.iconst 1, 1) := by decide +kernel
theorem dX9_spells_17 : decode cX9_spells 17 = .ok (.goto 4, 3) := by decide +kernel
theorem dX9_spells_20 : decode cX9_spells 20 = .ok (.iconst 0, 1) := by decide +kernel
theorem dX9_spells_21 : decode cX9_spells 21 = .ok (.istore 8, 2) := by decide +kernel
theorem dX9_spells_23 : decode cX9_spells 23 = .ok (.iconst 0, 1) := by decide +kernel
theorem dX9_spells_24 : decode cX9_spells 24 = .ok (.istore 9, 2) := by decide +kernel
theorem dX9_spells_26 : decode cX9_spells 26 = .ok (.iload 9, 2) := by decide +kernel
theorem dX9_spells_28 : decode cX9_spells 28 = .ok (.iload_n 1, 1) := by decide +kernel
theorem dX9_spells_29 : decode cX9_spells 29 = .ok (.if_icmp .ge 90, 3) := by decide +kernel
theorem dX9_spells_32 : decode cX9_spells 32 = .ok (.iload 8, 2) := by decide +kernel
theorem dX9_spells_34 : decode cX9_spells 34 = .ok (.ifCond .eq 85, 3) := by decide +kernel
theorem dX9_spells_37 : decode cX9_spells 37 = .ok (.aload_n 0, 1) := by decide +kernel
theorem dX9_spells_38 : decode cX9_spells 38 = .ok (.getfield 57, 3) := by decide +kernel
theorem dX9_spells_41 : decode cX9_spells 41 = .ok (.aload_n 0, 1) := by decide +kernel
theorem dX9_spells_42 : decode cX9_spells 42 = .ok (.getfield 278, 3) := by decide +kernel
theorem dX9_spells_45 : decode cX9_spells 45 = .ok (.iload 9, 2) := by decide +kernel
theorem dX9_spells_47 : decode cX9_spells 47 = .ok (.iadd, 1) := by decide +kernel
theorem dX9_spells_48 : decode cX9_spells 48 = .ok (.iaload, 1) := by decide +kernel
theorem dX9_spells_49 : decode cX9_spells 49 = .ok (.iload 9, 2) := by decide +kernel
theorem dX9_spells_51 : decode cX9_spells 51 = .ok (.ifCond .ne 7, 3) := by decide +kernel
theorem dX9_spells_54 : decode cX9_spells 54 = .ok (.iload_n 2, 1) := by decide +kernel
theorem dX9_spells_55 : decode cX9_spells 55 = .ok (.goto 48, 3) := by decide +kernel
theorem dX9_spells_58 : decode cX9_spells 58 = .ok (.iload 9, 2) := by decide +kernel
theorem dX9_spells_60 : decode cX9_spells 60 = .ok (.iconst 1, 1) := by decide +kernel
theorem dX9_spells_61 : decode cX9_spells 61 = .ok (.if_icmp .ne 7, 3) := by decide +kernel
theorem dX9_spells_64 : decode cX9_spells 64 = .ok (.iload_n 3, 1) := by decide +kernel
theorem dX9_spells_65 : decode cX9_spells 65 = .ok (.goto 38, 3) := by decide +kernel
theorem dX9_spells_68 : decode cX9_spells 68 = .ok (.iload 9, 2) := by decide +kernel
theorem dX9_spells_70 : decode cX9_spells 70 = .ok (.iconst 2, 1) := by decide +kernel
theorem dX9_spells_71 : decode cX9_spells 71 = .ok (.if_icmp .ne 8, 3) := by decide +kernel
theorem dX9_spells_74 : decode cX9_spells 74 = .ok (.iload 4, 2) := by decide +kernel
theorem dX9_spells_76 : decode cX9_spells 76 = .ok (.goto 27, 3) := by decide +kernel
theorem dX9_spells_79 : decode cX9_spells 79 = .ok (.iload 9, 2) := by decide +kernel
theorem dX9_spells_81 : decode cX9_spells 81 = .ok (.iconst 3, 1) := by decide +kernel
theorem dX9_spells_82 : decode cX9_spells 82 = .ok (.if_icmp .ne 8, 3) := by decide +kernel
theorem dX9_spells_85 : decode cX9_spells 85 = .ok (.iload 5, 2) := by decide +kernel
theorem dX9_spells_87 : decode cX9_spells 87 = .ok (.goto 16, 3) := by decide +kernel
theorem dX9_spells_90 : decode cX9_spells 90 = .ok (.iload 9, 2) := by decide +kernel
theorem dX9_spells_92 : decode cX9_spells 92 = .ok (.iconst 4, 1) := by decide +kernel
theorem dX9_spells_93 : decode cX9_spells 93 = .ok (.if_icmp .ne 8, 3) := by decide +kernel
theorem dX9_spells_96 : decode cX9_spells 96 = .ok (.iload 6, 2) := by decide +kernel
theorem dX9_spells_98 : decode cX9_spells 98 = .ok (.goto 5, 3) := by decide +kernel
theorem dX9_spells_101 : decode cX9_spells 101 = .ok (.iload 7, 2) := by decide +kernel
theorem dX9_spells_103 : decode cX9_spells 103 = .ok (.if_icmp .ne 7, 3) := by decide +kernel
theorem dX9_spells_106 : decode cX9_spells 106 = .ok (.iconst 1, 1) := by decide +kernel
theorem dX9_spells_107 : decode cX9_spells 107 = .ok (.goto 4, 3) := by decide +kernel
theorem dX9_spells_110 : decode cX9_spells 110 = .ok (.iconst 0, 1) := by decide +kernel
theorem dX9_spells_111 : decode cX9_spells 111 = .ok (.istore 8, 2) := by decide +kernel
theorem dX9_spells_113 : decode cX9_spells 113 = .ok (.iinc 9 1, 3) := by decide +kernel
theorem dX9_spells_116 : decode cX9_spells 116 = .ok (.goto (-90), 3) := by decide +kernel
theorem dX9_spells_119 : decode cX9_spells 119 = .ok (.iload 8, 2) := by decide +kernel
theorem dX9_spells_121 : decode cX9_spells 121 = .ok (.ireturn, 1) := by decide +kernel
theorem dX9_takes_0 : decode cX9_takes 0 = .ok (.aload_n 0, 1) := by decide +kernel
theorem dX9_takes_1 : decode cX9_takes 1 = .ok (.getfield 284, 3) := by decide +kernel
theorem dX9_takes_4 : decode cX9_takes 4 = .ok (.iconst 2, 1) := by decide +kernel
theorem dX9_takes_5 : decode cX9_takes 5 = .ok (.if_icmp .ne 18, 3) := by decide +kernel
theorem dX9_takes_8 : decode cX9_takes 8 = .ok (.aload_n 0, 1) := by decide +kernel
theorem dX9_takes_9 : decode cX9_takes 9 = .ok (.getfield 287, 3) := by decide +kernel
theorem dX9_takes_12 : decode cX9_takes 12 = .ok (.i2l, 1) := by decide +kernel
theorem dX9_takes_13 : decode cX9_takes 13 = .ok (.iload_n 2, 1) := by decide +kernel
theorem dX9_takes_14 : decode cX9_takes 14 = .ok (.i2l, 1) := by decide +kernel
theorem dX9_takes_15 : decode cX9_takes 15 = .ok (.iload_n 3, 1) := by decide +kernel
theorem dX9_takes_16 : decode cX9_takes 16 = .ok (.i2l, 1) := by decide +kernel
theorem dX9_takes_17 : decode cX9_takes 17 = .ok (.invokestatic 74, 3) := by decide +kernel
theorem dX9_takes_20 : decode cX9_takes 20 = .ok (.ifCond .ne 5, 3) := by decide +kernel
theorem dX9_takes_23 : decode cX9_takes 23 = .ok (.iconst 0, 1) := by decide +kernel
theorem dX9_takes_24 : decode cX9_takes 24 = .ok (.ireturn, 1) := by decide +kernel
theorem dX9_takes_25 : decode cX9_takes 25 = .ok (.aload_n 0, 1) := by decide +kernel
theorem dX9_takes_26 : decode cX9_takes 26 = .ok (.getfield 63, 3) := by decide +kernel
theorem dX9_takes_29 : decode cX9_takes 29 = .ok (.iload_n 1, 1) := by decide +kernel
theorem dX9_takes_30 : decode cX9_takes 30 = .ok (.aload_n 0, 1) := by decide +kernel
theorem dX9_takes_31 : decode cX9_takes 31 = .ok (.getfield 287, 3) := by decide +kernel
theorem dX9_takes_34 : decode cX9_takes 34 = .ok (.iastore, 1) := by decide +kernel
theorem dX9_takes_35 : decode cX9_takes 35 = .ok (.aload_n 0, 1) := by decide +kernel
theorem dX9_takes_36 : decode cX9_takes 36 = .ok (.invokevirtual 299, 3) := by decide +kernel
theorem dX9_takes_39 : decode cX9_takes 39 = .ok (.iconst 1, 1) := by decide +kernel
theorem dX9_takes_40 : decode cX9_takes 40 = .ok (.ireturn, 1) := by decide +kernel
theorem dX9_takesBows_0 : decode cX9_takesBows 0 = .ok (.aload_n 0, 1) := by decide +kernel
theorem dX9_takesBows_1 : decode cX9_takesBows 1 = .ok (.invokevirtual 299, 3) := by decide +kernel
theorem dX9_takesBows_4 : decode cX9_takesBows 4 = .ok (.aload_n 0, 1) := by decide +kernel
theorem dX9_takesBows_5 : decode cX9_takesBows 5 = .ok (.iconst 0, 1) := by decide +kernel
theorem dX9_takesBows_6 : decode cX9_takesBows 6 = .ok (.iconst 0, 1) := by decide +kernel
theorem dX9_takesBows_7 : decode cX9_takesBows 7 = .ok (.iconst 1, 1) := by decide +kernel
theorem dX9_takesBows_8 : decode cX9_takesBows 8 = .ok (.invokevirtual 302, 3) := by decide +kernel
theorem dX9_takesBows_11 : decode cX9_takesBows 11 = .ok (.ifCond .eq 13, 3) := by decide +kernel
theorem dX9_takesBows_14 : decode cX9_takesBows 14 = .ok (.aload_n 0, 1) := by decide +kernel
theorem dX9_takesBows_15 : decode cX9_takesBows 15 = .ok (.iconst 1, 1) := by decide +kernel
theorem dX9_takesBows_16 : decode cX9_takesBows 16 = .ok (.iconst 0, 1) := by decide +kernel
theorem dX9_takesBows_17 : decode cX9_takesBows 17 = .ok (.iconst 3, 1) := by decide +kernel
theorem dX9_takesBows_18 : decode cX9_takesBows 18 = .ok (.invokevirtual 302, 3) := by decide +kernel
theorem dX9_takesBows_21 : decode cX9_takesBows 21 = .ok (.ifCond .ne 5, 3) := by decide +kernel
theorem dX9_takesBows_24 : decode cX9_takesBows 24 = .ok (.iconst 0, 1) := by decide +kernel
theorem dX9_takesBows_25 : decode cX9_takesBows 25 = .ok (.ireturn, 1) := by decide +kernel
theorem dX9_takesBows_26 : decode cX9_takesBows 26 = .ok (.aload_n 0, 1) := by decide +kernel
theorem dX9_takesBows_27 : decode cX9_takesBows 27 = .ok (.getfield 7, 3) := by decide +kernel
theorem dX9_takesBows_30 : decode cX9_takesBows 30 = .ok (.bipush 12, 2) := by decide +kernel
theorem dX9_takesBows_32 : decode cX9_takesBows 32 = .ok (.aload_n 0, 1) := by decide +kernel
theorem dX9_takesBows_33 : decode cX9_takesBows 33 = .ok (.getfield 63, 3) := by decide +kernel
theorem dX9_takesBows_36 : decode cX9_takesBows 36 = .ok (.iconst 0, 1) := by decide +kernel
theorem dX9_takesBows_37 : decode cX9_takesBows 37 = .ok (.iaload, 1) := by decide +kernel
theorem dX9_takesBows_38 : decode cX9_takesBows 38 = .ok (.iadd, 1) := by decide +kernel
theorem dX9_takesBows_39 : decode cX9_takesBows 39 = .ok (.aload_n 0, 1) := by decide +kernel
theorem dX9_takesBows_40 : decode cX9_takesBows 40 = .ok (.getfield 63, 3) := by decide +kernel
theorem dX9_takesBows_43 : decode cX9_takesBows 43 = .ok (.iconst 1, 1) := by decide +kernel
theorem dX9_takesBows_44 : decode cX9_takesBows 44 = .ok (.iaload, 1) := by decide +kernel
theorem dX9_takesBows_45 : decode cX9_takesBows 45 = .ok (.iastore, 1) := by decide +kernel
theorem dX9_takesBows_46 : decode cX9_takesBows 46 = .ok (.iconst 1, 1) := by decide +kernel
theorem dX9_takesBows_47 : decode cX9_takesBows 47 = .ok (.ireturn, 1) := by decide +kernel
theorem dX9_takesPoint_0 : decode cX9_takesPoint 0 = .ok (.aload_n 0, 1) := by decide +kernel
theorem dX9_takesPoint_1 : decode cX9_takesPoint 1 = .ok (.invokevirtual 70, 3) := by decide +kernel
theorem dX9_takesPoint_4 : decode cX9_takesPoint 4 = .ok (.bipush 6, 2) := by decide +kernel
theorem dX9_takesPoint_6 : decode cX9_takesPoint 6 = .ok (.if_icmp .ne 5, 3) := by decide +kernel
theorem dX9_takesPoint_9 : decode cX9_takesPoint 9 = .ok (.iconst 0, 1) := by decide +kernel
theorem dX9_takesPoint_10 : decode cX9_takesPoint 10 = .ok (.ireturn, 1) := by decide +kernel
theorem dX9_takesPoint_11 : decode cX9_takesPoint 11 = .ok (.aload_n 0, 1) := by decide +kernel
theorem dX9_takesPoint_12 : decode cX9_takesPoint 12 = .ok (.invokevirtual 299, 3) := by decide +kernel
theorem dX9_takesPoint_15 : decode cX9_takesPoint 15 = .ok (.aload_n 0, 1) := by decide +kernel
theorem dX9_takesPoint_16 : decode cX9_takesPoint 16 = .ok (.iconst 0, 1) := by decide +kernel
theorem dX9_takesPoint_17 : decode cX9_takesPoint 17 = .ok (.iconst 0, 1) := by decide +kernel
theorem dX9_takesPoint_18 : decode cX9_takesPoint 18 = .ok (.iconst 5, 1) := by decide +kernel
theorem dX9_takesPoint_19 : decode cX9_takesPoint 19 = .ok (.invokevirtual 302, 3) := by decide +kernel
theorem dX9_takesPoint_22 : decode cX9_takesPoint 22 = .ok (.ifCond .eq 24, 3) := by decide +kernel
theorem dX9_takesPoint_25 : decode cX9_takesPoint 25 = .ok (.aload_n 0, 1) := by decide +kernel
theorem dX9_takesPoint_26 : decode cX9_takesPoint 26 = .ok (.iconst 1, 1) := by decide +kernel
theorem dX9_takesPoint_27 : decode cX9_takesPoint 27 = .ok (.iconst 1, 1) := by decide +kernel
theorem dX9_takesPoint_28 : decode cX9_takesPoint 28 = .ok (.bipush 9, 2) := by decide +kernel
theorem dX9_takesPoint_30 : decode cX9_takesPoint 30 = .ok (.invokevirtual 302, 3) := by decide +kernel
theorem dX9_takesPoint_33 : decode cX9_takesPoint 33 = .ok (.ifCond .eq 13, 3) := by decide +kernel
theorem dX9_takesPoint_36 : decode cX9_takesPoint 36 = .ok (.aload_n 0, 1) := by decide +kernel
theorem dX9_takesPoint_37 : decode cX9_takesPoint 37 = .ok (.iconst 2, 1) := by decide +kernel
theorem dX9_takesPoint_38 : decode cX9_takesPoint 38 = .ok (.iconst 0, 1) := by decide +kernel
theorem dX9_takesPoint_39 : decode cX9_takesPoint 39 = .ok (.iconst 3, 1) := by decide +kernel
theorem dX9_takesPoint_40 : decode cX9_takesPoint 40 = .ok (.invokevirtual 302, 3) := by decide +kernel
theorem dX9_takesPoint_43 : decode cX9_takesPoint 43 = .ok (.ifCond .ne 5, 3) := by decide +kernel
theorem dX9_takesPoint_46 : decode cX9_takesPoint 46 = .ok (.iconst 0, 1) := by decide +kernel
theorem dX9_takesPoint_47 : decode cX9_takesPoint 47 = .ok (.ireturn, 1) := by decide +kernel
theorem dX9_takesPoint_48 : decode cX9_takesPoint 48 = .ok (.aload_n 0, 1) := by decide +kernel
theorem dX9_takesPoint_49 : decode cX9_takesPoint 49 = .ok (.getfield 7, 3) := by decide +kernel
theorem dX9_takesPoint_52 : decode cX9_takesPoint 52 = .ok (.aload_n 0, 1) := by decide +kernel
theorem dX9_takesPoint_53 : decode cX9_takesPoint 53 = .ok (.getfield 63, 3) := by decide +kernel
theorem dX9_takesPoint_56 : decode cX9_takesPoint 56 = .ok (.iconst 0, 1) := by decide +kernel
theorem dX9_takesPoint_57 : decode cX9_takesPoint 57 = .ok (.iaload, 1) := by decide +kernel
theorem dX9_takesPoint_58 : decode cX9_takesPoint 58 = .ok (.aload_n 0, 1) := by decide +kernel
theorem dX9_takesPoint_59 : decode cX9_takesPoint 59 = .ok (.getfield 63, 3) := by decide +kernel
theorem dX9_takesPoint_62 : decode cX9_takesPoint 62 = .ok (.iconst 1, 1) := by decide +kernel
theorem dX9_takesPoint_63 : decode cX9_takesPoint 63 = .ok (.iaload, 1) := by decide +kernel
theorem dX9_takesPoint_64 : decode cX9_takesPoint 64 = .ok (.aload_n 0, 1) := by decide +kernel
theorem dX9_takesPoint_65 : decode cX9_takesPoint 65 = .ok (.getfield 63, 3) := by decide +kernel
theorem dX9_takesPoint_68 : decode cX9_takesPoint 68 = .ok (.iconst 2, 1) := by decide +kernel
theorem dX9_takesPoint_69 : decode cX9_takesPoint 69 = .ok (.iaload, 1) := by decide +kernel
theorem dX9_takesPoint_70 : decode cX9_takesPoint 70 = .ok (.invokestatic 98, 3) := by decide +kernel
theorem dX9_takesPoint_73 : decode cX9_takesPoint 73 = .ok (.iconst 1, 1) := by decide +kernel
theorem dX9_takesPoint_74 : decode cX9_takesPoint 74 = .ok (.ireturn, 1) := by decide +kernel
theorem dX9_goSays_0 : decode cX9_goSays 0 = .ok (.aload_n 0, 1) := by decide +kernel
theorem dX9_goSays_1 : decode cX9_goSays 1 = .ok (.getfield 7, 3) := by decide +kernel
theorem dX9_goSays_4 : decode cX9_goSays 4 = .ok (.bipush 15, 2) := by decide +kernel
theorem dX9_goSays_6 : decode cX9_goSays 6 = .ok (.aload_n 0, 1) := by decide +kernel
theorem dX9_goSays_7 : decode cX9_goSays 7 = .ok (.iload_n 1, 1) := by decide +kernel
theorem dX9_goSays_8 : decode cX9_goSays 8 = .ok (.aload_n 0, 1) := by decide +kernel
theorem dX9_goSays_9 : decode cX9_goSays 9 = .ok (.getfield 7, 3) := by decide +kernel
theorem dX9_goSays_12 : decode cX9_goSays 12 = .ok (.bipush 14, 2) := by decide +kernel
theorem dX9_goSays_14 : decode cX9_goSays 14 = .ok (.iaload, 1) := by decide +kernel
theorem dX9_goSays_15 : decode cX9_goSays 15 = .ok (.aload_n 0, 1) := by decide +kernel
theorem dX9_goSays_16 : decode cX9_goSays 16 = .ok (.getfield 7, 3) := by decide +kernel
theorem dX9_goSays_19 : decode cX9_goSays 19 = .ok (.bipush 15, 2) := by decide +kernel
theorem dX9_goSays_21 : decode cX9_goSays 21 = .ok (.iaload, 1) := by decide +kernel
theorem dX9_goSays_22 : decode cX9_goSays 22 = .ok (.aload_n 0, 1) := by decide +kernel
theorem dX9_goSays_23 : decode cX9_goSays 23 = .ok (.getfield 7, 3) := by decide +kernel
theorem dX9_goSays_26 : decode cX9_goSays 26 = .ok (.bipush 16, 2) := by decide +kernel
theorem dX9_goSays_28 : decode cX9_goSays 28 = .ok (.iaload, 1) := by decide +kernel
theorem dX9_goSays_29 : decode cX9_goSays 29 = .ok (.invokevirtual 130, 3) := by decide +kernel
theorem dX9_goSays_32 : decode cX9_goSays 32 = .ok (.iastore, 1) := by decide +kernel
theorem dX9_goSays_33 : decode cX9_goSays 33 = .ok (.aload_n 0, 1) := by decide +kernel
theorem dX9_goSays_34 : decode cX9_goSays 34 = .ok (.getfield 7, 3) := by decide +kernel
theorem dX9_goSays_37 : decode cX9_goSays 37 = .ok (.iconst 5, 1) := by decide +kernel
theorem dX9_goSays_38 : decode cX9_goSays 38 = .ok (.dup2, 1) := by decide +kernel
theorem dX9_goSays_39 : decode cX9_goSays 39 = .ok (.iaload, 1) := by decide +kernel
theorem dX9_goSays_40 : decode cX9_goSays 40 = .ok (.iconst 1, 1) := by decide +kernel
theorem dX9_goSays_41 : decode cX9_goSays 41 = .ok (.iload_n 1, 1) := by decide +kernel
theorem dX9_goSays_42 : decode cX9_goSays 42 = .ok (.ishl, 1) := by decide +kernel
theorem dX9_goSays_43 : decode cX9_goSays 43 = .ok (.ior, 1) := by decide +kernel
theorem dX9_goSays_44 : decode cX9_goSays 44 = .ok (.iastore, 1) := by decide +kernel
theorem dX9_goSays_45 : decode cX9_goSays 45 = .ok (.aload_n 0, 1) := by decide +kernel
theorem dX9_goSays_46 : decode cX9_goSays 46 = .ok (.getfield 7, 3) := by decide +kernel
theorem dX9_goSays_49 : decode cX9_goSays 49 = .ok (.bipush 16, 2) := by decide +kernel
theorem dX9_goSays_51 : decode cX9_goSays 51 = .ok (.dup2, 1) := by decide +kernel
theorem dX9_goSays_52 : decode cX9_goSays 52 = .ok (.iaload, 1) := by decide +kernel
theorem dX9_goSays_53 : decode cX9_goSays 53 = .ok (.iconst 1, 1) := by decide +kernel
theorem dX9_goSays_54 : decode cX9_goSays 54 = .ok (.iadd, 1) := by decide +kernel
theorem dX9_goSays_55 : decode cX9_goSays 55 = .ok (.iastore, 1) := by decide +kernel
theorem dX9_goSays_56 : decode cX9_goSays 56 = .ok (.aload_n 0, 1) := by decide +kernel
theorem dX9_goSays_57 : decode cX9_goSays 57 = .ok (.getfield 7, 3) := by decide +kernel
theorem dX9_goSays_60 : decode cX9_goSays 60 = .ok (.bipush 17, 2) := by decide +kernel
theorem dX9_goSays_62 : decode cX9_goSays 62 = .ok (.iload_n 1, 1) := by decide +kernel
theorem dX9_goSays_63 : decode cX9_goSays 63 = .ok (.iastore, 1) := by decide +kernel
theorem dX9_goSays_64 : decode cX9_goSays 64 = .ok (.return_, 1) := by decide +kernel
theorem dX9_goObjects_0 : decode cX9_goObjects 0 = .ok (.aload_n 0, 1) := by decide +kernel
theorem dX9_goObjects_1 : decode cX9_goObjects 1 = .ok (.getfield 7, 3) := by decide +kernel
theorem dX9_goObjects_4 : decode cX9_goObjects 4 = .ok (.bipush 12, 2) := by decide +kernel
theorem dX9_goObjects_6 : decode cX9_goObjects 6 = .ok (.aload_n 0, 1) := by decide +kernel
theorem dX9_goObjects_7 : decode cX9_goObjects 7 = .ok (.getfield 7, 3) := by decide +kernel
theorem dX9_goObjects_10 : decode cX9_goObjects 10 = .ok (.bipush 16, 2) := by decide +kernel
theorem dX9_goObjects_12 : decode cX9_goObjects 12 = .ok (.iaload, 1) := by decide +kernel
theorem dX9_goObjects_13 : decode cX9_goObjects 13 = .ok (.iconst 2, 1) := by decide +kernel
theorem dX9_goObjects_14 : decode cX9_goObjects 14 = .ok (.irem, 1) := by decide +kernel
theorem dX9_goObjects_15 : decode cX9_goObjects 15 = .ok (.iadd, 1) := by decide +kernel
theorem dX9_goObjects_16 : decode cX9_goObjects 16 = .ok (.dup2, 1) := by decide +kernel
theorem dX9_goObjects_17 : decode cX9_goObjects 17 = .ok (.iaload, 1) := by decide +kernel
theorem dX9_goObjects_18 : decode cX9_goObjects 18 = .ok (.iconst 1, 1) := by decide +kernel
theorem dX9_goObjects_19 : decode cX9_goObjects 19 = .ok (.isub, 1) := by decide +kernel
theorem dX9_goObjects_20 : decode cX9_goObjects 20 = .ok (.iastore, 1) := by decide +kernel
theorem dX9_goObjects_21 : decode cX9_goObjects 21 = .ok (.aload_n 0, 1) := by decide +kernel
theorem dX9_goObjects_22 : decode cX9_goObjects 22 = .ok (.getfield 7, 3) := by decide +kernel
theorem dX9_goObjects_25 : decode cX9_goObjects 25 = .ok (.bipush 6, 2) := by decide +kernel
theorem dX9_goObjects_27 : decode cX9_goObjects 27 = .ok (.aload_n 0, 1) := by decide +kernel
theorem dX9_goObjects_28 : decode cX9_goObjects 28 = .ok (.getfield 7, 3) := by decide +kernel
theorem dX9_goObjects_31 : decode cX9_goObjects 31 = .ok (.bipush 17, 2) := by decide +kernel
theorem dX9_goObjects_33 : decode cX9_goObjects 33 = .ok (.iaload, 1) := by decide +kernel
theorem dX9_goObjects_34 : decode cX9_goObjects 34 = .ok (.iadd, 1) := by decide +kernel
theorem dX9_goObjects_35 : decode cX9_goObjects 35 = .ok (.dup2, 1) := by decide +kernel
theorem dX9_goObjects_36 : decode cX9_goObjects 36 = .ok (.iaload, 1) := by decide +kernel
theorem dX9_goObjects_37 : decode cX9_goObjects 37 = .ok (.iconst 1, 1) := by decide +kernel
theorem dX9_goObjects_38 : decode cX9_goObjects 38 = .ok (.isub, 1) := by decide +kernel
theorem dX9_goObjects_39 : decode cX9_goObjects 39 = .ok (.iastore, 1) := by decide +kernel
theorem dX9_goObjects_40 : decode cX9_goObjects 40 = .ok (.aload_n 0, 1) := by decide +kernel
theorem dX9_goObjects_41 : decode cX9_goObjects 41 = .ok (.getfield 7, 3) := by decide +kernel
theorem dX9_goObjects_44 : decode cX9_goObjects 44 = .ok (.bipush 14, 2) := by decide +kernel
theorem dX9_goObjects_46 : decode cX9_goObjects 46 = .ok (.iconst 1, 1) := by decide +kernel
theorem dX9_goObjects_47 : decode cX9_goObjects 47 = .ok (.aload_n 0, 1) := by decide +kernel
theorem dX9_goObjects_48 : decode cX9_goObjects 48 = .ok (.getfield 7, 3) := by decide +kernel
theorem dX9_goObjects_51 : decode cX9_goObjects 51 = .ok (.bipush 14, 2) := by decide +kernel
theorem dX9_goObjects_53 : decode cX9_goObjects 53 = .ok (.iaload, 1) := by decide +kernel
theorem dX9_goObjects_54 : decode cX9_goObjects 54 = .ok (.isub, 1) := by decide +kernel
theorem dX9_goObjects_55 : decode cX9_goObjects 55 = .ok (.iastore, 1) := by decide +kernel
theorem dX9_goObjects_56 : decode cX9_goObjects 56 = .ok (.aload_n 0, 1) := by decide +kernel
theorem dX9_goObjects_57 : decode cX9_goObjects 57 = .ok (.getfield 7, 3) := by decide +kernel
theorem dX9_goObjects_60 : decode cX9_goObjects 60 = .ok (.bipush 17, 2) := by decide +kernel
theorem dX9_goObjects_62 : decode cX9_goObjects 62 = .ok (.iconst (-1), 1) := by decide +kernel
theorem dX9_goObjects_63 : decode cX9_goObjects 63 = .ok (.iastore, 1) := by decide +kernel
theorem dX9_goObjects_64 : decode cX9_goObjects 64 = .ok (.return_, 1) := by decide +kernel
theorem dX9_takesSaying_0 : decode cX9_takesSaying 0 = .ok (.aload_n 0, 1) := by decide +kernel
theorem dX9_takesSaying_1 : decode cX9_takesSaying 1 = .ok (.invokevirtual 299, 3) := by decide +kernel
theorem dX9_takesSaying_4 : decode cX9_takesSaying 4 = .ok (.aload_n 0, 1) := by decide +kernel
theorem dX9_takesSaying_5 : decode cX9_takesSaying 5 = .ok (.getfield 284, 3) := by decide +kernel
theorem dX9_takesSaying_8 : decode cX9_takesSaying 8 = .ok (.iconst 2, 1) := by decide +kernel
theorem dX9_takesSaying_9 : decode cX9_takesSaying 9 = .ok (.if_icmp .ne 30, 3) := by decide +kernel
theorem dX9_takesSaying_12 : decode cX9_takesSaying 12 = .ok (.aload_n 0, 1) := by decide +kernel
theorem dX9_takesSaying_13 : decode cX9_takesSaying 13 = .ok (.aload_n 0, 1) := by decide +kernel
theorem dX9_takesSaying_14 : decode cX9_takesSaying 14 = .ok (.getfield 287, 3) := by decide +kernel
theorem dX9_takesSaying_17 : decode cX9_takesSaying 17 = .ok (.invokevirtual 117, 3) := by decide +kernel
theorem dX9_takesSaying_20 : decode cX9_takesSaying 20 = .ok (.ifCond .eq 19, 3) := by decide +kernel
theorem dX9_takesSaying_23 : decode cX9_takesSaying 23 = .ok (.aload_n 0, 1) := by decide +kernel
theorem dX9_takesSaying_24 : decode cX9_takesSaying 24 = .ok (.getfield 7, 3) := by decide +kernel
theorem dX9_takesSaying_27 : decode cX9_takesSaying 27 = .ok (.iconst 5, 1) := by decide +kernel
theorem dX9_takesSaying_28 : decode cX9_takesSaying 28 = .ok (.iaload, 1) := by decide +kernel
theorem dX9_takesSaying_29 : decode cX9_takesSaying 29 = .ok (.aload_n 0, 1) := by decide +kernel
theorem dX9_takesSaying_30 : decode cX9_takesSaying 30 = .ok (.getfield 287, 3) := by decide +kernel
theorem dX9_takesSaying_33 : decode cX9_takesSaying 33 = .ok (.invokestatic 120, 3) := by decide +kernel
theorem dX9_takesSaying_36 : decode cX9_takesSaying 36 = .ok (.ifCond .eq 5, 3) := by decide +kernel
theorem dX9_takesSaying_39 : decode cX9_takesSaying 39 = .ok (.iconst 0, 1) := by decide +kernel
theorem dX9_takesSaying_40 : decode cX9_takesSaying 40 = .ok (.ireturn, 1) := by decide +kernel
theorem dX9_takesSaying_41 : decode cX9_takesSaying 41 = .ok (.aload_n 0, 1) := by decide +kernel
theorem dX9_takesSaying_42 : decode cX9_takesSaying 42 = .ok (.aload_n 0, 1) := by decide +kernel
theorem dX9_takesSaying_43 : decode cX9_takesSaying 43 = .ok (.getfield 287, 3) := by decide +kernel
theorem dX9_takesSaying_46 : decode cX9_takesSaying 46 = .ok (.invokevirtual 305, 3) := by decide +kernel
theorem dX9_takesSaying_49 : decode cX9_takesSaying 49 = .ok (.aload_n 0, 1) := by decide +kernel
theorem dX9_takesSaying_50 : decode cX9_takesSaying 50 = .ok (.invokevirtual 299, 3) := by decide +kernel
theorem dX9_takesSaying_53 : decode cX9_takesSaying 53 = .ok (.iconst 1, 1) := by decide +kernel
theorem dX9_takesSaying_54 : decode cX9_takesSaying 54 = .ok (.ireturn, 1) := by decide +kernel
theorem dX9_takesObjecting_0 : decode cX9_takesObjecting 0 = .ok (.aload_n 0, 1) := by decide +kernel
theorem dX9_takesObjecting_1 : decode cX9_takesObjecting 1 = .ok (.invokevirtual 133, 3) := by decide +kernel
theorem dX9_takesObjecting_4 : decode cX9_takesObjecting 4 = .ok (.ifCond .ne 5, 3) := by decide +kernel
theorem dX9_takesObjecting_7 : decode cX9_takesObjecting 7 = .ok (.iconst 0, 1) := by decide +kernel
theorem dX9_takesObjecting_8 : decode cX9_takesObjecting 8 = .ok (.ireturn, 1) := by decide +kernel
theorem dX9_takesObjecting_9 : decode cX9_takesObjecting 9 = .ok (.aload_n 0, 1) := by decide +kernel
theorem dX9_takesObjecting_10 : decode cX9_takesObjecting 10 = .ok (.invokevirtual 308, 3) := by decide +kernel
theorem dX9_takesObjecting_13 : decode cX9_takesObjecting 13 = .ok (.aload_n 0, 1) := by decide +kernel
theorem dX9_takesObjecting_14 : decode cX9_takesObjecting 14 = .ok (.invokevirtual 299, 3) := by decide +kernel
theorem dX9_takesObjecting_17 : decode cX9_takesObjecting 17 = .ok (.iconst 1, 1) := by decide +kernel
theorem dX9_takesObjecting_18 : decode cX9_takesObjecting 18 = .ok (.ireturn, 1) := by decide +kernel
theorem dX9_takesItem_0 : decode cX9_takesItem 0 = .ok (.aload_n 0, 1) := by decide +kernel
theorem dX9_takesItem_1 : decode cX9_takesItem 1 = .ok (.iconst 4, 1) := by decide +kernel
theorem dX9_takesItem_2 : decode cX9_takesItem 2 = .ok (.bipush 98, 2) := by decide +kernel
theorem dX9_takesItem_4 : decode cX9_takesItem 4 = .ok (.bipush 111, 2) := by decide +kernel
theorem dX9_takesItem_6 : decode cX9_takesItem 6 = .ok (.bipush 119, 2) := by decide +kernel
theorem dX9_takesItem_8 : decode cX9_takesItem 8 = .ok (.bipush 115, 2) := by decide +kernel
theorem dX9_takesItem_10 : decode cX9_takesItem 10 = .ok (.iconst 0, 1) := by decide +kernel
theorem dX9_takesItem_11 : decode cX9_takesItem 11 = .ok (.iconst 0, 1) := by decide +kernel
theorem dX9_takesItem_12 : decode cX9_takesItem 12 = .ok (.invokevirtual 311, 3) := by decide +kernel
theorem dX9_takesItem_15 : decode cX9_takesItem 15 = .ok (.ifCond .eq 8, 3) := by decide +kernel
theorem dX9_takesItem_18 : decode cX9_takesItem 18 = .ok (.aload_n 0, 1) := by decide +kernel
theorem dX9_takesItem_19 : decode cX9_takesItem 19 = .ok (.invokevirtual 315, 3) := by decide +kernel
theorem dX9_takesItem_22 : decode cX9_takesItem 22 = .ok (.ireturn, 1) := by decide +kernel
theorem dX9_takesItem_23 : decode cX9_takesItem 23 = .ok (.aload_n 0, 1) := by decide +kernel
theorem dX9_takesItem_24 : decode cX9_takesItem 24 = .ok (.iconst 5, 1) := by decide +kernel
theorem dX9_takesItem_25 : decode cX9_takesItem 25 = .ok (.bipush 112, 2) := by decide +kernel
theorem dX9_takesItem_27 : decode cX9_takesItem 27 = .ok (.bipush 111, 2) := by decide +kernel
theorem dX9_takesItem_29 : decode cX9_takesItem 29 = .ok (.bipush 105, 2) := by decide +kernel
theorem dX9_takesItem_31 : decode cX9_takesItem 31 = .ok (.bipush 110, 2) := by decide +kernel
theorem dX9_takesItem_33 : decode cX9_takesItem 33 = .ok (.bipush 116, 2) := by decide +kernel
theorem dX9_takesItem_35 : decode cX9_takesItem 35 = .ok (.iconst 0, 1) := by decide +kernel
theorem dX9_takesItem_36 : decode cX9_takesItem 36 = .ok (.invokevirtual 311, 3) := by decide +kernel
theorem dX9_takesItem_39 : decode cX9_takesItem 39 = .ok (.ifCond .eq 8, 3) := by decide +kernel
theorem dX9_takesItem_42 : decode cX9_takesItem 42 = .ok (.aload_n 0, 1) := by decide +kernel
theorem dX9_takesItem_43 : decode cX9_takesItem 43 = .ok (.invokevirtual 318, 3) := by decide +kernel
theorem dX9_takesItem_46 : decode cX9_takesItem 46 = .ok (.ireturn, 1) := by decide +kernel
theorem dX9_takesItem_47 : decode cX9_takesItem 47 = .ok (.aload_n 0, 1) := by decide +kernel
theorem dX9_takesItem_48 : decode cX9_takesItem 48 = .ok (.iconst 3, 1) := by decide +kernel
theorem dX9_takesItem_49 : decode cX9_takesItem 49 = .ok (.bipush 115, 2) := by decide +kernel
theorem dX9_takesItem_51 : decode cX9_takesItem 51 = .ok (.bipush 97, 2) := by decide +kernel
theorem dX9_takesItem_53 : decode cX9_takesItem 53 = .ok (.bipush 121, 2) := by decide +kernel
theorem dX9_takesItem_55 : decode cX9_takesItem 55 = .ok (.iconst 0, 1) := by decide +kernel
theorem dX9_takesItem_56 : decode cX9_takesItem 56 = .ok (.iconst 0, 1) := by decide +kernel
theorem dX9_takesItem_57 : decode cX9_takesItem 57 = .ok (.iconst 0, 1) := by decide +kernel
theorem dX9_takesItem_58 : decode cX9_takesItem 58 = .ok (.invokevirtual 311, 3) := by decide +kernel
theorem dX9_takesItem_61 : decode cX9_takesItem 61 = .ok (.ifCond .eq 8, 3) := by decide +kernel
theorem dX9_takesItem_64 : decode cX9_takesItem 64 = .ok (.aload_n 0, 1) := by decide +kernel
theorem dX9_takesItem_65 : decode cX9_takesItem 65 = .ok (.invokevirtual 321, 3) := by decide +kernel
theorem dX9_takesItem_68 : decode cX9_takesItem 68 = .ok (.ireturn, 1) := by decide +kernel
theorem dX9_takesItem_69 : decode cX9_takesItem 69 = .ok (.aload_n 0, 1) := by decide +kernel
theorem dX9_takesItem_70 : decode cX9_takesItem 70 = .ok (.bipush 6, 2) := by decide +kernel
theorem dX9_takesItem_72 : decode cX9_takesItem 72 = .ok (.bipush 111, 2) := by decide +kernel
theorem dX9_takesItem_74 : decode cX9_takesItem 74 = .ok (.bipush 98, 2) := by decide +kernel
theorem dX9_takesItem_76 : decode cX9_takesItem 76 = .ok (.bipush 106, 2) := by decide +kernel
theorem dX9_takesItem_78 : decode cX9_takesItem 78 = .ok (.bipush 101, 2) := by decide +kernel
theorem dX9_takesItem_80 : decode cX9_takesItem 80 = .ok (.bipush 99, 2) := by decide +kernel
theorem dX9_takesItem_82 : decode cX9_takesItem 82 = .ok (.bipush 116, 2) := by decide +kernel
theorem dX9_takesItem_84 : decode cX9_takesItem 84 = .ok (.invokevirtual 311, 3) := by decide +kernel
theorem dX9_takesItem_87 : decode cX9_takesItem 87 = .ok (.ifCond .eq 14, 3) := by decide +kernel
theorem dX9_takesItem_90 : decode cX9_takesItem 90 = .ok (.aload_n 0, 1) := by decide +kernel
theorem dX9_takesItem_91 : decode cX9_takesItem 91 = .ok (.invokevirtual 324, 3) := by decide +kernel
theorem dX9_takesItem_94 : decode cX9_takesItem 94 = .ok (.ifCond .eq 7, 3) := by decide +kernel
theorem dX9_takesItem_97 : decode cX9_takesItem 97 = .ok (.iconst 1, 1) := by decide +kernel
theorem dX9_takesItem_98 : decode cX9_takesItem 98 = .ok (.goto 4, 3) := by decide +kernel
theorem dX9_takesItem_101 : decode cX9_takesItem 101 = .ok (.iconst 0, 1) := by decide +kernel
theorem dX9_takesItem_102 : decode cX9_takesItem 102 = .ok (.ireturn, 1) := by decide +kernel
theorem dX9_readInto_0 : decode cX9_readInto 0 = .ok (.aload_n 0, 1) := by decide +kernel
theorem dX9_readInto_1 : decode cX9_readInto 1 = .ok (.invokevirtual 299, 3) := by decide +kernel
theorem dX9_readInto_4 : decode cX9_readInto 4 = .ok (.aload_n 0, 1) := by decide +kernel
theorem dX9_readInto_5 : decode cX9_readInto 5 = .ok (.iconst 0, 1) := by decide +kernel
theorem dX9_readInto_6 : decode cX9_readInto 6 = .ok (.iconst 0, 1) := by decide +kernel
theorem dX9_readInto_7 : decode cX9_readInto 7 = .ok (.iconst 5, 1) := by decide +kernel
theorem dX9_readInto_8 : decode cX9_readInto 8 = .ok (.invokevirtual 302, 3) := by decide +kernel
theorem dX9_readInto_11 : decode cX9_readInto 11 = .ok (.ifCond .eq 21, 3) := by decide +kernel
theorem dX9_readInto_14 : decode cX9_readInto 14 = .ok (.aload_n 0, 1) := by decide +kernel
theorem dX9_readInto_15 : decode cX9_readInto 15 = .ok (.iconst 1, 1) := by decide +kernel
theorem dX9_readInto_16 : decode cX9_readInto 16 = .ok (.iconst 0, 1) := by decide +kernel
theorem dX9_readInto_17 : decode cX9_readInto 17 = .ok (.iconst 5, 1) := by decide +kernel
theorem dX9_readInto_18 : decode cX9_readInto 18 = .ok (.invokevirtual 302, 3) := by decide +kernel
theorem dX9_readInto_21 : decode cX9_readInto 21 = .ok (.ifCond .eq 11, 3) := by decide +kernel
theorem dX9_readInto_24 : decode cX9_readInto 24 = .ok (.aload_n 0, 1) := by decide +kernel
theorem dX9_readInto_25 : decode cX9_readInto 25 = .ok (.getfield 284, 3) := by decide +kernel
theorem dX9_readInto_28 : decode cX9_readInto 28 = .ok (.iconst 3, 1) := by decide +kernel
theorem dX9_readInto_29 : decode cX9_readInto 29 = .ok (.if_icmp .eq 11, 3) := by decide +kernel
theorem dX9_readInto_32 : decode cX9_readInto 32 = .ok (.bipush (-10), 2) := by decide +kernel
theorem dX9_readInto_34 : decode cX9_readInto 34 = .ok (.aload_n 0, 1) := by decide +kernel
theorem dX9_readInto_35 : decode cX9_readInto 35 = .ok (.getfield 278, 3) := by decide +kernel
theorem dX9_readInto_38 : decode cX9_readInto 38 = .ok (.isub, 1) := by decide +kernel
theorem dX9_readInto_39 : decode cX9_readInto 39 = .ok (.ireturn, 1) := by decide +kernel
theorem dX9_readInto_40 : decode cX9_readInto 40 = .ok (.aload_n 0, 1) := by decide +kernel
theorem dX9_readInto_41 : decode cX9_readInto 41 = .ok (.invokevirtual 299, 3) := by decide +kernel
theorem dX9_readInto_44 : decode cX9_readInto 44 = .ok (.aload_n 0, 1) := by decide +kernel
theorem dX9_readInto_45 : decode cX9_readInto 45 = .ok (.getfield 7, 3) := by decide +kernel
theorem dX9_readInto_48 : decode cX9_readInto 48 = .ok (.aload_n 0, 1) := by decide +kernel
theorem dX9_readInto_49 : decode cX9_readInto 49 = .ok (.getfield 63, 3) := by decide +kernel
theorem dX9_readInto_52 : decode cX9_readInto 52 = .ok (.iconst 0, 1) := by decide +kernel
theorem dX9_readInto_53 : decode cX9_readInto 53 = .ok (.iaload, 1) := by decide +kernel
theorem dX9_readInto_54 : decode cX9_readInto 54 = .ok (.aload_n 0, 1) := by decide +kernel
theorem dX9_readInto_55 : decode cX9_readInto 55 = .ok (.getfield 63, 3) := by decide +kernel
theorem dX9_readInto_58 : decode cX9_readInto 58 = .ok (.iconst 1, 1) := by decide +kernel
theorem dX9_readInto_59 : decode cX9_readInto 59 = .ok (.iaload, 1) := by decide +kernel
theorem dX9_readInto_60 : decode cX9_readInto 60 = .ok (.invokestatic 66, 3) := by decide +kernel
theorem dX9_readInto_63 : decode cX9_readInto 63 = .ok (.iconst 1, 1) := by decide +kernel
theorem dX9_readInto_64 : decode cX9_readInto 64 = .ok (.istore_n 1, 1) := by decide +kernel
theorem dX9_readInto_65 : decode cX9_readInto 65 = .ok (.aload_n 0, 1) := by decide +kernel
theorem dX9_readInto_66 : decode cX9_readInto 66 = .ok (.getfield 284, 3) := by decide +kernel
theorem dX9_readInto_69 : decode cX9_readInto 69 = .ok (.ifCond .eq 36, 3) := by decide +kernel
theorem dX9_readInto_72 : decode cX9_readInto 72 = .ok (.aload_n 0, 1) := by decide +kernel
theorem dX9_readInto_73 : decode cX9_readInto 73 = .ok (.invokevirtual 327, 3) := by decide +kernel
theorem dX9_readInto_76 : decode cX9_readInto 76 = .ok (.ifCond .eq 11, 3) := by decide +kernel
theorem dX9_readInto_79 : decode cX9_readInto 79 = .ok (.aload_n 0, 1) := by decide +kernel
theorem dX9_readInto_80 : decode cX9_readInto 80 = .ok (.getfield 284, 3) := by decide +kernel
theorem dX9_readInto_83 : decode cX9_readInto 83 = .ok (.iconst 3, 1) := by decide +kernel
theorem dX9_readInto_84 : decode cX9_readInto 84 = .ok (.if_icmp .eq 11, 3) := by decide +kernel
theorem dX9_readInto_87 : decode cX9_readInto 87 = .ok (.bipush (-10), 2) := by decide +kernel
theorem dX9_readInto_89 : decode cX9_readInto 89 = .ok (.aload_n 0, 1) := by decide +kernel
theorem dX9_readInto_90 : decode cX9_readInto 90 = .ok (.getfield 278, 3) := by decide +kernel
theorem dX9_readInto_93 : decode cX9_readInto 93 = .ok (.isub, 1) := by decide +kernel
theorem dX9_readInto_94 : decode cX9_readInto 94 = .ok (.ireturn, 1) := by decide +kernel
theorem dX9_readInto_95 : decode cX9_readInto 95 = .ok (.aload_n 0, 1) := by decide +kernel
theorem dX9_readInto_96 : decode cX9_readInto 96 = .ok (.invokevirtual 299, 3) := by decide +kernel
theorem dX9_readInto_99 : decode cX9_readInto 99 = .ok (.iinc 1 1, 3) := by decide +kernel
theorem dX9_readInto_102 : decode cX9_readInto 102 = .ok (.goto (-37), 3) := by decide +kernel
theorem dX9_readInto_105 : decode cX9_readInto 105 = .ok (.iload_n 1, 1) := by decide +kernel
theorem dX9_readInto_106 : decode cX9_readInto 106 = .ok (.ireturn, 1) := by decide +kernel
theorem dX9_read_0 : decode cX9_read 0 = .ok (.aload_n 0, 1) := by decide +kernel
theorem dX9_read_1 : decode cX9_read 1 = .ok (.iconst 0, 1) := by decide +kernel
theorem dX9_read_2 : decode cX9_read 2 = .ok (.invokevirtual 296, 3) := by decide +kernel
theorem dX9_read_5 : decode cX9_read 5 = .ok (.aload_n 0, 1) := by decide +kernel
theorem dX9_read_6 : decode cX9_read 6 = .ok (.iconst 4, 1) := by decide +kernel
theorem dX9_read_7 : decode cX9_read 7 = .ok (.bipush 99, 2) := by decide +kernel
theorem dX9_read_9 : decode cX9_read 9 = .ok (.bipush 97, 2) := by decide +kernel
theorem dX9_read_11 : decode cX9_read 11 = .ok (.bipush 115, 2) := by decide +kernel
theorem dX9_read_13 : decode cX9_read 13 = .ok (.bipush 101, 2) := by decide +kernel
theorem dX9_read_15 : decode cX9_read 15 = .ok (.iconst 0, 1) := by decide +kernel
theorem dX9_read_16 : decode cX9_read 16 = .ok (.iconst 0, 1) := by decide +kernel
theorem dX9_read_17 : decode cX9_read 17 = .ok (.invokevirtual 311, 3) := by decide +kernel
theorem dX9_read_20 : decode cX9_read 20 = .ok (.ifCond .ne 11, 3) := by decide +kernel
theorem dX9_read_23 : decode cX9_read 23 = .ok (.bipush (-10), 2) := by decide +kernel
theorem dX9_read_25 : decode cX9_read 25 = .ok (.aload_n 0, 1) := by decide +kernel
theorem dX9_read_26 : decode cX9_read 26 = .ok (.getfield 278, 3) := by decide +kernel
theorem dX9_read_29 : decode cX9_read 29 = .ok (.isub, 1) := by decide +kernel
theorem dX9_read_30 : decode cX9_read 30 = .ok (.ireturn, 1) := by decide +kernel
theorem dX9_read_31 : decode cX9_read 31 = .ok (.iconst 0, 1) := by decide +kernel
theorem dX9_read_32 : decode cX9_read 32 = .ok (.istore_n 1, 1) := by decide +kernel
theorem dX9_read_33 : decode cX9_read 33 = .ok (.iload_n 1, 1) := by decide +kernel
theorem dX9_read_34 : decode cX9_read 34 = .ok (.bipush 90, 2) := by decide +kernel
theorem dX9_read_36 : decode cX9_read 36 = .ok (.if_icmp .ge 21, 3) := by decide +kernel
theorem dX9_read_39 : decode cX9_read 39 = .ok (.aload_n 0, 1) := by decide +kernel
theorem dX9_read_40 : decode cX9_read 40 = .ok (.getfield 60, 3) := by decide +kernel
theorem dX9_read_43 : decode cX9_read 43 = .ok (.iload_n 1, 1) := by decide +kernel
theorem dX9_read_44 : decode cX9_read 44 = .ok (.aload_n 0, 1) := by decide +kernel
theorem dX9_read_45 : decode cX9_read 45 = .ok (.getfield 7, 3) := by decide +kernel
theorem dX9_read_48 : decode cX9_read 48 = .ok (.iload_n 1, 1) := by decide +kernel
theorem dX9_read_49 : decode cX9_read 49 = .ok (.iaload, 1) := by decide +kernel
theorem dX9_read_50 : decode cX9_read 50 = .ok (.iastore, 1) := by decide +kernel
theorem dX9_read_51 : decode cX9_read 51 = .ok (.iinc 1 1, 3) := by decide +kernel
theorem dX9_read_54 : decode cX9_read 54 = .ok (.goto (-21), 3) := by decide +kernel
theorem dX9_read_57 : decode cX9_read 57 = .ok (.aload_n 0, 1) := by decide +kernel
theorem dX9_read_58 : decode cX9_read 58 = .ok (.invokevirtual 330, 3) := by decide +kernel
theorem dX9_read_61 : decode cX9_read 61 = .ok (.istore_n 1, 1) := by decide +kernel
theorem dX9_read_62 : decode cX9_read 62 = .ok (.iconst 0, 1) := by decide +kernel
theorem dX9_read_63 : decode cX9_read 63 = .ok (.istore_n 2, 1) := by decide +kernel
theorem dX9_read_64 : decode cX9_read 64 = .ok (.iload_n 2, 1) := by decide +kernel
theorem dX9_read_65 : decode cX9_read 65 = .ok (.bipush 90, 2) := by decide +kernel
theorem dX9_read_67 : decode cX9_read 67 = .ok (.if_icmp .ge 25, 3) := by decide +kernel
theorem dX9_read_70 : decode cX9_read 70 = .ok (.iload_n 1, 1) := by decide +kernel
theorem dX9_read_71 : decode cX9_read 71 = .ok (.ifCond .ge 21, 3) := by decide +kernel
theorem dX9_read_74 : decode cX9_read 74 = .ok (.aload_n 0, 1) := by decide +kernel
theorem dX9_read_75 : decode cX9_read 75 = .ok (.getfield 7, 3) := by decide +kernel
theorem dX9_read_78 : decode cX9_read 78 = .ok (.iload_n 2, 1) := by decide +kernel
theorem dX9_read_79 : decode cX9_read 79 = .ok (.aload_n 0, 1) := by decide +kernel
theorem dX9_read_80 : decode cX9_read 80 = .ok (.getfield 60, 3) := by decide +kernel
theorem dX9_read_83 : decode cX9_read 83 = .ok (.iload_n 2, 1) := by decide +kernel
theorem dX9_read_84 : decode cX9_read 84 = .ok (.iaload, 1) := by decide +kernel
theorem dX9_read_85 : decode cX9_read 85 = .ok (.iastore, 1) := by decide +kernel
theorem dX9_read_86 : decode cX9_read 86 = .ok (.iinc 2 1, 3) := by decide +kernel
theorem dX9_read_89 : decode cX9_read 89 = .ok (.goto (-25), 3) := by decide +kernel
theorem dX9_read_92 : decode cX9_read 92 = .ok (.iload_n 1, 1) := by decide +kernel
theorem dX9_read_93 : decode cX9_read 93 = .ok (.ireturn, 1) := by decide +kernel
theorem dX9_part_0 : decode cX9_part 0 = .ok (.iload_n 1, 1) := by decide +kernel
theorem dX9_part_1 : decode cX9_part 1 = .ok (.ifCond .ne 10, 3) := by decide +kernel
theorem dX9_part_4 : decode cX9_part 4 = .ok (.aload_n 0, 1) := by decide +kernel
theorem dX9_part_5 : decode cX9_part 5 = .ok (.getfield 241, 3) := by decide +kernel
theorem dX9_part_8 : decode cX9_part 8 = .ok (.goto 22, 3) := by decide +kernel
theorem dX9_part_11 : decode cX9_part 11 = .ok (.iload_n 1, 1) := by decide +kernel
theorem dX9_part_12 : decode cX9_part 12 = .ok (.iconst 1, 1) := by decide +kernel
theorem dX9_part_13 : decode cX9_part 13 = .ok (.if_icmp .ne 10, 3) := by decide +kernel
theorem dX9_part_16 : decode cX9_part 16 = .ok (.aload_n 0, 1) := by decide +kernel
theorem dX9_part_17 : decode cX9_part 17 = .ok (.getfield 23, 3) := by decide +kernel
theorem dX9_part_20 : decode cX9_part 20 = .ok (.goto 10, 3) := by decide +kernel
theorem dX9_part_23 : decode cX9_part 23 = .ok (.aload_n 0, 1) := by decide +kernel
theorem dX9_part_24 : decode cX9_part 24 = .ok (.bipush (-2), 2) := by decide +kernel
theorem dX9_part_26 : decode cX9_part 26 = .ok (.invokevirtual 84, 3) := by decide +kernel
theorem dX9_part_29 : decode cX9_part 29 = .ok (.i2l, 1) := by decide +kernel
theorem dX9_part_30 : decode cX9_part 30 = .ok (.lreturn, 1) := by decide +kernel
theorem dX9_image_0 : decode cX9_image 0 = .ok (.iload_n 1, 1) := by decide +kernel
theorem dX9_image_1 : decode cX9_image 1 = .ok (.i2l, 1) := by decide +kernel
theorem dX9_image_2 : decode cX9_image 2 = .ok (.lconst 0, 1) := by decide +kernel
theorem dX9_image_3 : decode cX9_image 3 = .ok (.lconst 1, 1) := by decide +kernel
theorem dX9_image_4 : decode cX9_image 4 = .ok (.invokestatic 74, 3) := by decide +kernel
theorem dX9_image_7 : decode cX9_image 7 = .ok (.ifCond .ne 10, 3) := by decide +kernel
theorem dX9_image_10 : decode cX9_image 10 = .ok (.aload_n 0, 1) := by decide +kernel
theorem dX9_image_11 : decode cX9_image 11 = .ok (.bipush (-2), 2) := by decide +kernel
theorem dX9_image_13 : decode cX9_image 13 = .ok (.invokevirtual 84, 3) := by decide +kernel
theorem dX9_image_16 : decode cX9_image 16 = .ok (.ireturn, 1) := by decide +kernel
theorem dX9_image_17 : decode cX9_image 17 = .ok (.iconst 0, 1) := by decide +kernel
theorem dX9_image_18 : decode cX9_image 18 = .ok (.istore_n 2, 1) := by decide +kernel
theorem dX9_image_19 : decode cX9_image 19 = .ok (.iload_n 2, 1) := by decide +kernel
theorem dX9_image_20 : decode cX9_image 20 = .ok (.sipush 194, 3) := by decide +kernel
theorem dX9_image_23 : decode cX9_image 23 = .ok (.if_icmp .ge 27, 3) := by decide +kernel
theorem dX9_image_26 : decode cX9_image 26 = .ok (.aload_n 0, 1) := by decide +kernel
theorem dX9_image_27 : decode cX9_image 27 = .ok (.getfield 13, 3) := by decide +kernel
theorem dX9_image_30 : decode cX9_image 30 = .ok (.sipush 194, 3) := by decide +kernel
theorem dX9_image_33 : decode cX9_image 33 = .ok (.iload_n 1, 1) := by decide +kernel
theorem dX9_image_34 : decode cX9_image 34 = .ok (.imul, 1) := by decide +kernel
theorem dX9_image_35 : decode cX9_image 35 = .ok (.iload_n 2, 1) := by decide +kernel
theorem dX9_image_36 : decode cX9_image 36 = .ok (.iadd, 1) := by decide +kernel
theorem dX9_image_37 : decode cX9_image 37 = .ok (.aload_n 0, 1) := by decide +kernel
theorem dX9_image_38 : decode cX9_image 38 = .ok (.getfield 7, 3) := by decide +kernel
theorem dX9_image_41 : decode cX9_image 41 = .ok (.iload_n 2, 1) := by decide +kernel
theorem dX9_image_42 : decode cX9_image 42 = .ok (.iaload, 1) := by decide +kernel
theorem dX9_image_43 : decode cX9_image 43 = .ok (.iastore, 1) := by decide +kernel
theorem dX9_image_44 : decode cX9_image 44 = .ok (.iinc 2 1, 3) := by decide +kernel
theorem dX9_image_47 : decode cX9_image 47 = .ok (.goto (-28), 3) := by decide +kernel
theorem dX9_image_50 : decode cX9_image 50 = .ok (.aload_n 0, 1) := by decide +kernel
theorem dX9_image_51 : decode cX9_image 51 = .ok (.getfield 16, 3) := by decide +kernel
theorem dX9_image_54 : decode cX9_image 54 = .ok (.iload_n 1, 1) := by decide +kernel
theorem dX9_image_55 : decode cX9_image 55 = .ok (.iconst 1, 1) := by decide +kernel
theorem dX9_image_56 : decode cX9_image 56 = .ok (.bastore, 1) := by decide +kernel
theorem dX9_image_57 : decode cX9_image 57 = .ok (.iconst 1, 1) := by decide +kernel
theorem dX9_image_58 : decode cX9_image 58 = .ok (.ireturn, 1) := by decide +kernel
theorem dX9_from_0 : decode cX9_from 0 = .ok (.iload_n 1, 1) := by decide +kernel
theorem dX9_from_1 : decode cX9_from 1 = .ok (.i2l, 1) := by decide +kernel
theorem dX9_from_2 : decode cX9_from 2 = .ok (.lconst 0, 1) := by decide +kernel
theorem dX9_from_3 : decode cX9_from 3 = .ok (.lconst 1, 1) := by decide +kernel
theorem dX9_from_4 : decode cX9_from 4 = .ok (.invokestatic 74, 3) := by decide +kernel
theorem dX9_from_7 : decode cX9_from 7 = .ok (.ifCond .ne 10, 3) := by decide +kernel
theorem dX9_from_10 : decode cX9_from 10 = .ok (.aload_n 0, 1) := by decide +kernel
theorem dX9_from_11 : decode cX9_from 11 = .ok (.bipush (-2), 2) := by decide +kernel
theorem dX9_from_13 : decode cX9_from 13 = .ok (.invokevirtual 84, 3) := by decide +kernel
theorem dX9_from_16 : decode cX9_from 16 = .ok (.ireturn, 1) := by decide +kernel
theorem dX9_from_17 : decode cX9_from 17 = .ok (.aload_n 0, 1) := by decide +kernel
theorem dX9_from_18 : decode cX9_from 18 = .ok (.getfield 16, 3) := by decide +kernel
theorem dX9_from_21 : decode cX9_from 21 = .ok (.iload_n 1, 1) := by decide +kernel
theorem dX9_from_22 : decode cX9_from 22 = .ok (.baload, 1) := by decide +kernel
theorem dX9_from_23 : decode cX9_from 23 = .ok (.ifCond .ne 10, 3) := by decide +kernel
theorem dX9_from_26 : decode cX9_from 26 = .ok (.aload_n 0, 1) := by decide +kernel
theorem dX9_from_27 : decode cX9_from 27 = .ok (.bipush (-3), 2) := by decide +kernel
theorem dX9_from_29 : decode cX9_from 29 = .ok (.invokevirtual 124, 3) := by decide +kernel
theorem dX9_from_32 : decode cX9_from 32 = .ok (.ireturn, 1) := by decide +kernel
theorem dX9_from_33 : decode cX9_from 33 = .ok (.iconst 0, 1) := by decide +kernel
theorem dX9_from_34 : decode cX9_from 34 = .ok (.istore_n 2, 1) := by decide +kernel
theorem dX9_from_35 : decode cX9_from 35 = .ok (.iload_n 2, 1) := by decide +kernel
theorem dX9_from_36 : decode cX9_from 36 = .ok (.sipush 194, 3) := by decide +kernel
theorem dX9_from_39 : decode cX9_from 39 = .ok (.if_icmp .ge 27, 3) := by decide +kernel
theorem dX9_from_42 : decode cX9_from 42 = .ok (.aload_n 0, 1) := by decide +kernel
theorem dX9_from_43 : decode cX9_from 43 = .ok (.getfield 7, 3) := by decide +kernel
theorem dX9_from_46 : decode cX9_from 46 = .ok (.iload_n 2, 1) := by decide +kernel
theorem dX9_from_47 : decode cX9_from 47 = .ok (.aload_n 0, 1) := by decide +kernel
theorem dX9_from_48 : decode cX9_from 48 = .ok (.getfield 13, 3) := by decide +kernel
theorem dX9_from_51 : decode cX9_from 51 = .ok (.sipush 194, 3) := by decide +kernel
theorem dX9_from_54 : decode cX9_from 54 = .ok (.iload_n 1, 1) := by decide +kernel
theorem dX9_from_55 : decode cX9_from 55 = .ok (.imul, 1) := by decide +kernel
theorem dX9_from_56 : decode cX9_from 56 = .ok (.iload_n 2, 1) := by decide +kernel
theorem dX9_from_57 : decode cX9_from 57 = .ok (.iadd, 1) := by decide +kernel
theorem dX9_from_58 : decode cX9_from 58 = .ok (.iaload, 1) := by decide +kernel
theorem dX9_from_59 : decode cX9_from 59 = .ok (.iastore, 1) := by decide +kernel
theorem dX9_from_60 : decode cX9_from 60 = .ok (.iinc 2 1, 3) := by decide +kernel
theorem dX9_from_63 : decode cX9_from 63 = .ok (.goto (-28), 3) := by decide +kernel
theorem dX9_from_66 : decode cX9_from 66 = .ok (.iconst 1, 1) := by decide +kernel
theorem dX9_from_67 : decode cX9_from 67 = .ok (.ireturn, 1) := by decide +kernel
theorem dX9_status_0 : decode cX9_status 0 = .ok (.iload_n 1, 1) := by decide +kernel
theorem dX9_status_1 : decode cX9_status 1 = .ok (.i2l, 1) := by decide +kernel
theorem dX9_status_2 : decode cX9_status 2 = .ok (.lconst 0, 1) := by decide +kernel
theorem dX9_status_3 : decode cX9_status 3 = .ok (.ldc2_w 143, 3) := by decide +kernel
theorem dX9_status_6 : decode cX9_status 6 = .ok (.invokestatic 74, 3) := by decide +kernel
theorem dX9_status_9 : decode cX9_status 9 = .ok (.ifCond .eq 12, 3) := by decide +kernel
theorem dX9_status_12 : decode cX9_status 12 = .ok (.aload_n 0, 1) := by decide +kernel
theorem dX9_status_13 : decode cX9_status 13 = .ok (.getfield 20, 3) := by decide +kernel
theorem dX9_status_16 : decode cX9_status 16 = .ok (.iload_n 1, 1) := by decide +kernel
theorem dX9_status_17 : decode cX9_status 17 = .ok (.iaload, 1) := by decide +kernel
theorem dX9_status_18 : decode cX9_status 18 = .ok (.goto 8, 3) := by decide +kernel
theorem dX9_status_21 : decode cX9_status 21 = .ok (.aload_n 0, 1) := by decide +kernel
theorem dX9_status_22 : decode cX9_status 22 = .ok (.iconst (-1), 1) := by decide +kernel
theorem dX9_status_23 : decode cX9_status 23 = .ok (.invokevirtual 84, 3) := by decide +kernel
theorem dX9_status_26 : decode cX9_status 26 = .ok (.ireturn, 1) := by decide +kernel
theorem dX9_counted_0 : decode cX9_counted 0 = .ok (.iconst 0, 1) := by decide +kernel
theorem dX9_counted_1 : decode cX9_counted 1 = .ok (.istore_n 2, 1) := by decide +kernel
theorem dX9_counted_2 : decode cX9_counted 2 = .ok (.iconst 0, 1) := by decide +kernel
theorem dX9_counted_3 : decode cX9_counted 3 = .ok (.istore_n 3, 1) := by decide +kernel
theorem dX9_counted_4 : decode cX9_counted 4 = .ok (.iload_n 3, 1) := by decide +kernel
theorem dX9_counted_5 : decode cX9_counted 5 = .ok (.aload_n 0, 1) := by decide +kernel
theorem dX9_counted_6 : decode cX9_counted 6 = .ok (.invokevirtual 70, 3) := by decide +kernel
theorem dX9_counted_9 : decode cX9_counted 9 = .ok (.if_icmp .ge 21, 3) := by decide +kernel
theorem dX9_counted_12 : decode cX9_counted 12 = .ok (.iload_n 2, 1) := by decide +kernel
theorem dX9_counted_13 : decode cX9_counted 13 = .ok (.aload_n 0, 1) := by decide +kernel
theorem dX9_counted_14 : decode cX9_counted 14 = .ok (.getfield 7, 3) := by decide +kernel
theorem dX9_counted_17 : decode cX9_counted 17 = .ok (.bipush 6, 2) := by decide +kernel
theorem dX9_counted_19 : decode cX9_counted 19 = .ok (.iload_n 3, 1) := by decide +kernel
theorem dX9_counted_20 : decode cX9_counted 20 = .ok (.iadd, 1) := by decide +kernel
theorem dX9_counted_21 : decode cX9_counted 21 = .ok (.iaload, 1) := by decide +kernel
theorem dX9_counted_22 : decode cX9_counted 22 = .ok (.iadd, 1) := by decide +kernel
theorem dX9_counted_23 : decode cX9_counted 23 = .ok (.istore_n 2, 1) := by decide +kernel
theorem dX9_counted_24 : decode cX9_counted 24 = .ok (.iinc 3 1, 3) := by decide +kernel
theorem dX9_counted_27 : decode cX9_counted 27 = .ok (.goto (-23), 3) := by decide +kernel
theorem dX9_counted_30 : decode cX9_counted 30 = .ok (.iload_n 1, 1) := by decide +kernel
theorem dX9_counted_31 : decode cX9_counted 31 = .ok (.tableswitch 74 0 7 #[45, 50, 60, 74, 74, 74, 62, 69], 45) := by decide +kernel
theorem dX9_counted_76 : decode cX9_counted 76 = .ok (.aload_n 0, 1) := by decide +kernel
theorem dX9_counted_77 : decode cX9_counted 77 = .ok (.invokevirtual 70, 3) := by decide +kernel
theorem dX9_counted_80 : decode cX9_counted 80 = .ok (.ireturn, 1) := by decide +kernel
theorem dX9_counted_81 : decode cX9_counted 81 = .ok (.aload_n 0, 1) := by decide +kernel
theorem dX9_counted_82 : decode cX9_counted 82 = .ok (.getfield 7, 3) := by decide +kernel
theorem dX9_counted_85 : decode cX9_counted 85 = .ok (.iconst 5, 1) := by decide +kernel
theorem dX9_counted_86 : decode cX9_counted 86 = .ok (.iaload, 1) := by decide +kernel
theorem dX9_counted_87 : decode cX9_counted 87 = .ok (.invokestatic 197, 3) := by decide +kernel
theorem dX9_counted_90 : decode cX9_counted 90 = .ok (.ireturn, 1) := by decide +kernel
theorem dX9_counted_91 : decode cX9_counted 91 = .ok (.iload_n 2, 1) := by decide +kernel
theorem dX9_counted_92 : decode cX9_counted 92 = .ok (.ireturn, 1) := by decide +kernel
theorem dX9_counted_93 : decode cX9_counted 93 = .ok (.aload_n 0, 1) := by decide +kernel
theorem dX9_counted_94 : decode cX9_counted 94 = .ok (.getfield 7, 3) := by decide +kernel
theorem dX9_counted_97 : decode cX9_counted 97 = .ok (.iconst 4, 1) := by decide +kernel
theorem dX9_counted_98 : decode cX9_counted 98 = .ok (.iaload, 1) := by decide +kernel
theorem dX9_counted_99 : decode cX9_counted 99 = .ok (.ireturn, 1) := by decide +kernel
theorem dX9_counted_100 : decode cX9_counted 100 = .ok (.aload_n 0, 1) := by decide +kernel
theorem dX9_counted_101 : decode cX9_counted 101 = .ok (.getfield 267, 3) := by decide +kernel
theorem dX9_counted_104 : decode cX9_counted 104 = .ok (.ireturn, 1) := by decide +kernel
theorem dX9_counted_105 : decode cX9_counted 105 = .ok (.aload_n 0, 1) := by decide +kernel
theorem dX9_counted_106 : decode cX9_counted 106 = .ok (.getfield 7, 3) := by decide +kernel
theorem dX9_counted_109 : decode cX9_counted 109 = .ok (.iconst 1, 1) := by decide +kernel
theorem dX9_counted_110 : decode cX9_counted 110 = .ok (.iload_n 1, 1) := by decide +kernel
theorem dX9_counted_111 : decode cX9_counted 111 = .ok (.iadd, 1) := by decide +kernel
theorem dX9_counted_112 : decode cX9_counted 112 = .ok (.iconst 3, 1) := by decide +kernel
theorem dX9_counted_113 : decode cX9_counted 113 = .ok (.isub, 1) := by decide +kernel
theorem dX9_counted_114 : decode cX9_counted 114 = .ok (.iaload, 1) := by decide +kernel
theorem dX9_counted_115 : decode cX9_counted 115 = .ok (.ireturn, 1) := by decide +kernel
theorem dX9_count_0 : decode cX9_count 0 = .ok (.iload_n 1, 1) := by decide +kernel
theorem dX9_count_1 : decode cX9_count 1 = .ok (.i2l, 1) := by decide +kernel
theorem dX9_count_2 : decode cX9_count 2 = .ok (.lconst 0, 1) := by decide +kernel
theorem dX9_count_3 : decode cX9_count 3 = .ok (.ldc2_w 333, 3) := by decide +kernel
theorem dX9_count_6 : decode cX9_count 6 = .ok (.invokestatic 74, 3) := by decide +kernel
theorem dX9_count_9 : decode cX9_count 9 = .ok (.ifCond .eq 11, 3) := by decide +kernel
theorem dX9_count_12 : decode cX9_count 12 = .ok (.aload_n 0, 1) := by decide +kernel
theorem dX9_count_13 : decode cX9_count 13 = .ok (.iload_n 1, 1) := by decide +kernel
theorem dX9_count_14 : decode cX9_count 14 = .ok (.invokevirtual 335, 3) := by decide +kernel
theorem dX9_count_17 : decode cX9_count 17 = .ok (.goto 9, 3) := by decide +kernel
theorem dX9_count_20 : decode cX9_count 20 = .ok (.aload_n 0, 1) := by decide +kernel
theorem dX9_count_21 : decode cX9_count 21 = .ok (.bipush (-2), 2) := by decide +kernel
theorem dX9_count_23 : decode cX9_count 23 = .ok (.invokevirtual 84, 3) := by decide +kernel
theorem dX9_count_26 : decode cX9_count 26 = .ok (.ireturn, 1) := by decide +kernel
theorem dX9_sums_0 : decode cX9_sums 0 = .ok (.lload_n 1, 1) := by decide +kernel
theorem dX9_sums_1 : decode cX9_sums 1 = .ok (.lstore 5, 2) := by decide +kernel
theorem dX9_sums_3 : decode cX9_sums 3 = .ok (.iconst 0, 1) := by decide +kernel
theorem dX9_sums_4 : decode cX9_sums 4 = .ok (.istore 7, 2) := by decide +kernel
theorem dX9_sums_6 : decode cX9_sums 6 = .ok (.iload 7, 2) := by decide +kernel
theorem dX9_sums_8 : decode cX9_sums 8 = .ok (.iload 4, 2) := by decide +kernel
theorem dX9_sums_10 : decode cX9_sums 10 = .ok (.if_icmp .ge 28, 3) := by decide +kernel
theorem dX9_sums_13 : decode cX9_sums 13 = .ok (.ldc2_w 338, 3) := by decide +kernel
theorem dX9_sums_16 : decode cX9_sums 16 = .ok (.lload 5, 2) := by decide +kernel
theorem dX9_sums_18 : decode cX9_sums 18 = .ok (.lmul, 1) := by decide +kernel
theorem dX9_sums_19 : decode cX9_sums 19 = .ok (.aload_n 0, 1) := by decide +kernel
theorem dX9_sums_20 : decode cX9_sums 20 = .ok (.getfield 7, 3) := by decide +kernel
theorem dX9_sums_23 : decode cX9_sums 23 = .ok (.iload_n 3, 1) := by decide +kernel
theorem dX9_sums_24 : decode cX9_sums 24 = .ok (.iload 7, 2) := by decide +kernel
theorem dX9_sums_26 : decode cX9_sums 26 = .ok (.iadd, 1) := by decide +kernel
theorem dX9_sums_27 : decode cX9_sums 27 = .ok (.iaload, 1) := by decide +kernel
theorem dX9_sums_28 : decode cX9_sums 28 = .ok (.i2l, 1) := by decide +kernel
theorem dX9_sums_29 : decode cX9_sums 29 = .ok (.ladd, 1) := by decide +kernel
theorem dX9_sums_30 : decode cX9_sums 30 = .ok (.lstore 5, 2) := by decide +kernel
theorem dX9_sums_32 : decode cX9_sums 32 = .ok (.iinc 7 1, 3) := by decide +kernel
theorem dX9_sums_35 : decode cX9_sums 35 = .ok (.goto (-29), 3) := by decide +kernel
theorem dX9_sums_38 : decode cX9_sums 38 = .ok (.lload 5, 2) := by decide +kernel
theorem dX9_sums_40 : decode cX9_sums 40 = .ok (.lreturn, 1) := by decide +kernel
theorem dX9_digest_0 : decode cX9_digest 0 = .ok (.ldc2_w 340, 3) := by decide +kernel
theorem dX9_digest_3 : decode cX9_digest 3 = .ok (.lstore_n 1, 1) := by decide +kernel
theorem dX9_digest_4 : decode cX9_digest 4 = .ok (.iconst 0, 1) := by decide +kernel
theorem dX9_digest_5 : decode cX9_digest 5 = .ok (.istore_n 3, 1) := by decide +kernel
theorem dX9_digest_6 : decode cX9_digest 6 = .ok (.iload_n 3, 1) := by decide +kernel
theorem dX9_digest_7 : decode cX9_digest 7 = .ok (.bipush 8, 2) := by decide +kernel
theorem dX9_digest_9 : decode cX9_digest 9 = .ok (.if_icmp .ge 22, 3) := by decide +kernel
theorem dX9_digest_12 : decode cX9_digest 12 = .ok (.ldc2_w 338, 3) := by decide +kernel
theorem dX9_digest_15 : decode cX9_digest 15 = .ok (.lload_n 1, 1) := by decide +kernel
theorem dX9_digest_16 : decode cX9_digest 16 = .ok (.lmul, 1) := by decide +kernel
theorem dX9_digest_17 : decode cX9_digest 17 = .ok (.aload_n 0, 1) := by decide +kernel
theorem dX9_digest_18 : decode cX9_digest 18 = .ok (.iload_n 3, 1) := by decide +kernel
theorem dX9_digest_19 : decode cX9_digest 19 = .ok (.invokevirtual 335, 3) := by decide +kernel
theorem dX9_digest_22 : decode cX9_digest 22 = .ok (.i2l, 1) := by decide +kernel
theorem dX9_digest_23 : decode cX9_digest 23 = .ok (.ladd, 1) := by decide +kernel
theorem dX9_digest_24 : decode cX9_digest 24 = .ok (.lstore_n 1, 1) := by decide +kernel
theorem dX9_digest_25 : decode cX9_digest 25 = .ok (.iinc 3 1, 3) := by decide +kernel
theorem dX9_digest_28 : decode cX9_digest 28 = .ok (.goto (-22), 3) := by decide +kernel
theorem dX9_digest_31 : decode cX9_digest 31 = .ok (.iconst 0, 1) := by decide +kernel
theorem dX9_digest_32 : decode cX9_digest 32 = .ok (.istore_n 3, 1) := by decide +kernel
theorem dX9_digest_33 : decode cX9_digest 33 = .ok (.iload_n 3, 1) := by decide +kernel
theorem dX9_digest_34 : decode cX9_digest 34 = .ok (.iconst 5, 1) := by decide +kernel
theorem dX9_digest_35 : decode cX9_digest 35 = .ok (.if_icmp .ge 22, 3) := by decide +kernel
theorem dX9_digest_38 : decode cX9_digest 38 = .ok (.ldc2_w 338, 3) := by decide +kernel
theorem dX9_digest_41 : decode cX9_digest 41 = .ok (.lload_n 1, 1) := by decide +kernel
theorem dX9_digest_42 : decode cX9_digest 42 = .ok (.lmul, 1) := by decide +kernel
theorem dX9_digest_43 : decode cX9_digest 43 = .ok (.aload_n 0, 1) := by decide +kernel
theorem dX9_digest_44 : decode cX9_digest 44 = .ok (.iload_n 3, 1) := by decide +kernel
theorem dX9_digest_45 : decode cX9_digest 45 = .ok (.invokevirtual 140, 3) := by decide +kernel
theorem dX9_digest_48 : decode cX9_digest 48 = .ok (.i2l, 1) := by decide +kernel
theorem dX9_digest_49 : decode cX9_digest 49 = .ok (.ladd, 1) := by decide +kernel
theorem dX9_digest_50 : decode cX9_digest 50 = .ok (.lstore_n 1, 1) := by decide +kernel
theorem dX9_digest_51 : decode cX9_digest 51 = .ok (.iinc 3 1, 3) := by decide +kernel
theorem dX9_digest_54 : decode cX9_digest 54 = .ok (.goto (-21), 3) := by decide +kernel
theorem dX9_digest_57 : decode cX9_digest 57 = .ok (.iconst 0, 1) := by decide +kernel
theorem dX9_digest_58 : decode cX9_digest 58 = .ok (.istore_n 3, 1) := by decide +kernel
theorem dX9_digest_59 : decode cX9_digest 59 = .ok (.iload_n 3, 1) := by decide +kernel
theorem dX9_digest_60 : decode cX9_digest 60 = .ok (.iconst 2, 1) := by decide +kernel
theorem dX9_digest_61 : decode cX9_digest 61 = .ok (.if_icmp .ge 41, 3) := by decide +kernel
theorem dX9_digest_64 : decode cX9_digest 64 = .ok (.ldc2_w 338, 3) := by decide +kernel
theorem dX9_digest_67 : decode cX9_digest 67 = .ok (.ldc2_w 338, 3) := by decide +kernel
theorem dX9_digest_70 : decode cX9_digest 70 = .ok (.lload_n 1, 1) := by decide +kernel
theorem dX9_digest_71 : decode cX9_digest 71 = .ok (.lmul, 1) := by decide +kernel
theorem dX9_digest_72 : decode cX9_digest 72 = .ok (.aload_n 0, 1) := by decide +kernel
theorem dX9_digest_73 : decode cX9_digest 73 = .ok (.getfield 7, 3) := by decide +kernel
theorem dX9_digest_76 : decode cX9_digest 76 = .ok (.bipush 30, 2) := by decide +kernel
theorem dX9_digest_78 : decode cX9_digest 78 = .ok (.iload_n 3, 1) := by decide +kernel
theorem dX9_digest_79 : decode cX9_digest 79 = .ok (.iadd, 1) := by decide +kernel
theorem dX9_digest_80 : decode cX9_digest 80 = .ok (.iaload, 1) := by decide +kernel
theorem dX9_digest_81 : decode cX9_digest 81 = .ok (.i2l, 1) := by decide +kernel
theorem dX9_digest_82 : decode cX9_digest 82 = .ok (.ladd, 1) := by decide +kernel
theorem dX9_digest_83 : decode cX9_digest 83 = .ok (.lmul, 1) := by decide +kernel
theorem dX9_digest_84 : decode cX9_digest 84 = .ok (.aload_n 0, 1) := by decide +kernel
theorem dX9_digest_85 : decode cX9_digest 85 = .ok (.getfield 7, 3) := by decide +kernel
theorem dX9_digest_88 : decode cX9_digest 88 = .ok (.bipush 12, 2) := by decide +kernel
theorem dX9_digest_90 : decode cX9_digest 90 = .ok (.iload_n 3, 1) := by decide +kernel
theorem dX9_digest_91 : decode cX9_digest 91 = .ok (.iadd, 1) := by decide +kernel
theorem dX9_digest_92 : decode cX9_digest 92 = .ok (.iaload, 1) := by decide +kernel
theorem dX9_digest_93 : decode cX9_digest 93 = .ok (.i2l, 1) := by decide +kernel
theorem dX9_digest_94 : decode cX9_digest 94 = .ok (.ladd, 1) := by decide +kernel
theorem dX9_digest_95 : decode cX9_digest 95 = .ok (.lstore_n 1, 1) := by decide +kernel
theorem dX9_digest_96 : decode cX9_digest 96 = .ok (.iinc 3 1, 3) := by decide +kernel
theorem dX9_digest_99 : decode cX9_digest 99 = .ok (.goto (-40), 3) := by decide +kernel
theorem dX9_digest_102 : decode cX9_digest 102 = .ok (.iconst 0, 1) := by decide +kernel
theorem dX9_digest_103 : decode cX9_digest 103 = .ok (.istore_n 3, 1) := by decide +kernel
theorem dX9_digest_104 : decode cX9_digest 104 = .ok (.iload_n 3, 1) := by decide +kernel
theorem dX9_digest_105 : decode cX9_digest 105 = .ok (.aload_n 0, 1) := by decide +kernel
theorem dX9_digest_106 : decode cX9_digest 106 = .ok (.invokevirtual 70, 3) := by decide +kernel
theorem dX9_digest_109 : decode cX9_digest 109 = .ok (.if_icmp .ge 74, 3) := by decide +kernel
theorem dX9_digest_112 : decode cX9_digest 112 = .ok (.ldc2_w 338, 3) := by decide +kernel
theorem dX9_digest_115 : decode cX9_digest 115 = .ok (.ldc2_w 338, 3) := by decide +kernel
theorem dX9_digest_118 : decode cX9_digest 118 = .ok (.lload_n 1, 1) := by decide +kernel
theorem dX9_digest_119 : decode cX9_digest 119 = .ok (.lmul, 1) := by decide +kernel
theorem dX9_digest_120 : decode cX9_digest 120 = .ok (.aload_n 0, 1) := by decide +kernel
theorem dX9_digest_121 : decode cX9_digest 121 = .ok (.getfield 7, 3) := by decide +kernel
theorem dX9_digest_124 : decode cX9_digest 124 = .ok (.bipush 18, 2) := by decide +kernel
theorem dX9_digest_126 : decode cX9_digest 126 = .ok (.iload_n 3, 1) := by decide +kernel
theorem dX9_digest_127 : decode cX9_digest 127 = .ok (.iadd, 1) := by decide +kernel
theorem dX9_digest_128 : decode cX9_digest 128 = .ok (.iaload, 1) := by decide +kernel
theorem dX9_digest_129 : decode cX9_digest 129 = .ok (.i2l, 1) := by decide +kernel
theorem dX9_digest_130 : decode cX9_digest 130 = .ok (.ladd, 1) := by decide +kernel
theorem dX9_digest_131 : decode cX9_digest 131 = .ok (.lmul, 1) := by decide +kernel
theorem dX9_digest_132 : decode cX9_digest 132 = .ok (.aload_n 0, 1) := by decide +kernel
theorem dX9_digest_133 : decode cX9_digest 133 = .ok (.getfield 7, 3) := by decide +kernel
theorem dX9_digest_136 : decode cX9_digest 136 = .ok (.bipush 24, 2) := by decide +kernel
theorem dX9_digest_138 : decode cX9_digest 138 = .ok (.iload_n 3, 1) := by decide +kernel
theorem dX9_digest_139 : decode cX9_digest 139 = .ok (.iadd, 1) := by decide +kernel
theorem dX9_digest_140 : decode cX9_digest 140 = .ok (.iaload, 1) := by decide +kernel
theorem dX9_digest_141 : decode cX9_digest 141 = .ok (.i2l, 1) := by decide +kernel
theorem dX9_digest_142 : decode cX9_digest 142 = .ok (.ladd, 1) := by decide +kernel
theorem dX9_digest_143 : decode cX9_digest 143 = .ok (.lstore_n 1, 1) := by decide +kernel
theorem dX9_digest_144 : decode cX9_digest 144 = .ok (.ldc2_w 338, 3) := by decide +kernel
theorem dX9_digest_147 : decode cX9_digest 147 = .ok (.ldc2_w 338, 3) := by decide +kernel
theorem dX9_digest_150 : decode cX9_digest 150 = .ok (.lload_n 1, 1) := by decide +kernel
theorem dX9_digest_151 : decode cX9_digest 151 = .ok (.lmul, 1) := by decide +kernel
theorem dX9_digest_152 : decode cX9_digest 152 = .ok (.aload_n 0, 1) := by decide +kernel
theorem dX9_digest_153 : decode cX9_digest 153 = .ok (.getfield 7, 3) := by decide +kernel
theorem dX9_digest_156 : decode cX9_digest 156 = .ok (.bipush 6, 2) := by decide +kernel
theorem dX9_digest_158 : decode cX9_digest 158 = .ok (.iload_n 3, 1) := by decide +kernel
theorem dX9_digest_159 : decode cX9_digest 159 = .ok (.iadd, 1) := by decide +kernel
theorem dX9_digest_160 : decode cX9_digest 160 = .ok (.iaload, 1) := by decide +kernel
theorem dX9_digest_161 : decode cX9_digest 161 = .ok (.i2l, 1) := by decide +kernel
theorem dX9_digest_162 : decode cX9_digest 162 = .ok (.ladd, 1) := by decide +kernel
theorem dX9_digest_163 : decode cX9_digest 163 = .ok (.lmul, 1) := by decide +kernel
theorem dX9_digest_164 : decode cX9_digest 164 = .ok (.aload_n 0, 1) := by decide +kernel
theorem dX9_digest_165 : decode cX9_digest 165 = .ok (.getfield 7, 3) := by decide +kernel
theorem dX9_digest_168 : decode cX9_digest 168 = .ok (.iconst 5, 1) := by decide +kernel
theorem dX9_digest_169 : decode cX9_digest 169 = .ok (.iaload, 1) := by decide +kernel
theorem dX9_digest_170 : decode cX9_digest 170 = .ok (.iload_n 3, 1) := by decide +kernel
theorem dX9_digest_171 : decode cX9_digest 171 = .ok (.ishr, 1) := by decide +kernel
theorem dX9_digest_172 : decode cX9_digest 172 = .ok (.iconst 1, 1) := by decide +kernel
theorem dX9_digest_173 : decode cX9_digest 173 = .ok (.iand, 1) := by decide +kernel
theorem dX9_digest_174 : decode cX9_digest 174 = .ok (.i2l, 1) := by decide +kernel
theorem dX9_digest_175 : decode cX9_digest 175 = .ok (.ladd, 1) := by decide +kernel
theorem dX9_digest_176 : decode cX9_digest 176 = .ok (.lstore_n 1, 1) := by decide +kernel
theorem dX9_digest_177 : decode cX9_digest 177 = .ok (.iinc 3 1, 3) := by decide +kernel
theorem dX9_digest_180 : decode cX9_digest 180 = .ok (.goto (-76), 3) := by decide +kernel
theorem dX9_digest_183 : decode cX9_digest 183 = .ok (.aload_n 0, 1) := by decide +kernel
theorem dX9_digest_184 : decode cX9_digest 184 = .ok (.lload_n 1, 1) := by decide +kernel
theorem dX9_digest_185 : decode cX9_digest 185 = .ok (.bipush 32, 2) := by decide +kernel
theorem dX9_digest_187 : decode cX9_digest 187 = .ok (.aload_n 0, 1) := by decide +kernel
theorem dX9_digest_188 : decode cX9_digest 188 = .ok (.getfield 7, 3) := by decide +kernel
theorem dX9_digest_191 : decode cX9_digest 191 = .ok (.iconst 1, 1) := by decide +kernel
theorem dX9_digest_192 : decode cX9_digest 192 = .ok (.iaload, 1) := by decide +kernel
theorem dX9_digest_193 : decode cX9_digest 193 = .ok (.invokevirtual 342, 3) := by decide +kernel
theorem dX9_digest_196 : decode cX9_digest 196 = .ok (.lstore_n 1, 1) := by decide +kernel
theorem dX9_digest_197 : decode cX9_digest 197 = .ok (.aload_n 0, 1) := by decide +kernel
theorem dX9_digest_198 : decode cX9_digest 198 = .ok (.lload_n 1, 1) := by decide +kernel
theorem dX9_digest_199 : decode cX9_digest 199 = .ok (.bipush 36, 2) := by decide +kernel
theorem dX9_digest_201 : decode cX9_digest 201 = .ok (.iconst 5, 1) := by decide +kernel
theorem dX9_digest_202 : decode cX9_digest 202 = .ok (.aload_n 0, 1) := by decide +kernel
theorem dX9_digest_203 : decode cX9_digest 203 = .ok (.getfield 7, 3) := by decide +kernel
theorem dX9_digest_206 : decode cX9_digest 206 = .ok (.iconst 2, 1) := by decide +kernel
theorem dX9_digest_207 : decode cX9_digest 207 = .ok (.iaload, 1) := by decide +kernel
theorem dX9_digest_208 : decode cX9_digest 208 = .ok (.imul, 1) := by decide +kernel
theorem dX9_digest_209 : decode cX9_digest 209 = .ok (.invokevirtual 342, 3) := by decide +kernel
theorem dX9_digest_212 : decode cX9_digest 212 = .ok (.lstore_n 1, 1) := by decide +kernel
theorem dX9_digest_213 : decode cX9_digest 213 = .ok (.aload_n 0, 1) := by decide +kernel
theorem dX9_digest_214 : decode cX9_digest 214 = .ok (.lload_n 1, 1) := by decide +kernel
theorem dX9_digest_215 : decode cX9_digest 215 = .ok (.bipush 66, 2) := by decide +kernel
theorem dX9_digest_217 : decode cX9_digest 217 = .ok (.iconst 4, 1) := by decide +kernel
theorem dX9_digest_218 : decode cX9_digest 218 = .ok (.aload_n 0, 1) := by decide +kernel
theorem dX9_digest_219 : decode cX9_digest 219 = .ok (.getfield 7, 3) := by decide +kernel
theorem dX9_digest_222 : decode cX9_digest 222 = .ok (.iconst 3, 1) := by decide +kernel
theorem dX9_digest_223 : decode cX9_digest 223 = .ok (.iaload, 1) := by decide +kernel
theorem dX9_digest_224 : decode cX9_digest 224 = .ok (.imul, 1) := by decide +kernel
theorem dX9_digest_225 : decode cX9_digest 225 = .ok (.invokevirtual 342, 3) := by decide +kernel
theorem dX9_digest_228 : decode cX9_digest 228 = .ok (.lstore_n 1, 1) := by decide +kernel
theorem dX9_digest_229 : decode cX9_digest 229 = .ok (.ldc2_w 338, 3) := by decide +kernel
theorem dX9_digest_232 : decode cX9_digest 232 = .ok (.ldc2_w 338, 3) := by decide +kernel
theorem dX9_digest_235 : decode cX9_digest 235 = .ok (.lload_n 1, 1) := by decide +kernel
theorem dX9_digest_236 : decode cX9_digest 236 = .ok (.lmul, 1) := by decide +kernel
theorem dX9_digest_237 : decode cX9_digest 237 = .ok (.aload_n 0, 1) := by decide +kernel
theorem dX9_digest_238 : decode cX9_digest 238 = .ok (.getfield 241, 3) := by decide +kernel
theorem dX9_digest_241 : decode cX9_digest 241 = .ok (.ladd, 1) := by decide +kernel
theorem dX9_digest_242 : decode cX9_digest 242 = .ok (.lmul, 1) := by decide +kernel
theorem dX9_digest_243 : decode cX9_digest 243 = .ok (.aload_n 0, 1) := by decide +kernel
theorem dX9_digest_244 : decode cX9_digest 244 = .ok (.getfield 23, 3) := by decide +kernel
theorem dX9_digest_247 : decode cX9_digest 247 = .ok (.ladd, 1) := by decide +kernel
theorem dX9_digest_248 : decode cX9_digest 248 = .ok (.lreturn, 1) := by decide +kernel
theorem dJ6_bitCount_0f7a4_0 : decode cJ6_bitCount_0f7a4 0 = .ok (.iload_n 0, 1) := by decide +kernel
theorem dJ6_bitCount_0f7a4_1 : decode cJ6_bitCount_0f7a4 1 = .ok (.iload_n 0, 1) := by decide +kernel
theorem dJ6_bitCount_0f7a4_2 : decode cJ6_bitCount_0f7a4 2 = .ok (.iconst 1, 1) := by decide +kernel
theorem dJ6_bitCount_0f7a4_3 : decode cJ6_bitCount_0f7a4 3 = .ok (.iushr, 1) := by decide +kernel
theorem dJ6_bitCount_0f7a4_4 : decode cJ6_bitCount_0f7a4 4 = .ok (.ldc_w 265, 3) := by decide +kernel
theorem dJ6_bitCount_0f7a4_7 : decode cJ6_bitCount_0f7a4 7 = .ok (.iand, 1) := by decide +kernel
theorem dJ6_bitCount_0f7a4_8 : decode cJ6_bitCount_0f7a4 8 = .ok (.isub, 1) := by decide +kernel
theorem dJ6_bitCount_0f7a4_9 : decode cJ6_bitCount_0f7a4 9 = .ok (.istore_n 0, 1) := by decide +kernel
theorem dJ6_bitCount_0f7a4_10 : decode cJ6_bitCount_0f7a4 10 = .ok (.iload_n 0, 1) := by decide +kernel
theorem dJ6_bitCount_0f7a4_11 : decode cJ6_bitCount_0f7a4 11 = .ok (.ldc_w 266, 3) := by decide +kernel
theorem dJ6_bitCount_0f7a4_14 : decode cJ6_bitCount_0f7a4 14 = .ok (.iand, 1) := by decide +kernel
theorem dJ6_bitCount_0f7a4_15 : decode cJ6_bitCount_0f7a4 15 = .ok (.iload_n 0, 1) := by decide +kernel
theorem dJ6_bitCount_0f7a4_16 : decode cJ6_bitCount_0f7a4 16 = .ok (.iconst 2, 1) := by decide +kernel
theorem dJ6_bitCount_0f7a4_17 : decode cJ6_bitCount_0f7a4 17 = .ok (.iushr, 1) := by decide +kernel
theorem dJ6_bitCount_0f7a4_18 : decode cJ6_bitCount_0f7a4 18 = .ok (.ldc_w 266, 3) := by decide +kernel
theorem dJ6_bitCount_0f7a4_21 : decode cJ6_bitCount_0f7a4 21 = .ok (.iand, 1) := by decide +kernel
theorem dJ6_bitCount_0f7a4_22 : decode cJ6_bitCount_0f7a4 22 = .ok (.iadd, 1) := by decide +kernel
theorem dJ6_bitCount_0f7a4_23 : decode cJ6_bitCount_0f7a4 23 = .ok (.istore_n 0, 1) := by decide +kernel
theorem dJ6_bitCount_0f7a4_24 : decode cJ6_bitCount_0f7a4 24 = .ok (.iload_n 0, 1) := by decide +kernel
theorem dJ6_bitCount_0f7a4_25 : decode cJ6_bitCount_0f7a4 25 = .ok (.iload_n 0, 1) := by decide +kernel
theorem dJ6_bitCount_0f7a4_26 : decode cJ6_bitCount_0f7a4 26 = .ok (.iconst 4, 1) := by decide +kernel
theorem dJ6_bitCount_0f7a4_27 : decode cJ6_bitCount_0f7a4 27 = .ok (.iushr, 1) := by decide +kernel
theorem dJ6_bitCount_0f7a4_28 : decode cJ6_bitCount_0f7a4 28 = .ok (.iadd, 1) := by decide +kernel
theorem dJ6_bitCount_0f7a4_29 : decode cJ6_bitCount_0f7a4 29 = .ok (.ldc_w 267, 3) := by decide +kernel
theorem dJ6_bitCount_0f7a4_32 : decode cJ6_bitCount_0f7a4 32 = .ok (.iand, 1) := by decide +kernel
theorem dJ6_bitCount_0f7a4_33 : decode cJ6_bitCount_0f7a4 33 = .ok (.istore_n 0, 1) := by decide +kernel
theorem dJ6_bitCount_0f7a4_34 : decode cJ6_bitCount_0f7a4 34 = .ok (.iload_n 0, 1) := by decide +kernel
theorem dJ6_bitCount_0f7a4_35 : decode cJ6_bitCount_0f7a4 35 = .ok (.iload_n 0, 1) := by decide +kernel
theorem dJ6_bitCount_0f7a4_36 : decode cJ6_bitCount_0f7a4 36 = .ok (.bipush 8, 2) := by decide +kernel
theorem dJ6_bitCount_0f7a4_38 : decode cJ6_bitCount_0f7a4 38 = .ok (.iushr, 1) := by decide +kernel
theorem dJ6_bitCount_0f7a4_39 : decode cJ6_bitCount_0f7a4 39 = .ok (.iadd, 1) := by decide +kernel
theorem dJ6_bitCount_0f7a4_40 : decode cJ6_bitCount_0f7a4 40 = .ok (.istore_n 0, 1) := by decide +kernel
theorem dJ6_bitCount_0f7a4_41 : decode cJ6_bitCount_0f7a4 41 = .ok (.iload_n 0, 1) := by decide +kernel
theorem dJ6_bitCount_0f7a4_42 : decode cJ6_bitCount_0f7a4 42 = .ok (.iload_n 0, 1) := by decide +kernel
theorem dJ6_bitCount_0f7a4_43 : decode cJ6_bitCount_0f7a4 43 = .ok (.bipush 16, 2) := by decide +kernel
theorem dJ6_bitCount_0f7a4_45 : decode cJ6_bitCount_0f7a4 45 = .ok (.iushr, 1) := by decide +kernel
theorem dJ6_bitCount_0f7a4_46 : decode cJ6_bitCount_0f7a4 46 = .ok (.iadd, 1) := by decide +kernel
theorem dJ6_bitCount_0f7a4_47 : decode cJ6_bitCount_0f7a4 47 = .ok (.istore_n 0, 1) := by decide +kernel
theorem dJ6_bitCount_0f7a4_48 : decode cJ6_bitCount_0f7a4 48 = .ok (.iload_n 0, 1) := by decide +kernel
theorem dJ6_bitCount_0f7a4_49 : decode cJ6_bitCount_0f7a4 49 = .ok (.bipush 63, 2) := by decide +kernel
theorem dJ6_bitCount_0f7a4_51 : decode cJ6_bitCount_0f7a4 51 = .ok (.iand, 1) := by decide +kernel
theorem dJ6_bitCount_0f7a4_52 : decode cJ6_bitCount_0f7a4 52 = .ok (.ireturn, 1) := by decide +kernel
theorem dJ9_max_7cf53_0 : decode cJ9_max_7cf53 0 = .ok (.iload_n 0, 1) := by decide +kernel
theorem dJ9_max_7cf53_1 : decode cJ9_max_7cf53 1 = .ok (.iload_n 1, 1) := by decide +kernel
theorem dJ9_max_7cf53_2 : decode cJ9_max_7cf53 2 = .ok (.if_icmp .lt 7, 3) := by decide +kernel
theorem dJ9_max_7cf53_5 : decode cJ9_max_7cf53 5 = .ok (.iload_n 0, 1) := by decide +kernel
theorem dJ9_max_7cf53_6 : decode cJ9_max_7cf53 6 = .ok (.goto 4, 3) := by decide +kernel
theorem dJ9_max_7cf53_9 : decode cJ9_max_7cf53 9 = .ok (.iload_n 1, 1) := by decide +kernel
theorem dJ9_max_7cf53_10 : decode cJ9_max_7cf53 10 = .ok (.ireturn, 1) := by decide +kernel
theorem dJ9_min_7cf53_0 : decode cJ9_min_7cf53 0 = .ok (.iload_n 0, 1) := by decide +kernel
theorem dJ9_min_7cf53_1 : decode cJ9_min_7cf53 1 = .ok (.iload_n 1, 1) := by decide +kernel
theorem dJ9_min_7cf53_2 : decode cJ9_min_7cf53 2 = .ok (.if_icmp .gt 7, 3) := by decide +kernel
theorem dJ9_min_7cf53_5 : decode cJ9_min_7cf53 5 = .ok (.iload_n 0, 1) := by decide +kernel
theorem dJ9_min_7cf53_6 : decode cJ9_min_7cf53 6 = .ok (.goto 4, 3) := by decide +kernel
theorem dJ9_min_7cf53_9 : decode cJ9_min_7cf53 9 = .ok (.iload_n 1, 1) := by decide +kernel
theorem dJ9_min_7cf53_10 : decode cJ9_min_7cf53 10 = .ok (.ireturn, 1) := by decide +kernel
theorem dJ0_length_8abf5_0 : decode cJ0_length_8abf5 0 = .ok (.aload_n 0, 1) := by decide +kernel
theorem dJ0_length_8abf5_1 : decode cJ0_length_8abf5 1 = .ok (.getfield 9, 3) := by decide +kernel
theorem dJ0_length_8abf5_4 : decode cJ0_length_8abf5 4 = .ok (.arraylength, 1) := by decide +kernel
theorem dJ0_length_8abf5_5 : decode cJ0_length_8abf5 5 = .ok (.aload_n 0, 1) := by decide +kernel
theorem dJ0_length_8abf5_6 : decode cJ0_length_8abf5 6 = .ok (.invokevirtual 335, 3) := by decide +kernel
theorem dJ0_length_8abf5_9 : decode cJ0_length_8abf5 9 = .ok (.ishr, 1) := by decide +kernel
theorem dJ0_length_8abf5_10 : decode cJ0_length_8abf5 10 = .ok (.ireturn, 1) := by decide +kernel
theorem dJ0_charAt_5068e_0 : decode cJ0_charAt_5068e 0 = .ok (.aload_n 0, 1) := by decide +kernel
theorem dJ0_charAt_5068e_1 : decode cJ0_charAt_5068e 1 = .ok (.invokevirtual 492, 3) := by decide +kernel
theorem dJ0_charAt_5068e_4 : decode cJ0_charAt_5068e 4 = .ok (.ifCond .eq 12, 3) := by decide +kernel
theorem dJ0_charAt_5068e_7 : decode cJ0_charAt_5068e 7 = .ok (.aload_n 0, 1) := by decide +kernel
theorem dJ0_charAt_5068e_8 : decode cJ0_charAt_5068e 8 = .ok (.getfield 9, 3) := by decide +kernel
theorem dJ0_charAt_5068e_11 : decode cJ0_charAt_5068e 11 = .ok (.iload_n 1, 1) := by decide +kernel
theorem dJ0_charAt_5068e_12 : decode cJ0_charAt_5068e 12 = .ok (.invokestatic 495, 3) := by decide +kernel
theorem dJ0_charAt_5068e_15 : decode cJ0_charAt_5068e 15 = .ok (.ireturn, 1) := by decide +kernel
theorem dJ0_charAt_5068e_16 : decode cJ0_charAt_5068e 16 = .ok (.aload_n 0, 1) := by decide +kernel
theorem dJ0_charAt_5068e_17 : decode cJ0_charAt_5068e 17 = .ok (.getfield 9, 3) := by decide +kernel
theorem dJ0_charAt_5068e_20 : decode cJ0_charAt_5068e 20 = .ok (.iload_n 1, 1) := by decide +kernel
theorem dJ0_charAt_5068e_21 : decode cJ0_charAt_5068e 21 = .ok (.invokestatic 498, 3) := by decide +kernel
theorem dJ0_charAt_5068e_24 : decode cJ0_charAt_5068e 24 = .ok (.ireturn, 1) := by decide +kernel
theorem dJ0_coder_7d493_0 : decode cJ0_coder_7d493 0 = .ok (.getstatic 38, 3) := by decide +kernel
theorem dJ0_coder_7d493_3 : decode cJ0_coder_7d493 3 = .ok (.ifCond .eq 10, 3) := by decide +kernel
theorem dJ0_coder_7d493_6 : decode cJ0_coder_7d493 6 = .ok (.aload_n 0, 1) := by decide +kernel
theorem dJ0_coder_7d493_7 : decode cJ0_coder_7d493 7 = .ok (.getfield 15, 3) := by decide +kernel
theorem dJ0_coder_7d493_10 : decode cJ0_coder_7d493 10 = .ok (.goto 4, 3) := by decide +kernel
theorem dJ0_coder_7d493_13 : decode cJ0_coder_7d493 13 = .ok (.iconst 1, 1) := by decide +kernel
theorem dJ0_coder_7d493_14 : decode cJ0_coder_7d493 14 = .ok (.ireturn, 1) := by decide +kernel
theorem dJ0_isLatin1_aae02_0 : decode cJ0_isLatin1_aae02 0 = .ok (.getstatic 38, 3) := by decide +kernel
theorem dJ0_isLatin1_aae02_3 : decode cJ0_isLatin1_aae02 3 = .ok (.ifCond .eq 14, 3) := by decide +kernel
theorem dJ0_isLatin1_aae02_6 : decode cJ0_isLatin1_aae02 6 = .ok (.aload_n 0, 1) := by decide +kernel
theorem dJ0_isLatin1_aae02_7 : decode cJ0_isLatin1_aae02 7 = .ok (.getfield 15, 3) := by decide +kernel
theorem dJ0_isLatin1_aae02_10 : decode cJ0_isLatin1_aae02 10 = .ok (.ifCond .ne 7, 3) := by decide +kernel
theorem dJ0_isLatin1_aae02_13 : decode cJ0_isLatin1_aae02 13 = .ok (.iconst 1, 1) := by decide +kernel
theorem dJ0_isLatin1_aae02_14 : decode cJ0_isLatin1_aae02 14 = .ok (.goto 4, 3) := by decide +kernel
theorem dJ0_isLatin1_aae02_17 : decode cJ0_isLatin1_aae02 17 = .ok (.iconst 0, 1) := by decide +kernel
theorem dJ0_isLatin1_aae02_18 : decode cJ0_isLatin1_aae02 18 = .ok (.ireturn, 1) := by decide +kernel
theorem dJ0_checkIndex_df160_0 : decode cJ0_checkIndex_df160 0 = .ok (.iload_n 0, 1) := by decide +kernel
theorem dJ0_checkIndex_df160_1 : decode cJ0_checkIndex_df160 1 = .ok (.iload_n 1, 1) := by decide +kernel
theorem dJ0_checkIndex_df160_2 : decode cJ0_checkIndex_df160 2 = .ok (.getstatic 1053, 3) := by decide +kernel
theorem dJ0_checkIndex_df160_5 : decode cJ0_checkIndex_df160 5 = .ok (.invokestatic 1059, 3) := by decide +kernel
theorem dJ0_checkIndex_df160_8 : decode cJ0_checkIndex_df160 8 = .ok (.pop, 1) := by decide +kernel
theorem dJ0_checkIndex_df160_9 : decode cJ0_checkIndex_df160 9 = .ok (.return_, 1) := by decide +kernel
theorem dJ1_charAt_3b067_0 : decode cJ1_charAt_3b067 0 = .ok (.iload_n 1, 1) := by decide +kernel
theorem dJ1_charAt_3b067_1 : decode cJ1_charAt_3b067 1 = .ok (.aload_n 0, 1) := by decide +kernel
theorem dJ1_charAt_3b067_2 : decode cJ1_charAt_3b067 2 = .ok (.arraylength, 1) := by decide +kernel
theorem dJ1_charAt_3b067_3 : decode cJ1_charAt_3b067 3 = .ok (.invokestatic 9, 3) := by decide +kernel
theorem dJ1_charAt_3b067_6 : decode cJ1_charAt_3b067 6 = .ok (.aload_n 0, 1) := by decide +kernel
theorem dJ1_charAt_3b067_7 : decode cJ1_charAt_3b067 7 = .ok (.iload_n 1, 1) := by decide +kernel
theorem dJ1_charAt_3b067_8 : decode cJ1_charAt_3b067 8 = .ok (.baload, 1) := by decide +kernel
theorem dJ1_charAt_3b067_9 : decode cJ1_charAt_3b067 9 = .ok (.sipush 255, 3) := by decide +kernel
theorem dJ1_charAt_3b067_12 : decode cJ1_charAt_3b067 12 = .ok (.iand, 1) := by decide +kernel
theorem dJ1_charAt_3b067_13 : decode cJ1_charAt_3b067 13 = .ok (.i2c, 1) := by decide +kernel
theorem dJ1_charAt_3b067_14 : decode cJ1_charAt_3b067 14 = .ok (.ireturn, 1) := by decide +kernel
theorem dJ2_getChar_3b067_0 : decode cJ2_getChar_3b067 0 = .ok (.getstatic 44, 3) := by decide +kernel
theorem dJ2_getChar_3b067_3 : decode cJ2_getChar_3b067 3 = .ok (.ifCond .ne 25, 3) := by decide +kernel
theorem dJ2_getChar_3b067_6 : decode cJ2_getChar_3b067 6 = .ok (.iload_n 1, 1) := by decide +kernel
theorem dJ2_getChar_3b067_7 : decode cJ2_getChar_3b067 7 = .ok (.ifCond .lt 11, 3) := by decide +kernel
theorem dJ2_getChar_3b067_10 : decode cJ2_getChar_3b067 10 = .ok (.iload_n 1, 1) := by decide +kernel
theorem dJ2_getChar_3b067_11 : decode cJ2_getChar_3b067 11 = .ok (.aload_n 0, 1) := by decide +kernel
theorem dJ2_getChar_3b067_12 : decode cJ2_getChar_3b067 12 = .ok (.invokestatic 48, 3) := by decide +kernel
theorem dJ2_getChar_3b067_15 : decode cJ2_getChar_3b067 15 = .ok (.if_icmp .lt 13, 3) := by decide +kernel
theorem dJ2_getChar_3b067_18 : decode cJ2_getChar_3b067 18 = .ok (.new 52, 3) := by decide +kernel
theorem dJ2_getChar_3b067_21 : decode cJ2_getChar_3b067 21 = .ok (.dup, 1) := by decide +kernel
theorem dJ2_getChar_3b067_22 : decode cJ2_getChar_3b067 22 = .ok (.ldc 54, 2) := by decide +kernel
theorem dJ2_getChar_3b067_24 : decode cJ2_getChar_3b067 24 = .ok (.invokespecial 56, 3) := by decide +kernel
theorem dJ2_getChar_3b067_27 : decode cJ2_getChar_3b067 27 = .ok (.athrow, 1) := by decide +kernel
theorem dJ2_getChar_3b067_28 : decode cJ2_getChar_3b067 28 = .ok (.iload_n 1, 1) := by decide +kernel
theorem dJ2_getChar_3b067_29 : decode cJ2_getChar_3b067 29 = .ok (.iconst 1, 1) := by decide +kernel
theorem dJ2_getChar_3b067_30 : decode cJ2_getChar_3b067 30 = .ok (.ishl, 1) := by decide +kernel
theorem dJ2_getChar_3b067_31 : decode cJ2_getChar_3b067 31 = .ok (.istore_n 1, 1) := by decide +kernel
theorem dJ2_getChar_3b067_32 : decode cJ2_getChar_3b067 32 = .ok (.aload_n 0, 1) := by decide +kernel
theorem dJ2_getChar_3b067_33 : decode cJ2_getChar_3b067 33 = .ok (.iload_n 1, 1) := by decide +kernel
theorem dJ2_getChar_3b067_34 : decode cJ2_getChar_3b067 34 = .ok (.iinc 1 1, 3) := by decide +kernel
theorem dJ2_getChar_3b067_37 : decode cJ2_getChar_3b067 37 = .ok (.baload, 1) := by decide +kernel
theorem dJ2_getChar_3b067_38 : decode cJ2_getChar_3b067 38 = .ok (.sipush 255, 3) := by decide +kernel
theorem dJ2_getChar_3b067_41 : decode cJ2_getChar_3b067 41 = .ok (.iand, 1) := by decide +kernel
theorem dJ2_getChar_3b067_42 : decode cJ2_getChar_3b067 42 = .ok (.getstatic 59, 3) := by decide +kernel
theorem dJ2_getChar_3b067_45 : decode cJ2_getChar_3b067 45 = .ok (.ishl, 1) := by decide +kernel
theorem dJ2_getChar_3b067_46 : decode cJ2_getChar_3b067 46 = .ok (.aload_n 0, 1) := by decide +kernel
theorem dJ2_getChar_3b067_47 : decode cJ2_getChar_3b067 47 = .ok (.iload_n 1, 1) := by decide +kernel
theorem dJ2_getChar_3b067_48 : decode cJ2_getChar_3b067 48 = .ok (.baload, 1) := by decide +kernel
theorem dJ2_getChar_3b067_49 : decode cJ2_getChar_3b067 49 = .ok (.sipush 255, 3) := by decide +kernel
theorem dJ2_getChar_3b067_52 : decode cJ2_getChar_3b067 52 = .ok (.iand, 1) := by decide +kernel
theorem dJ2_getChar_3b067_53 : decode cJ2_getChar_3b067 53 = .ok (.getstatic 63, 3) := by decide +kernel
theorem dJ2_getChar_3b067_56 : decode cJ2_getChar_3b067 56 = .ok (.ishl, 1) := by decide +kernel
theorem dJ2_getChar_3b067_57 : decode cJ2_getChar_3b067 57 = .ok (.ior, 1) := by decide +kernel
theorem dJ2_getChar_3b067_58 : decode cJ2_getChar_3b067 58 = .ok (.i2c, 1) := by decide +kernel
theorem dJ2_getChar_3b067_59 : decode cJ2_getChar_3b067 59 = .ok (.ireturn, 1) := by decide +kernel
theorem dJ2_length_9d52b_0 : decode cJ2_length_9d52b 0 = .ok (.aload_n 0, 1) := by decide +kernel
theorem dJ2_length_9d52b_1 : decode cJ2_length_9d52b 1 = .ok (.arraylength, 1) := by decide +kernel
theorem dJ2_length_9d52b_2 : decode cJ2_length_9d52b 2 = .ok (.iconst 1, 1) := by decide +kernel
theorem dJ2_length_9d52b_3 : decode cJ2_length_9d52b 3 = .ok (.ishr, 1) := by decide +kernel
theorem dJ2_length_9d52b_4 : decode cJ2_length_9d52b 4 = .ok (.ireturn, 1) := by decide +kernel
theorem dJ2_charAt_3b067_0 : decode cJ2_charAt_3b067 0 = .ok (.iload_n 1, 1) := by decide +kernel
theorem dJ2_charAt_3b067_1 : decode cJ2_charAt_3b067 1 = .ok (.aload_n 0, 1) := by decide +kernel
theorem dJ2_charAt_3b067_2 : decode cJ2_charAt_3b067 2 = .ok (.invokestatic 67, 3) := by decide +kernel
theorem dJ2_charAt_3b067_5 : decode cJ2_charAt_3b067 5 = .ok (.aload_n 0, 1) := by decide +kernel
theorem dJ2_charAt_3b067_6 : decode cJ2_charAt_3b067 6 = .ok (.iload_n 1, 1) := by decide +kernel
theorem dJ2_charAt_3b067_7 : decode cJ2_charAt_3b067 7 = .ok (.invokestatic 71, 3) := by decide +kernel
theorem dJ2_charAt_3b067_10 : decode cJ2_charAt_3b067 10 = .ok (.ireturn, 1) := by decide +kernel
theorem dJ2_checkIndex_2214a_0 : decode cJ2_checkIndex_2214a 0 = .ok (.iload_n 0, 1) := by decide +kernel
theorem dJ2_checkIndex_2214a_1 : decode cJ2_checkIndex_2214a 1 = .ok (.aload_n 1, 1) := by decide +kernel
theorem dJ2_checkIndex_2214a_2 : decode cJ2_checkIndex_2214a 2 = .ok (.invokestatic 48, 3) := by decide +kernel
theorem dJ2_checkIndex_2214a_5 : decode cJ2_checkIndex_2214a 5 = .ok (.invokestatic 414, 3) := by decide +kernel
theorem dJ2_checkIndex_2214a_8 : decode cJ2_checkIndex_2214a 8 = .ok (.return_, 1) := by decide +kernel
theorem dJ3_checkIndex_8e157_0 : decode cJ3_checkIndex_8e157 0 = .ok (.iload_n 0, 1) := by decide +kernel
theorem dJ3_checkIndex_8e157_1 : decode cJ3_checkIndex_8e157 1 = .ok (.ifCond .lt 8, 3) := by decide +kernel
theorem dJ3_checkIndex_8e157_4 : decode cJ3_checkIndex_8e157 4 = .ok (.iload_n 0, 1) := by decide +kernel
theorem dJ3_checkIndex_8e157_5 : decode cJ3_checkIndex_8e157 5 = .ok (.iload_n 1, 1) := by decide +kernel
theorem dJ3_checkIndex_8e157_6 : decode cJ3_checkIndex_8e157 6 = .ok (.if_icmp .lt 10, 3) := by decide +kernel
theorem dJ3_checkIndex_8e157_9 : decode cJ3_checkIndex_8e157 9 = .ok (.aload_n 2, 1) := by decide +kernel
theorem dJ3_checkIndex_8e157_10 : decode cJ3_checkIndex_8e157 10 = .ok (.iload_n 0, 1) := by decide +kernel
theorem dJ3_checkIndex_8e157_11 : decode cJ3_checkIndex_8e157 11 = .ok (.iload_n 1, 1) := by decide +kernel
theorem dJ3_checkIndex_8e157_12 : decode cJ3_checkIndex_8e157 12 = .ok (.invokestatic 95, 3) := by decide +kernel
theorem dJ3_checkIndex_8e157_15 : decode cJ3_checkIndex_8e157 15 = .ok (.athrow, 1) := by decide +kernel
theorem dJ3_checkIndex_8e157_16 : decode cJ3_checkIndex_8e157 16 = .ok (.iload_n 0, 1) := by decide +kernel
theorem dJ3_checkIndex_8e157_17 : decode cJ3_checkIndex_8e157 17 = .ok (.ireturn, 1) := by decide +kernel
theorem dL_law_0 : decode cL_law 0 = .ok (.new 7, 3) := by decide +kernel
theorem dL_law_3 : decode cL_law 3 = .ok (.dup, 1) := by decide +kernel
theorem dL_law_4 : decode cL_law 4 = .ok (.invokespecial 9, 3) := by decide +kernel
theorem dL_law_7 : decode cL_law 7 = .ok (.astore_n 1, 1) := by decide +kernel
theorem dL_law_8 : decode cL_law 8 = .ok (.new 10, 3) := by decide +kernel
theorem dL_law_11 : decode cL_law 11 = .ok (.dup, 1) := by decide +kernel
theorem dL_law_12 : decode cL_law 12 = .ok (.invokespecial 12, 3) := by decide +kernel
theorem dL_law_15 : decode cL_law 15 = .ok (.astore_n 2, 1) := by decide +kernel
theorem dL_law_16 : decode cL_law 16 = .ok (.iconst 0, 1) := by decide +kernel
theorem dL_law_17 : decode cL_law 17 = .ok (.istore_n 3, 1) := by decide +kernel
theorem dL_law_18 : decode cL_law 18 = .ok (.iload_n 3, 1) := by decide +kernel
theorem dL_law_19 : decode cL_law 19 = .ok (.aload_n 0, 1) := by decide +kernel
theorem dL_law_20 : decode cL_law 20 = .ok (.arraylength, 1) := by decide +kernel
theorem dL_law_21 : decode cL_law 21 = .ok (.bipush 6, 2) := by decide +kernel
theorem dL_law_23 : decode cL_law 23 = .ok (.isub, 1) := by decide +kernel
theorem dL_law_24 : decode cL_law 24 = .ok (.if_icmp .gt 1013, 3) := by decide +kernel
theorem dL_law_27 : decode cL_law 27 = .ok (.aload_n 0, 1) := by decide +kernel
theorem dL_law_28 : decode cL_law 28 = .ok (.iload_n 3, 1) := by decide +kernel
theorem dL_law_29 : decode cL_law 29 = .ok (.iaload, 1) := by decide +kernel
theorem dL_law_30 : decode cL_law 30 = .ok (.bipush 63, 2) := by decide +kernel
theorem dL_law_32 : decode cL_law 32 = .ok (.iand, 1) := by decide +kernel
theorem dL_law_33 : decode cL_law 33 = .ok (.tableswitch 998 0 32 #[147, 180, 213, 256, 279, 292, 305, 328, 341, 354, 377, 410, 443, 466, 489, 512, 535, 558, 621, 674, 697, 720, 743, 766, 789, 812, 835, 868, 892, 915, 938, 961, 984], 147) := by decide +kernel
theorem dL_law_180 : decode cL_law 180 = .ok (.aload_n 1, 1) := by decide +kernel
theorem dL_law_181 : decode cL_law 181 = .ok (.aload_n 0, 1) := by decide +kernel
theorem dL_law_182 : decode cL_law 182 = .ok (.iload_n 3, 1) := by decide +kernel
theorem dL_law_183 : decode cL_law 183 = .ok (.iconst 1, 1) := by decide +kernel
theorem dL_law_184 : decode cL_law 184 = .ok (.iadd, 1) := by decide +kernel
theorem dL_law_185 : decode cL_law 185 = .ok (.iaload, 1) := by decide +kernel
theorem dL_law_186 : decode cL_law 186 = .ok (.aload_n 0, 1) := by decide +kernel
theorem dL_law_187 : decode cL_law 187 = .ok (.iload_n 3, 1) := by decide +kernel
