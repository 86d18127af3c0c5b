theorem dX3_bow_46 : decode cX3_bow 46 = .ok (.putfield 27, 3) := by decide +kernel
theorem dX3_bow_49 : decode cX3_bow 49 = .ok (.return_, 1) := by decide +kernel
theorem dX3_allGroundsLeft_0 : decode cX3_allGroundsLeft 0 = .ok (.iconst 0, 1) := by decide +kernel
theorem dX3_allGroundsLeft_1 : decode cX3_allGroundsLeft 1 = .ok (.istore_n 1, 1) := by decide +kernel
theorem dX3_allGroundsLeft_2 : decode cX3_allGroundsLeft 2 = .ok (.iconst 0, 1) := by decide +kernel
theorem dX3_allGroundsLeft_3 : decode cX3_allGroundsLeft 3 = .ok (.istore_n 2, 1) := by decide +kernel
theorem dX3_allGroundsLeft_4 : decode cX3_allGroundsLeft 4 = .ok (.iload_n 2, 1) := by decide +kernel
theorem dX3_allGroundsLeft_5 : decode cX3_allGroundsLeft 5 = .ok (.bipush 6, 2) := by decide +kernel
theorem dX3_allGroundsLeft_7 : decode cX3_allGroundsLeft 7 = .ok (.if_icmp .ge 26, 3) := by decide +kernel
theorem dX3_allGroundsLeft_10 : decode cX3_allGroundsLeft 10 = .ok (.iload_n 2, 1) := by decide +kernel
theorem dX3_allGroundsLeft_11 : decode cX3_allGroundsLeft 11 = .ok (.aload_n 0, 1) := by decide +kernel
theorem dX3_allGroundsLeft_12 : decode cX3_allGroundsLeft 12 = .ok (.getfield 31, 3) := by decide +kernel
theorem dX3_allGroundsLeft_15 : decode cX3_allGroundsLeft 15 = .ok (.if_icmp .ge 18, 3) := by decide +kernel
theorem dX3_allGroundsLeft_18 : decode cX3_allGroundsLeft 18 = .ok (.iload_n 1, 1) := by decide +kernel
theorem dX3_allGroundsLeft_19 : decode cX3_allGroundsLeft 19 = .ok (.aload_n 0, 1) := by decide +kernel
theorem dX3_allGroundsLeft_20 : decode cX3_allGroundsLeft 20 = .ok (.getfield 24, 3) := by decide +kernel
theorem dX3_allGroundsLeft_23 : decode cX3_allGroundsLeft 23 = .ok (.iload_n 2, 1) := by decide +kernel
theorem dX3_allGroundsLeft_24 : decode cX3_allGroundsLeft 24 = .ok (.iaload, 1) := by decide +kernel
theorem dX3_allGroundsLeft_25 : decode cX3_allGroundsLeft 25 = .ok (.iadd, 1) := by decide +kernel
theorem dX3_allGroundsLeft_26 : decode cX3_allGroundsLeft 26 = .ok (.istore_n 1, 1) := by decide +kernel
theorem dX3_allGroundsLeft_27 : decode cX3_allGroundsLeft 27 = .ok (.iinc 2 1, 3) := by decide +kernel
theorem dX3_allGroundsLeft_30 : decode cX3_allGroundsLeft 30 = .ok (.goto (-26), 3) := by decide +kernel
theorem dX3_allGroundsLeft_33 : decode cX3_allGroundsLeft 33 = .ok (.iload_n 1, 1) := by decide +kernel
theorem dX3_allGroundsLeft_34 : decode cX3_allGroundsLeft 34 = .ok (.ireturn, 1) := by decide +kernel
theorem dX3_keep_0 : decode cX3_keep 0 = .ok (.aload_n 0, 1) := by decide +kernel
theorem dX3_keep_1 : decode cX3_keep 1 = .ok (.getfield 34, 3) := by decide +kernel
theorem dX3_keep_4 : decode cX3_keep 4 = .ok (.i2l, 1) := by decide +kernel
theorem dX3_keep_5 : decode cX3_keep 5 = .ok (.lstore_n 1, 1) := by decide +kernel
theorem dX3_keep_6 : decode cX3_keep 6 = .ok (.iconst 0, 1) := by decide +kernel
theorem dX3_keep_7 : decode cX3_keep 7 = .ok (.istore_n 3, 1) := by decide +kernel
theorem dX3_keep_8 : decode cX3_keep 8 = .ok (.iload_n 3, 1) := by decide +kernel
theorem dX3_keep_9 : decode cX3_keep 9 = .ok (.bipush 6, 2) := by decide +kernel
theorem dX3_keep_11 : decode cX3_keep 11 = .ok (.if_icmp .ge 21, 3) := by decide +kernel
theorem dX3_keep_14 : decode cX3_keep 14 = .ok (.lload_n 1, 1) := by decide +kernel
theorem dX3_keep_15 : decode cX3_keep 15 = .ok (.iconst 2, 1) := by decide +kernel
theorem dX3_keep_16 : decode cX3_keep 16 = .ok (.lshl, 1) := by decide +kernel
theorem dX3_keep_17 : decode cX3_keep 17 = .ok (.aload_n 0, 1) := by decide +kernel
theorem dX3_keep_18 : decode cX3_keep 18 = .ok (.getfield 24, 3) := by decide +kernel
theorem dX3_keep_21 : decode cX3_keep 21 = .ok (.iload_n 3, 1) := by decide +kernel
theorem dX3_keep_22 : decode cX3_keep 22 = .ok (.iaload, 1) := by decide +kernel
theorem dX3_keep_23 : decode cX3_keep 23 = .ok (.i2l, 1) := by decide +kernel
theorem dX3_keep_24 : decode cX3_keep 24 = .ok (.lor, 1) := by decide +kernel
theorem dX3_keep_25 : decode cX3_keep 25 = .ok (.lstore_n 1, 1) := by decide +kernel
theorem dX3_keep_26 : decode cX3_keep 26 = .ok (.iinc 3 1, 3) := by decide +kernel
theorem dX3_keep_29 : decode cX3_keep 29 = .ok (.goto (-21), 3) := by decide +kernel
theorem dX3_keep_32 : decode cX3_keep 32 = .ok (.lload_n 1, 1) := by decide +kernel
theorem dX3_keep_33 : decode cX3_keep 33 = .ok (.iconst 2, 1) := by decide +kernel
theorem dX3_keep_34 : decode cX3_keep 34 = .ok (.lshl, 1) := by decide +kernel
theorem dX3_keep_35 : decode cX3_keep 35 = .ok (.aload_n 0, 1) := by decide +kernel
theorem dX3_keep_36 : decode cX3_keep 36 = .ok (.getfield 15, 3) := by decide +kernel
theorem dX3_keep_39 : decode cX3_keep 39 = .ok (.iconst 0, 1) := by decide +kernel
theorem dX3_keep_40 : decode cX3_keep 40 = .ok (.iaload, 1) := by decide +kernel
theorem dX3_keep_41 : decode cX3_keep 41 = .ok (.i2l, 1) := by decide +kernel
theorem dX3_keep_42 : decode cX3_keep 42 = .ok (.lor, 1) := by decide +kernel
theorem dX3_keep_43 : decode cX3_keep 43 = .ok (.lstore_n 1, 1) := by decide +kernel
theorem dX3_keep_44 : decode cX3_keep 44 = .ok (.lload_n 1, 1) := by decide +kernel
theorem dX3_keep_45 : decode cX3_keep 45 = .ok (.iconst 2, 1) := by decide +kernel
theorem dX3_keep_46 : decode cX3_keep 46 = .ok (.lshl, 1) := by decide +kernel
theorem dX3_keep_47 : decode cX3_keep 47 = .ok (.aload_n 0, 1) := by decide +kernel
theorem dX3_keep_48 : decode cX3_keep 48 = .ok (.getfield 15, 3) := by decide +kernel
theorem dX3_keep_51 : decode cX3_keep 51 = .ok (.iconst 1, 1) := by decide +kernel
theorem dX3_keep_52 : decode cX3_keep 52 = .ok (.iaload, 1) := by decide +kernel
theorem dX3_keep_53 : decode cX3_keep 53 = .ok (.i2l, 1) := by decide +kernel
theorem dX3_keep_54 : decode cX3_keep 54 = .ok (.lor, 1) := by decide +kernel
theorem dX3_keep_55 : decode cX3_keep 55 = .ok (.lstore_n 1, 1) := by decide +kernel
theorem dX3_keep_56 : decode cX3_keep 56 = .ok (.lload_n 1, 1) := by decide +kernel
theorem dX3_keep_57 : decode cX3_keep 57 = .ok (.iconst 1, 1) := by decide +kernel
theorem dX3_keep_58 : decode cX3_keep 58 = .ok (.lshl, 1) := by decide +kernel
theorem dX3_keep_59 : decode cX3_keep 59 = .ok (.aload_n 0, 1) := by decide +kernel
theorem dX3_keep_60 : decode cX3_keep 60 = .ok (.getfield 40, 3) := by decide +kernel
theorem dX3_keep_63 : decode cX3_keep 63 = .ok (.i2l, 1) := by decide +kernel
theorem dX3_keep_64 : decode cX3_keep 64 = .ok (.lor, 1) := by decide +kernel
theorem dX3_keep_65 : decode cX3_keep 65 = .ok (.lstore_n 1, 1) := by decide +kernel
theorem dX3_keep_66 : decode cX3_keep 66 = .ok (.lload_n 1, 1) := by decide +kernel
theorem dX3_keep_67 : decode cX3_keep 67 = .ok (.bipush 8, 2) := by decide +kernel
theorem dX3_keep_69 : decode cX3_keep 69 = .ok (.lshl, 1) := by decide +kernel
theorem dX3_keep_70 : decode cX3_keep 70 = .ok (.aload_n 0, 1) := by decide +kernel
theorem dX3_keep_71 : decode cX3_keep 71 = .ok (.getfield 37, 3) := by decide +kernel
theorem dX3_keep_74 : decode cX3_keep 74 = .ok (.bipush 99, 2) := by decide +kernel
theorem dX3_keep_76 : decode cX3_keep 76 = .ok (.iadd, 1) := by decide +kernel
theorem dX3_keep_77 : decode cX3_keep 77 = .ok (.i2l, 1) := by decide +kernel
theorem dX3_keep_78 : decode cX3_keep 78 = .ok (.lor, 1) := by decide +kernel
theorem dX3_keep_79 : decode cX3_keep 79 = .ok (.lstore_n 1, 1) := by decide +kernel
theorem dX3_keep_80 : decode cX3_keep 80 = .ok (.lload_n 1, 1) := by decide +kernel
theorem dX3_keep_81 : decode cX3_keep 81 = .ok (.iconst 3, 1) := by decide +kernel
theorem dX3_keep_82 : decode cX3_keep 82 = .ok (.lshl, 1) := by decide +kernel
theorem dX3_keep_83 : decode cX3_keep 83 = .ok (.aload_n 0, 1) := by decide +kernel
theorem dX3_keep_84 : decode cX3_keep 84 = .ok (.getfield 27, 3) := by decide +kernel
theorem dX3_keep_87 : decode cX3_keep 87 = .ok (.iconst 1, 1) := by decide +kernel
theorem dX3_keep_88 : decode cX3_keep 88 = .ok (.iadd, 1) := by decide +kernel
theorem dX3_keep_89 : decode cX3_keep 89 = .ok (.i2l, 1) := by decide +kernel
theorem dX3_keep_90 : decode cX3_keep 90 = .ok (.lor, 1) := by decide +kernel
theorem dX3_keep_91 : decode cX3_keep 91 = .ok (.lreturn, 1) := by decide +kernel
theorem dX3_back_0 : decode cX3_back 0 = .ok (.lload_n 1, 1) := by decide +kernel
theorem dX3_back_1 : decode cX3_back 1 = .ok (.lstore_n 3, 1) := by decide +kernel
theorem dX3_back_2 : decode cX3_back 2 = .ok (.aload_n 0, 1) := by decide +kernel
theorem dX3_back_3 : decode cX3_back 3 = .ok (.lload_n 3, 1) := by decide +kernel
theorem dX3_back_4 : decode cX3_back 4 = .ok (.ldc2_w 99, 3) := by decide +kernel
theorem dX3_back_7 : decode cX3_back 7 = .ok (.land, 1) := by decide +kernel
theorem dX3_back_8 : decode cX3_back 8 = .ok (.l2i, 1) := by decide +kernel
theorem dX3_back_9 : decode cX3_back 9 = .ok (.iconst 1, 1) := by decide +kernel
theorem dX3_back_10 : decode cX3_back 10 = .ok (.isub, 1) := by decide +kernel
theorem dX3_back_11 : decode cX3_back 11 = .ok (.putfield 27, 3) := by decide +kernel
theorem dX3_back_14 : decode cX3_back 14 = .ok (.lload_n 3, 1) := by decide +kernel
theorem dX3_back_15 : decode cX3_back 15 = .ok (.iconst 3, 1) := by decide +kernel
theorem dX3_back_16 : decode cX3_back 16 = .ok (.lshr, 1) := by decide +kernel
theorem dX3_back_17 : decode cX3_back 17 = .ok (.lstore_n 3, 1) := by decide +kernel
theorem dX3_back_18 : decode cX3_back 18 = .ok (.aload_n 0, 1) := by decide +kernel
theorem dX3_back_19 : decode cX3_back 19 = .ok (.lload_n 3, 1) := by decide +kernel
theorem dX3_back_20 : decode cX3_back 20 = .ok (.ldc2_w 101, 3) := by decide +kernel
theorem dX3_back_23 : decode cX3_back 23 = .ok (.land, 1) := by decide +kernel
theorem dX3_back_24 : decode cX3_back 24 = .ok (.l2i, 1) := by decide +kernel
theorem dX3_back_25 : decode cX3_back 25 = .ok (.bipush 99, 2) := by decide +kernel
theorem dX3_back_27 : decode cX3_back 27 = .ok (.isub, 1) := by decide +kernel
theorem dX3_back_28 : decode cX3_back 28 = .ok (.putfield 37, 3) := by decide +kernel
theorem dX3_back_31 : decode cX3_back 31 = .ok (.lload_n 3, 1) := by decide +kernel
theorem dX3_back_32 : decode cX3_back 32 = .ok (.bipush 8, 2) := by decide +kernel
theorem dX3_back_34 : decode cX3_back 34 = .ok (.lshr, 1) := by decide +kernel
theorem dX3_back_35 : decode cX3_back 35 = .ok (.lstore_n 3, 1) := by decide +kernel
theorem dX3_back_36 : decode cX3_back 36 = .ok (.aload_n 0, 1) := by decide +kernel
theorem dX3_back_37 : decode cX3_back 37 = .ok (.lload_n 3, 1) := by decide +kernel
theorem dX3_back_38 : decode cX3_back 38 = .ok (.lconst 1, 1) := by decide +kernel
theorem dX3_back_39 : decode cX3_back 39 = .ok (.land, 1) := by decide +kernel
theorem dX3_back_40 : decode cX3_back 40 = .ok (.l2i, 1) := by decide +kernel
theorem dX3_back_41 : decode cX3_back 41 = .ok (.putfield 40, 3) := by decide +kernel
theorem dX3_back_44 : decode cX3_back 44 = .ok (.lload_n 3, 1) := by decide +kernel
theorem dX3_back_45 : decode cX3_back 45 = .ok (.iconst 1, 1) := by decide +kernel
theorem dX3_back_46 : decode cX3_back 46 = .ok (.lshr, 1) := by decide +kernel
theorem dX3_back_47 : decode cX3_back 47 = .ok (.lstore_n 3, 1) := by decide +kernel
theorem dX3_back_48 : decode cX3_back 48 = .ok (.aload_n 0, 1) := by decide +kernel
theorem dX3_back_49 : decode cX3_back 49 = .ok (.getfield 15, 3) := by decide +kernel
theorem dX3_back_52 : decode cX3_back 52 = .ok (.iconst 1, 1) := by decide +kernel
theorem dX3_back_53 : decode cX3_back 53 = .ok (.lload_n 3, 1) := by decide +kernel
theorem dX3_back_54 : decode cX3_back 54 = .ok (.ldc2_w 103, 3) := by decide +kernel
theorem dX3_back_57 : decode cX3_back 57 = .ok (.land, 1) := by decide +kernel
theorem dX3_back_58 : decode cX3_back 58 = .ok (.l2i, 1) := by decide +kernel
theorem dX3_back_59 : decode cX3_back 59 = .ok (.iastore, 1) := by decide +kernel
theorem dX3_back_60 : decode cX3_back 60 = .ok (.lload_n 3, 1) := by decide +kernel
theorem dX3_back_61 : decode cX3_back 61 = .ok (.iconst 2, 1) := by decide +kernel
theorem dX3_back_62 : decode cX3_back 62 = .ok (.lshr, 1) := by decide +kernel
theorem dX3_back_63 : decode cX3_back 63 = .ok (.lstore_n 3, 1) := by decide +kernel
theorem dX3_back_64 : decode cX3_back 64 = .ok (.aload_n 0, 1) := by decide +kernel
theorem dX3_back_65 : decode cX3_back 65 = .ok (.getfield 15, 3) := by decide +kernel
theorem dX3_back_68 : decode cX3_back 68 = .ok (.iconst 0, 1) := by decide +kernel
theorem dX3_back_69 : decode cX3_back 69 = .ok (.lload_n 3, 1) := by decide +kernel
theorem dX3_back_70 : decode cX3_back 70 = .ok (.ldc2_w 103, 3) := by decide +kernel
theorem dX3_back_73 : decode cX3_back 73 = .ok (.land, 1) := by decide +kernel
theorem dX3_back_74 : decode cX3_back 74 = .ok (.l2i, 1) := by decide +kernel
theorem dX3_back_75 : decode cX3_back 75 = .ok (.iastore, 1) := by decide +kernel
theorem dX3_back_76 : decode cX3_back 76 = .ok (.lload_n 3, 1) := by decide +kernel
theorem dX3_back_77 : decode cX3_back 77 = .ok (.iconst 2, 1) := by decide +kernel
theorem dX3_back_78 : decode cX3_back 78 = .ok (.lshr, 1) := by decide +kernel
theorem dX3_back_79 : decode cX3_back 79 = .ok (.lstore_n 3, 1) := by decide +kernel
theorem dX3_back_80 : decode cX3_back 80 = .ok (.iconst 5, 1) := by decide +kernel
theorem dX3_back_81 : decode cX3_back 81 = .ok (.istore 5, 2) := by decide +kernel
theorem dX3_back_83 : decode cX3_back 83 = .ok (.iload 5, 2) := by decide +kernel
theorem dX3_back_85 : decode cX3_back 85 = .ok (.ifCond .lt 26, 3) := by decide +kernel
theorem dX3_back_88 : decode cX3_back 88 = .ok (.aload_n 0, 1) := by decide +kernel
theorem dX3_back_89 : decode cX3_back 89 = .ok (.getfield 24, 3) := by decide +kernel
theorem dX3_back_92 : decode cX3_back 92 = .ok (.iload 5, 2) := by decide +kernel
theorem dX3_back_94 : decode cX3_back 94 = .ok (.lload_n 3, 1) := by decide +kernel
theorem dX3_back_95 : decode cX3_back 95 = .ok (.ldc2_w 103, 3) := by decide +kernel
theorem dX3_back_98 : decode cX3_back 98 = .ok (.land, 1) := by decide +kernel
theorem dX3_back_99 : decode cX3_back 99 = .ok (.l2i, 1) := by decide +kernel
theorem dX3_back_100 : decode cX3_back 100 = .ok (.iastore, 1) := by decide +kernel
theorem dX3_back_101 : decode cX3_back 101 = .ok (.lload_n 3, 1) := by decide +kernel
theorem dX3_back_102 : decode cX3_back 102 = .ok (.iconst 2, 1) := by decide +kernel
theorem dX3_back_103 : decode cX3_back 103 = .ok (.lshr, 1) := by decide +kernel
theorem dX3_back_104 : decode cX3_back 104 = .ok (.lstore_n 3, 1) := by decide +kernel
theorem dX3_back_105 : decode cX3_back 105 = .ok (.iinc 5 (-1), 3) := by decide +kernel
theorem dX3_back_108 : decode cX3_back 108 = .ok (.goto (-25), 3) := by decide +kernel
theorem dX3_back_111 : decode cX3_back 111 = .ok (.aload_n 0, 1) := by decide +kernel
theorem dX3_back_112 : decode cX3_back 112 = .ok (.lload_n 3, 1) := by decide +kernel
theorem dX3_back_113 : decode cX3_back 113 = .ok (.l2i, 1) := by decide +kernel
theorem dX3_back_114 : decode cX3_back 114 = .ok (.putfield 34, 3) := by decide +kernel
theorem dX3_back_117 : decode cX3_back 117 = .ok (.return_, 1) := by decide +kernel
set_option maxRecDepth 20000 in
theorem ggX3_digestOn_X8_has : GoodIn wsX3_digestOn wsX8_has := goodIn_r _ [11] (by decide +kernel) (by decide +kernel)
set_option maxRecDepth 20000 in
theorem gX3_digestOn_X8_has_n107 : GoodIn wsX3_digestOn (wsX8_has) := ggX3_digestOn_X8_has
theorem dX3_digestOn_0 : decode cX3_digestOn 0 = .ok (.lload_n 1, 1) := by decide +kernel
theorem dX3_digestOn_1 : decode cX3_digestOn 1 = .ok (.lstore_n 3, 1) := by decide +kernel
theorem dX3_digestOn_2 : decode cX3_digestOn 2 = .ok (.iconst 0, 1) := by decide +kernel
theorem dX3_digestOn_3 : decode cX3_digestOn 3 = .ok (.istore 5, 2) := by decide +kernel
theorem dX3_digestOn_5 : decode cX3_digestOn 5 = .ok (.iload 5, 2) := by decide +kernel
theorem dX3_digestOn_7 : decode cX3_digestOn 7 = .ok (.iconst 2, 1) := by decide +kernel
theorem dX3_digestOn_8 : decode cX3_digestOn 8 = .ok (.if_icmp .ge 39, 3) := by decide +kernel
theorem dX3_digestOn_11 : decode cX3_digestOn 11 = .ok (.ldc2_w 105, 3) := by decide +kernel
theorem dX3_digestOn_14 : decode cX3_digestOn 14 = .ok (.lload_n 3, 1) := by decide +kernel
theorem dX3_digestOn_15 : decode cX3_digestOn 15 = .ok (.lmul, 1) := by decide +kernel
theorem dX3_digestOn_16 : decode cX3_digestOn 16 = .ok (.aload_n 0, 1) := by decide +kernel
theorem dX3_digestOn_17 : decode cX3_digestOn 17 = .ok (.getfield 9, 3) := by decide +kernel
theorem dX3_digestOn_20 : decode cX3_digestOn 20 = .ok (.iload 5, 2) := by decide +kernel
theorem dX3_digestOn_22 : decode cX3_digestOn 22 = .ok (.iaload, 1) := by decide +kernel
theorem dX3_digestOn_23 : decode cX3_digestOn 23 = .ok (.i2l, 1) := by decide +kernel
theorem dX3_digestOn_24 : decode cX3_digestOn 24 = .ok (.ladd, 1) := by decide +kernel
theorem dX3_digestOn_25 : decode cX3_digestOn 25 = .ok (.lstore_n 3, 1) := by decide +kernel
theorem dX3_digestOn_26 : decode cX3_digestOn 26 = .ok (.ldc2_w 105, 3) := by decide +kernel
theorem dX3_digestOn_29 : decode cX3_digestOn 29 = .ok (.lload_n 3, 1) := by decide +kernel
theorem dX3_digestOn_30 : decode cX3_digestOn 30 = .ok (.lmul, 1) := by decide +kernel
theorem dX3_digestOn_31 : decode cX3_digestOn 31 = .ok (.aload_n 0, 1) := by decide +kernel
theorem dX3_digestOn_32 : decode cX3_digestOn 32 = .ok (.getfield 15, 3) := by decide +kernel
theorem dX3_digestOn_35 : decode cX3_digestOn 35 = .ok (.iload 5, 2) := by decide +kernel
theorem dX3_digestOn_37 : decode cX3_digestOn 37 = .ok (.iaload, 1) := by decide +kernel
theorem dX3_digestOn_38 : decode cX3_digestOn 38 = .ok (.i2l, 1) := by decide +kernel
theorem dX3_digestOn_39 : decode cX3_digestOn 39 = .ok (.ladd, 1) := by decide +kernel
theorem dX3_digestOn_40 : decode cX3_digestOn 40 = .ok (.lstore_n 3, 1) := by decide +kernel
theorem dX3_digestOn_41 : decode cX3_digestOn 41 = .ok (.iinc 5 1, 3) := by decide +kernel
theorem dX3_digestOn_44 : decode cX3_digestOn 44 = .ok (.goto (-39), 3) := by decide +kernel
theorem dX3_digestOn_47 : decode cX3_digestOn 47 = .ok (.iconst 0, 1) := by decide +kernel
theorem dX3_digestOn_48 : decode cX3_digestOn 48 = .ok (.istore 5, 2) := by decide +kernel
theorem dX3_digestOn_50 : decode cX3_digestOn 50 = .ok (.iload 5, 2) := by decide +kernel
theorem dX3_digestOn_52 : decode cX3_digestOn 52 = .ok (.bipush 6, 2) := by decide +kernel
theorem dX3_digestOn_54 : decode cX3_digestOn 54 = .ok (.if_icmp .ge 88, 3) := by decide +kernel
theorem dX3_digestOn_57 : decode cX3_digestOn 57 = .ok (.iload 5, 2) := by decide +kernel
theorem dX3_digestOn_59 : decode cX3_digestOn 59 = .ok (.aload_n 0, 1) := by decide +kernel
theorem dX3_digestOn_60 : decode cX3_digestOn 60 = .ok (.getfield 31, 3) := by decide +kernel
theorem dX3_digestOn_63 : decode cX3_digestOn 63 = .ok (.if_icmp .ge 79, 3) := by decide +kernel
theorem dX3_digestOn_66 : decode cX3_digestOn 66 = .ok (.ldc2_w 105, 3) := by decide +kernel
theorem dX3_digestOn_69 : decode cX3_digestOn 69 = .ok (.lload_n 3, 1) := by decide +kernel
theorem dX3_digestOn_70 : decode cX3_digestOn 70 = .ok (.lmul, 1) := by decide +kernel
theorem dX3_digestOn_71 : decode cX3_digestOn 71 = .ok (.aload_n 0, 1) := by decide +kernel
theorem dX3_digestOn_72 : decode cX3_digestOn 72 = .ok (.getfield 18, 3) := by decide +kernel
theorem dX3_digestOn_75 : decode cX3_digestOn 75 = .ok (.iload 5, 2) := by decide +kernel
theorem dX3_digestOn_77 : decode cX3_digestOn 77 = .ok (.iaload, 1) := by decide +kernel
theorem dX3_digestOn_78 : decode cX3_digestOn 78 = .ok (.i2l, 1) := by decide +kernel
theorem dX3_digestOn_79 : decode cX3_digestOn 79 = .ok (.ladd, 1) := by decide +kernel
theorem dX3_digestOn_80 : decode cX3_digestOn 80 = .ok (.lstore_n 3, 1) := by decide +kernel
theorem dX3_digestOn_81 : decode cX3_digestOn 81 = .ok (.ldc2_w 105, 3) := by decide +kernel
theorem dX3_digestOn_84 : decode cX3_digestOn 84 = .ok (.lload_n 3, 1) := by decide +kernel
theorem dX3_digestOn_85 : decode cX3_digestOn 85 = .ok (.lmul, 1) := by decide +kernel
theorem dX3_digestOn_86 : decode cX3_digestOn 86 = .ok (.aload_n 0, 1) := by decide +kernel
theorem dX3_digestOn_87 : decode cX3_digestOn 87 = .ok (.getfield 21, 3) := by decide +kernel
theorem dX3_digestOn_90 : decode cX3_digestOn 90 = .ok (.iload 5, 2) := by decide +kernel
theorem dX3_digestOn_92 : decode cX3_digestOn 92 = .ok (.iaload, 1) := by decide +kernel
theorem dX3_digestOn_93 : decode cX3_digestOn 93 = .ok (.i2l, 1) := by decide +kernel
theorem dX3_digestOn_94 : decode cX3_digestOn 94 = .ok (.ladd, 1) := by decide +kernel
theorem dX3_digestOn_95 : decode cX3_digestOn 95 = .ok (.lstore_n 3, 1) := by decide +kernel
theorem dX3_digestOn_96 : decode cX3_digestOn 96 = .ok (.ldc2_w 105, 3) := by decide +kernel
theorem dX3_digestOn_99 : decode cX3_digestOn 99 = .ok (.lload_n 3, 1) := by decide +kernel
theorem dX3_digestOn_100 : decode cX3_digestOn 100 = .ok (.lmul, 1) := by decide +kernel
theorem dX3_digestOn_101 : decode cX3_digestOn 101 = .ok (.aload_n 0, 1) := by decide +kernel
theorem dX3_digestOn_102 : decode cX3_digestOn 102 = .ok (.getfield 24, 3) := by decide +kernel
theorem dX3_digestOn_105 : decode cX3_digestOn 105 = .ok (.iload 5, 2) := by decide +kernel
theorem dX3_digestOn_107 : decode cX3_digestOn 107 = .ok (.iaload, 1) := by decide +kernel
theorem dX3_digestOn_108 : decode cX3_digestOn 108 = .ok (.i2l, 1) := by decide +kernel
theorem dX3_digestOn_109 : decode cX3_digestOn 109 = .ok (.ladd, 1) := by decide +kernel
theorem dX3_digestOn_110 : decode cX3_digestOn 110 = .ok (.lstore_n 3, 1) := by decide +kernel
theorem dX3_digestOn_111 : decode cX3_digestOn 111 = .ok (.ldc2_w 105, 3) := by decide +kernel
theorem dX3_digestOn_114 : decode cX3_digestOn 114 = .ok (.lload_n 3, 1) := by decide +kernel
theorem dX3_digestOn_115 : decode cX3_digestOn 115 = .ok (.lmul, 1) := by decide +kernel
theorem dX3_digestOn_116 : decode cX3_digestOn 116 = .ok (.aload_n 0, 1) := by decide +kernel
theorem dX3_digestOn_117 : decode cX3_digestOn 117 = .ok (.getfield 34, 3) := by decide +kernel
theorem dX3_digestOn_120 : decode cX3_digestOn 120 = .ok (.iload 5, 2) := by decide +kernel
theorem dX3_digestOn_122 : decode cX3_digestOn 122 = .ok (.invokestatic 107, 3) := by decide +kernel
theorem dX3_digestOn_125 : decode cX3_digestOn 125 = .ok (.ifCond .eq 7, 3) := by decide +kernel
theorem dX3_digestOn_128 : decode cX3_digestOn 128 = .ok (.iconst 1, 1) := by decide +kernel
theorem dX3_digestOn_129 : decode cX3_digestOn 129 = .ok (.goto 4, 3) := by decide +kernel
theorem dX3_digestOn_132 : decode cX3_digestOn 132 = .ok (.iconst 0, 1) := by decide +kernel
theorem dX3_digestOn_133 : decode cX3_digestOn 133 = .ok (.i2l, 1) := by decide +kernel
theorem dX3_digestOn_134 : decode cX3_digestOn 134 = .ok (.ladd, 1) := by decide +kernel
theorem dX3_digestOn_135 : decode cX3_digestOn 135 = .ok (.lstore_n 3, 1) := by decide +kernel
theorem dX3_digestOn_136 : decode cX3_digestOn 136 = .ok (.iinc 5 1, 3) := by decide +kernel
theorem dX3_digestOn_139 : decode cX3_digestOn 139 = .ok (.goto (-89), 3) := by decide +kernel
theorem dX3_digestOn_142 : decode cX3_digestOn 142 = .ok (.lload_n 3, 1) := by decide +kernel
theorem dX3_digestOn_143 : decode cX3_digestOn 143 = .ok (.lreturn, 1) := by decide +kernel
set_option maxRecDepth 20000 in
theorem ggX4_proofFor_X3_keep : GoodIn wsX4_proofFor wsX3_keep := goodIn_r _ [6, 7, 8, 9, 10, 11, 12, 98, 99, 100, 101, 102, 103, 104, 105, 106, 107] (by decide +kernel) (by decide +kernel)
set_option maxRecDepth 20000 in
theorem gX4_proofFor_X3_keep : GoodIn wsX4_proofFor (wsV RX4 9 RX3 yX3_keep wsX3_keep) := goodIn_app (goodIn_of _ (by decide +kernel)) ggX4_proofFor_X3_keep
set_option maxRecDepth 20000 in
theorem ggX4_proofFor_X3_unsaid : GoodIn wsX4_proofFor wsX3_unsaid := goodIn_r _ [16, 17, 7, 98, 99, 100, 101, 102, 103, 104, 105, 106, 107] (by decide +kernel) (by decide +kernel)
set_option maxRecDepth 20000 in
theorem gX4_proofFor_X3_unsaid : GoodIn wsX4_proofFor (wsV RX4 15 RX3 yX3_unsaid wsX3_unsaid) := goodIn_app (goodIn_of _ (by decide +kernel)) ggX4_proofFor_X3_unsaid
set_option maxRecDepth 20000 in
theorem ggX4_proofFor_J6_bitCount_0f7a4 : GoodIn wsX4_proofFor wsJ6_bitCount_0f7a4 := goodIn_r _ [21, 22, 23, 24] (by decide +kernel) (by decide +kernel)
set_option maxRecDepth 20000 in
theorem gX4_proofFor_J6_bitCount_0f7a4 : GoodIn wsX4_proofFor (va_wsS RX4 19 yJ6_bitCount_0f7a4 wsJ6_bitCount_0f7a4) := goodIn_app (goodIn_of _ (by decide +kernel)) ggX4_proofFor_J6_bitCount_0f7a4
set_option maxRecDepth 20000 in
theorem ggX4_proofFor_X3_back : GoodIn wsX4_proofFor wsX3_back := goodIn_r _ [28, 29, 12, 30, 11, 10, 9, 31, 8, 7, 98, 99, 100, 101, 102, 103, 104, 105, 106, 107] (by decide +kernel) (by decide +kernel)
set_option maxRecDepth 20000 in
theorem gX4_proofFor_X3_back : GoodIn wsX4_proofFor (wsV RX4 25 RX3 yX3_back wsX3_back) := goodIn_app (goodIn_of _ (by decide +kernel)) ggX4_proofFor_X3_back
set_option maxRecDepth 20000 in
theorem ggX4_proofFor_X4_speakAll : GoodIn wsX4_proofFor wsX4_speakAll := goodIn_r _ [35, 36, 37, 38, 39, 40, 41, 5, 42, 11, 43, 44, 45, 46, 47, 48, 49, 7, 12, 50, 51, 52, 53, 17, 54, 55, 56, 57, 58, 59, 60, 61, 62, 63, 64, 65, 19, 20, 21, 22, 23, 24, 66, 67, 68, 69, 10, 70, 71, 72, 73, 74, 75, 76, 77, 78, 79, 80, 81, 82, 83, 84, 85, 86, 87, 88, 89, 90, 91, 92, 93, 94, 95, 96, 97, 98, 99, 100, 101, 102, 103, 104, 105, 106, 107] (by decide +kernel) (by decide +kernel)
set_option maxRecDepth 20000 in
theorem gX4_proofFor_X4_speakAll : GoodIn wsX4_proofFor (va_wsS RX4 29 yX4_speakAll wsX4_speakAll) := goodIn_app (goodIn_of _ (by decide +kernel)) ggX4_proofFor_X4_speakAll
theorem dX4_proofFor_0 : decode cX4_proofFor 0 = .ok (.aload_n 0, 1) := by decide +kernel
theorem dX4_proofFor_1 : decode cX4_proofFor 1 = .ok (.invokevirtual 9, 3) := by decide +kernel
theorem dX4_proofFor_4 : decode cX4_proofFor 4 = .ok (.lstore_n 2, 1) := by decide +kernel
theorem dX4_proofFor_5 : decode cX4_proofFor 5 = .ok (.aload_n 0, 1) := by decide +kernel
theorem dX4_proofFor_6 : decode cX4_proofFor 6 = .ok (.invokevirtual 15, 3) := by decide +kernel
theorem dX4_proofFor_9 : decode cX4_proofFor 9 = .ok (.istore 4, 2) := by decide +kernel
theorem dX4_proofFor_11 : decode cX4_proofFor 11 = .ok (.iconst (-1), 1) := by decide +kernel
theorem dX4_proofFor_12 : decode cX4_proofFor 12 = .ok (.istore 5, 2) := by decide +kernel
theorem dX4_proofFor_14 : decode cX4_proofFor 14 = .ok (.iconst 0, 1) := by decide +kernel
theorem dX4_proofFor_15 : decode cX4_proofFor 15 = .ok (.istore 6, 2) := by decide +kernel
theorem dX4_proofFor_17 : decode cX4_proofFor 17 = .ok (.iload 6, 2) := by decide +kernel
theorem dX4_proofFor_19 : decode cX4_proofFor 19 = .ok (.iload 4, 2) := by decide +kernel
theorem dX4_proofFor_21 : decode cX4_proofFor 21 = .ok (.if_icmp .gt 74, 3) := by decide +kernel
theorem dX4_proofFor_24 : decode cX4_proofFor 24 = .ok (.iload 6, 2) := by decide +kernel
theorem dX4_proofFor_26 : decode cX4_proofFor 26 = .ok (.iload 4, 2) := by decide +kernel
theorem dX4_proofFor_28 : decode cX4_proofFor 28 = .ok (.iconst (-1), 1) := by decide +kernel
theorem dX4_proofFor_29 : decode cX4_proofFor 29 = .ok (.ixor, 1) := by decide +kernel
theorem dX4_proofFor_30 : decode cX4_proofFor 30 = .ok (.iand, 1) := by decide +kernel
theorem dX4_proofFor_31 : decode cX4_proofFor 31 = .ok (.ifCond .ne 58, 3) := by decide +kernel
theorem dX4_proofFor_34 : decode cX4_proofFor 34 = .ok (.iload 5, 2) := by decide +kernel
theorem dX4_proofFor_36 : decode cX4_proofFor 36 = .ok (.iconst (-1), 1) := by decide +kernel
theorem dX4_proofFor_37 : decode cX4_proofFor 37 = .ok (.if_icmp .eq 16, 3) := by decide +kernel
theorem dX4_proofFor_40 : decode cX4_proofFor 40 = .ok (.iload 6, 2) := by decide +kernel
theorem dX4_proofFor_42 : decode cX4_proofFor 42 = .ok (.invokestatic 19, 3) := by decide +kernel
theorem dX4_proofFor_45 : decode cX4_proofFor 45 = .ok (.iload 5, 2) := by decide +kernel
theorem dX4_proofFor_47 : decode cX4_proofFor 47 = .ok (.invokestatic 19, 3) := by decide +kernel
theorem dX4_proofFor_50 : decode cX4_proofFor 50 = .ok (.if_icmp .ge 39, 3) := by decide +kernel
theorem dX4_proofFor_53 : decode cX4_proofFor 53 = .ok (.aload_n 0, 1) := by decide +kernel
theorem dX4_proofFor_54 : decode cX4_proofFor 54 = .ok (.lload_n 2, 1) := by decide +kernel
theorem dX4_proofFor_55 : decode cX4_proofFor 55 = .ok (.invokevirtual 25, 3) := by decide +kernel
theorem dX4_proofFor_58 : decode cX4_proofFor 58 = .ok (.aload_n 0, 1) := by decide +kernel
theorem dX4_proofFor_59 : decode cX4_proofFor 59 = .ok (.iload 6, 2) := by decide +kernel
theorem dX4_proofFor_61 : decode cX4_proofFor 61 = .ok (.invokestatic 29, 3) := by decide +kernel
theorem dX4_proofFor_64 : decode cX4_proofFor 64 = .ok (.iload_n 1, 1) := by decide +kernel
theorem dX4_proofFor_65 : decode cX4_proofFor 65 = .ok (.ifCond .ne 13, 3) := by decide +kernel
theorem dX4_proofFor_68 : decode cX4_proofFor 68 = .ok (.aload_n 0, 1) := by decide +kernel
theorem dX4_proofFor_69 : decode cX4_proofFor 69 = .ok (.getfield 35, 3) := by decide +kernel
theorem dX4_proofFor_72 : decode cX4_proofFor 72 = .ok (.ifCond .le 17, 3) := by decide +kernel
theorem dX4_proofFor_75 : decode cX4_proofFor 75 = .ok (.goto 10, 3) := by decide +kernel
theorem dX4_proofFor_78 : decode cX4_proofFor 78 = .ok (.aload_n 0, 1) := by decide +kernel
theorem dX4_proofFor_79 : decode cX4_proofFor 79 = .ok (.getfield 35, 3) := by decide +kernel
theorem dX4_proofFor_82 : decode cX4_proofFor 82 = .ok (.ifCond .ge 7, 3) := by decide +kernel
theorem dX4_proofFor_85 : decode cX4_proofFor 85 = .ok (.iload 6, 2) := by decide +kernel
theorem dX4_proofFor_87 : decode cX4_proofFor 87 = .ok (.istore 5, 2) := by decide +kernel
theorem dX4_proofFor_89 : decode cX4_proofFor 89 = .ok (.iinc 6 1, 3) := by decide +kernel
theorem dX4_proofFor_92 : decode cX4_proofFor 92 = .ok (.goto (-75), 3) := by decide +kernel
theorem dX4_proofFor_95 : decode cX4_proofFor 95 = .ok (.iload 5, 2) := by decide +kernel
theorem dX4_proofFor_97 : decode cX4_proofFor 97 = .ok (.ireturn, 1) := by decide +kernel
set_option maxRecDepth 20000 in
theorem ggX4_speakAll_X8_has : GoodIn wsX4_speakAll wsX8_has := goodIn_r _ [3] (by decide +kernel) (by decide +kernel)
set_option maxRecDepth 20000 in
theorem gX4_speakAll_X8_has_n39 : GoodIn wsX4_speakAll (wsX8_has) := ggX4_speakAll_X8_has
set_option maxRecDepth 20000 in
theorem ggX4_speakAll_X3_speak : GoodIn wsX4_speakAll wsX3_speak := goodIn_r _ [8, 9, 10, 11, 12, 13, 14, 15, 16, 17, 18, 19, 20, 21, 7, 22, 23, 24, 25, 26, 27, 28, 29, 30, 31, 32, 33, 34, 35, 36, 37, 38, 39, 40, 41, 42, 43, 44, 45, 46, 47, 48, 49, 50, 51, 52, 53, 54, 55, 56, 57, 58, 59, 60, 61, 62, 63, 64, 65, 66, 67, 68, 69, 70, 71, 72, 73, 74, 75, 76, 77, 78, 79, 80, 81, 82, 83, 84] (by decide +kernel) (by decide +kernel)
set_option maxRecDepth 20000 in
theorem gX4_speakAll_X3_speak : GoodIn wsX4_speakAll (wsV RX4 43 RX3 yX3_speak wsX3_speak) := goodIn_app (goodIn_of _ (by decide +kernel)) ggX4_speakAll_X3_speak
theorem dX4_speakAll_0 : decode cX4_speakAll 0 = .ok (.iconst 0, 1) := by decide +kernel
theorem dX4_speakAll_1 : decode cX4_speakAll 1 = .ok (.istore_n 2, 1) := by decide +kernel
theorem dX4_speakAll_2 : decode cX4_speakAll 2 = .ok (.iload_n 2, 1) := by decide +kernel
theorem dX4_speakAll_3 : decode cX4_speakAll 3 = .ok (.bipush 6, 2) := by decide +kernel
theorem dX4_speakAll_5 : decode cX4_speakAll 5 = .ok (.if_icmp .ge 22, 3) := by decide +kernel
theorem dX4_speakAll_8 : decode cX4_speakAll 8 = .ok (.iload_n 1, 1) := by decide +kernel
theorem dX4_speakAll_9 : decode cX4_speakAll 9 = .ok (.iload_n 2, 1) := by decide +kernel
theorem dX4_speakAll_10 : decode cX4_speakAll 10 = .ok (.invokestatic 39, 3) := by decide +kernel
theorem dX4_speakAll_13 : decode cX4_speakAll 13 = .ok (.ifCond .eq 8, 3) := by decide +kernel
theorem dX4_speakAll_16 : decode cX4_speakAll 16 = .ok (.aload_n 0, 1) := by decide +kernel
theorem dX4_speakAll_17 : decode cX4_speakAll 17 = .ok (.iload_n 2, 1) := by decide +kernel
theorem dX4_speakAll_18 : decode cX4_speakAll 18 = .ok (.invokevirtual 43, 3) := by decide +kernel
theorem dX4_speakAll_21 : decode cX4_speakAll 21 = .ok (.iinc 2 1, 3) := by decide +kernel
theorem dX4_speakAll_24 : decode cX4_speakAll 24 = .ok (.goto (-22), 3) := by decide +kernel
theorem dX4_speakAll_27 : decode cX4_speakAll 27 = .ok (.return_, 1) := by decide +kernel
set_option maxRecDepth 20000 in
theorem ggX4_bowsTo_X3_unsaid : GoodIn wsX4_bowsTo wsX3_unsaid := goodIn_r _ [5, 6, 7, 90, 91, 92, 93, 94, 95, 96, 97, 98, 99] (by decide +kernel) (by decide +kernel)
set_option maxRecDepth 20000 in
theorem gX4_bowsTo_X3_unsaid : GoodIn wsX4_bowsTo (wsV RX4 15 RX3 yX3_unsaid wsX3_unsaid) := goodIn_app (goodIn_of _ (by decide +kernel)) ggX4_bowsTo_X3_unsaid
set_option maxRecDepth 20000 in
theorem ggX4_bowsTo_X8_has : GoodIn wsX4_bowsTo wsX8_has := goodIn_r _ [10] (by decide +kernel) (by decide +kernel)
set_option maxRecDepth 20000 in
theorem gX4_bowsTo_X8_has_n39 : GoodIn wsX4_bowsTo (wsX8_has) := ggX4_bowsTo_X8_has
set_option maxRecDepth 20000 in
theorem ggX4_bowsTo_X3_speak : GoodIn wsX4_bowsTo wsX3_speak := goodIn_r _ [14, 15, 16, 17, 18, 19, 20, 21, 22, 7, 23, 24, 25, 26, 4, 27, 6, 28, 29, 30, 31, 32, 33, 34, 35, 36, 37, 38, 39, 40, 41, 42, 43, 44, 45, 46, 47, 48, 49, 50, 51, 52, 53, 54, 55, 56, 57, 58, 59, 60, 61, 62, 63, 64, 65, 66, 67, 68, 69, 70, 71, 72, 73, 74, 75, 76, 77, 78, 90, 91, 92, 93, 94, 95, 96, 97, 98, 99] (by decide +kernel) (by decide +kernel)
set_option maxRecDepth 20000 in
theorem gX4_bowsTo_X3_speak : GoodIn wsX4_bowsTo (wsV RX4 43 RX3 yX3_speak wsX3_speak) := goodIn_app (goodIn_of _ (by decide +kernel)) ggX4_bowsTo_X3_speak
set_option maxRecDepth 20000 in
theorem ggX4_bowsTo_X3_mayObject : GoodIn wsX4_bowsTo wsX3_mayObject := goodIn_r _ [82, 23, 83, 84, 24, 25, 26, 4, 27, 6, 35, 36, 37, 38, 7, 39, 40, 41, 42, 43, 44, 45, 90, 91, 92, 93, 94, 95, 96, 97, 98, 99] (by decide +kernel) (by decide +kernel)
set_option maxRecDepth 20000 in
theorem gX4_bowsTo_X3_mayObject : GoodIn wsX4_bowsTo (wsV RX4 47 RX3 yX3_mayObject wsX3_mayObject) := goodIn_app (goodIn_of _ (by decide +kernel)) ggX4_bowsTo_X3_mayObject
set_option maxRecDepth 20000 in
theorem ggX4_bowsTo_X3_bow : GoodIn wsX4_bowsTo wsX3_bow := goodIn_r _ [88, 84, 83, 23, 50, 89, 80, 81, 4, 82, 24, 25, 26, 27, 6, 35, 36, 37, 38, 7, 39, 40, 41, 42, 43, 44, 45, 90, 91, 92, 93, 94, 95, 96, 97, 98, 99] (by decide +kernel) (by decide +kernel)
set_option maxRecDepth 20000 in
theorem gX4_bowsTo_X3_bow : GoodIn wsX4_bowsTo (wsV RX4 51 RX3 yX3_bow wsX3_bow) := goodIn_app (goodIn_of _ (by decide +kernel)) ggX4_bowsTo_X3_bow
theorem dX4_bowsTo_0 : decode cX4_bowsTo 0 = .ok (.aload_n 0, 1) := by decide +kernel
theorem dX4_bowsTo_1 : decode cX4_bowsTo 1 = .ok (.invokevirtual 15, 3) := by decide +kernel
theorem dX4_bowsTo_4 : decode cX4_bowsTo 4 = .ok (.istore_n 2, 1) := by decide +kernel
theorem dX4_bowsTo_5 : decode cX4_bowsTo 5 = .ok (.iconst 0, 1) := by decide +kernel
theorem dX4_bowsTo_6 : decode cX4_bowsTo 6 = .ok (.istore_n 3, 1) := by decide +kernel
theorem dX4_bowsTo_7 : decode cX4_bowsTo 7 = .ok (.iload_n 3, 1) := by decide +kernel
theorem dX4_bowsTo_8 : decode cX4_bowsTo 8 = .ok (.bipush 6, 2) := by decide +kernel
theorem dX4_bowsTo_10 : decode cX4_bowsTo 10 = .ok (.if_icmp .ge 43, 3) := by decide +kernel
theorem dX4_bowsTo_13 : decode cX4_bowsTo 13 = .ok (.iload_n 2, 1) := by decide +kernel
theorem dX4_bowsTo_14 : decode cX4_bowsTo 14 = .ok (.iload_n 3, 1) := by decide +kernel
theorem dX4_bowsTo_15 : decode cX4_bowsTo 15 = .ok (.invokestatic 39, 3) := by decide +kernel
theorem dX4_bowsTo_18 : decode cX4_bowsTo 18 = .ok (.ifCond .eq 29, 3) := by decide +kernel
theorem dX4_bowsTo_21 : decode cX4_bowsTo 21 = .ok (.aload_n 0, 1) := by decide +kernel
theorem dX4_bowsTo_22 : decode cX4_bowsTo 22 = .ok (.iload_n 3, 1) := by decide +kernel
theorem dX4_bowsTo_23 : decode cX4_bowsTo 23 = .ok (.invokevirtual 43, 3) := by decide +kernel
theorem dX4_bowsTo_26 : decode cX4_bowsTo 26 = .ok (.iload_n 1, 1) := by decide +kernel
theorem dX4_bowsTo_27 : decode cX4_bowsTo 27 = .ok (.iload_n 3, 1) := by decide +kernel
theorem dX4_bowsTo_28 : decode cX4_bowsTo 28 = .ok (.invokestatic 39, 3) := by decide +kernel
theorem dX4_bowsTo_31 : decode cX4_bowsTo 31 = .ok (.ifCond .eq 16, 3) := by decide +kernel
theorem dX4_bowsTo_34 : decode cX4_bowsTo 34 = .ok (.aload_n 0, 1) := by decide +kernel
theorem dX4_bowsTo_35 : decode cX4_bowsTo 35 = .ok (.invokevirtual 47, 3) := by decide +kernel
theorem dX4_bowsTo_38 : decode cX4_bowsTo 38 = .ok (.ifCond .ne 5, 3) := by decide +kernel
theorem dX4_bowsTo_41 : decode cX4_bowsTo 41 = .ok (.iconst 0, 1) := by decide +kernel
theorem dX4_bowsTo_42 : decode cX4_bowsTo 42 = .ok (.ireturn, 1) := by decide +kernel
theorem dX4_bowsTo_43 : decode cX4_bowsTo 43 = .ok (.aload_n 0, 1) := by decide +kernel
theorem dX4_bowsTo_44 : decode cX4_bowsTo 44 = .ok (.invokevirtual 51, 3) := by decide +kernel
theorem dX4_bowsTo_47 : decode cX4_bowsTo 47 = .ok (.iinc 3 1, 3) := by decide +kernel
theorem dX4_bowsTo_50 : decode cX4_bowsTo 50 = .ok (.goto (-43), 3) := by decide +kernel
theorem dX4_bowsTo_53 : decode cX4_bowsTo 53 = .ok (.iconst 1, 1) := by decide +kernel
theorem dX4_bowsTo_54 : decode cX4_bowsTo 54 = .ok (.ireturn, 1) := by decide +kernel
set_option maxRecDepth 20000 in
theorem ggX4_weightOf_X3_unsaid : GoodIn wsX4_weightOf wsX3_unsaid := goodIn_r _ [6, 7, 8, 91, 92, 93, 94, 95, 96, 97, 98, 99, 100] (by decide +kernel) (by decide +kernel)
set_option maxRecDepth 20000 in
theorem gX4_weightOf_X3_unsaid : GoodIn wsX4_weightOf (wsV RX4 15 RX3 yX3_unsaid wsX3_unsaid) := goodIn_app (goodIn_of _ (by decide +kernel)) ggX4_weightOf_X3_unsaid
set_option maxRecDepth 20000 in
theorem ggX4_weightOf_X8_has : GoodIn wsX4_weightOf wsX8_has := goodIn_r _ [11] (by decide +kernel) (by decide +kernel)
set_option maxRecDepth 20000 in
theorem gX4_weightOf_X8_has_n39 : GoodIn wsX4_weightOf (wsX8_has) := ggX4_weightOf_X8_has
set_option maxRecDepth 20000 in
theorem ggX4_weightOf_X3_speak : GoodIn wsX4_weightOf wsX3_speak := goodIn_r _ [15, 16, 17, 18, 19, 20, 21, 22, 23, 8, 24, 25, 26, 27, 5, 28, 7, 29, 30, 31, 32, 33, 34, 35, 36, 37, 38, 39, 40, 41, 42, 43, 44, 45, 46, 47, 48, 49, 50, 51, 52, 53, 54, 55, 56, 57, 58, 59, 60, 61, 62, 63, 64, 65, 66, 67, 68, 69, 70, 71, 72, 73, 74, 75, 76, 77, 78, 79, 91, 92, 93, 94, 95, 96, 97, 98, 99, 100] (by decide +kernel) (by decide +kernel)
set_option maxRecDepth 20000 in
theorem gX4_weightOf_X3_speak : GoodIn wsX4_weightOf (wsV RX4 43 RX3 yX3_speak wsX3_speak) := goodIn_app (goodIn_of _ (by decide +kernel)) ggX4_weightOf_X3_speak
set_option maxRecDepth 20000 in
theorem ggX4_weightOf_X3_mayObject : GoodIn wsX4_weightOf wsX3_mayObject := goodIn_r _ [83, 24, 84, 85, 25, 26, 27, 5, 28, 7, 36, 37, 38, 39, 8, 40, 41, 42, 43, 44, 45, 46, 91, 92, 93, 94, 95, 96, 97, 98, 99, 100] (by decide +kernel) (by decide +kernel)
set_option maxRecDepth 20000 in
theorem gX4_weightOf_X3_mayObject : GoodIn wsX4_weightOf (wsV RX4 47 RX3 yX3_mayObject wsX3_mayObject) := goodIn_app (goodIn_of _ (by decide +kernel)) ggX4_weightOf_X3_mayObject
set_option maxRecDepth 20000 in
theorem ggX4_weightOf_X3_bow : GoodIn wsX4_weightOf wsX3_bow := goodIn_r _ [89, 85, 84, 24, 51, 90, 81, 82, 5, 83, 25, 26, 27, 28, 7, 36, 37, 38, 39, 8, 40, 41, 42, 43, 44, 45, 46, 91, 92, 93, 94, 95, 96, 97, 98, 99, 100] (by decide +kernel) (by decide +kernel)
set_option maxRecDepth 20000 in
theorem gX4_weightOf_X3_bow : GoodIn wsX4_weightOf (wsV RX4 51 RX3 yX3_bow wsX3_bow) := goodIn_app (goodIn_of _ (by decide +kernel)) ggX4_weightOf_X3_bow
theorem dX4_weightOf_0 : decode cX4_weightOf 0 = .ok (.aload_n 0, 1) := by decide +kernel
theorem dX4_weightOf_1 : decode cX4_weightOf 1 = .ok (.invokevirtual 15, 3) := by decide +kernel
theorem dX4_weightOf_4 : decode cX4_weightOf 4 = .ok (.istore_n 3, 1) := by decide +kernel
theorem dX4_weightOf_5 : decode cX4_weightOf 5 = .ok (.lconst 1, 1) := by decide +kernel
theorem dX4_weightOf_6 : decode cX4_weightOf 6 = .ok (.lstore 4, 2) := by decide +kernel
theorem dX4_weightOf_8 : decode cX4_weightOf 8 = .ok (.iconst 0, 1) := by decide +kernel
theorem dX4_weightOf_9 : decode cX4_weightOf 9 = .ok (.istore 6, 2) := by decide +kernel
theorem dX4_weightOf_11 : decode cX4_weightOf 11 = .ok (.iload 6, 2) := by decide +kernel
theorem dX4_weightOf_13 : decode cX4_weightOf 13 = .ok (.bipush 6, 2) := by decide +kernel
theorem dX4_weightOf_15 : decode cX4_weightOf 15 = .ok (.if_icmp .ge 83, 3) := by decide +kernel
theorem dX4_weightOf_18 : decode cX4_weightOf 18 = .ok (.iload_n 3, 1) := by decide +kernel
theorem dX4_weightOf_19 : decode cX4_weightOf 19 = .ok (.iload 6, 2) := by decide +kernel
theorem dX4_weightOf_21 : decode cX4_weightOf 21 = .ok (.invokestatic 39, 3) := by decide +kernel
theorem dX4_weightOf_24 : decode cX4_weightOf 24 = .ok (.ifCond .eq 68, 3) := by decide +kernel
theorem dX4_weightOf_27 : decode cX4_weightOf 27 = .ok (.aload_n 0, 1) := by decide +kernel
theorem dX4_weightOf_28 : decode cX4_weightOf 28 = .ok (.iload 6, 2) := by decide +kernel
theorem dX4_weightOf_30 : decode cX4_weightOf 30 = .ok (.invokevirtual 43, 3) := by decide +kernel
theorem dX4_weightOf_33 : decode cX4_weightOf 33 = .ok (.aload_n 0, 1) := by decide +kernel
theorem dX4_weightOf_34 : decode cX4_weightOf 34 = .ok (.invokevirtual 47, 3) := by decide +kernel
theorem dX4_weightOf_37 : decode cX4_weightOf 37 = .ok (.istore 7, 2) := by decide +kernel
theorem dX4_weightOf_39 : decode cX4_weightOf 39 = .ok (.iload_n 1, 1) := by decide +kernel
theorem dX4_weightOf_40 : decode cX4_weightOf 40 = .ok (.iload 6, 2) := by decide +kernel
theorem dX4_weightOf_42 : decode cX4_weightOf 42 = .ok (.invokestatic 39, 3) := by decide +kernel
theorem dX4_weightOf_45 : decode cX4_weightOf 45 = .ok (.ifCond .eq 26, 3) := by decide +kernel
theorem dX4_weightOf_48 : decode cX4_weightOf 48 = .ok (.aload_n 0, 1) := by decide +kernel
theorem dX4_weightOf_49 : decode cX4_weightOf 49 = .ok (.invokevirtual 51, 3) := by decide +kernel
theorem dX4_weightOf_52 : decode cX4_weightOf 52 = .ok (.lload 4, 2) := by decide +kernel
theorem dX4_weightOf_54 : decode cX4_weightOf 54 = .ok (.iload 7, 2) := by decide +kernel
theorem dX4_weightOf_56 : decode cX4_weightOf 56 = .ok (.ifCond .eq 8, 3) := by decide +kernel
theorem dX4_weightOf_59 : decode cX4_weightOf 59 = .ok (.iload_n 2, 1) := by decide +kernel
theorem dX4_weightOf_60 : decode cX4_weightOf 60 = .ok (.i2l, 1) := by decide +kernel
theorem dX4_weightOf_61 : decode cX4_weightOf 61 = .ok (.goto 4, 3) := by decide +kernel
theorem dX4_weightOf_64 : decode cX4_weightOf 64 = .ok (.lconst 0, 1) := by decide +kernel
theorem dX4_weightOf_65 : decode cX4_weightOf 65 = .ok (.lmul, 1) := by decide +kernel
theorem dX4_weightOf_66 : decode cX4_weightOf 66 = .ok (.lstore 4, 2) := by decide +kernel
theorem dX4_weightOf_68 : decode cX4_weightOf 68 = .ok (.goto 24, 3) := by decide +kernel
theorem dX4_weightOf_71 : decode cX4_weightOf 71 = .ok (.lload 4, 2) := by decide +kernel
theorem dX4_weightOf_73 : decode cX4_weightOf 73 = .ok (.iload 7, 2) := by decide +kernel
theorem dX4_weightOf_75 : decode cX4_weightOf 75 = .ok (.ifCond .eq 11, 3) := by decide +kernel
theorem dX4_weightOf_78 : decode cX4_weightOf 78 = .ok (.bipush 10, 2) := by decide +kernel
theorem dX4_weightOf_80 : decode cX4_weightOf 80 = .ok (.iload_n 2, 1) := by decide +kernel
theorem dX4_weightOf_81 : decode cX4_weightOf 81 = .ok (.isub, 1) := by decide +kernel
theorem dX4_weightOf_82 : decode cX4_weightOf 82 = .ok (.i2l, 1) := by decide +kernel
theorem dX4_weightOf_83 : decode cX4_weightOf 83 = .ok (.goto 6, 3) := by decide +kernel
theorem dX4_weightOf_86 : decode cX4_weightOf 86 = .ok (.ldc2_w 54, 3) := by decide +kernel
theorem dX4_weightOf_89 : decode cX4_weightOf 89 = .ok (.lmul, 1) := by decide +kernel
theorem dX4_weightOf_90 : decode cX4_weightOf 90 = .ok (.lstore 4, 2) := by decide +kernel
theorem dX4_weightOf_92 : decode cX4_weightOf 92 = .ok (.iinc 6 1, 3) := by decide +kernel
theorem dX4_weightOf_95 : decode cX4_weightOf 95 = .ok (.goto (-84), 3) := by decide +kernel
theorem dX4_weightOf_98 : decode cX4_weightOf 98 = .ok (.lload 4, 2) := by decide +kernel
theorem dX4_weightOf_100 : decode cX4_weightOf 100 = .ok (.lreturn, 1) := by decide +kernel
set_option maxRecDepth 20000 in
theorem ggX4_dayBy_X3_unsaid : GoodIn wsX4_dayBy wsX3_unsaid := goodIn_r _ [10, 11, 12, 94, 95, 96, 97, 98, 99, 100, 101, 102, 103] (by decide +kernel) (by decide +kernel)
set_option maxRecDepth 20000 in
theorem gX4_dayBy_X3_unsaid : GoodIn wsX4_dayBy (wsV RX4 15 RX3 yX3_unsaid wsX3_unsaid) := goodIn_app (goodIn_of _ (by decide +kernel)) ggX4_dayBy_X3_unsaid
set_option maxRecDepth 20000 in
theorem ggX4_dayBy_X8_has : GoodIn wsX4_dayBy wsX8_has := goodIn_r _ [15] (by decide +kernel) (by decide +kernel)
set_option maxRecDepth 20000 in
theorem gX4_dayBy_X8_has_n39 : GoodIn wsX4_dayBy (wsX8_has) := ggX4_dayBy_X8_has
set_option maxRecDepth 20000 in
theorem ggX4_dayBy_X3_speak : GoodIn wsX4_dayBy wsX3_speak := goodIn_r _ [19, 20, 21, 22, 23, 24, 25, 26, 27, 12, 28, 29, 30, 31, 9, 32, 11, 33, 34, 35, 36, 37, 38, 39, 40, 41, 42, 43, 44, 45, 46, 47, 48, 49, 50, 51, 52, 53, 54, 55, 56, 57, 58, 59, 60, 61, 62, 63, 64, 65, 66, 67, 68, 69, 70, 71, 72, 73, 74, 75, 76, 77, 78, 79, 80, 81, 82, 83, 94, 95, 96, 97, 98, 99, 100, 101, 102, 103] (by decide +kernel) (by decide +kernel)
set_option maxRecDepth 20000 in
theorem gX4_dayBy_X3_speak : GoodIn wsX4_dayBy (wsV RX4 43 RX3 yX3_speak wsX3_speak) := goodIn_app (goodIn_of _ (by decide +kernel)) ggX4_dayBy_X3_speak
set_option maxRecDepth 20000 in
theorem ggX4_dayBy_X3_bow : GoodIn wsX4_dayBy wsX3_bow := goodIn_r _ [87, 88, 89, 28, 55, 90, 91, 92, 9, 93, 29, 30, 31, 32, 11, 40, 41, 42, 43, 12, 44, 45, 46, 47, 48, 49, 50, 94, 95, 96, 97, 98, 99, 100, 101, 102, 103] (by decide +kernel) (by decide +kernel)
set_option maxRecDepth 20000 in
theorem gX4_dayBy_X3_bow : GoodIn wsX4_dayBy (wsV RX4 51 RX3 yX3_bow wsX3_bow) := goodIn_app (goodIn_of _ (by decide +kernel)) ggX4_dayBy_X3_bow
theorem dX4_dayBy_0 : decode cX4_dayBy 0 = .ok (.lload_n 1, 1) := by decide +kernel
theorem dX4_dayBy_1 : decode cX4_dayBy 1 = .ok (.lstore_n 3, 1) := by decide +kernel
theorem dX4_dayBy_2 : decode cX4_dayBy 2 = .ok (.aload_n 0, 1) := by decide +kernel
theorem dX4_dayBy_3 : decode cX4_dayBy 3 = .ok (.invokevirtual 15, 3) := by decide +kernel
theorem dX4_dayBy_6 : decode cX4_dayBy 6 = .ok (.istore 5, 2) := by decide +kernel
theorem dX4_dayBy_8 : decode cX4_dayBy 8 = .ok (.iconst 0, 1) := by decide +kernel
theorem dX4_dayBy_9 : decode cX4_dayBy 9 = .ok (.istore 6, 2) := by decide +kernel
theorem dX4_dayBy_11 : decode cX4_dayBy 11 = .ok (.iload 6, 2) := by decide +kernel
theorem dX4_dayBy_13 : decode cX4_dayBy 13 = .ok (.bipush 6, 2) := by decide +kernel
theorem dX4_dayBy_15 : decode cX4_dayBy 15 = .ok (.if_icmp .ge 57, 3) := by decide +kernel
theorem dX4_dayBy_18 : decode cX4_dayBy 18 = .ok (.iload 5, 2) := by decide +kernel
theorem dX4_dayBy_20 : decode cX4_dayBy 20 = .ok (.iload 6, 2) := by decide +kernel
theorem dX4_dayBy_22 : decode cX4_dayBy 22 = .ok (.invokestatic 39, 3) := by decide +kernel
theorem dX4_dayBy_25 : decode cX4_dayBy 25 = .ok (.ifCond .eq 41, 3) := by decide +kernel
theorem dX4_dayBy_28 : decode cX4_dayBy 28 = .ok (.lload_n 3, 1) := by decide +kernel
theorem dX4_dayBy_29 : decode cX4_dayBy 29 = .ok (.ldc2_w 56, 3) := by decide +kernel
theorem dX4_dayBy_32 : decode cX4_dayBy 32 = .ok (.lmul, 1) := by decide +kernel
theorem dX4_dayBy_33 : decode cX4_dayBy 33 = .ok (.ldc2_w 58, 3) := by decide +kernel
theorem dX4_dayBy_36 : decode cX4_dayBy 36 = .ok (.ladd, 1) := by decide +kernel
theorem dX4_dayBy_37 : decode cX4_dayBy 37 = .ok (.ldc2_w 60, 3) := by decide +kernel
theorem dX4_dayBy_40 : decode cX4_dayBy 40 = .ok (.lrem, 1) := by decide +kernel
theorem dX4_dayBy_41 : decode cX4_dayBy 41 = .ok (.lstore_n 3, 1) := by decide +kernel
theorem dX4_dayBy_42 : decode cX4_dayBy 42 = .ok (.aload_n 0, 1) := by decide +kernel
theorem dX4_dayBy_43 : decode cX4_dayBy 43 = .ok (.iload 6, 2) := by decide +kernel
theorem dX4_dayBy_45 : decode cX4_dayBy 45 = .ok (.invokevirtual 43, 3) := by decide +kernel
theorem dX4_dayBy_48 : decode cX4_dayBy 48 = .ok (.lload_n 3, 1) := by decide +kernel
theorem dX4_dayBy_49 : decode cX4_dayBy 49 = .ok (.ldc2_w 62, 3) := by decide +kernel
theorem dX4_dayBy_52 : decode cX4_dayBy 52 = .ok (.ldiv, 1) := by decide +kernel
theorem dX4_dayBy_53 : decode cX4_dayBy 53 = .ok (.ldc2_w 64, 3) := by decide +kernel
theorem dX4_dayBy_56 : decode cX4_dayBy 56 = .ok (.lrem, 1) := by decide +kernel
theorem dX4_dayBy_57 : decode cX4_dayBy 57 = .ok (.lconst 1, 1) := by decide +kernel
theorem dX4_dayBy_58 : decode cX4_dayBy 58 = .ok (.lcmp, 1) := by decide +kernel
theorem dX4_dayBy_59 : decode cX4_dayBy 59 = .ok (.ifCond .ne 7, 3) := by decide +kernel
theorem dX4_dayBy_62 : decode cX4_dayBy 62 = .ok (.aload_n 0, 1) := by decide +kernel
theorem dX4_dayBy_63 : decode cX4_dayBy 63 = .ok (.invokevirtual 51, 3) := by decide +kernel
theorem dX4_dayBy_66 : decode cX4_dayBy 66 = .ok (.iinc 6 1, 3) := by decide +kernel
theorem dX4_dayBy_69 : decode cX4_dayBy 69 = .ok (.goto (-58), 3) := by decide +kernel
theorem dX4_dayBy_72 : decode cX4_dayBy 72 = .ok (.lload_n 3, 1) := by decide +kernel
theorem dX4_dayBy_73 : decode cX4_dayBy 73 = .ok (.lreturn, 1) := by decide +kernel
set_option maxRecDepth 20000 in
theorem ggX5_moved_X5_hearsay : GoodIn wsX5_moved wsX5_hearsay := goodIn_r _ [4] (by decide +kernel) (by decide +kernel)
set_option maxRecDepth 20000 in
theorem gX5_moved_X5_hearsay : GoodIn wsX5_moved (va_wsS RX5 9 yX5_hearsay wsX5_hearsay) := goodIn_app (goodIn_of _ (by decide +kernel)) ggX5_moved_X5_hearsay
set_option maxRecDepth 20000 in
theorem ggX5_moved_X5_evidence : GoodIn wsX5_moved wsX5_evidence := goodIn_r _ [7] (by decide +kernel) (by decide +kernel)
set_option maxRecDepth 20000 in
theorem gX5_moved_X5_evidence : GoodIn wsX5_moved (va_wsS RX5 15 yX5_evidence wsX5_evidence) := goodIn_app (goodIn_of _ (by decide +kernel)) ggX5_moved_X5_evidence
theorem dX5_moved_0 : decode cX5_moved 0 = .ok (.iload_n 0, 1) := by decide +kernel
theorem dX5_moved_1 : decode cX5_moved 1 = .ok (.tableswitch 73 1 5 #[35, 40, 46, 53, 61], 35) := by decide +kernel
theorem dX5_moved_36 : decode cX5_moved 36 = .ok (.iload_n 1, 1) := by decide +kernel
theorem dX5_moved_37 : decode cX5_moved 37 = .ok (.invokestatic 9, 3) := by decide +kernel
theorem dX5_moved_40 : decode cX5_moved 40 = .ok (.ireturn, 1) := by decide +kernel
theorem dX5_moved_41 : decode cX5_moved 41 = .ok (.iload_n 1, 1) := by decide +kernel
theorem dX5_moved_42 : decode cX5_moved 42 = .ok (.iload_n 2, 1) := by decide +kernel
theorem dX5_moved_43 : decode cX5_moved 43 = .ok (.invokestatic 15, 3) := by decide +kernel
theorem dX5_moved_46 : decode cX5_moved 46 = .ok (.ireturn, 1) := by decide +kernel
theorem dX5_moved_47 : decode cX5_moved 47 = .ok (.iload_n 1, 1) := by decide +kernel
theorem dX5_moved_48 : decode cX5_moved 48 = .ok (.invokestatic 9, 3) := by decide +kernel
theorem dX5_moved_51 : decode cX5_moved 51 = .ok (.iload_n 3, 1) := by decide +kernel
theorem dX5_moved_52 : decode cX5_moved 52 = .ok (.iadd, 1) := by decide +kernel
theorem dX5_moved_53 : decode cX5_moved 53 = .ok (.ireturn, 1) := by decide +kernel
theorem dX5_moved_54 : decode cX5_moved 54 = .ok (.iload_n 1, 1) := by decide +kernel
theorem dX5_moved_55 : decode cX5_moved 55 = .ok (.iload_n 2, 1) := by decide +kernel
theorem dX5_moved_56 : decode cX5_moved 56 = .ok (.invokestatic 15, 3) := by decide +kernel
theorem dX5_moved_59 : decode cX5_moved 59 = .ok (.iconst 2, 1) := by decide +kernel
theorem dX5_moved_60 : decode cX5_moved 60 = .ok (.iadd, 1) := by decide +kernel
theorem dX5_moved_61 : decode cX5_moved 61 = .ok (.ireturn, 1) := by decide +kernel
theorem dX5_moved_62 : decode cX5_moved 62 = .ok (.iload_n 3, 1) := by decide +kernel
theorem dX5_moved_63 : decode cX5_moved 63 = .ok (.iconst 2, 1) := by decide +kernel
theorem dX5_moved_64 : decode cX5_moved 64 = .ok (.irem, 1) := by decide +kernel
theorem dX5_moved_65 : decode cX5_moved 65 = .ok (.ifCond .eq 7, 3) := by decide +kernel
theorem dX5_moved_68 : decode cX5_moved 68 = .ok (.iconst 0, 1) := by decide +kernel
theorem dX5_moved_69 : decode cX5_moved 69 = .ok (.goto 4, 3) := by decide +kernel
theorem dX5_moved_72 : decode cX5_moved 72 = .ok (.iload_n 1, 1) := by decide +kernel
theorem dX5_moved_73 : decode cX5_moved 73 = .ok (.ireturn, 1) := by decide +kernel
theorem dX5_moved_74 : decode cX5_moved 74 = .ok (.iload_n 1, 1) := by decide +kernel
theorem dX5_moved_75 : decode cX5_moved 75 = .ok (.ireturn, 1) := by decide +kernel
theorem dX5_hearsay_0 : decode cX5_hearsay 0 = .ok (.iload_n 0, 1) := by decide +kernel
theorem dX5_hearsay_1 : decode cX5_hearsay 1 = .ok (.iconst 1, 1) := by decide +kernel
theorem dX5_hearsay_2 : decode cX5_hearsay 2 = .ok (.iadd, 1) := by decide +kernel
theorem dX5_hearsay_3 : decode cX5_hearsay 3 = .ok (.iconst 2, 1) := by decide +kernel
theorem dX5_hearsay_4 : decode cX5_hearsay 4 = .ok (.idiv, 1) := by decide +kernel
theorem dX5_hearsay_5 : decode cX5_hearsay 5 = .ok (.ireturn, 1) := by decide +kernel
theorem dX5_evidence_0 : decode cX5_evidence 0 = .ok (.iload_n 1, 1) := by decide +kernel
theorem dX5_evidence_1 : decode cX5_evidence 1 = .ok (.ifCond .ge 9, 3) := by decide +kernel
theorem dX5_evidence_4 : decode cX5_evidence 4 = .ok (.iconst 2, 1) := by decide +kernel
theorem dX5_evidence_5 : decode cX5_evidence 5 = .ok (.iload_n 0, 1) := by decide +kernel
theorem dX5_evidence_6 : decode cX5_evidence 6 = .ok (.imul, 1) := by decide +kernel
theorem dX5_evidence_7 : decode cX5_evidence 7 = .ok (.goto 4, 3) := by decide +kernel
theorem dX5_evidence_10 : decode cX5_evidence 10 = .ok (.iload_n 0, 1) := by decide +kernel
theorem dX5_evidence_11 : decode cX5_evidence 11 = .ok (.ireturn, 1) := by decide +kernel
set_option maxRecDepth 20000 in
theorem ggX5_counted_X5_fierce : GoodIn wsX5_counted wsX5_fierce := goodIn_r _ [4] (by decide +kernel) (by decide +kernel)
set_option maxRecDepth 20000 in
theorem gX5_counted_X5_fierce : GoodIn wsX5_counted (va_wsS RX5 19 yX5_fierce wsX5_fierce) := goodIn_app (goodIn_of _ (by decide +kernel)) ggX5_counted_X5_fierce
set_option maxRecDepth 20000 in
theorem ggX5_counted_X5_mild : GoodIn wsX5_counted wsX5_mild := goodIn_r _ [7, 8, 9, 10, 11] (by decide +kernel) (by decide +kernel)
set_option maxRecDepth 20000 in
theorem gX5_counted_X5_mild : GoodIn wsX5_counted (va_wsS RX5 22 yX5_mild wsX5_mild) := goodIn_app (goodIn_of _ (by decide +kernel)) ggX5_counted_X5_mild
theorem dX5_counted_0 : decode cX5_counted 0 = .ok (.iload_n 0, 1) := by decide +kernel
theorem dX5_counted_1 : decode cX5_counted 1 = .ok (.tableswitch 89 1 5 #[35, 40, 45, 62, 82], 35) := by decide +kernel
theorem dX5_counted_36 : decode cX5_counted 36 = .ok (.iload_n 1, 1) := by decide +kernel
theorem dX5_counted_37 : decode cX5_counted 37 = .ok (.invokestatic 19, 3) := by decide +kernel
theorem dX5_counted_40 : decode cX5_counted 40 = .ok (.ireturn, 1) := by decide +kernel
theorem dX5_counted_41 : decode cX5_counted 41 = .ok (.iload_n 1, 1) := by decide +kernel
theorem dX5_counted_42 : decode cX5_counted 42 = .ok (.invokestatic 22, 3) := by decide +kernel
theorem dX5_counted_45 : decode cX5_counted 45 = .ok (.ireturn, 1) := by decide +kernel
theorem dX5_counted_46 : decode cX5_counted 46 = .ok (.iload_n 2, 1) := by decide +kernel
theorem dX5_counted_47 : decode cX5_counted 47 = .ok (.ifCond .ne 10, 3) := by decide +kernel
theorem dX5_counted_50 : decode cX5_counted 50 = .ok (.iload_n 1, 1) := by decide +kernel
theorem dX5_counted_51 : decode cX5_counted 51 = .ok (.invokestatic 19, 3) := by decide +kernel
theorem dX5_counted_54 : decode cX5_counted 54 = .ok (.goto 8, 3) := by decide +kernel
theorem dX5_counted_57 : decode cX5_counted 57 = .ok (.iload_n 1, 1) := by decide +kernel
theorem dX5_counted_58 : decode cX5_counted 58 = .ok (.invokestatic 19, 3) := by decide +kernel
theorem dX5_counted_61 : decode cX5_counted 61 = .ok (.ineg, 1) := by decide +kernel
theorem dX5_counted_62 : decode cX5_counted 62 = .ok (.ireturn, 1) := by decide +kernel
theorem dX5_counted_63 : decode cX5_counted 63 = .ok (.iload_n 1, 1) := by decide +kernel
theorem dX5_counted_64 : decode cX5_counted 64 = .ok (.iconst 2, 1) := by decide +kernel
theorem dX5_counted_65 : decode cX5_counted 65 = .ok (.irem, 1) := by decide +kernel
theorem dX5_counted_66 : decode cX5_counted 66 = .ok (.ifCond .ne 12, 3) := by decide +kernel
theorem dX5_counted_69 : decode cX5_counted 69 = .ok (.iload_n 1, 1) := by decide +kernel
theorem dX5_counted_70 : decode cX5_counted 70 = .ok (.invokestatic 22, 3) := by decide +kernel
theorem dX5_counted_73 : decode cX5_counted 73 = .ok (.iconst 3, 1) := by decide +kernel
theorem dX5_counted_74 : decode cX5_counted 74 = .ok (.iadd, 1) := by decide +kernel
theorem dX5_counted_75 : decode cX5_counted 75 = .ok (.goto 7, 3) := by decide +kernel
theorem dX5_counted_78 : decode cX5_counted 78 = .ok (.iload_n 1, 1) := by decide +kernel
theorem dX5_counted_79 : decode cX5_counted 79 = .ok (.invokestatic 22, 3) := by decide +kernel
theorem dX5_counted_82 : decode cX5_counted 82 = .ok (.ireturn, 1) := by decide +kernel
theorem dX5_counted_83 : decode cX5_counted 83 = .ok (.iload_n 1, 1) := by decide +kernel
theorem dX5_counted_84 : decode cX5_counted 84 = .ok (.invokestatic 19, 3) := by decide +kernel
theorem dX5_counted_87 : decode cX5_counted 87 = .ok (.iconst 2, 1) := by decide +kernel
theorem dX5_counted_88 : decode cX5_counted 88 = .ok (.idiv, 1) := by decide +kernel
theorem dX5_counted_89 : decode cX5_counted 89 = .ok (.ireturn, 1) := by decide +kernel
theorem dX5_counted_90 : decode cX5_counted 90 = .ok (.iload_n 1, 1) := by decide +kernel
theorem dX5_counted_91 : decode cX5_counted 91 = .ok (.ireturn, 1) := by decide +kernel
theorem dX5_fierce_0 : decode cX5_fierce 0 = .ok (.iload_n 0, 1) := by decide +kernel
theorem dX5_fierce_1 : decode cX5_fierce 1 = .ok (.iconst 2, 1) := by decide +kernel
theorem dX5_fierce_2 : decode cX5_fierce 2 = .ok (.iadd, 1) := by decide +kernel
theorem dX5_fierce_3 : decode cX5_fierce 3 = .ok (.ireturn, 1) := by decide +kernel
theorem dX5_mild_0 : decode cX5_mild 0 = .ok (.iconst 0, 1) := by decide +kernel
theorem dX5_mild_1 : decode cX5_mild 1 = .ok (.iload_n 0, 1) := by decide +kernel
theorem dX5_mild_2 : decode cX5_mild 2 = .ok (.iconst 1, 1) := by decide +kernel
theorem dX5_mild_3 : decode cX5_mild 3 = .ok (.isub, 1) := by decide +kernel
theorem dX5_mild_4 : decode cX5_mild 4 = .ok (.invokestatic 25, 3) := by decide +kernel
theorem dX5_mild_7 : decode cX5_mild 7 = .ok (.ireturn, 1) := by decide +kernel
set_option maxRecDepth 20000 in
theorem ggX5_bestLook_X5_mostMovingAlike : GoodIn wsX5_bestLook wsX5_mostMovingAlike := goodIn_r _ [4, 5, 6, 7, 8, 9, 10, 11, 12, 13, 3, 14, 15, 16, 17, 18, 19, 20] (by decide +kernel) (by decide +kernel)
set_option maxRecDepth 20000 in
theorem gX5_bestLook_X5_mostMovingAlike : GoodIn wsX5_bestLook (va_wsS RX5 30 yX5_mostMovingAlike wsX5_mostMovingAlike) := goodIn_app (goodIn_of _ (by decide +kernel)) ggX5_bestLook_X5_mostMovingAlike
theorem dX5_bestLook_0 : decode cX5_bestLook 0 = .ok (.iconst (-1), 1) := by decide +kernel
theorem dX5_bestLook_1 : decode cX5_bestLook 1 = .ok (.istore_n 2, 1) := by decide +kernel
theorem dX5_bestLook_2 : decode cX5_bestLook 2 = .ok (.bipush 7, 2) := by decide +kernel
theorem dX5_bestLook_4 : decode cX5_bestLook 4 = .ok (.istore_n 3, 1) := by decide +kernel
theorem dX5_bestLook_5 : decode cX5_bestLook 5 = .ok (.iconst 0, 1) := by decide +kernel
theorem dX5_bestLook_6 : decode cX5_bestLook 6 = .ok (.istore 4, 2) := by decide +kernel
theorem dX5_bestLook_8 : decode cX5_bestLook 8 = .ok (.iload 4, 2) := by decide +kernel
theorem dX5_bestLook_10 : decode cX5_bestLook 10 = .ok (.iconst 5, 1) := by decide +kernel
theorem dX5_bestLook_11 : decode cX5_bestLook 11 = .ok (.if_icmp .gt 62, 3) := by decide +kernel
theorem dX5_bestLook_14 : decode cX5_bestLook 14 = .ok (.iload_n 0, 1) := by decide +kernel
theorem dX5_bestLook_15 : decode cX5_bestLook 15 = .ok (.ifCond .eq 58, 3) := by decide +kernel
theorem dX5_bestLook_18 : decode cX5_bestLook 18 = .ok (.bipush (-10), 2) := by decide +kernel
theorem dX5_bestLook_20 : decode cX5_bestLook 20 = .ok (.istore 5, 2) := by decide +kernel
theorem dX5_bestLook_22 : decode cX5_bestLook 22 = .ok (.iload 5, 2) := by decide +kernel
theorem dX5_bestLook_24 : decode cX5_bestLook 24 = .ok (.bipush 10, 2) := by decide +kernel
theorem dX5_bestLook_26 : decode cX5_bestLook 26 = .ok (.if_icmp .gt 41, 3) := by decide +kernel
theorem dX5_bestLook_29 : decode cX5_bestLook 29 = .ok (.iload_n 0, 1) := by decide +kernel
theorem dX5_bestLook_30 : decode cX5_bestLook 30 = .ok (.iload_n 1, 1) := by decide +kernel
theorem dX5_bestLook_31 : decode cX5_bestLook 31 = .ok (.iload 5, 2) := by decide +kernel
theorem dX5_bestLook_33 : decode cX5_bestLook 33 = .ok (.iload 4, 2) := by decide +kernel
theorem dX5_bestLook_35 : decode cX5_bestLook 35 = .ok (.invokestatic 30, 3) := by decide +kernel
theorem dX5_bestLook_38 : decode cX5_bestLook 38 = .ok (.istore 6, 2) := by decide +kernel
theorem dX5_bestLook_40 : decode cX5_bestLook 40 = .ok (.iload 6, 2) := by decide +kernel
theorem dX5_bestLook_42 : decode cX5_bestLook 42 = .ok (.iload_n 3, 1) := by decide +kernel
theorem dX5_bestLook_43 : decode cX5_bestLook 43 = .ok (.if_icmp .ge 18, 3) := by decide +kernel
theorem dX5_bestLook_46 : decode cX5_bestLook 46 = .ok (.iload 6, 2) := by decide +kernel
theorem dX5_bestLook_48 : decode cX5_bestLook 48 = .ok (.istore_n 3, 1) := by decide +kernel
theorem dX5_bestLook_49 : decode cX5_bestLook 49 = .ok (.bipush 100, 2) := by decide +kernel
theorem dX5_bestLook_51 : decode cX5_bestLook 51 = .ok (.iload 4, 2) := by decide +kernel
theorem dX5_bestLook_53 : decode cX5_bestLook 53 = .ok (.imul, 1) := by decide +kernel
theorem dX5_bestLook_54 : decode cX5_bestLook 54 = .ok (.iload 5, 2) := by decide +kernel
theorem dX5_bestLook_56 : decode cX5_bestLook 56 = .ok (.iadd, 1) := by decide +kernel
theorem dX5_bestLook_57 : decode cX5_bestLook 57 = .ok (.bipush 10, 2) := by decide +kernel
theorem dX5_bestLook_59 : decode cX5_bestLook 59 = .ok (.iadd, 1) := by decide +kernel
theorem dX5_bestLook_60 : decode cX5_bestLook 60 = .ok (.istore_n 2, 1) := by decide +kernel
theorem dX5_bestLook_61 : decode cX5_bestLook 61 = .ok (.iinc 5 1, 3) := by decide +kernel
theorem dX5_bestLook_64 : decode cX5_bestLook 64 = .ok (.goto (-42), 3) := by decide +kernel
theorem dX5_bestLook_67 : decode cX5_bestLook 67 = .ok (.iinc 4 1, 3) := by decide +kernel
theorem dX5_bestLook_70 : decode cX5_bestLook 70 = .ok (.goto (-62), 3) := by decide +kernel
theorem dX5_bestLook_73 : decode cX5_bestLook 73 = .ok (.iload_n 2, 1) := by decide +kernel
theorem dX5_bestLook_74 : decode cX5_bestLook 74 = .ok (.ireturn, 1) := by decide +kernel
set_option maxRecDepth 20000 in
theorem ggX5_mostMovingAlike_X8_has : GoodIn wsX5_mostMovingAlike wsX8_has := goodIn_r _ [7] (by decide +kernel) (by decide +kernel)
set_option maxRecDepth 20000 in
theorem gX5_mostMovingAlike_X8_has_n34 : GoodIn wsX5_mostMovingAlike (wsX8_has) := ggX5_mostMovingAlike_X8_has
set_option maxRecDepth 20000 in
theorem ggX5_mostMovingAlike_X5_moved : GoodIn wsX5_mostMovingAlike wsX5_moved := goodIn_r _ [11, 12, 13, 10, 14, 15, 16, 17] (by decide +kernel) (by decide +kernel)
set_option maxRecDepth 20000 in
theorem gX5_mostMovingAlike_X5_moved : GoodIn wsX5_mostMovingAlike (va_wsS RX5 38 yX5_moved wsX5_moved) := goodIn_app (goodIn_of _ (by decide +kernel)) ggX5_mostMovingAlike_X5_moved
theorem dX5_mostMovingAlike_0 : decode cX5_mostMovingAlike 0 = .ok (.iconst 0, 1) := by decide +kernel
theorem dX5_mostMovingAlike_1 : decode cX5_mostMovingAlike 1 = .ok (.istore 4, 2) := by decide +kernel
theorem dX5_mostMovingAlike_3 : decode cX5_mostMovingAlike 3 = .ok (.iconst 0, 1) := by decide +kernel
theorem dX5_mostMovingAlike_4 : decode cX5_mostMovingAlike 4 = .ok (.istore 5, 2) := by decide +kernel
theorem dX5_mostMovingAlike_6 : decode cX5_mostMovingAlike 6 = .ok (.iload 5, 2) := by decide +kernel
theorem dX5_mostMovingAlike_8 : decode cX5_mostMovingAlike 8 = .ok (.iconst 5, 1) := by decide +kernel
theorem dX5_mostMovingAlike_9 : decode cX5_mostMovingAlike 9 = .ok (.if_icmp .gt 76, 3) := by decide +kernel
theorem dX5_mostMovingAlike_12 : decode cX5_mostMovingAlike 12 = .ok (.iconst 0, 1) := by decide +kernel
theorem dX5_mostMovingAlike_13 : decode cX5_mostMovingAlike 13 = .ok (.istore 6, 2) := by decide +kernel
theorem dX5_mostMovingAlike_15 : decode cX5_mostMovingAlike 15 = .ok (.iconst 0, 1) := by decide +kernel
theorem dX5_mostMovingAlike_16 : decode cX5_mostMovingAlike 16 = .ok (.istore 7, 2) := by decide +kernel
theorem dX5_mostMovingAlike_18 : decode cX5_mostMovingAlike 18 = .ok (.iload 7, 2) := by decide +kernel
theorem dX5_mostMovingAlike_20 : decode cX5_mostMovingAlike 20 = .ok (.iconst 5, 1) := by decide +kernel
theorem dX5_mostMovingAlike_21 : decode cX5_mostMovingAlike 21 = .ok (.if_icmp .gt 49, 3) := by decide +kernel
theorem dX5_mostMovingAlike_24 : decode cX5_mostMovingAlike 24 = .ok (.iload_n 0, 1) := by decide +kernel
theorem dX5_mostMovingAlike_25 : decode cX5_mostMovingAlike 25 = .ok (.iload 5, 2) := by decide +kernel
theorem dX5_mostMovingAlike_27 : decode cX5_mostMovingAlike 27 = .ok (.invokestatic 34, 3) := by decide +kernel
theorem dX5_mostMovingAlike_30 : decode cX5_mostMovingAlike 30 = .ok (.ifCond .eq 34, 3) := by decide +kernel
theorem dX5_mostMovingAlike_33 : decode cX5_mostMovingAlike 33 = .ok (.iload_n 0, 1) := by decide +kernel
theorem dX5_mostMovingAlike_34 : decode cX5_mostMovingAlike 34 = .ok (.iload 7, 2) := by decide +kernel
theorem dX5_mostMovingAlike_36 : decode cX5_mostMovingAlike 36 = .ok (.invokestatic 34, 3) := by decide +kernel
theorem dX5_mostMovingAlike_39 : decode cX5_mostMovingAlike 39 = .ok (.ifCond .eq 25, 3) := by decide +kernel
theorem dX5_mostMovingAlike_42 : decode cX5_mostMovingAlike 42 = .ok (.iload 5, 2) := by decide +kernel
theorem dX5_mostMovingAlike_44 : decode cX5_mostMovingAlike 44 = .ok (.iload_n 1, 1) := by decide +kernel
theorem dX5_mostMovingAlike_45 : decode cX5_mostMovingAlike 45 = .ok (.iload_n 2, 1) := by decide +kernel
theorem dX5_mostMovingAlike_46 : decode cX5_mostMovingAlike 46 = .ok (.iload_n 3, 1) := by decide +kernel
theorem dX5_mostMovingAlike_47 : decode cX5_mostMovingAlike 47 = .ok (.invokestatic 38, 3) := by decide +kernel
theorem dX5_mostMovingAlike_50 : decode cX5_mostMovingAlike 50 = .ok (.iload 7, 2) := by decide +kernel
theorem dX5_mostMovingAlike_52 : decode cX5_mostMovingAlike 52 = .ok (.iload_n 1, 1) := by decide +kernel
theorem dX5_mostMovingAlike_53 : decode cX5_mostMovingAlike 53 = .ok (.iload_n 2, 1) := by decide +kernel
theorem dX5_mostMovingAlike_54 : decode cX5_mostMovingAlike 54 = .ok (.iload_n 3, 1) := by decide +kernel
theorem dX5_mostMovingAlike_55 : decode cX5_mostMovingAlike 55 = .ok (.invokestatic 38, 3) := by decide +kernel
theorem dX5_mostMovingAlike_58 : decode cX5_mostMovingAlike 58 = .ok (.if_icmp .ne 6, 3) := by decide +kernel
theorem dX5_mostMovingAlike_61 : decode cX5_mostMovingAlike 61 = .ok (.iinc 6 1, 3) := by decide +kernel
theorem dX5_mostMovingAlike_64 : decode cX5_mostMovingAlike 64 = .ok (.iinc 7 1, 3) := by decide +kernel
theorem dX5_mostMovingAlike_67 : decode cX5_mostMovingAlike 67 = .ok (.goto (-49), 3) := by decide +kernel
theorem dX5_mostMovingAlike_70 : decode cX5_mostMovingAlike 70 = .ok (.iload 4, 2) := by decide +kernel
theorem dX5_mostMovingAlike_72 : decode cX5_mostMovingAlike 72 = .ok (.iload 6, 2) := by decide +kernel
theorem dX5_mostMovingAlike_74 : decode cX5_mostMovingAlike 74 = .ok (.invokestatic 25, 3) := by decide +kernel
theorem dX5_mostMovingAlike_77 : decode cX5_mostMovingAlike 77 = .ok (.istore 4, 2) := by decide +kernel
theorem dX5_mostMovingAlike_79 : decode cX5_mostMovingAlike 79 = .ok (.iinc 5 1, 3) := by decide +kernel
theorem dX5_mostMovingAlike_82 : decode cX5_mostMovingAlike 82 = .ok (.goto (-76), 3) := by decide +kernel
theorem dX5_mostMovingAlike_85 : decode cX5_mostMovingAlike 85 = .ok (.iload 4, 2) := by decide +kernel
theorem dX5_mostMovingAlike_87 : decode cX5_mostMovingAlike 87 = .ok (.ireturn, 1) := by decide +kernel
set_option maxRecDepth 20000 in
theorem ggX5_bestQuestion_X5_mostCountingAlike : GoodIn wsX5_bestQuestion wsX5_mostCountingAlike := goodIn_r _ [4, 5, 6, 7, 8, 9, 10, 11, 12, 13, 3, 14, 15, 16, 17, 18, 19, 20] (by decide +kernel) (by decide +kernel)
set_option maxRecDepth 20000 in
theorem gX5_bestQuestion_X5_mostCountingAlike : GoodIn wsX5_bestQuestion (va_wsS RX5 41 yX5_mostCountingAlike wsX5_mostCountingAlike) := goodIn_app (goodIn_of _ (by decide +kernel)) ggX5_bestQuestion_X5_mostCountingAlike
theorem dX5_bestQuestion_0 : decode cX5_bestQuestion 0 = .ok (.iconst (-1), 1) := by decide +kernel
theorem dX5_bestQuestion_1 : decode cX5_bestQuestion 1 = .ok (.istore_n 1, 1) := by decide +kernel
theorem dX5_bestQuestion_2 : decode cX5_bestQuestion 2 = .ok (.bipush 7, 2) := by decide +kernel
theorem dX5_bestQuestion_4 : decode cX5_bestQuestion 4 = .ok (.istore_n 2, 1) := by decide +kernel
theorem dX5_bestQuestion_5 : decode cX5_bestQuestion 5 = .ok (.iconst 0, 1) := by decide +kernel
theorem dX5_bestQuestion_6 : decode cX5_bestQuestion 6 = .ok (.istore_n 3, 1) := by decide +kernel
theorem dX5_bestQuestion_7 : decode cX5_bestQuestion 7 = .ok (.iload_n 3, 1) := by decide +kernel
theorem dX5_bestQuestion_8 : decode cX5_bestQuestion 8 = .ok (.iconst 1, 1) := by decide +kernel
theorem dX5_bestQuestion_9 : decode cX5_bestQuestion 9 = .ok (.if_icmp .gt 55, 3) := by decide +kernel
theorem dX5_bestQuestion_12 : decode cX5_bestQuestion 12 = .ok (.iload_n 0, 1) := by decide +kernel
theorem dX5_bestQuestion_13 : decode cX5_bestQuestion 13 = .ok (.ifCond .eq 51, 3) := by decide +kernel
theorem dX5_bestQuestion_16 : decode cX5_bestQuestion 16 = .ok (.iconst 0, 1) := by decide +kernel
theorem dX5_bestQuestion_17 : decode cX5_bestQuestion 17 = .ok (.istore 4, 2) := by decide +kernel
theorem dX5_bestQuestion_19 : decode cX5_bestQuestion 19 = .ok (.iload 4, 2) := by decide +kernel
theorem dX5_bestQuestion_21 : decode cX5_bestQuestion 21 = .ok (.bipush 40, 2) := by decide +kernel
theorem dX5_bestQuestion_23 : decode cX5_bestQuestion 23 = .ok (.if_icmp .gt 35, 3) := by decide +kernel
theorem dX5_bestQuestion_26 : decode cX5_bestQuestion 26 = .ok (.iload_n 0, 1) := by decide +kernel
theorem dX5_bestQuestion_27 : decode cX5_bestQuestion 27 = .ok (.iload 4, 2) := by decide +kernel
theorem dX5_bestQuestion_29 : decode cX5_bestQuestion 29 = .ok (.iload_n 3, 1) := by decide +kernel
theorem dX5_bestQuestion_30 : decode cX5_bestQuestion 30 = .ok (.invokestatic 41, 3) := by decide +kernel
theorem dX5_bestQuestion_33 : decode cX5_bestQuestion 33 = .ok (.istore 5, 2) := by decide +kernel
theorem dX5_bestQuestion_35 : decode cX5_bestQuestion 35 = .ok (.iload 5, 2) := by decide +kernel
theorem dX5_bestQuestion_37 : decode cX5_bestQuestion 37 = .ok (.iload_n 2, 1) := by decide +kernel
theorem dX5_bestQuestion_38 : decode cX5_bestQuestion 38 = .ok (.if_icmp .ge 14, 3) := by decide +kernel
theorem dX5_bestQuestion_41 : decode cX5_bestQuestion 41 = .ok (.iload 5, 2) := by decide +kernel
theorem dX5_bestQuestion_43 : decode cX5_bestQuestion 43 = .ok (.istore_n 2, 1) := by decide +kernel
theorem dX5_bestQuestion_44 : decode cX5_bestQuestion 44 = .ok (.bipush 100, 2) := by decide +kernel
theorem dX5_bestQuestion_46 : decode cX5_bestQuestion 46 = .ok (.iload_n 3, 1) := by decide +kernel
theorem dX5_bestQuestion_47 : decode cX5_bestQuestion 47 = .ok (.imul, 1) := by decide +kernel
theorem dX5_bestQuestion_48 : decode cX5_bestQuestion 48 = .ok (.iload 4, 2) := by decide +kernel
theorem dX5_bestQuestion_50 : decode cX5_bestQuestion 50 = .ok (.iadd, 1) := by decide +kernel
theorem dX5_bestQuestion_51 : decode cX5_bestQuestion 51 = .ok (.istore_n 1, 1) := by decide +kernel
theorem dX5_bestQuestion_52 : decode cX5_bestQuestion 52 = .ok (.iinc 4 1, 3) := by decide +kernel
theorem dX5_bestQuestion_55 : decode cX5_bestQuestion 55 = .ok (.goto (-36), 3) := by decide +kernel
theorem dX5_bestQuestion_58 : decode cX5_bestQuestion 58 = .ok (.iinc 3 1, 3) := by decide +kernel
theorem dX5_bestQuestion_61 : decode cX5_bestQuestion 61 = .ok (.goto (-54), 3) := by decide +kernel
theorem dX5_bestQuestion_64 : decode cX5_bestQuestion 64 = .ok (.iload_n 1, 1) := by decide +kernel
theorem dX5_bestQuestion_65 : decode cX5_bestQuestion 65 = .ok (.ireturn, 1) := by decide +kernel
set_option maxRecDepth 20000 in
theorem ggX5_mostCountingAlike_X8_has : GoodIn wsX5_mostCountingAlike wsX8_has := goodIn_r _ [7] (by decide +kernel) (by decide +kernel)
set_option maxRecDepth 20000 in
theorem gX5_mostCountingAlike_X8_has_n34 : GoodIn wsX5_mostCountingAlike (wsX8_has) := ggX5_mostCountingAlike_X8_has
set_option maxRecDepth 20000 in
theorem ggX5_mostCountingAlike_X5_counted : GoodIn wsX5_mostCountingAlike wsX5_counted := goodIn_r _ [11, 12, 13, 10, 14, 15, 16, 17, 1, 2, 3, 4] (by decide +kernel) (by decide +kernel)
set_option maxRecDepth 20000 in
theorem gX5_mostCountingAlike_X5_counted : GoodIn wsX5_mostCountingAlike (va_wsS RX5 45 yX5_counted wsX5_counted) := goodIn_app (goodIn_of _ (by decide +kernel)) ggX5_mostCountingAlike_X5_counted
theorem dX5_mostCountingAlike_0 : decode cX5_mostCountingAlike 0 = .ok (.iconst 0, 1) := by decide +kernel
theorem dX5_mostCountingAlike_1 : decode cX5_mostCountingAlike 1 = .ok (.istore_n 3, 1) := by decide +kernel
theorem dX5_mostCountingAlike_2 : decode cX5_mostCountingAlike 2 = .ok (.iconst 0, 1) := by decide +kernel
theorem dX5_mostCountingAlike_3 : decode cX5_mostCountingAlike 3 = .ok (.istore 4, 2) := by decide +kernel
theorem dX5_mostCountingAlike_5 : decode cX5_mostCountingAlike 5 = .ok (.iload 4, 2) := by decide +kernel
theorem dX5_mostCountingAlike_7 : decode cX5_mostCountingAlike 7 = .ok (.iconst 5, 1) := by decide +kernel
theorem dX5_mostCountingAlike_8 : decode cX5_mostCountingAlike 8 = .ok (.if_icmp .gt 72, 3) := by decide +kernel
theorem dX5_mostCountingAlike_11 : decode cX5_mostCountingAlike 11 = .ok (.iconst 0, 1) := by decide +kernel
theorem dX5_mostCountingAlike_12 : decode cX5_mostCountingAlike 12 = .ok (.istore 5, 2) := by decide +kernel
theorem dX5_mostCountingAlike_14 : decode cX5_mostCountingAlike 14 = .ok (.iconst 0, 1) := by decide +kernel
theorem dX5_mostCountingAlike_15 : decode cX5_mostCountingAlike 15 = .ok (.istore 6, 2) := by decide +kernel
theorem dX5_mostCountingAlike_17 : decode cX5_mostCountingAlike 17 = .ok (.iload 6, 2) := by decide +kernel
theorem dX5_mostCountingAlike_19 : decode cX5_mostCountingAlike 19 = .ok (.iconst 5, 1) := by decide +kernel
theorem dX5_mostCountingAlike_20 : decode cX5_mostCountingAlike 20 = .ok (.if_icmp .gt 47, 3) := by decide +kernel
theorem dX5_mostCountingAlike_23 : decode cX5_mostCountingAlike 23 = .ok (.iload_n 0, 1) := by decide +kernel
theorem dX5_mostCountingAlike_24 : decode cX5_mostCountingAlike 24 = .ok (.iload 4, 2) := by decide +kernel
theorem dX5_mostCountingAlike_26 : decode cX5_mostCountingAlike 26 = .ok (.invokestatic 34, 3) := by decide +kernel
theorem dX5_mostCountingAlike_29 : decode cX5_mostCountingAlike 29 = .ok (.ifCond .eq 32, 3) := by decide +kernel
theorem dX5_mostCountingAlike_32 : decode cX5_mostCountingAlike 32 = .ok (.iload_n 0, 1) := by decide +kernel
theorem dX5_mostCountingAlike_33 : decode cX5_mostCountingAlike 33 = .ok (.iload 6, 2) := by decide +kernel
theorem dX5_mostCountingAlike_35 : decode cX5_mostCountingAlike 35 = .ok (.invokestatic 34, 3) := by decide +kernel
theorem dX5_mostCountingAlike_38 : decode cX5_mostCountingAlike 38 = .ok (.ifCond .eq 23, 3) := by decide +kernel
theorem dX5_mostCountingAlike_41 : decode cX5_mostCountingAlike 41 = .ok (.iload 4, 2) := by decide +kernel
theorem dX5_mostCountingAlike_43 : decode cX5_mostCountingAlike 43 = .ok (.iload_n 1, 1) := by decide +kernel
theorem dX5_mostCountingAlike_44 : decode cX5_mostCountingAlike 44 = .ok (.iload_n 2, 1) := by decide +kernel
theorem dX5_mostCountingAlike_45 : decode cX5_mostCountingAlike 45 = .ok (.invokestatic 45, 3) := by decide +kernel
theorem dX5_mostCountingAlike_48 : decode cX5_mostCountingAlike 48 = .ok (.iload 6, 2) := by decide +kernel
theorem dX5_mostCountingAlike_50 : decode cX5_mostCountingAlike 50 = .ok (.iload_n 1, 1) := by decide +kernel
theorem dX5_mostCountingAlike_51 : decode cX5_mostCountingAlike 51 = .ok (.iload_n 2, 1) := by decide +kernel
theorem dX5_mostCountingAlike_52 : decode cX5_mostCountingAlike 52 = .ok (.invokestatic 45, 3) := by decide +kernel
theorem dX5_mostCountingAlike_55 : decode cX5_mostCountingAlike 55 = .ok (.if_icmp .ne 6, 3) := by decide +kernel
theorem dX5_mostCountingAlike_58 : decode cX5_mostCountingAlike 58 = .ok (.iinc 5 1, 3) := by decide +kernel
theorem dX5_mostCountingAlike_61 : decode cX5_mostCountingAlike 61 = .ok (.iinc 6 1, 3) := by decide +kernel
theorem dX5_mostCountingAlike_64 : decode cX5_mostCountingAlike 64 = .ok (.goto (-47), 3) := by decide +kernel
theorem dX5_mostCountingAlike_67 : decode cX5_mostCountingAlike 67 = .ok (.iload_n 3, 1) := by decide +kernel
theorem dX5_mostCountingAlike_68 : decode cX5_mostCountingAlike 68 = .ok (.iload 5, 2) := by decide +kernel
theorem dX5_mostCountingAlike_70 : decode cX5_mostCountingAlike 70 = .ok (.invokestatic 25, 3) := by decide +kernel
theorem dX5_mostCountingAlike_73 : decode cX5_mostCountingAlike 73 = .ok (.istore_n 3, 1) := by decide +kernel
theorem dX5_mostCountingAlike_74 : decode cX5_mostCountingAlike 74 = .ok (.iinc 4 1, 3) := by decide +kernel
theorem dX5_mostCountingAlike_77 : decode cX5_mostCountingAlike 77 = .ok (.goto (-72), 3) := by decide +kernel
theorem dX5_mostCountingAlike_80 : decode cX5_mostCountingAlike 80 = .ok (.iload_n 3, 1) := by decide +kernel
theorem dX5_mostCountingAlike_81 : decode cX5_mostCountingAlike 81 = .ok (.ireturn, 1) := by decide +kernel
set_option maxRecDepth 20000 in
theorem ggX6_rests_X6_gain : GoodIn wsX6_rests wsX6_gain := goodIn_r _ [4] (by decide +kernel) (by decide +kernel)
set_option maxRecDepth 20000 in
theorem gX6_rests_X6_gain : GoodIn wsX6_rests (va_wsS RX6 9 yX6_gain wsX6_gain) := goodIn_app (goodIn_of _ (by decide +kernel)) ggX6_rests_X6_gain
theorem dX6_rests_0 : decode cX6_rests 0 = .ok (.iconst 0, 1) := by decide +kernel
theorem dX6_rests_1 : decode cX6_rests 1 = .ok (.istore_n 3, 1) := by decide +kernel
theorem dX6_rests_2 : decode cX6_rests 2 = .ok (.iload_n 3, 1) := by decide +kernel
theorem dX6_rests_3 : decode cX6_rests 3 = .ok (.bipush 10, 2) := by decide +kernel
theorem dX6_rests_5 : decode cX6_rests 5 = .ok (.if_icmp .ge 43, 3) := by decide +kernel
theorem dX6_rests_8 : decode cX6_rests 8 = .ok (.iload_n 3, 1) := by decide +kernel
theorem dX6_rests_9 : decode cX6_rests 9 = .ok (.iload_n 1, 1) := by decide +kernel
theorem dX6_rests_10 : decode cX6_rests 10 = .ok (.iload_n 2, 1) := by decide +kernel
theorem dX6_rests_11 : decode cX6_rests 11 = .ok (.invokestatic 9, 3) := by decide +kernel
theorem dX6_rests_14 : decode cX6_rests 14 = .ok (.iload_n 0, 1) := by decide +kernel
theorem dX6_rests_15 : decode cX6_rests 15 = .ok (.iload_n 1, 1) := by decide +kernel
theorem dX6_rests_16 : decode cX6_rests 16 = .ok (.iload_n 2, 1) := by decide +kernel
theorem dX6_rests_17 : decode cX6_rests 17 = .ok (.invokestatic 9, 3) := by decide +kernel
theorem dX6_rests_20 : decode cX6_rests 20 = .ok (.if_icmp .gt 20, 3) := by decide +kernel
theorem dX6_rests_23 : decode cX6_rests 23 = .ok (.iload_n 3, 1) := by decide +kernel
theorem dX6_rests_24 : decode cX6_rests 24 = .ok (.iload_n 0, 1) := by decide +kernel
theorem dX6_rests_25 : decode cX6_rests 25 = .ok (.iload_n 2, 1) := by decide +kernel
theorem dX6_rests_26 : decode cX6_rests 26 = .ok (.ineg, 1) := by decide +kernel
theorem dX6_rests_27 : decode cX6_rests 27 = .ok (.invokestatic 9, 3) := by decide +kernel
theorem dX6_rests_30 : decode cX6_rests 30 = .ok (.iload_n 1, 1) := by decide +kernel
theorem dX6_rests_31 : decode cX6_rests 31 = .ok (.iload_n 0, 1) := by decide +kernel
theorem dX6_rests_32 : decode cX6_rests 32 = .ok (.iload_n 2, 1) := by decide +kernel
theorem dX6_rests_33 : decode cX6_rests 33 = .ok (.ineg, 1) := by decide +kernel
theorem dX6_rests_34 : decode cX6_rests 34 = .ok (.invokestatic 9, 3) := by decide +kernel
theorem dX6_rests_37 : decode cX6_rests 37 = .ok (.if_icmp .le 5, 3) := by decide +kernel
theorem dX6_rests_40 : decode cX6_rests 40 = .ok (.iconst 0, 1) := by decide +kernel
theorem dX6_rests_41 : decode cX6_rests 41 = .ok (.ireturn, 1) := by decide +kernel
theorem dX6_rests_42 : decode cX6_rests 42 = .ok (.iinc 3 1, 3) := by decide +kernel
theorem dX6_rests_45 : decode cX6_rests 45 = .ok (.goto (-43), 3) := by decide +kernel
theorem dX6_rests_48 : decode cX6_rests 48 = .ok (.iconst 1, 1) := by decide +kernel
theorem dX6_rests_49 : decode cX6_rests 49 = .ok (.ireturn, 1) := by decide +kernel
theorem dX6_gain_0 : decode cX6_gain 0 = .ok (.iload_n 0, 1) := by decide +kernel
theorem dX6_gain_1 : decode cX6_gain 1 = .ok (.iload_n 1, 1) := by decide +kernel
theorem dX6_gain_2 : decode cX6_gain 2 = .ok (.iadd, 1) := by decide +kernel
theorem dX6_gain_3 : decode cX6_gain 3 = .ok (.bipush 10, 2) := by decide +kernel
theorem dX6_gain_5 : decode cX6_gain 5 = .ok (.if_icmp .lt 7, 3) := by decide +kernel
theorem dX6_gain_8 : decode cX6_gain 8 = .ok (.iload_n 2, 1) := by decide +kernel
theorem dX6_gain_9 : decode cX6_gain 9 = .ok (.goto 8, 3) := by decide +kernel
theorem dX6_gain_12 : decode cX6_gain 12 = .ok (.iconst 5, 1) := by decide +kernel
theorem dX6_gain_13 : decode cX6_gain 13 = .ok (.iload_n 1, 1) := by decide +kernel
theorem dX6_gain_14 : decode cX6_gain 14 = .ok (.iadd, 1) := by decide +kernel
theorem dX6_gain_15 : decode cX6_gain 15 = .ok (.iload_n 0, 1) := by decide +kernel
theorem dX6_gain_16 : decode cX6_gain 16 = .ok (.isub, 1) := by decide +kernel
theorem dX6_gain_17 : decode cX6_gain 17 = .ok (.ireturn, 1) := by decide +kernel
theorem dX7_init_0 : decode cX7_init 0 = .ok (.aload_n 0, 1) := by decide +kernel
theorem dX7_init_1 : decode cX7_init 1 = .ok (.invokespecial 3, 3) := by decide +kernel
theorem dX7_init_4 : decode cX7_init 4 = .ok (.aload_n 0, 1) := by decide +kernel
theorem dX7_init_5 : decode cX7_init 5 = .ok (.sipush 150, 3) := by decide +kernel
theorem dX7_init_8 : decode cX7_init 8 = .ok (.newarray .int, 2) := by decide +kernel
theorem dX7_init_10 : decode cX7_init 10 = .ok (.putfield 9, 3) := by decide +kernel
theorem dX7_init_13 : decode cX7_init 13 = .ok (.return_, 1) := by decide +kernel
theorem dX7_append_0 : decode cX7_append 0 = .ok (.aload_n 0, 1) := by decide +kernel
theorem dX7_append_1 : decode cX7_append 1 = .ok (.getfield 15, 3) := by decide +kernel
theorem dX7_append_4 : decode cX7_append 4 = .ok (.sipush 150, 3) := by decide +kernel
theorem dX7_append_7 : decode cX7_append 7 = .ok (.if_icmp .ge 23, 3) := by decide +kernel
theorem dX7_append_10 : decode cX7_append 10 = .ok (.aload_n 0, 1) := by decide +kernel
theorem dX7_append_11 : decode cX7_append 11 = .ok (.getfield 9, 3) := by decide +kernel
theorem dX7_append_14 : decode cX7_append 14 = .ok (.aload_n 0, 1) := by decide +kernel
theorem dX7_append_15 : decode cX7_append 15 = .ok (.getfield 15, 3) := by decide +kernel
theorem dX7_append_18 : decode cX7_append 18 = .ok (.iload_n 1, 1) := by decide +kernel
theorem dX7_append_19 : decode cX7_append 19 = .ok (.iastore, 1) := by decide +kernel
theorem dX7_append_20 : decode cX7_append 20 = .ok (.aload_n 0, 1) := by decide +kernel
theorem dX7_append_21 : decode cX7_append 21 = .ok (.dup, 1) := by decide +kernel
theorem dX7_append_22 : decode cX7_append 22 = .ok (.getfield 15, 3) := by decide +kernel
theorem dX7_append_25 : decode cX7_append 25 = .ok (.iconst 1, 1) := by decide +kernel
theorem dX7_append_26 : decode cX7_append 26 = .ok (.iadd, 1) := by decide +kernel
theorem dX7_append_27 : decode cX7_append 27 = .ok (.putfield 15, 3) := by decide +kernel
theorem dX7_append_30 : decode cX7_append 30 = .ok (.return_, 1) := by decide +kernel
theorem dX7_rewind_0 : decode cX7_rewind 0 = .ok (.aload_n 0, 1) := by decide +kernel
theorem dX7_rewind_1 : decode cX7_rewind 1 = .ok (.iconst 0, 1) := by decide +kernel
theorem dX7_rewind_2 : decode cX7_rewind 2 = .ok (.putfield 19, 3) := by decide +kernel
theorem dX7_rewind_5 : decode cX7_rewind 5 = .ok (.aload_n 0, 1) := by decide +kernel
theorem dX7_rewind_6 : decode cX7_rewind 6 = .ok (.iconst 0, 1) := by decide +kernel
theorem dX7_rewind_7 : decode cX7_rewind 7 = .ok (.putfield 22, 3) := by decide +kernel
theorem dX7_rewind_10 : decode cX7_rewind 10 = .ok (.aload_n 0, 1) := by decide +kernel
theorem dX7_rewind_11 : decode cX7_rewind 11 = .ok (.iconst 0, 1) := by decide +kernel
theorem dX7_rewind_12 : decode cX7_rewind 12 = .ok (.putfield 25, 3) := by decide +kernel
theorem dX7_rewind_15 : decode cX7_rewind 15 = .ok (.return_, 1) := by decide +kernel
set_option maxRecDepth 20000 in
theorem ggX7_next_X7_kindAt : GoodIn wsX7_next wsX7_kindAt := goodIn_r _ [9, 3, 10, 11, 12, 8, 13, 14, 20, 21, 22, 23, 24, 25] (by decide +kernel) (by decide +kernel)
set_option maxRecDepth 20000 in
theorem gX7_next_X7_kindAt : GoodIn wsX7_next (wsV RX7 28 RX7 yX7_kindAt wsX7_kindAt) := goodIn_app (goodIn_of _ (by decide +kernel)) ggX7_next_X7_kindAt
set_option maxRecDepth 20000 in
theorem ggX7_next_X7_takeNumber : GoodIn wsX7_next wsX7_takeNumber := goodIn_r _ [18, 1, 2, 4, 19, 10, 11, 12, 8, 13, 3, 14, 20, 21, 22, 23, 24, 25] (by decide +kernel) (by decide +kernel)
set_option maxRecDepth 20000 in
theorem gX7_next_X7_takeNumber : GoodIn wsX7_next (wsV RX7 32 RX7 yX7_takeNumber wsX7_takeNumber) := goodIn_app (goodIn_of _ (by decide +kernel)) ggX7_next_X7_takeNumber
theorem dX7_next_0 : decode cX7_next 0 = .ok (.aload_n 0, 1) := by decide +kernel
theorem dX7_next_1 : decode cX7_next 1 = .ok (.aload_n 0, 1) := by decide +kernel
theorem dX7_next_2 : decode cX7_next 2 = .ok (.getfield 25, 3) := by decide +kernel
theorem dX7_next_5 : decode cX7_next 5 = .ok (.putfield 22, 3) := by decide +kernel
theorem dX7_next_8 : decode cX7_next 8 = .ok (.aload_n 0, 1) := by decide +kernel
theorem dX7_next_9 : decode cX7_next 9 = .ok (.getfield 22, 3) := by decide +kernel
theorem dX7_next_12 : decode cX7_next 12 = .ok (.aload_n 0, 1) := by decide +kernel
theorem dX7_next_13 : decode cX7_next 13 = .ok (.getfield 15, 3) := by decide +kernel
theorem dX7_next_16 : decode cX7_next 16 = .ok (.if_icmp .ge 28, 3) := by decide +kernel
theorem dX7_next_19 : decode cX7_next 19 = .ok (.aload_n 0, 1) := by decide +kernel
theorem dX7_next_20 : decode cX7_next 20 = .ok (.aload_n 0, 1) := by decide +kernel
theorem dX7_next_21 : decode cX7_next 21 = .ok (.getfield 22, 3) := by decide +kernel
theorem dX7_next_24 : decode cX7_next 24 = .ok (.invokevirtual 28, 3) := by decide +kernel
theorem dX7_next_27 : decode cX7_next 27 = .ok (.iconst 5, 1) := by decide +kernel
theorem dX7_next_28 : decode cX7_next 28 = .ok (.if_icmp .ne 16, 3) := by decide +kernel
theorem dX7_next_31 : decode cX7_next 31 = .ok (.aload_n 0, 1) := by decide +kernel
theorem dX7_next_32 : decode cX7_next 32 = .ok (.dup, 1) := by decide +kernel
theorem dX7_next_33 : decode cX7_next 33 = .ok (.getfield 22, 3) := by decide +kernel
theorem dX7_next_36 : decode cX7_next 36 = .ok (.iconst 1, 1) := by decide +kernel
theorem dX7_next_37 : decode cX7_next 37 = .ok (.iadd, 1) := by decide +kernel
theorem dX7_next_38 : decode cX7_next 38 = .ok (.putfield 22, 3) := by decide +kernel
theorem dX7_next_41 : decode cX7_next 41 = .ok (.goto (-33), 3) := by decide +kernel
theorem dX7_next_44 : decode cX7_next 44 = .ok (.aload_n 0, 1) := by decide +kernel
theorem dX7_next_45 : decode cX7_next 45 = .ok (.aload_n 0, 1) := by decide +kernel
theorem dX7_next_46 : decode cX7_next 46 = .ok (.aload_n 0, 1) := by decide +kernel
theorem dX7_next_47 : decode cX7_next 47 = .ok (.getfield 22, 3) := by decide +kernel
theorem dX7_next_50 : decode cX7_next 50 = .ok (.invokevirtual 28, 3) := by decide +kernel
theorem dX7_next_53 : decode cX7_next 53 = .ok (.putfield 19, 3) := by decide +kernel
theorem dX7_next_56 : decode cX7_next 56 = .ok (.aload_n 0, 1) := by decide +kernel
theorem dX7_next_57 : decode cX7_next 57 = .ok (.aload_n 0, 1) := by decide +kernel
theorem dX7_next_58 : decode cX7_next 58 = .ok (.getfield 19, 3) := by decide +kernel
theorem dX7_next_61 : decode cX7_next 61 = .ok (.ifCond .ne 10, 3) := by decide +kernel
theorem dX7_next_64 : decode cX7_next 64 = .ok (.aload_n 0, 1) := by decide +kernel
theorem dX7_next_65 : decode cX7_next 65 = .ok (.getfield 22, 3) := by decide +kernel
theorem dX7_next_68 : decode cX7_next 68 = .ok (.goto 9, 3) := by decide +kernel
theorem dX7_next_71 : decode cX7_next 71 = .ok (.aload_n 0, 1) := by decide +kernel
theorem dX7_next_72 : decode cX7_next 72 = .ok (.getfield 22, 3) := by decide +kernel
theorem dX7_next_75 : decode cX7_next 75 = .ok (.iconst 1, 1) := by decide +kernel
theorem dX7_next_76 : decode cX7_next 76 = .ok (.iadd, 1) := by decide +kernel
theorem dX7_next_77 : decode cX7_next 77 = .ok (.putfield 25, 3) := by decide +kernel
theorem dX7_next_80 : decode cX7_next 80 = .ok (.aload_n 0, 1) := by decide +kernel
theorem dX7_next_81 : decode cX7_next 81 = .ok (.getfield 25, 3) := by decide +kernel
theorem dX7_next_84 : decode cX7_next 84 = .ok (.aload_n 0, 1) := by decide +kernel
theorem dX7_next_85 : decode cX7_next 85 = .ok (.getfield 15, 3) := by decide +kernel
theorem dX7_next_88 : decode cX7_next 88 = .ok (.if_icmp .ge 47, 3) := by decide +kernel
theorem dX7_next_91 : decode cX7_next 91 = .ok (.aload_n 0, 1) := by decide +kernel
theorem dX7_next_92 : decode cX7_next 92 = .ok (.getfield 19, 3) := by decide +kernel
theorem dX7_next_95 : decode cX7_next 95 = .ok (.iconst 1, 1) := by decide +kernel
theorem dX7_next_96 : decode cX7_next 96 = .ok (.if_icmp .eq 11, 3) := by decide +kernel
theorem dX7_next_99 : decode cX7_next 99 = .ok (.aload_n 0, 1) := by decide +kernel
theorem dX7_next_100 : decode cX7_next 100 = .ok (.getfield 19, 3) := by decide +kernel
theorem dX7_next_103 : decode cX7_next 103 = .ok (.iconst 2, 1) := by decide +kernel
theorem dX7_next_104 : decode cX7_next 104 = .ok (.if_icmp .ne 31, 3) := by decide +kernel
theorem dX7_next_107 : decode cX7_next 107 = .ok (.aload_n 0, 1) := by decide +kernel
theorem dX7_next_108 : decode cX7_next 108 = .ok (.aload_n 0, 1) := by decide +kernel
theorem dX7_next_109 : decode cX7_next 109 = .ok (.getfield 25, 3) := by decide +kernel
theorem dX7_next_112 : decode cX7_next 112 = .ok (.invokevirtual 28, 3) := by decide +kernel
theorem dX7_next_115 : decode cX7_next 115 = .ok (.aload_n 0, 1) := by decide +kernel
theorem dX7_next_116 : decode cX7_next 116 = .ok (.getfield 19, 3) := by decide +kernel
theorem dX7_next_119 : decode cX7_next 119 = .ok (.if_icmp .ne 16, 3) := by decide +kernel
theorem dX7_next_122 : decode cX7_next 122 = .ok (.aload_n 0, 1) := by decide +kernel
theorem dX7_next_123 : decode cX7_next 123 = .ok (.dup, 1) := by decide +kernel
theorem dX7_next_124 : decode cX7_next 124 = .ok (.getfield 25, 3) := by decide +kernel
theorem dX7_next_127 : decode cX7_next 127 = .ok (.iconst 1, 1) := by decide +kernel
theorem dX7_next_128 : decode cX7_next 128 = .ok (.iadd, 1) := by decide +kernel
theorem dX7_next_129 : decode cX7_next 129 = .ok (.putfield 25, 3) := by decide +kernel
theorem dX7_next_132 : decode cX7_next 132 = .ok (.goto (-52), 3) := by decide +kernel
theorem dX7_next_135 : decode cX7_next 135 = .ok (.aload_n 0, 1) := by decide +kernel
theorem dX7_next_136 : decode cX7_next 136 = .ok (.getfield 19, 3) := by decide +kernel
theorem dX7_next_139 : decode cX7_next 139 = .ok (.iconst 2, 1) := by decide +kernel
theorem dX7_next_140 : decode cX7_next 140 = .ok (.if_icmp .ne 7, 3) := by decide +kernel
theorem dX7_next_143 : decode cX7_next 143 = .ok (.aload_n 0, 1) := by decide +kernel
theorem dX7_next_144 : decode cX7_next 144 = .ok (.invokevirtual 32, 3) := by decide +kernel
theorem dX7_next_147 : decode cX7_next 147 = .ok (.return_, 1) := by decide +kernel
set_option maxRecDepth 20000 in
theorem ggX7_takeNumber_X7_byteAt : GoodIn wsX7_takeNumber wsX7_byteAt := goodIn_r _ [9, 10, 11, 12, 13, 14, 15, 16, 17] (by decide +kernel) (by decide +kernel)
set_option maxRecDepth 20000 in
theorem gX7_takeNumber_X7_byteAt : GoodIn wsX7_takeNumber (wsV RX7 38 RX7 yX7_byteAt wsX7_byteAt) := goodIn_app (goodIn_of _ (by decide +kernel)) ggX7_takeNumber_X7_byteAt
theorem dX7_takeNumber_0 : decode cX7_takeNumber 0 = .ok (.aload_n 0, 1) := by decide +kernel
theorem dX7_takeNumber_1 : decode cX7_takeNumber 1 = .ok (.getfield 25, 3) := by decide +kernel
theorem dX7_takeNumber_4 : decode cX7_takeNumber 4 = .ok (.aload_n 0, 1) := by decide +kernel
theorem dX7_takeNumber_5 : decode cX7_takeNumber 5 = .ok (.getfield 22, 3) := by decide +kernel
theorem dX7_takeNumber_8 : decode cX7_takeNumber 8 = .ok (.isub, 1) := by decide +kernel
theorem dX7_takeNumber_9 : decode cX7_takeNumber 9 = .ok (.iconst 2, 1) := by decide +kernel
theorem dX7_takeNumber_10 : decode cX7_takeNumber 10 = .ok (.if_icmp .le 9, 3) := by decide +kernel
theorem dX7_takeNumber_13 : decode cX7_takeNumber 13 = .ok (.aload_n 0, 1) := by decide +kernel
theorem dX7_takeNumber_14 : decode cX7_takeNumber 14 = .ok (.iconst 4, 1) := by decide +kernel
theorem dX7_takeNumber_15 : decode cX7_takeNumber 15 = .ok (.putfield 19, 3) := by decide +kernel
theorem dX7_takeNumber_18 : decode cX7_takeNumber 18 = .ok (.return_, 1) := by decide +kernel
theorem dX7_takeNumber_19 : decode cX7_takeNumber 19 = .ok (.aload_n 0, 1) := by decide +kernel
theorem dX7_takeNumber_20 : decode cX7_takeNumber 20 = .ok (.iconst 0, 1) := by decide +kernel
theorem dX7_takeNumber_21 : decode cX7_takeNumber 21 = .ok (.putfield 35, 3) := by decide +kernel
theorem dX7_takeNumber_24 : decode cX7_takeNumber 24 = .ok (.aload_n 0, 1) := by decide +kernel
theorem dX7_takeNumber_25 : decode cX7_takeNumber 25 = .ok (.getfield 22, 3) := by decide +kernel
theorem dX7_takeNumber_28 : decode cX7_takeNumber 28 = .ok (.istore_n 1, 1) := by decide +kernel
theorem dX7_takeNumber_29 : decode cX7_takeNumber 29 = .ok (.iload_n 1, 1) := by decide +kernel
theorem dX7_takeNumber_30 : decode cX7_takeNumber 30 = .ok (.aload_n 0, 1) := by decide +kernel
theorem dX7_takeNumber_31 : decode cX7_takeNumber 31 = .ok (.getfield 25, 3) := by decide +kernel
theorem dX7_takeNumber_34 : decode cX7_takeNumber 34 = .ok (.if_icmp .ge 29, 3) := by decide +kernel
theorem dX7_takeNumber_37 : decode cX7_takeNumber 37 = .ok (.aload_n 0, 1) := by decide +kernel
theorem dX7_takeNumber_38 : decode cX7_takeNumber 38 = .ok (.bipush 10, 2) := by decide +kernel
theorem dX7_takeNumber_40 : decode cX7_takeNumber 40 = .ok (.aload_n 0, 1) := by decide +kernel
theorem dX7_takeNumber_41 : decode cX7_takeNumber 41 = .ok (.getfield 35, 3) := by decide +kernel
theorem dX7_takeNumber_44 : decode cX7_takeNumber 44 = .ok (.imul, 1) := by decide +kernel
theorem dX7_takeNumber_45 : decode cX7_takeNumber 45 = .ok (.aload_n 0, 1) := by decide +kernel
theorem dX7_takeNumber_46 : decode cX7_takeNumber 46 = .ok (.iload_n 1, 1) := by decide +kernel
theorem dX7_takeNumber_47 : decode cX7_takeNumber 47 = .ok (.invokevirtual 38, 3) := by decide +kernel
theorem dX7_takeNumber_50 : decode cX7_takeNumber 50 = .ok (.iadd, 1) := by decide +kernel
theorem dX7_takeNumber_51 : decode cX7_takeNumber 51 = .ok (.bipush 48, 2) := by decide +kernel
theorem dX7_takeNumber_53 : decode cX7_takeNumber 53 = .ok (.isub, 1) := by decide +kernel
theorem dX7_takeNumber_54 : decode cX7_takeNumber 54 = .ok (.putfield 35, 3) := by decide +kernel
theorem dX7_takeNumber_57 : decode cX7_takeNumber 57 = .ok (.iinc 1 1, 3) := by decide +kernel
theorem dX7_takeNumber_60 : decode cX7_takeNumber 60 = .ok (.goto (-31), 3) := by decide +kernel
theorem dX7_takeNumber_63 : decode cX7_takeNumber 63 = .ok (.return_, 1) := by decide +kernel
set_option maxRecDepth 20000 in
theorem ggX7_kindAt_X7_byteAt : GoodIn wsX7_kindAt wsX7_byteAt := goodIn_r _ [6, 1, 7, 8, 9, 10, 11, 12, 13] (by decide +kernel) (by decide +kernel)
set_option maxRecDepth 20000 in
theorem gX7_kindAt_X7_byteAt : GoodIn wsX7_kindAt (wsV RX7 38 RX7 yX7_byteAt wsX7_byteAt) := goodIn_app (goodIn_of _ (by decide +kernel)) ggX7_kindAt_X7_byteAt
theorem dX7_kindAt_0 : decode cX7_kindAt 0 = .ok (.iload_n 1, 1) := by decide +kernel
theorem dX7_kindAt_1 : decode cX7_kindAt 1 = .ok (.aload_n 0, 1) := by decide +kernel
theorem dX7_kindAt_2 : decode cX7_kindAt 2 = .ok (.getfield 15, 3) := by decide +kernel
theorem dX7_kindAt_5 : decode cX7_kindAt 5 = .ok (.if_icmp .lt 5, 3) := by decide +kernel
theorem dX7_kindAt_8 : decode cX7_kindAt 8 = .ok (.iconst 0, 1) := by decide +kernel
theorem dX7_kindAt_9 : decode cX7_kindAt 9 = .ok (.ireturn, 1) := by decide +kernel
theorem dX7_kindAt_10 : decode cX7_kindAt 10 = .ok (.aload_n 0, 1) := by decide +kernel
theorem dX7_kindAt_11 : decode cX7_kindAt 11 = .ok (.iload_n 1, 1) := by decide +kernel
theorem dX7_kindAt_12 : decode cX7_kindAt 12 = .ok (.invokevirtual 38, 3) := by decide +kernel
theorem dX7_kindAt_15 : decode cX7_kindAt 15 = .ok (.istore_n 2, 1) := by decide +kernel
theorem dX7_kindAt_16 : decode cX7_kindAt 16 = .ok (.iload_n 2, 1) := by decide +kernel
theorem dX7_kindAt_17 : decode cX7_kindAt 17 = .ok (.bipush 97, 2) := by decide +kernel
theorem dX7_kindAt_19 : decode cX7_kindAt 19 = .ok (.if_icmp .lt 11, 3) := by decide +kernel
theorem dX7_kindAt_22 : decode cX7_kindAt 22 = .ok (.iload_n 2, 1) := by decide +kernel
theorem dX7_kindAt_23 : decode cX7_kindAt 23 = .ok (.bipush 122, 2) := by decide +kernel
theorem dX7_kindAt_25 : decode cX7_kindAt 25 = .ok (.if_icmp .gt 5, 3) := by decide +kernel
theorem dX7_kindAt_28 : decode cX7_kindAt 28 = .ok (.iconst 1, 1) := by decide +kernel
theorem dX7_kindAt_29 : decode cX7_kindAt 29 = .ok (.ireturn, 1) := by decide +kernel
theorem dX7_kindAt_30 : decode cX7_kindAt 30 = .ok (.iload_n 2, 1) := by decide +kernel
theorem dX7_kindAt_31 : decode cX7_kindAt 31 = .ok (.bipush 48, 2) := by decide +kernel
theorem dX7_kindAt_33 : decode cX7_kindAt 33 = .ok (.if_icmp .lt 11, 3) := by decide +kernel
theorem dX7_kindAt_36 : decode cX7_kindAt 36 = .ok (.iload_n 2, 1) := by decide +kernel
theorem dX7_kindAt_37 : decode cX7_kindAt 37 = .ok (.bipush 57, 2) := by decide +kernel
theorem dX7_kindAt_39 : decode cX7_kindAt 39 = .ok (.if_icmp .gt 5, 3) := by decide +kernel
theorem dX7_kindAt_42 : decode cX7_kindAt 42 = .ok (.iconst 2, 1) := by decide +kernel
theorem dX7_kindAt_43 : decode cX7_kindAt 43 = .ok (.ireturn, 1) := by decide +kernel
theorem dX7_kindAt_44 : decode cX7_kindAt 44 = .ok (.iload_n 2, 1) := by decide +kernel
theorem dX7_kindAt_45 : decode cX7_kindAt 45 = .ok (.bipush 59, 2) := by decide +kernel
theorem dX7_kindAt_47 : decode cX7_kindAt 47 = .ok (.if_icmp .ne 7, 3) := by decide +kernel
theorem dX7_kindAt_50 : decode cX7_kindAt 50 = .ok (.iconst 3, 1) := by decide +kernel
theorem dX7_kindAt_51 : decode cX7_kindAt 51 = .ok (.goto 14, 3) := by decide +kernel
theorem dX7_kindAt_54 : decode cX7_kindAt 54 = .ok (.iload_n 2, 1) := by decide +kernel
theorem dX7_kindAt_55 : decode cX7_kindAt 55 = .ok (.bipush 32, 2) := by decide +kernel
theorem dX7_kindAt_57 : decode cX7_kindAt 57 = .ok (.if_icmp .ne 7, 3) := by decide +kernel
theorem dX7_kindAt_60 : decode cX7_kindAt 60 = .ok (.iconst 5, 1) := by decide +kernel
theorem dX7_kindAt_61 : decode cX7_kindAt 61 = .ok (.goto 4, 3) := by decide +kernel
theorem dX7_kindAt_64 : decode cX7_kindAt 64 = .ok (.iconst 4, 1) := by decide +kernel
theorem dX7_kindAt_65 : decode cX7_kindAt 65 = .ok (.ireturn, 1) := by decide +kernel
theorem dX7_byteAt_0 : decode cX7_byteAt 0 = .ok (.iconst 0, 1) := by decide +kernel
theorem dX7_byteAt_1 : decode cX7_byteAt 1 = .ok (.iload_n 1, 1) := by decide +kernel
theorem dX7_byteAt_2 : decode cX7_byteAt 2 = .ok (.if_icmp .gt 27, 3) := by decide +kernel
theorem dX7_byteAt_5 : decode cX7_byteAt 5 = .ok (.iload_n 1, 1) := by decide +kernel
theorem dX7_byteAt_6 : decode cX7_byteAt 6 = .ok (.aload_n 0, 1) := by decide +kernel
theorem dX7_byteAt_7 : decode cX7_byteAt 7 = .ok (.getfield 15, 3) := by decide +kernel
theorem dX7_byteAt_10 : decode cX7_byteAt 10 = .ok (.if_icmp .ge 19, 3) := by decide +kernel
theorem dX7_byteAt_13 : decode cX7_byteAt 13 = .ok (.iload_n 1, 1) := by decide +kernel
theorem dX7_byteAt_14 : decode cX7_byteAt 14 = .ok (.sipush 150, 3) := by decide +kernel
theorem dX7_byteAt_17 : decode cX7_byteAt 17 = .ok (.if_icmp .ge 12, 3) := by decide +kernel
theorem dX7_byteAt_20 : decode cX7_byteAt 20 = .ok (.aload_n 0, 1) := by decide +kernel
theorem dX7_byteAt_21 : decode cX7_byteAt 21 = .ok (.getfield 9, 3) := by decide +kernel
theorem dX7_byteAt_24 : decode cX7_byteAt 24 = .ok (.iload_n 1, 1) := by decide +kernel
theorem dX7_byteAt_25 : decode cX7_byteAt 25 = .ok (.iaload, 1) := by decide +kernel
theorem dX7_byteAt_26 : decode cX7_byteAt 26 = .ok (.goto 4, 3) := by decide +kernel
theorem dX7_byteAt_29 : decode cX7_byteAt 29 = .ok (.iconst (-1), 1) := by decide +kernel
theorem dX7_byteAt_30 : decode cX7_byteAt 30 = .ok (.ireturn, 1) := by decide +kernel
set_option maxRecDepth 20000 in
theorem ggX7_tokenIs_J0_length_8abf5 : GoodIn wsX7_tokenIs wsJ0_length_8abf5 := goodIn_r _ [8, 9, 10, 11, 12, 7, 13, 14, 15] (by decide +kernel) (by decide +kernel)
set_option maxRecDepth 20000 in
theorem gX7_tokenIs_J0_length_8abf5 : GoodIn wsX7_tokenIs (wsV RX7 41 RJ0 yJ0_length_8abf5 wsJ0_length_8abf5) := goodIn_app (goodIn_of _ (by decide +kernel)) ggX7_tokenIs_J0_length_8abf5
set_option maxRecDepth 20000 in
theorem ggX7_tokenIs_X7_byteAt : GoodIn wsX7_tokenIs wsX7_byteAt := goodIn_r _ [20, 21, 22, 60, 61, 62, 63, 64, 65] (by decide +kernel) (by decide +kernel)
set_option maxRecDepth 20000 in
theorem gX7_tokenIs_X7_byteAt : GoodIn wsX7_tokenIs (wsV RX7 38 RX7 yX7_byteAt wsX7_byteAt) := goodIn_app (goodIn_of _ (by decide +kernel)) ggX7_tokenIs_X7_byteAt
set_option maxRecDepth 20000 in
theorem ggX7_tokenIs_J0_charAt_5068e : GoodIn wsX7_tokenIs wsJ0_charAt_5068e := goodIn_r _ [26, 9, 27, 28, 29, 7, 30, 14, 15, 31, 32, 33, 34, 35, 36, 37, 38, 39, 40, 41, 42, 43, 44, 45, 46, 47, 48, 49, 50, 51, 52, 53, 54, 55, 56, 57, 58, 59] (by decide +kernel) (by decide +kernel)
set_option maxRecDepth 20000 in
theorem gX7_tokenIs_J0_charAt_5068e : GoodIn wsX7_tokenIs (wsV RX7 46 RJ0 yJ0_charAt_5068e wsJ0_charAt_5068e) := goodIn_app (goodIn_of _ (by decide +kernel)) ggX7_tokenIs_J0_charAt_5068e
theorem dX7_tokenIs_0 : decode cX7_tokenIs 0 = .ok (.aload_n 0, 1) := by decide +kernel
theorem dX7_tokenIs_1 : decode cX7_tokenIs 1 = .ok (.getfield 19, 3) := by decide +kernel
theorem dX7_tokenIs_4 : decode cX7_tokenIs 4 = .ok (.iconst 1, 1) := by decide +kernel
theorem dX7_tokenIs_5 : decode cX7_tokenIs 5 = .ok (.if_icmp .ne 19, 3) := by decide +kernel
theorem dX7_tokenIs_8 : decode cX7_tokenIs 8 = .ok (.aload_n 0, 1) := by decide +kernel
theorem dX7_tokenIs_9 : decode cX7_tokenIs 9 = .ok (.getfield 25, 3) := by decide +kernel
theorem dX7_tokenIs_12 : decode cX7_tokenIs 12 = .ok (.aload_n 0, 1) := by decide +kernel
theorem dX7_tokenIs_13 : decode cX7_tokenIs 13 = .ok (.getfield 22, 3) := by decide +kernel
theorem dX7_tokenIs_16 : decode cX7_tokenIs 16 = .ok (.isub, 1) := by decide +kernel
theorem dX7_tokenIs_17 : decode cX7_tokenIs 17 = .ok (.aload_n 1, 1) := by decide +kernel
theorem dX7_tokenIs_18 : decode cX7_tokenIs 18 = .ok (.invokevirtual 41, 3) := by decide +kernel
theorem dX7_tokenIs_21 : decode cX7_tokenIs 21 = .ok (.if_icmp .eq 5, 3) := by decide +kernel
theorem dX7_tokenIs_24 : decode cX7_tokenIs 24 = .ok (.iconst 0, 1) := by decide +kernel
theorem dX7_tokenIs_25 : decode cX7_tokenIs 25 = .ok (.ireturn, 1) := by decide +kernel
theorem dX7_tokenIs_26 : decode cX7_tokenIs 26 = .ok (.iconst 0, 1) := by decide +kernel
theorem dX7_tokenIs_27 : decode cX7_tokenIs 27 = .ok (.istore_n 2, 1) := by decide +kernel
theorem dX7_tokenIs_28 : decode cX7_tokenIs 28 = .ok (.iload_n 2, 1) := by decide +kernel
theorem dX7_tokenIs_29 : decode cX7_tokenIs 29 = .ok (.aload_n 1, 1) := by decide +kernel
theorem dX7_tokenIs_30 : decode cX7_tokenIs 30 = .ok (.invokevirtual 41, 3) := by decide +kernel
theorem dX7_tokenIs_33 : decode cX7_tokenIs 33 = .ok (.if_icmp .ge 29, 3) := by decide +kernel
theorem dX7_tokenIs_36 : decode cX7_tokenIs 36 = .ok (.aload_n 0, 1) := by decide +kernel
theorem dX7_tokenIs_37 : decode cX7_tokenIs 37 = .ok (.aload_n 0, 1) := by decide +kernel
theorem dX7_tokenIs_38 : decode cX7_tokenIs 38 = .ok (.getfield 22, 3) := by decide +kernel
theorem dX7_tokenIs_41 : decode cX7_tokenIs 41 = .ok (.iload_n 2, 1) := by decide +kernel
theorem dX7_tokenIs_42 : decode cX7_tokenIs 42 = .ok (.iadd, 1) := by decide +kernel
theorem dX7_tokenIs_43 : decode cX7_tokenIs 43 = .ok (.invokevirtual 38, 3) := by decide +kernel
theorem dX7_tokenIs_46 : decode cX7_tokenIs 46 = .ok (.aload_n 1, 1) := by decide +kernel
theorem dX7_tokenIs_47 : decode cX7_tokenIs 47 = .ok (.iload_n 2, 1) := by decide +kernel
theorem dX7_tokenIs_48 : decode cX7_tokenIs 48 = .ok (.invokevirtual 46, 3) := by decide +kernel
theorem dX7_tokenIs_51 : decode cX7_tokenIs 51 = .ok (.if_icmp .eq 5, 3) := by decide +kernel
theorem dX7_tokenIs_54 : decode cX7_tokenIs 54 = .ok (.iconst 0, 1) := by decide +kernel
theorem dX7_tokenIs_55 : decode cX7_tokenIs 55 = .ok (.ireturn, 1) := by decide +kernel
theorem dX7_tokenIs_56 : decode cX7_tokenIs 56 = .ok (.iinc 2 1, 3) := by decide +kernel
theorem dX7_tokenIs_59 : decode cX7_tokenIs 59 = .ok (.goto (-31), 3) := by decide +kernel
theorem dX7_tokenIs_62 : decode cX7_tokenIs 62 = .ok (.iconst 1, 1) := by decide +kernel
theorem dX7_tokenIs_63 : decode cX7_tokenIs 63 = .ok (.ireturn, 1) := by decide +kernel
set_option maxRecDepth 20000 in
theorem ggX8_init_X1_init : GoodIn wsX8_init wsX1_init := goodIn_r _ [24, 25, 2, 3, 26, 12, 13, 27, 19, 28, 29, 30, 31, 32, 33, 34, 35, 36, 37, 38, 39, 40, 41, 72, 73, 74, 75, 76, 77, 78, 79, 80, 81, 55, 56, 57, 58, 59, 60, 61, 62, 63] (by decide +kernel) (by decide +kernel)
set_option maxRecDepth 20000 in
theorem gX8_init_X1_init_n9 : GoodIn wsX8_init (wsX1_init) := ggX8_init_X1_init
set_option maxRecDepth 20000 in
theorem ggX8_init_X3_init : GoodIn wsX8_init wsX3_init := goodIn_r _ [34, 35, 2, 3, 19, 36, 37, 38, 39, 40, 41, 72, 73, 74, 75, 76, 77, 78, 79, 80, 81] (by decide +kernel) (by decide +kernel)
set_option maxRecDepth 20000 in
theorem gX8_init_X3_init_n26 : GoodIn wsX8_init (wsX3_init) := ggX8_init_X3_init
set_option maxRecDepth 20000 in
theorem ggX8_init_X2_init : GoodIn wsX8_init wsX2_init := goodIn_r _ [43, 44, 2, 3, 45, 46, 47, 48, 49, 12, 13, 50, 51, 52, 53, 19, 54, 33, 34, 35, 36, 37, 38, 39, 40, 41, 84, 85, 86, 87, 88, 89, 82, 83, 72, 73, 74, 75, 76, 77, 78, 79, 80, 81] (by decide +kernel) (by decide +kernel)
set_option maxRecDepth 20000 in
theorem gX8_init_X2_init_n33 : GoodIn wsX8_init (wsX2_init) := ggX8_init_X2_init
theorem dX8_init_0 : decode cX8_init 0 = .ok (.aload_n 0, 1) := by decide +kernel
theorem dX8_init_1 : decode cX8_init 1 = .ok (.invokespecial 1, 3) := by decide +kernel
theorem dX8_init_4 : decode cX8_init 4 = .ok (.aload_n 0, 1) := by decide +kernel
theorem dX8_init_5 : decode cX8_init 5 = .ok (.new 7, 3) := by decide +kernel
theorem dX8_init_8 : decode cX8_init 8 = .ok (.dup, 1) := by decide +kernel
theorem dX8_init_9 : decode cX8_init 9 = .ok (.invokespecial 9, 3) := by decide +kernel
theorem dX8_init_12 : decode cX8_init 12 = .ok (.putfield 10, 3) := by decide +kernel
theorem dX8_init_15 : decode cX8_init 15 = .ok (.aload_n 0, 1) := by decide +kernel
theorem dX8_init_16 : decode cX8_init 16 = .ok (.iconst 2, 1) := by decide +kernel
theorem dX8_init_17 : decode cX8_init 17 = .ok (.anewarray 7, 3) := by decide +kernel
theorem dX8_init_20 : decode cX8_init 20 = .ok (.putfield 16, 3) := by decide +kernel
theorem dX8_init_23 : decode cX8_init 23 = .ok (.iconst 0, 1) := by decide +kernel
theorem dX8_init_24 : decode cX8_init 24 = .ok (.istore_n 1, 1) := by decide +kernel
theorem dX8_init_25 : decode cX8_init 25 = .ok (.iload_n 1, 1) := by decide +kernel
theorem dX8_init_26 : decode cX8_init 26 = .ok (.iconst 2, 1) := by decide +kernel
theorem dX8_init_27 : decode cX8_init 27 = .ok (.if_icmp .ge 22, 3) := by decide +kernel
theorem dX8_init_30 : decode cX8_init 30 = .ok (.aload_n 0, 1) := by decide +kernel
theorem dX8_init_31 : decode cX8_init 31 = .ok (.getfield 16, 3) := by decide +kernel
theorem dX8_init_34 : decode cX8_init 34 = .ok (.iload_n 1, 1) := by decide +kernel
theorem dX8_init_35 : decode cX8_init 35 = .ok (.new 7, 3) := by decide +kernel
theorem dX8_init_38 : decode cX8_init 38 = .ok (.dup, 1) := by decide +kernel
theorem dX8_init_39 : decode cX8_init 39 = .ok (.invokespecial 9, 3) := by decide +kernel
theorem dX8_init_42 : decode cX8_init 42 = .ok (.aastore, 1) := by decide +kernel
theorem dX8_init_43 : decode cX8_init 43 = .ok (.iinc 1 1, 3) := by decide +kernel
theorem dX8_init_46 : decode cX8_init 46 = .ok (.goto (-21), 3) := by decide +kernel
theorem dX8_init_49 : decode cX8_init 49 = .ok (.aload_n 0, 1) := by decide +kernel
theorem dX8_init_50 : decode cX8_init 50 = .ok (.iconst 2, 1) := by decide +kernel
theorem dX8_init_51 : decode cX8_init 51 = .ok (.newarray .boolean, 2) := by decide +kernel
theorem dX8_init_53 : decode cX8_init 53 = .ok (.putfield 20, 3) := by decide +kernel
theorem dX8_init_56 : decode cX8_init 56 = .ok (.aload_n 0, 1) := by decide +kernel
theorem dX8_init_57 : decode cX8_init 57 = .ok (.new 24, 3) := by decide +kernel
theorem dX8_init_60 : decode cX8_init 60 = .ok (.dup, 1) := by decide +kernel
theorem dX8_init_61 : decode cX8_init 61 = .ok (.invokespecial 26, 3) := by decide +kernel
theorem dX8_init_64 : decode cX8_init 64 = .ok (.putfield 27, 3) := by decide +kernel
theorem dX8_init_67 : decode cX8_init 67 = .ok (.aload_n 0, 1) := by decide +kernel
theorem dX8_init_68 : decode cX8_init 68 = .ok (.new 31, 3) := by decide +kernel
theorem dX8_init_71 : decode cX8_init 71 = .ok (.dup, 1) := by decide +kernel
theorem dX8_init_72 : decode cX8_init 72 = .ok (.invokespecial 33, 3) := by decide +kernel
theorem dX8_init_75 : decode cX8_init 75 = .ok (.putfield 34, 3) := by decide +kernel
theorem dX8_init_78 : decode cX8_init 78 = .ok (.aload_n 0, 1) := by decide +kernel
theorem dX8_init_79 : decode cX8_init 79 = .ok (.iconst 3, 1) := by decide +kernel
theorem dX8_init_80 : decode cX8_init 80 = .ok (.newarray .int, 2) := by decide +kernel
theorem dX8_init_82 : decode cX8_init 82 = .ok (.putfield 38, 3) := by decide +kernel
theorem dX8_init_85 : decode cX8_init 85 = .ok (.aload_n 0, 1) := by decide +kernel
theorem dX8_init_86 : decode cX8_init 86 = .ok (.lconst 0, 1) := by decide +kernel
theorem dX8_init_87 : decode cX8_init 87 = .ok (.putfield 42, 3) := by decide +kernel
theorem dX8_init_90 : decode cX8_init 90 = .ok (.aload_n 0, 1) := by decide +kernel
theorem dX8_init_91 : decode cX8_init 91 = .ok (.lconst 1, 1) := by decide +kernel
theorem dX8_init_92 : decode cX8_init 92 = .ok (.putfield 46, 3) := by decide +kernel
theorem dX8_init_95 : decode cX8_init 95 = .ok (.return_, 1) := by decide +kernel
set_option maxRecDepth 20000 in
theorem ggX8_suit_X8_isKind : GoodIn wsX8_suit wsX8_isKind := goodIn_r _ [7, 8, 9, 6, 10] (by decide +kernel) (by decide +kernel)
set_option maxRecDepth 20000 in
theorem gX8_suit_X8_isKind : GoodIn wsX8_suit (va_wsS RX8 49 yX8_isKind wsX8_isKind) := goodIn_app (goodIn_of _ (by decide +kernel)) ggX8_suit_X8_isKind
set_option maxRecDepth 20000 in
theorem ggX8_suit_X8_refuseAsBad : GoodIn wsX8_suit wsX8_refuseAsBad := goodIn_r _ [14, 15, 38, 39, 40, 41, 42, 43, 44, 45] (by decide +kernel) (by decide +kernel)
set_option maxRecDepth 20000 in
theorem gX8_suit_X8_refuseAsBad : GoodIn wsX8_suit (wsV RX8 53 RX8 yX8_refuseAsBad wsX8_refuseAsBad) := goodIn_app (goodIn_of _ (by decide +kernel)) ggX8_suit_X8_refuseAsBad
set_option maxRecDepth 20000 in
theorem ggX8_suit_X1_begin : GoodIn wsX8_suit wsX1_begin := goodIn_r _ [20, 21, 22, 23, 24, 25, 26, 27, 28, 29, 30, 31, 32, 33, 34, 35, 36, 37, 46, 47, 48, 49, 50, 51, 52, 53, 54, 55, 56, 57, 58, 59, 60, 61, 62, 63, 64] (by decide +kernel) (by decide +kernel)
set_option maxRecDepth 20000 in
theorem gX8_suit_X1_begin : GoodIn wsX8_suit (wsV RX8 64 RX1 yX1_begin wsX1_begin) := goodIn_app (goodIn_of _ (by decide +kernel)) ggX8_suit_X1_begin
theorem dX8_suit_0 : decode cX8_suit 0 = .ok (.iload_n 1, 1) := by decide +kernel
theorem dX8_suit_1 : decode cX8_suit 1 = .ok (.invokestatic 49, 3) := by decide +kernel
theorem dX8_suit_4 : decode cX8_suit 4 = .ok (.ifCond .eq 10, 3) := by decide +kernel
theorem dX8_suit_7 : decode cX8_suit 7 = .ok (.iload_n 2, 1) := by decide +kernel
theorem dX8_suit_8 : decode cX8_suit 8 = .ok (.invokestatic 49, 3) := by decide +kernel
theorem dX8_suit_11 : decode cX8_suit 11 = .ok (.ifCond .ne 10, 3) := by decide +kernel
theorem dX8_suit_14 : decode cX8_suit 14 = .ok (.aload_n 0, 1) := by decide +kernel
theorem dX8_suit_15 : decode cX8_suit 15 = .ok (.bipush (-2), 2) := by decide +kernel
theorem dX8_suit_17 : decode cX8_suit 17 = .ok (.invokevirtual 53, 3) := by decide +kernel
theorem dX8_suit_20 : decode cX8_suit 20 = .ok (.ireturn, 1) := by decide +kernel
theorem dX8_suit_21 : decode cX8_suit 21 = .ok (.aload_n 0, 1) := by decide +kernel
theorem dX8_suit_22 : decode cX8_suit 22 = .ok (.getfield 10, 3) := by decide +kernel
theorem dX8_suit_25 : decode cX8_suit 25 = .ok (.getfield 57, 3) := by decide +kernel
theorem dX8_suit_28 : decode cX8_suit 28 = .ok (.getfield 60, 3) := by decide +kernel
theorem dX8_suit_31 : decode cX8_suit 31 = .ok (.istore_n 3, 1) := by decide +kernel
theorem dX8_suit_32 : decode cX8_suit 32 = .ok (.aload_n 0, 1) := by decide +kernel
theorem dX8_suit_33 : decode cX8_suit 33 = .ok (.getfield 10, 3) := by decide +kernel
theorem dX8_suit_36 : decode cX8_suit 36 = .ok (.iload_n 1, 1) := by decide +kernel
theorem dX8_suit_37 : decode cX8_suit 37 = .ok (.iload_n 2, 1) := by decide +kernel
theorem dX8_suit_38 : decode cX8_suit 38 = .ok (.invokevirtual 64, 3) := by decide +kernel
theorem dX8_suit_41 : decode cX8_suit 41 = .ok (.iload_n 3, 1) := by decide +kernel
theorem dX8_suit_42 : decode cX8_suit 42 = .ok (.ireturn, 1) := by decide +kernel
set_option maxRecDepth 20000 in
theorem ggX8_bows_X8_isCounsel : GoodIn wsX8_bows wsX8_isCounsel := goodIn_r _ [7, 8, 9, 6, 10] (by decide +kernel) (by decide +kernel)
set_option maxRecDepth 20000 in
theorem gX8_bows_X8_isCounsel : GoodIn wsX8_bows (va_wsS RX8 68 yX8_isCounsel wsX8_isCounsel) := goodIn_app (goodIn_of _ (by decide +kernel)) ggX8_bows_X8_isCounsel
set_option maxRecDepth 20000 in
theorem ggX8_bows_X8_within : GoodIn wsX8_bows wsX8_within := goodIn_r _ [10] (by decide +kernel) (by decide +kernel)
set_option maxRecDepth 20000 in
theorem gX8_bows_X8_within : GoodIn wsX8_bows (va_wsS RX8 71 yX8_within wsX8_within) := goodIn_app (goodIn_of _ (by decide +kernel)) ggX8_bows_X8_within
set_option maxRecDepth 20000 in
theorem ggX8_bows_X8_refuseAsBad : GoodIn wsX8_bows wsX8_refuseAsBad := goodIn_r _ [14, 15, 22, 23, 24, 25, 26, 27, 28, 29] (by decide +kernel) (by decide +kernel)
set_option maxRecDepth 20000 in
theorem gX8_bows_X8_refuseAsBad : GoodIn wsX8_bows (wsV RX8 53 RX8 yX8_refuseAsBad wsX8_refuseAsBad) := goodIn_app (goodIn_of _ (by decide +kernel)) ggX8_bows_X8_refuseAsBad
set_option maxRecDepth 20000 in
theorem ggX8_bows_X1_dropPast : GoodIn wsX8_bows wsX1_dropPast := goodIn_r _ [20, 21, 30, 31, 32, 33, 34, 35, 36, 37, 38] (by decide +kernel) (by decide +kernel)
set_option maxRecDepth 20000 in
theorem gX8_bows_X1_dropPast : GoodIn wsX8_bows (wsV RX8 78 RX1 yX1_dropPast wsX1_dropPast) := goodIn_app (goodIn_of _ (by decide +kernel)) ggX8_bows_X1_dropPast
theorem dX8_bows_0 : decode cX8_bows 0 = .ok (.iload_n 1, 1) := by decide +kernel
theorem dX8_bows_1 : decode cX8_bows 1 = .ok (.invokestatic 68, 3) := by decide +kernel
theorem dX8_bows_4 : decode cX8_bows 4 = .ok (.ifCond .eq 12, 3) := by decide +kernel
theorem dX8_bows_7 : decode cX8_bows 7 = .ok (.iconst 0, 1) := by decide +kernel
theorem dX8_bows_8 : decode cX8_bows 8 = .ok (.iload_n 2, 1) := by decide +kernel
theorem dX8_bows_9 : decode cX8_bows 9 = .ok (.iconst 3, 1) := by decide +kernel
theorem dX8_bows_10 : decode cX8_bows 10 = .ok (.invokestatic 71, 3) := by decide +kernel
theorem dX8_bows_13 : decode cX8_bows 13 = .ok (.ifCond .ne 10, 3) := by decide +kernel
theorem dX8_bows_16 : decode cX8_bows 16 = .ok (.aload_n 0, 1) := by decide +kernel
theorem dX8_bows_17 : decode cX8_bows 17 = .ok (.bipush (-2), 2) := by decide +kernel
theorem dX8_bows_19 : decode cX8_bows 19 = .ok (.invokevirtual 53, 3) := by decide +kernel
theorem dX8_bows_22 : decode cX8_bows 22 = .ok (.ireturn, 1) := by decide +kernel
theorem dX8_bows_23 : decode cX8_bows 23 = .ok (.aload_n 0, 1) := by decide +kernel
theorem dX8_bows_24 : decode cX8_bows 24 = .ok (.getfield 10, 3) := by decide +kernel
theorem dX8_bows_27 : decode cX8_bows 27 = .ok (.getfield 57, 3) := by decide +kernel
theorem dX8_bows_30 : decode cX8_bows 30 = .ok (.getfield 75, 3) := by decide +kernel
theorem dX8_bows_33 : decode cX8_bows 33 = .ok (.iload_n 1, 1) := by decide +kernel
theorem dX8_bows_34 : decode cX8_bows 34 = .ok (.iaload, 1) := by decide +kernel
theorem dX8_bows_35 : decode cX8_bows 35 = .ok (.istore_n 3, 1) := by decide +kernel
theorem dX8_bows_36 : decode cX8_bows 36 = .ok (.aload_n 0, 1) := by decide +kernel
theorem dX8_bows_37 : decode cX8_bows 37 = .ok (.getfield 10, 3) := by decide +kernel
theorem dX8_bows_40 : decode cX8_bows 40 = .ok (.getfield 57, 3) := by decide +kernel
theorem dX8_bows_43 : decode cX8_bows 43 = .ok (.getfield 75, 3) := by decide +kernel
theorem dX8_bows_46 : decode cX8_bows 46 = .ok (.iload_n 1, 1) := by decide +kernel
theorem dX8_bows_47 : decode cX8_bows 47 = .ok (.iload_n 2, 1) := by decide +kernel
theorem dX8_bows_48 : decode cX8_bows 48 = .ok (.iastore, 1) := by decide +kernel
theorem dX8_bows_49 : decode cX8_bows 49 = .ok (.aload_n 0, 1) := by decide +kernel
theorem dX8_bows_50 : decode cX8_bows 50 = .ok (.getfield 10, 3) := by decide +kernel
theorem dX8_bows_53 : decode cX8_bows 53 = .ok (.invokevirtual 78, 3) := by decide +kernel
theorem dX8_bows_56 : decode cX8_bows 56 = .ok (.iload_n 3, 1) := by decide +kernel
theorem dX8_bows_57 : decode cX8_bows 57 = .ok (.ireturn, 1) := by decide +kernel
set_option maxRecDepth 20000 in
theorem ggX8_point_X8_isKind : GoodIn wsX8_point wsX8_isKind := goodIn_r _ [7, 8, 9, 6, 10] (by decide +kernel) (by decide +kernel)
set_option maxRecDepth 20000 in
theorem gX8_point_X8_isKind : GoodIn wsX8_point (va_wsS RX8 49 yX8_isKind wsX8_isKind) := goodIn_app (goodIn_of _ (by decide +kernel)) ggX8_point_X8_isKind
set_option maxRecDepth 20000 in
theorem ggX8_point_X8_within : GoodIn wsX8_point wsX8_within := goodIn_r _ [10] (by decide +kernel) (by decide +kernel)
set_option maxRecDepth 20000 in
theorem gX8_point_X8_within : GoodIn wsX8_point (va_wsS RX8 71 yX8_within wsX8_within) := goodIn_app (goodIn_of _ (by decide +kernel)) ggX8_point_X8_within
set_option maxRecDepth 20000 in
theorem ggX8_point_X8_refuseAsBad : GoodIn wsX8_point wsX8_refuseAsBad := goodIn_r _ [14, 15, 39, 40, 41, 42, 43, 44, 45, 46] (by decide +kernel) (by decide +kernel)
set_option maxRecDepth 20000 in
theorem gX8_point_X8_refuseAsBad : GoodIn wsX8_point (wsV RX8 53 RX8 yX8_refuseAsBad wsX8_refuseAsBad) := goodIn_app (goodIn_of _ (by decide +kernel)) ggX8_point_X8_refuseAsBad
set_option maxRecDepth 20000 in
theorem ggX8_point_X3_hasRoom : GoodIn wsX8_point wsX3_hasRoom := goodIn_r _ [20, 21, 56, 57, 58, 59, 60, 61, 62, 63, 64, 65] (by decide +kernel) (by decide +kernel)
set_option maxRecDepth 20000 in
theorem gX8_point_X3_hasRoom : GoodIn wsX8_point (wsV RX8 81 RX3 yX3_hasRoom wsX3_hasRoom) := goodIn_app (goodIn_of _ (by decide +kernel)) ggX8_point_X3_hasRoom
set_option maxRecDepth 20000 in
theorem ggX8_point_X8_refuseAsFull : GoodIn wsX8_point wsX8_refuseAsFull := goodIn_r _ [25, 15, 39, 40, 41, 42, 43, 44, 45, 46] (by decide +kernel) (by decide +kernel)
set_option maxRecDepth 20000 in
theorem gX8_point_X8_refuseAsFull : GoodIn wsX8_point (wsV RX8 85 RX8 yX8_refuseAsFull wsX8_refuseAsFull) := goodIn_app (goodIn_of _ (by decide +kernel)) ggX8_point_X8_refuseAsFull
set_option maxRecDepth 20000 in
theorem ggX8_point_X3_add : GoodIn wsX8_point wsX3_add := goodIn_r _ [29, 21, 30, 31, 32, 9, 6, 10, 56, 57, 58, 59, 60, 61, 62, 63, 64, 65] (by decide +kernel) (by decide +kernel)
set_option maxRecDepth 20000 in
theorem gX8_point_X3_add : GoodIn wsX8_point (wsV RX8 89 RX3 yX3_add wsX3_add) := goodIn_app (goodIn_of _ (by decide +kernel)) ggX8_point_X3_add
set_option maxRecDepth 20000 in
theorem ggX8_point_X1_dropPast : GoodIn wsX8_point wsX1_dropPast := goodIn_r _ [37, 38, 47, 48, 49, 50, 51, 52, 53, 54, 55] (by decide +kernel) (by decide +kernel)
set_option maxRecDepth 20000 in
theorem gX8_point_X1_dropPast : GoodIn wsX8_point (wsV RX8 78 RX1 yX1_dropPast wsX1_dropPast) := goodIn_app (goodIn_of _ (by decide +kernel)) ggX8_point_X1_dropPast
theorem dX8_point_0 : decode cX8_point 0 = .ok (.iload_n 1, 1) := by decide +kernel
theorem dX8_point_1 : decode cX8_point 1 = .ok (.invokestatic 49, 3) := by decide +kernel
theorem dX8_point_4 : decode cX8_point 4 = .ok (.ifCond .eq 22, 3) := by decide +kernel
theorem dX8_point_7 : decode cX8_point 7 = .ok (.iconst 1, 1) := by decide +kernel
theorem dX8_point_8 : decode cX8_point 8 = .ok (.iload_n 2, 1) := by decide +kernel
theorem dX8_point_9 : decode cX8_point 9 = .ok (.bipush 9, 2) := by decide +kernel
theorem dX8_point_11 : decode cX8_point 11 = .ok (.invokestatic 71, 3) := by decide +kernel
theorem dX8_point_14 : decode cX8_point 14 = .ok (.ifCond .eq 12, 3) := by decide +kernel
theorem dX8_point_17 : decode cX8_point 17 = .ok (.iconst 0, 1) := by decide +kernel
theorem dX8_point_18 : decode cX8_point 18 = .ok (.iload_n 3, 1) := by decide +kernel
theorem dX8_point_19 : decode cX8_point 19 = .ok (.iconst 3, 1) := by decide +kernel
theorem dX8_point_20 : decode cX8_point 20 = .ok (.invokestatic 71, 3) := by decide +kernel
theorem dX8_point_23 : decode cX8_point 23 = .ok (.ifCond .ne 10, 3) := by decide +kernel
theorem dX8_point_26 : decode cX8_point 26 = .ok (.aload_n 0, 1) := by decide +kernel
theorem dX8_point_27 : decode cX8_point 27 = .ok (.bipush (-2), 2) := by decide +kernel
theorem dX8_point_29 : decode cX8_point 29 = .ok (.invokevirtual 53, 3) := by decide +kernel
theorem dX8_point_32 : decode cX8_point 32 = .ok (.ireturn, 1) := by decide +kernel
theorem dX8_point_33 : decode cX8_point 33 = .ok (.aload_n 0, 1) := by decide +kernel
theorem dX8_point_34 : decode cX8_point 34 = .ok (.getfield 10, 3) := by decide +kernel
theorem dX8_point_37 : decode cX8_point 37 = .ok (.getfield 57, 3) := by decide +kernel
theorem dX8_point_40 : decode cX8_point 40 = .ok (.invokevirtual 81, 3) := by decide +kernel
theorem dX8_point_43 : decode cX8_point 43 = .ok (.ifCond .ne 8, 3) := by decide +kernel
theorem dX8_point_46 : decode cX8_point 46 = .ok (.aload_n 0, 1) := by decide +kernel
theorem dX8_point_47 : decode cX8_point 47 = .ok (.invokevirtual 85, 3) := by decide +kernel
theorem dX8_point_50 : decode cX8_point 50 = .ok (.ireturn, 1) := by decide +kernel
theorem dX8_point_51 : decode cX8_point 51 = .ok (.aload_n 0, 1) := by decide +kernel
theorem dX8_point_52 : decode cX8_point 52 = .ok (.getfield 10, 3) := by decide +kernel
theorem dX8_point_55 : decode cX8_point 55 = .ok (.getfield 57, 3) := by decide +kernel
theorem dX8_point_58 : decode cX8_point 58 = .ok (.getfield 60, 3) := by decide +kernel
theorem dX8_point_61 : decode cX8_point 61 = .ok (.istore 4, 2) := by decide +kernel
theorem dX8_point_63 : decode cX8_point 63 = .ok (.aload_n 0, 1) := by decide +kernel
theorem dX8_point_64 : decode cX8_point 64 = .ok (.getfield 10, 3) := by decide +kernel
theorem dX8_point_67 : decode cX8_point 67 = .ok (.getfield 57, 3) := by decide +kernel
theorem dX8_point_70 : decode cX8_point 70 = .ok (.iload_n 1, 1) := by decide +kernel
theorem dX8_point_71 : decode cX8_point 71 = .ok (.iload_n 2, 1) := by decide +kernel
theorem dX8_point_72 : decode cX8_point 72 = .ok (.iload_n 3, 1) := by decide +kernel
theorem dX8_point_73 : decode cX8_point 73 = .ok (.invokevirtual 89, 3) := by decide +kernel
theorem dX8_point_76 : decode cX8_point 76 = .ok (.aload_n 0, 1) := by decide +kernel
theorem dX8_point_77 : decode cX8_point 77 = .ok (.getfield 10, 3) := by decide +kernel
theorem dX8_point_80 : decode cX8_point 80 = .ok (.invokevirtual 78, 3) := by decide +kernel
theorem dX8_point_83 : decode cX8_point 83 = .ok (.iload 4, 2) := by decide +kernel
theorem dX8_point_85 : decode cX8_point 85 = .ok (.ireturn, 1) := by decide +kernel
set_option maxRecDepth 20000 in
theorem ggX8_type_X8_within : GoodIn wsX8_type wsX8_within := goodIn_r _ [7] (by decide +kernel) (by decide +kernel)
set_option maxRecDepth 20000 in
theorem gX8_type_X8_within : GoodIn wsX8_type (va_wsS RX8 71 yX8_within wsX8_within) := goodIn_app (goodIn_of _ (by decide +kernel)) ggX8_type_X8_within
set_option maxRecDepth 20000 in
theorem ggX8_type_X8_refuseAsBad : GoodIn wsX8_type wsX8_refuseAsBad := goodIn_r _ [11, 12, 24, 25, 26, 27, 28, 29, 30, 31] (by decide +kernel) (by decide +kernel)
set_option maxRecDepth 20000 in
theorem gX8_type_X8_refuseAsBad : GoodIn wsX8_type (wsV RX8 53 RX8 yX8_refuseAsBad wsX8_refuseAsBad) := goodIn_app (goodIn_of _ (by decide +kernel)) ggX8_type_X8_refuseAsBad
set_option maxRecDepth 20000 in
theorem ggX8_type_X8_refuseAsFull : GoodIn wsX8_type wsX8_refuseAsFull := goodIn_r _ [16, 12, 24, 25, 26, 27, 28, 29, 30, 31] (by decide +kernel) (by decide +kernel)
set_option maxRecDepth 20000 in
theorem gX8_type_X8_refuseAsFull : GoodIn wsX8_type (wsV RX8 85 RX8 yX8_refuseAsFull wsX8_refuseAsFull) := goodIn_app (goodIn_of _ (by decide +kernel)) ggX8_type_X8_refuseAsFull
set_option maxRecDepth 20000 in
theorem ggX8_type_X7_append : GoodIn wsX8_type wsX7_append := goodIn_r _ [21, 22, 23, 34, 35, 36, 37, 38, 39] (by decide +kernel) (by decide +kernel)
set_option maxRecDepth 20000 in
theorem gX8_type_X7_append : GoodIn wsX8_type (wsV RX8 102 RX7 yX7_append wsX7_append) := goodIn_app (goodIn_of _ (by decide +kernel)) ggX8_type_X7_append
theorem dX8_type_0 : decode cX8_type 0 = .ok (.iconst 0, 1) := by decide +kernel
theorem dX8_type_1 : decode cX8_type 1 = .ok (.iload_n 1, 1) := by decide +kernel
theorem dX8_type_2 : decode cX8_type 2 = .ok (.bipush 127, 2) := by decide +kernel
theorem dX8_type_4 : decode cX8_type 4 = .ok (.invokestatic 71, 3) := by decide +kernel
theorem dX8_type_7 : decode cX8_type 7 = .ok (.ifCond .ne 10, 3) := by decide +kernel
theorem dX8_type_10 : decode cX8_type 10 = .ok (.aload_n 0, 1) := by decide +kernel
theorem dX8_type_11 : decode cX8_type 11 = .ok (.bipush (-2), 2) := by decide +kernel
theorem dX8_type_13 : decode cX8_type 13 = .ok (.invokevirtual 53, 3) := by decide +kernel
theorem dX8_type_16 : decode cX8_type 16 = .ok (.ireturn, 1) := by decide +kernel
theorem dX8_type_17 : decode cX8_type 17 = .ok (.aload_n 0, 1) := by decide +kernel
theorem dX8_type_18 : decode cX8_type 18 = .ok (.getfield 34, 3) := by decide +kernel
theorem dX8_type_21 : decode cX8_type 21 = .ok (.getfield 93, 3) := by decide +kernel
theorem dX8_type_24 : decode cX8_type 24 = .ok (.getfield 97, 3) := by decide +kernel
theorem dX8_type_27 : decode cX8_type 27 = .ok (.sipush 150, 3) := by decide +kernel
theorem dX8_type_30 : decode cX8_type 30 = .ok (.if_icmp .lt 8, 3) := by decide +kernel
theorem dX8_type_33 : decode cX8_type 33 = .ok (.aload_n 0, 1) := by decide +kernel
theorem dX8_type_34 : decode cX8_type 34 = .ok (.invokevirtual 85, 3) := by decide +kernel
theorem dX8_type_37 : decode cX8_type 37 = .ok (.ireturn, 1) := by decide +kernel
theorem dX8_type_38 : decode cX8_type 38 = .ok (.aload_n 0, 1) := by decide +kernel
theorem dX8_type_39 : decode cX8_type 39 = .ok (.getfield 34, 3) := by decide +kernel
theorem dX8_type_42 : decode cX8_type 42 = .ok (.getfield 93, 3) := by decide +kernel
theorem dX8_type_45 : decode cX8_type 45 = .ok (.iload_n 1, 1) := by decide +kernel
theorem dX8_type_46 : decode cX8_type 46 = .ok (.invokevirtual 102, 3) := by decide +kernel
theorem dX8_type_49 : decode cX8_type 49 = .ok (.aload_n 0, 1) := by decide +kernel
theorem dX8_type_50 : decode cX8_type 50 = .ok (.getfield 34, 3) := by decide +kernel
theorem dX8_type_53 : decode cX8_type 53 = .ok (.getfield 93, 3) := by decide +kernel
theorem dX8_type_56 : decode cX8_type 56 = .ok (.getfield 97, 3) := by decide +kernel
theorem dX8_type_59 : decode cX8_type 59 = .ok (.ireturn, 1) := by decide +kernel
theorem dX8_clear_0 : decode cX8_clear 0 = .ok (.aload_n 0, 1) := by decide +kernel
theorem dX8_clear_1 : decode cX8_clear 1 = .ok (.getfield 34, 3) := by decide +kernel
theorem dX8_clear_4 : decode cX8_clear 4 = .ok (.getfield 93, 3) := by decide +kernel
theorem dX8_clear_7 : decode cX8_clear 7 = .ok (.getfield 97, 3) := by decide +kernel
theorem dX8_clear_10 : decode cX8_clear 10 = .ok (.istore_n 1, 1) := by decide +kernel
theorem dX8_clear_11 : decode cX8_clear 11 = .ok (.aload_n 0, 1) := by decide +kernel
theorem dX8_clear_12 : decode cX8_clear 12 = .ok (.getfield 34, 3) := by decide +kernel
theorem dX8_clear_15 : decode cX8_clear 15 = .ok (.getfield 93, 3) := by decide +kernel
theorem dX8_clear_18 : decode cX8_clear 18 = .ok (.iconst 0, 1) := by decide +kernel
theorem dX8_clear_19 : decode cX8_clear 19 = .ok (.putfield 97, 3) := by decide +kernel
theorem dX8_clear_22 : decode cX8_clear 22 = .ok (.iload_n 1, 1) := by decide +kernel
theorem dX8_clear_23 : decode cX8_clear 23 = .ok (.ireturn, 1) := by decide +kernel
set_option maxRecDepth 20000 in
theorem ggX8_read_X2_readAll : GoodIn wsX8_read wsX2_readAll := goodIn_r _ [11, 12, 13, 14, 15, 16, 17, 18, 19, 20, 21, 22, 23, 24, 25, 26, 27, 28, 29, 30, 31, 32, 33, 34, 35, 36, 37, 38, 39, 40, 41, 42, 43, 10, 44, 45, 46, 47, 48, 49, 50, 51, 52, 53, 54, 55, 56, 57, 58, 59, 60, 61, 62, 63, 64, 65, 66, 67, 68, 69, 70, 71, 72, 73, 74, 75, 76, 77, 78, 79, 80, 81, 82, 83, 84, 85, 86, 87, 88, 89, 90, 91, 92, 93, 94, 95, 96, 97, 98, 99, 100, 101, 102, 103, 104, 105, 106, 107, 108, 109, 110, 111, 112, 113, 114, 115, 116, 117, 118, 119, 120, 121, 122, 123, 124, 125, 126, 127, 128, 129, 130, 131, 132, 133, 134, 135, 136, 137, 138, 139, 140, 141, 142, 143, 144, 145, 146, 147, 148, 149, 150, 151, 152, 153, 154, 155, 156, 157, 158, 159, 160, 161, 162, 163, 164, 165, 166, 167, 168, 169, 170, 171, 172, 173, 174, 175, 176, 177, 178, 179, 180, 181, 182, 183, 184, 185, 186, 187, 188, 189, 190, 191, 192, 193, 194, 195, 196, 197, 198, 199, 200, 201, 202, 203, 204, 205, 206, 207, 208, 209, 210, 211, 212, 213, 214, 215, 216, 217, 218, 219, 220, 221, 222, 223, 224, 225, 226, 227, 228, 229, 230, 231, 232, 256, 257, 258, 259, 260, 261, 262, 263, 273, 274, 275, 276, 277, 278, 279, 280, 281, 282] (by decide +kernel) (by decide +kernel)
set_option maxRecDepth 20000 in
theorem gX8_read_X2_readAll : GoodIn wsX8_read (wsV RX8 106 RX2 yX2_readAll wsX2_readAll) := goodIn_app (goodIn_of _ (by decide +kernel)) ggX8_read_X2_readAll
set_option maxRecDepth 20000 in
theorem ggX8_read_X1_begin : GoodIn wsX8_read wsX1_begin := goodIn_r _ [237, 238, 239, 240, 241, 242, 243, 112, 113, 114, 115, 116, 117, 118, 119, 120, 121, 122, 264, 265, 266, 267, 268, 269, 270, 271, 272, 273, 274, 275, 276, 277, 278, 279, 280, 281, 282] (by decide +kernel) (by decide +kernel)
set_option maxRecDepth 20000 in
theorem gX8_read_X1_begin : GoodIn wsX8_read (wsV RX8 64 RX1 yX1_begin wsX1_begin) := goodIn_app (goodIn_of _ (by decide +kernel)) ggX8_read_X1_begin
set_option maxRecDepth 20000 in
theorem ggX8_read_X3_copy : GoodIn wsX8_read wsX3_copy := goodIn_r _ [247, 116, 117, 147, 148, 149, 118, 119, 120, 121, 122, 273, 274, 275, 276, 277, 278, 279, 280, 281, 282] (by decide +kernel) (by decide +kernel)
set_option maxRecDepth 20000 in
theorem gX8_read_X3_copy : GoodIn wsX8_read (wsV RX8 113 RX3 yX3_copy wsX3_copy) := goodIn_app (goodIn_of _ (by decide +kernel)) ggX8_read_X3_copy
theorem dX8_read_0 : decode cX8_read 0 = .ok (.aload_n 0, 1) := by decide +kernel
theorem dX8_read_1 : decode cX8_read 1 = .ok (.getfield 34, 3) := by decide +kernel
theorem dX8_read_4 : decode cX8_read 4 = .ok (.invokevirtual 106, 3) := by decide +kernel
theorem dX8_read_7 : decode cX8_read 7 = .ok (.istore_n 1, 1) := by decide +kernel
theorem dX8_read_8 : decode cX8_read 8 = .ok (.iload_n 1, 1) := by decide +kernel
theorem dX8_read_9 : decode cX8_read 9 = .ok (.iconst (-1), 1) := by decide +kernel
theorem dX8_read_10 : decode cX8_read 10 = .ok (.if_icmp .ne 17, 3) := by decide +kernel
theorem dX8_read_13 : decode cX8_read 13 = .ok (.bipush (-10), 2) := by decide +kernel
theorem dX8_read_15 : decode cX8_read 15 = .ok (.aload_n 0, 1) := by decide +kernel
theorem dX8_read_16 : decode cX8_read 16 = .ok (.getfield 34, 3) := by decide +kernel
theorem dX8_read_19 : decode cX8_read 19 = .ok (.getfield 93, 3) := by decide +kernel
theorem dX8_read_22 : decode cX8_read 22 = .ok (.getfield 109, 3) := by decide +kernel
theorem dX8_read_25 : decode cX8_read 25 = .ok (.isub, 1) := by decide +kernel
theorem dX8_read_26 : decode cX8_read 26 = .ok (.ireturn, 1) := by decide +kernel
theorem dX8_read_27 : decode cX8_read 27 = .ok (.aload_n 0, 1) := by decide +kernel
theorem dX8_read_28 : decode cX8_read 28 = .ok (.getfield 10, 3) := by decide +kernel
theorem dX8_read_31 : decode cX8_read 31 = .ok (.iconst 0, 1) := by decide +kernel
theorem dX8_read_32 : decode cX8_read 32 = .ok (.iconst 0, 1) := by decide +kernel
theorem dX8_read_33 : decode cX8_read 33 = .ok (.invokevirtual 64, 3) := by decide +kernel
theorem dX8_read_36 : decode cX8_read 36 = .ok (.aload_n 0, 1) := by decide +kernel
theorem dX8_read_37 : decode cX8_read 37 = .ok (.getfield 10, 3) := by decide +kernel
theorem dX8_read_40 : decode cX8_read 40 = .ok (.getfield 57, 3) := by decide +kernel
theorem dX8_read_43 : decode cX8_read 43 = .ok (.aload_n 0, 1) := by decide +kernel
theorem dX8_read_44 : decode cX8_read 44 = .ok (.getfield 34, 3) := by decide +kernel
theorem dX8_read_47 : decode cX8_read 47 = .ok (.getfield 112, 3) := by decide +kernel
theorem dX8_read_50 : decode cX8_read 50 = .ok (.invokevirtual 113, 3) := by decide +kernel
theorem dX8_read_53 : decode cX8_read 53 = .ok (.iload_n 1, 1) := by decide +kernel
theorem dX8_read_54 : decode cX8_read 54 = .ok (.ireturn, 1) := by decide +kernel
set_option maxRecDepth 20000 in
theorem ggX8_says_X3_hasPoint : GoodIn wsX8_says wsX3_hasPoint := goodIn_r _ [9, 10, 125, 126, 127, 128, 129, 130, 131, 132, 133, 134] (by decide +kernel) (by decide +kernel)
set_option maxRecDepth 20000 in
theorem gX8_says_X3_hasPoint : GoodIn wsX8_says (wsV RX8 117 RX3 yX3_hasPoint wsX3_hasPoint) := goodIn_app (goodIn_of _ (by decide +kernel)) ggX8_says_X3_hasPoint
set_option maxRecDepth 20000 in
theorem ggX8_says_X8_refuseAsBad : GoodIn wsX8_says wsX8_refuseAsBad := goodIn_r _ [15, 16, 108, 109, 110, 111, 112, 113, 114, 115] (by decide +kernel) (by decide +kernel)
set_option maxRecDepth 20000 in
theorem gX8_says_X8_refuseAsBad : GoodIn wsX8_says (wsV RX8 53 RX8 yX8_refuseAsBad wsX8_refuseAsBad) := goodIn_app (goodIn_of _ (by decide +kernel)) ggX8_says_X8_refuseAsBad
set_option maxRecDepth 20000 in
theorem ggX8_says_X8_has : GoodIn wsX8_says wsX8_has := goodIn_r _ [19] (by decide +kernel) (by decide +kernel)
set_option maxRecDepth 20000 in
theorem gX8_says_X8_has : GoodIn wsX8_says (va_wsS RX8 123 yX8_has wsX8_has) := goodIn_app (goodIn_of _ (by decide +kernel)) ggX8_says_X8_has
set_option maxRecDepth 20000 in
theorem ggX8_says_X8_refuseAsNo : GoodIn wsX8_says wsX8_refuseAsNo := goodIn_r _ [23, 16, 108, 109, 110, 111, 112, 113, 114, 115] (by decide +kernel) (by decide +kernel)
set_option maxRecDepth 20000 in
theorem gX8_says_X8_refuseAsNo : GoodIn wsX8_says (wsV RX8 127 RX8 yX8_refuseAsNo wsX8_refuseAsNo) := goodIn_app (goodIn_of _ (by decide +kernel)) ggX8_says_X8_refuseAsNo
set_option maxRecDepth 20000 in
theorem ggX8_says_X1_remember : GoodIn wsX8_says wsX1_remember := goodIn_r _ [28, 29, 30, 31, 32, 33, 34, 35, 36, 37, 38, 8, 39, 40, 41, 42, 43, 44, 45, 116, 117, 118, 119, 120, 121, 122, 123, 124, 125, 126, 127, 128, 129, 130, 131, 132, 133, 134] (by decide +kernel) (by decide +kernel)
set_option maxRecDepth 20000 in
theorem gX8_says_X1_remember : GoodIn wsX8_says (wsV RX8 130 RX1 yX1_remember wsX1_remember) := goodIn_app (goodIn_of _ (by decide +kernel)) ggX8_says_X1_remember
set_option maxRecDepth 20000 in
theorem ggX8_says_X3_speak : GoodIn wsX8_says wsX3_speak := goodIn_r _ [49, 44, 50, 51, 52, 53, 54, 55, 56, 40, 45, 57, 6, 7, 8, 9, 10, 58, 59, 60, 61, 62, 63, 64, 65, 66, 67, 68, 69, 70, 71, 72, 73, 74, 75, 76, 77, 78, 79, 43, 80, 81, 82, 83, 84, 85, 86, 87, 88, 89, 90, 91, 92, 93, 94, 95, 96, 97, 98, 99, 100, 101, 102, 103, 104, 105, 106, 107, 125, 126, 127, 128, 129, 130, 131, 132, 133, 134] (by decide +kernel) (by decide +kernel)
set_option maxRecDepth 20000 in
theorem gX8_says_X3_speak : GoodIn wsX8_says (wsV RX8 133 RX3 yX3_speak wsX3_speak) := goodIn_app (goodIn_of _ (by decide +kernel)) ggX8_says_X3_speak
theorem dX8_says_0 : decode cX8_says 0 = .ok (.aload_n 0, 1) := by decide +kernel
theorem dX8_says_1 : decode cX8_says 1 = .ok (.getfield 10, 3) := by decide +kernel
theorem dX8_says_4 : decode cX8_says 4 = .ok (.getfield 57, 3) := by decide +kernel
theorem dX8_says_7 : decode cX8_says 7 = .ok (.astore_n 2, 1) := by decide +kernel
theorem dX8_says_8 : decode cX8_says 8 = .ok (.aload_n 2, 1) := by decide +kernel
theorem dX8_says_9 : decode cX8_says 9 = .ok (.iload_n 1, 1) := by decide +kernel
theorem dX8_says_10 : decode cX8_says 10 = .ok (.invokevirtual 117, 3) := by decide +kernel
theorem dX8_says_13 : decode cX8_says 13 = .ok (.ifCond .ne 11, 3) := by decide +kernel
theorem dX8_says_16 : decode cX8_says 16 = .ok (.aload_n 0, 1) := by decide +kernel
theorem dX8_says_17 : decode cX8_says 17 = .ok (.sipush (-1000), 3) := by decide +kernel
theorem dX8_says_20 : decode cX8_says 20 = .ok (.invokevirtual 53, 3) := by decide +kernel
theorem dX8_says_23 : decode cX8_says 23 = .ok (.ireturn, 1) := by decide +kernel
theorem dX8_says_24 : decode cX8_says 24 = .ok (.aload_n 2, 1) := by decide +kernel
theorem dX8_says_25 : decode cX8_says 25 = .ok (.getfield 120, 3) := by decide +kernel
theorem dX8_says_28 : decode cX8_says 28 = .ok (.iload_n 1, 1) := by decide +kernel
theorem dX8_says_29 : decode cX8_says 29 = .ok (.invokestatic 123, 3) := by decide +kernel
theorem dX8_says_32 : decode cX8_says 32 = .ok (.ifCond .eq 11, 3) := by decide +kernel
theorem dX8_says_35 : decode cX8_says 35 = .ok (.aload_n 0, 1) := by decide +kernel
theorem dX8_says_36 : decode cX8_says 36 = .ok (.sipush (-1001), 3) := by decide +kernel
theorem dX8_says_39 : decode cX8_says 39 = .ok (.invokevirtual 127, 3) := by decide +kernel
theorem dX8_says_42 : decode cX8_says 42 = .ok (.ireturn, 1) := by decide +kernel
theorem dX8_says_43 : decode cX8_says 43 = .ok (.aload_n 0, 1) := by decide +kernel
theorem dX8_says_44 : decode cX8_says 44 = .ok (.getfield 10, 3) := by decide +kernel
theorem dX8_says_47 : decode cX8_says 47 = .ok (.invokevirtual 130, 3) := by decide +kernel
theorem dX8_says_50 : decode cX8_says 50 = .ok (.aload_n 2, 1) := by decide +kernel
theorem dX8_says_51 : decode cX8_says 51 = .ok (.iload_n 1, 1) := by decide +kernel
theorem dX8_says_52 : decode cX8_says 52 = .ok (.invokevirtual 133, 3) := by decide +kernel
theorem dX8_says_55 : decode cX8_says 55 = .ok (.aload_n 2, 1) := by decide +kernel
theorem dX8_says_56 : decode cX8_says 56 = .ok (.getfield 136, 3) := by decide +kernel
theorem dX8_says_59 : decode cX8_says 59 = .ok (.ireturn, 1) := by decide +kernel
set_option maxRecDepth 20000 in
theorem ggX8_objects_X3_mayObject : GoodIn wsX8_objects wsX3_mayObject := goodIn_r _ [8, 9, 10, 11, 12, 13, 14, 7, 15, 16, 17, 18, 19, 20, 21, 22, 23, 24, 25, 26, 27, 28, 75, 76, 77, 78, 79, 80, 81, 82, 83, 84] (by decide +kernel) (by decide +kernel)
set_option maxRecDepth 20000 in
theorem gX8_objects_X3_mayObject : GoodIn wsX8_objects (wsV RX8 139 RX3 yX3_mayObject wsX3_mayObject) := goodIn_app (goodIn_of _ (by decide +kernel)) ggX8_objects_X3_mayObject
set_option maxRecDepth 20000 in
theorem ggX8_objects_X8_refuseAsNo : GoodIn wsX8_objects wsX8_refuseAsNo := goodIn_r _ [33, 34, 58, 59, 60, 61, 62, 63, 64, 65] (by decide +kernel) (by decide +kernel)
set_option maxRecDepth 20000 in
theorem gX8_objects_X8_refuseAsNo : GoodIn wsX8_objects (wsV RX8 127 RX8 yX8_refuseAsNo wsX8_refuseAsNo) := goodIn_app (goodIn_of _ (by decide +kernel)) ggX8_objects_X8_refuseAsNo
set_option maxRecDepth 20000 in
theorem ggX8_objects_X1_remember : GoodIn wsX8_objects wsX1_remember := goodIn_r _ [39, 40, 41, 42, 43, 44, 45, 46, 47, 48, 49, 7, 50, 21, 10, 11, 51, 52, 9, 66, 67, 68, 69, 70, 71, 72, 73, 74, 75, 76, 77, 78, 79, 80, 81, 82, 83, 84] (by decide +kernel) (by decide +kernel)
set_option maxRecDepth 20000 in
theorem gX8_objects_X1_remember : GoodIn wsX8_objects (wsV RX8 130 RX1 yX1_remember wsX1_remember) := goodIn_app (goodIn_of _ (by decide +kernel)) ggX8_objects_X1_remember
set_option maxRecDepth 20000 in
theorem ggX8_objects_X3_bow : GoodIn wsX8_objects wsX3_bow := goodIn_r _ [56, 11, 10, 9, 51, 57, 5, 6, 7, 8, 12, 13, 14, 15, 16, 17, 18, 19, 20, 21, 22, 23, 24, 25, 26, 27, 28, 75, 76, 77, 78, 79, 80, 81, 82, 83, 84] (by decide +kernel) (by decide +kernel)
set_option maxRecDepth 20000 in
theorem gX8_objects_X3_bow : GoodIn wsX8_objects (wsV RX8 142 RX3 yX3_bow wsX3_bow) := goodIn_app (goodIn_of _ (by decide +kernel)) ggX8_objects_X3_bow
theorem dX8_objects_0 : decode cX8_objects 0 = .ok (.aload_n 0, 1) := by decide +kernel
theorem dX8_objects_1 : decode cX8_objects 1 = .ok (.getfield 10, 3) := by decide +kernel
theorem dX8_objects_4 : decode cX8_objects 4 = .ok (.getfield 57, 3) := by decide +kernel
theorem dX8_objects_7 : decode cX8_objects 7 = .ok (.invokevirtual 139, 3) := by decide +kernel
theorem dX8_objects_10 : decode cX8_objects 10 = .ok (.ifCond .ne 10, 3) := by decide +kernel
theorem dX8_objects_13 : decode cX8_objects 13 = .ok (.aload_n 0, 1) := by decide +kernel
theorem dX8_objects_14 : decode cX8_objects 14 = .ok (.bipush (-3), 2) := by decide +kernel
theorem dX8_objects_16 : decode cX8_objects 16 = .ok (.invokevirtual 127, 3) := by decide +kernel
theorem dX8_objects_19 : decode cX8_objects 19 = .ok (.ireturn, 1) := by decide +kernel
theorem dX8_objects_20 : decode cX8_objects 20 = .ok (.aload_n 0, 1) := by decide +kernel
theorem dX8_objects_21 : decode cX8_objects 21 = .ok (.getfield 10, 3) := by decide +kernel
theorem dX8_objects_24 : decode cX8_objects 24 = .ok (.invokevirtual 130, 3) := by decide +kernel
theorem dX8_objects_27 : decode cX8_objects 27 = .ok (.aload_n 0, 1) := by decide +kernel
theorem dX8_objects_28 : decode cX8_objects 28 = .ok (.getfield 10, 3) := by decide +kernel
theorem dX8_objects_31 : decode cX8_objects 31 = .ok (.getfield 57, 3) := by decide +kernel
theorem dX8_objects_34 : decode cX8_objects 34 = .ok (.invokevirtual 142, 3) := by decide +kernel
theorem dX8_objects_37 : decode cX8_objects 37 = .ok (.aload_n 0, 1) := by decide +kernel
theorem dX8_objects_38 : decode cX8_objects 38 = .ok (.getfield 10, 3) := by decide +kernel
theorem dX8_objects_41 : decode cX8_objects 41 = .ok (.getfield 57, 3) := by decide +kernel
theorem dX8_objects_44 : decode cX8_objects 44 = .ok (.getfield 145, 3) := by decide +kernel
theorem dX8_objects_47 : decode cX8_objects 47 = .ok (.ireturn, 1) := by decide +kernel
set_option maxRecDepth 20000 in
theorem ggX8_undo_X8_refuseAsNo : GoodIn wsX8_undo wsX8_refuseAsNo := goodIn_r _ [8, 9, 43, 44, 45, 46, 47, 48, 49, 50] (by decide +kernel) (by decide +kernel)
set_option maxRecDepth 20000 in
theorem gX8_undo_X8_refuseAsNo : GoodIn wsX8_undo (wsV RX8 127 RX8 yX8_refuseAsNo wsX8_refuseAsNo) := goodIn_app (goodIn_of _ (by decide +kernel)) ggX8_undo_X8_refuseAsNo
set_option maxRecDepth 20000 in
theorem ggX8_undo_X1_goBack : GoodIn wsX8_undo wsX1_goBack := goodIn_r _ [14, 15, 16, 17, 18, 19, 20, 21, 22, 23, 24, 25, 26, 27, 28, 29, 30, 31, 51, 52, 53, 54, 55, 56, 57, 58, 59, 60, 61, 62, 63, 64, 65, 66, 67, 68, 69] (by decide +kernel) (by decide +kernel)
set_option maxRecDepth 20000 in
theorem gX8_undo_X1_goBack : GoodIn wsX8_undo (wsV RX8 151 RX1 yX1_goBack wsX1_goBack) := goodIn_app (goodIn_of _ (by decide +kernel)) ggX8_undo_X1_goBack
set_option maxRecDepth 20000 in
theorem ggX8_undo_X3_turn : GoodIn wsX8_undo wsX3_turn := goodIn_r _ [35, 31, 36, 37, 38, 39, 40, 41, 42, 60, 61, 62, 63, 64, 65, 66, 67, 68, 69] (by decide +kernel) (by decide +kernel)
set_option maxRecDepth 20000 in
theorem gX8_undo_X3_turn : GoodIn wsX8_undo (wsV RX8 154 RX3 yX3_turn wsX3_turn) := goodIn_app (goodIn_of _ (by decide +kernel)) ggX8_undo_X3_turn
theorem dX8_undo_0 : decode cX8_undo 0 = .ok (.aload_n 0, 1) := by decide +kernel
theorem dX8_undo_1 : decode cX8_undo 1 = .ok (.getfield 10, 3) := by decide +kernel
theorem dX8_undo_4 : decode cX8_undo 4 = .ok (.getfield 148, 3) := by decide +kernel
theorem dX8_undo_7 : decode cX8_undo 7 = .ok (.ifCond .ne 10, 3) := by decide +kernel
theorem dX8_undo_10 : decode cX8_undo 10 = .ok (.aload_n 0, 1) := by decide +kernel
theorem dX8_undo_11 : decode cX8_undo 11 = .ok (.bipush (-3), 2) := by decide +kernel
theorem dX8_undo_13 : decode cX8_undo 13 = .ok (.invokevirtual 127, 3) := by decide +kernel
theorem dX8_undo_16 : decode cX8_undo 16 = .ok (.ireturn, 1) := by decide +kernel
theorem dX8_undo_17 : decode cX8_undo 17 = .ok (.aload_n 0, 1) := by decide +kernel
theorem dX8_undo_18 : decode cX8_undo 18 = .ok (.getfield 10, 3) := by decide +kernel
theorem dX8_undo_21 : decode cX8_undo 21 = .ok (.invokevirtual 151, 3) := by decide +kernel
theorem dX8_undo_24 : decode cX8_undo 24 = .ok (.aload_n 0, 1) := by decide +kernel
theorem dX8_undo_25 : decode cX8_undo 25 = .ok (.getfield 10, 3) := by decide +kernel
theorem dX8_undo_28 : decode cX8_undo 28 = .ok (.getfield 57, 3) := by decide +kernel
theorem dX8_undo_31 : decode cX8_undo 31 = .ok (.invokevirtual 154, 3) := by decide +kernel
theorem dX8_undo_34 : decode cX8_undo 34 = .ok (.ireturn, 1) := by decide +kernel
set_option maxRecDepth 20000 in
theorem ggX8_now_X3_turn : GoodIn wsX8_now wsX3_turn := goodIn_r _ [9, 10, 11, 12, 13, 14, 15, 16, 17, 67, 68, 69, 70, 71, 72, 73, 74, 75, 76] (by decide +kernel) (by decide +kernel)
set_option maxRecDepth 20000 in
theorem gX8_now_X3_turn : GoodIn wsX8_now (wsV RX8 154 RX3 yX3_turn wsX3_turn) := goodIn_app (goodIn_of _ (by decide +kernel)) ggX8_now_X3_turn
set_option maxRecDepth 20000 in
theorem ggX8_now_X3_speaker : GoodIn wsX8_now wsX3_speaker := goodIn_r _ [21, 10, 11, 12, 13, 14, 15, 16, 17, 67, 68, 69, 70, 71, 72, 73, 74, 75, 76] (by decide +kernel) (by decide +kernel)
set_option maxRecDepth 20000 in
theorem gX8_now_X3_speaker : GoodIn wsX8_now (wsV RX8 157 RX3 yX3_speaker wsX3_speaker) := goodIn_app (goodIn_of _ (by decide +kernel)) ggX8_now_X3_speaker
set_option maxRecDepth 20000 in
theorem ggX8_now_X3_mayObject : GoodIn wsX8_now wsX3_mayObject := goodIn_r _ [25, 26, 27, 28, 29, 30, 31, 8, 32, 33, 34, 19, 20, 21, 10, 11, 12, 13, 14, 15, 16, 17, 67, 68, 69, 70, 71, 72, 73, 74, 75, 76] (by decide +kernel) (by decide +kernel)
set_option maxRecDepth 20000 in
theorem gX8_now_X3_mayObject : GoodIn wsX8_now (wsV RX8 139 RX3 yX3_mayObject wsX3_mayObject) := goodIn_app (goodIn_of _ (by decide +kernel)) ggX8_now_X3_mayObject
set_option maxRecDepth 20000 in
theorem ggX8_now_X3_unsaid : GoodIn wsX8_now wsX3_unsaid := goodIn_r _ [38, 33, 10, 67, 68, 69, 70, 71, 72, 73, 74, 75, 76] (by decide +kernel) (by decide +kernel)
set_option maxRecDepth 20000 in
theorem gX8_now_X3_unsaid : GoodIn wsX8_now (wsV RX8 160 RX3 yX3_unsaid wsX3_unsaid) := goodIn_app (goodIn_of _ (by decide +kernel)) ggX8_now_X3_unsaid
set_option maxRecDepth 20000 in
theorem ggX8_now_X3_winner : GoodIn wsX8_now wsX3_winner := goodIn_r _ [42, 43, 67, 68, 69, 70, 71, 72, 73, 74, 75, 76] (by decide +kernel) (by decide +kernel)
set_option maxRecDepth 20000 in
theorem gX8_now_X3_winner : GoodIn wsX8_now (wsV RX8 163 RX3 yX3_winner wsX3_winner) := goodIn_app (goodIn_of _ (by decide +kernel)) ggX8_now_X3_winner
set_option maxRecDepth 20000 in
theorem ggX8_now_X8_refuseAsBad : GoodIn wsX8_now wsX8_refuseAsBad := goodIn_r _ [48, 49, 50, 51, 52, 53, 54, 55, 56, 57] (by decide +kernel) (by decide +kernel)
set_option maxRecDepth 20000 in
theorem gX8_now_X8_refuseAsBad : GoodIn wsX8_now (wsV RX8 53 RX8 yX8_refuseAsBad wsX8_refuseAsBad) := goodIn_app (goodIn_of _ (by decide +kernel)) ggX8_now_X8_refuseAsBad
theorem dX8_now_0 : decode cX8_now 0 = .ok (.aload_n 0, 1) := by decide +kernel
theorem dX8_now_1 : decode cX8_now 1 = .ok (.getfield 10, 3) := by decide +kernel
theorem dX8_now_4 : decode cX8_now 4 = .ok (.getfield 57, 3) := by decide +kernel
theorem dX8_now_7 : decode cX8_now 7 = .ok (.astore_n 2, 1) := by decide +kernel
theorem dX8_now_8 : decode cX8_now 8 = .ok (.iload_n 1, 1) := by decide +kernel
theorem dX8_now_9 : decode cX8_now 9 = .ok (.tableswitch 88 0 5 #[39, 44, 49, 54, 59, 72], 39) := by decide +kernel
theorem dX8_now_48 : decode cX8_now 48 = .ok (.aload_n 2, 1) := by decide +kernel
theorem dX8_now_49 : decode cX8_now 49 = .ok (.getfield 136, 3) := by decide +kernel
theorem dX8_now_52 : decode cX8_now 52 = .ok (.ireturn, 1) := by decide +kernel
theorem dX8_now_53 : decode cX8_now 53 = .ok (.aload_n 2, 1) := by decide +kernel
theorem dX8_now_54 : decode cX8_now 54 = .ok (.getfield 145, 3) := by decide +kernel
theorem dX8_now_57 : decode cX8_now 57 = .ok (.ireturn, 1) := by decide +kernel
theorem dX8_now_58 : decode cX8_now 58 = .ok (.aload_n 2, 1) := by decide +kernel
theorem dX8_now_59 : decode cX8_now 59 = .ok (.invokevirtual 154, 3) := by decide +kernel
theorem dX8_now_62 : decode cX8_now 62 = .ok (.ireturn, 1) := by decide +kernel
theorem dX8_now_63 : decode cX8_now 63 = .ok (.aload_n 2, 1) := by decide +kernel
theorem dX8_now_64 : decode cX8_now 64 = .ok (.invokevirtual 157, 3) := by decide +kernel
theorem dX8_now_67 : decode cX8_now 67 = .ok (.ireturn, 1) := by decide +kernel
theorem dX8_now_68 : decode cX8_now 68 = .ok (.aload_n 2, 1) := by decide +kernel
theorem dX8_now_69 : decode cX8_now 69 = .ok (.invokevirtual 139, 3) := by decide +kernel
theorem dX8_now_72 : decode cX8_now 72 = .ok (.ifCond .eq 7, 3) := by decide +kernel
theorem dX8_now_75 : decode cX8_now 75 = .ok (.iconst 1, 1) := by decide +kernel
theorem dX8_now_76 : decode cX8_now 76 = .ok (.goto 4, 3) := by decide +kernel
theorem dX8_now_79 : decode cX8_now 79 = .ok (.iconst 0, 1) := by decide +kernel
theorem dX8_now_80 : decode cX8_now 80 = .ok (.ireturn, 1) := by decide +kernel
theorem dX8_now_81 : decode cX8_now 81 = .ok (.aload_n 2, 1) := by decide +kernel
theorem dX8_now_82 : decode cX8_now 82 = .ok (.invokevirtual 160, 3) := by decide +kernel
theorem dX8_now_85 : decode cX8_now 85 = .ok (.ifCond .ne 10, 3) := by decide +kernel
theorem dX8_now_88 : decode cX8_now 88 = .ok (.aload_n 2, 1) := by decide +kernel
theorem dX8_now_89 : decode cX8_now 89 = .ok (.invokevirtual 163, 3) := by decide +kernel
theorem dX8_now_92 : decode cX8_now 92 = .ok (.goto 4, 3) := by decide +kernel
theorem dX8_now_95 : decode cX8_now 95 = .ok (.iconst (-1), 1) := by decide +kernel
theorem dX8_now_96 : decode cX8_now 96 = .ok (.ireturn, 1) := by decide +kernel
theorem dX8_now_97 : decode cX8_now 97 = .ok (.aload_n 0, 1) := by decide +kernel
theorem dX8_now_98 : decode cX8_now 98 = .ok (.sipush (-1000), 3) := by decide +kernel
theorem dX8_now_101 : decode cX8_now 101 = .ok (.invokevirtual 53, 3) := by decide +kernel
theorem dX8_now_104 : decode cX8_now 104 = .ok (.ireturn, 1) := by decide +kernel
set_option maxRecDepth 20000 in
theorem ggX8_of_X3_hasPoint : GoodIn wsX8_of wsX3_hasPoint := goodIn_r _ [11, 12, 39, 40, 41, 42, 43, 44, 45, 46, 47, 48] (by decide +kernel) (by decide +kernel)
set_option maxRecDepth 20000 in
theorem gX8_of_X3_hasPoint : GoodIn wsX8_of (wsV RX8 117 RX3 yX3_hasPoint wsX3_hasPoint) := goodIn_app (goodIn_of _ (by decide +kernel)) ggX8_of_X3_hasPoint
set_option maxRecDepth 20000 in
theorem ggX8_of_X8_refuseAsBad : GoodIn wsX8_of wsX8_refuseAsBad := goodIn_r _ [17, 18, 22, 23, 24, 25, 26, 27, 28, 29] (by decide +kernel) (by decide +kernel)
set_option maxRecDepth 20000 in
theorem gX8_of_X8_refuseAsBad : GoodIn wsX8_of (wsV RX8 53 RX8 yX8_refuseAsBad wsX8_refuseAsBad) := goodIn_app (goodIn_of _ (by decide +kernel)) ggX8_of_X8_refuseAsBad
set_option maxRecDepth 20000 in
theorem ggX8_of_X8_has : GoodIn wsX8_of wsX8_has := goodIn_r _ [21] (by decide +kernel) (by decide +kernel)
set_option maxRecDepth 20000 in
theorem gX8_of_X8_has : GoodIn wsX8_of (va_wsS RX8 123 yX8_has wsX8_has) := goodIn_app (goodIn_of _ (by decide +kernel)) ggX8_of_X8_has
theorem dX8_of_0 : decode cX8_of 0 = .ok (.aload_n 0, 1) := by decide +kernel
theorem dX8_of_1 : decode cX8_of 1 = .ok (.getfield 10, 3) := by decide +kernel
theorem dX8_of_4 : decode cX8_of 4 = .ok (.getfield 57, 3) := by decide +kernel
theorem dX8_of_7 : decode cX8_of 7 = .ok (.astore_n 3, 1) := by decide +kernel
theorem dX8_of_8 : decode cX8_of 8 = .ok (.aload_n 3, 1) := by decide +kernel
theorem dX8_of_9 : decode cX8_of 9 = .ok (.iload_n 1, 1) := by decide +kernel
theorem dX8_of_10 : decode cX8_of 10 = .ok (.invokevirtual 117, 3) := by decide +kernel
theorem dX8_of_13 : decode cX8_of 13 = .ok (.ifCond .ne 10, 3) := by decide +kernel
theorem dX8_of_16 : decode cX8_of 16 = .ok (.aload_n 0, 1) := by decide +kernel
theorem dX8_of_17 : decode cX8_of 17 = .ok (.bipush (-2), 2) := by decide +kernel
theorem dX8_of_19 : decode cX8_of 19 = .ok (.invokevirtual 53, 3) := by decide +kernel
theorem dX8_of_22 : decode cX8_of 22 = .ok (.ireturn, 1) := by decide +kernel
theorem dX8_of_23 : decode cX8_of 23 = .ok (.iload_n 2, 1) := by decide +kernel
theorem dX8_of_24 : decode cX8_of 24 = .ok (.tableswitch 70 0 3 #[32, 39, 46, 53], 32) := by decide +kernel
theorem dX8_of_56 : decode cX8_of 56 = .ok (.aload_n 3, 1) := by decide +kernel
theorem dX8_of_57 : decode cX8_of 57 = .ok (.getfield 166, 3) := by decide +kernel
theorem dX8_of_60 : decode cX8_of 60 = .ok (.iload_n 1, 1) := by decide +kernel
theorem dX8_of_61 : decode cX8_of 61 = .ok (.iaload, 1) := by decide +kernel
theorem dX8_of_62 : decode cX8_of 62 = .ok (.ireturn, 1) := by decide +kernel
theorem dX8_of_63 : decode cX8_of 63 = .ok (.aload_n 3, 1) := by decide +kernel
theorem dX8_of_64 : decode cX8_of 64 = .ok (.getfield 169, 3) := by decide +kernel
theorem dX8_of_67 : decode cX8_of 67 = .ok (.iload_n 1, 1) := by decide +kernel
theorem dX8_of_68 : decode cX8_of 68 = .ok (.iaload, 1) := by decide +kernel
theorem dX8_of_69 : decode cX8_of 69 = .ok (.ireturn, 1) := by decide +kernel
theorem dX8_of_70 : decode cX8_of 70 = .ok (.aload_n 3, 1) := by decide +kernel
theorem dX8_of_71 : decode cX8_of 71 = .ok (.getfield 172, 3) := by decide +kernel
theorem dX8_of_74 : decode cX8_of 74 = .ok (.iload_n 1, 1) := by decide +kernel
theorem dX8_of_75 : decode cX8_of 75 = .ok (.iaload, 1) := by decide +kernel
theorem dX8_of_76 : decode cX8_of 76 = .ok (.ireturn, 1) := by decide +kernel
theorem dX8_of_77 : decode cX8_of 77 = .ok (.aload_n 3, 1) := by decide +kernel
theorem dX8_of_78 : decode cX8_of 78 = .ok (.getfield 120, 3) := by decide +kernel
theorem dX8_of_81 : decode cX8_of 81 = .ok (.iload_n 1, 1) := by decide +kernel
theorem dX8_of_82 : decode cX8_of 82 = .ok (.invokestatic 123, 3) := by decide +kernel
theorem dX8_of_85 : decode cX8_of 85 = .ok (.ifCond .eq 7, 3) := by decide +kernel
theorem dX8_of_88 : decode cX8_of 88 = .ok (.iconst 1, 1) := by decide +kernel
theorem dX8_of_89 : decode cX8_of 89 = .ok (.goto 4, 3) := by decide +kernel
theorem dX8_of_92 : decode cX8_of 92 = .ok (.iconst 0, 1) := by decide +kernel
theorem dX8_of_93 : decode cX8_of 93 = .ok (.ireturn, 1) := by decide +kernel
theorem dX8_of_94 : decode cX8_of 94 = .ok (.aload_n 0, 1) := by decide +kernel
theorem dX8_of_95 : decode cX8_of 95 = .ok (.bipush (-2), 2) := by decide +kernel
theorem dX8_of_97 : decode cX8_of 97 = .ok (.invokevirtual 53, 3) := by decide +kernel
theorem dX8_of_100 : decode cX8_of 100 = .ok (.ireturn, 1) := by decide +kernel
set_option maxRecDepth 20000 in
theorem ggX8_about_X8_isCounsel : GoodIn wsX8_about wsX8_isCounsel := goodIn_r _ [8, 9, 10, 7, 11] (by decide +kernel) (by decide +kernel)
set_option maxRecDepth 20000 in
theorem gX8_about_X8_isCounsel : GoodIn wsX8_about (va_wsS RX8 68 yX8_isCounsel wsX8_isCounsel) := goodIn_app (goodIn_of _ (by decide +kernel)) ggX8_about_X8_isCounsel
set_option maxRecDepth 20000 in
theorem ggX8_about_X8_refuseAsBad : GoodIn wsX8_about wsX8_refuseAsBad := goodIn_r _ [15, 16, 23, 24, 25, 26, 27, 28, 29, 30] (by decide +kernel) (by decide +kernel)
set_option maxRecDepth 20000 in
theorem gX8_about_X8_refuseAsBad : GoodIn wsX8_about (wsV RX8 53 RX8 yX8_refuseAsBad wsX8_refuseAsBad) := goodIn_app (goodIn_of _ (by decide +kernel)) ggX8_about_X8_refuseAsBad
set_option maxRecDepth 20000 in
theorem ggX8_about_X3_chairOf : GoodIn wsX8_about wsX3_chairOf := goodIn_r _ [21, 22, 40, 41, 42, 43, 44, 45, 46, 47, 48, 49] (by decide +kernel) (by decide +kernel)
set_option maxRecDepth 20000 in
theorem gX8_about_X3_chairOf : GoodIn wsX8_about (wsV RX8 178 RX3 yX3_chairOf wsX3_chairOf) := goodIn_app (goodIn_of _ (by decide +kernel)) ggX8_about_X3_chairOf
theorem dX8_about_0 : decode cX8_about 0 = .ok (.aload_n 0, 1) := by decide +kernel
theorem dX8_about_1 : decode cX8_about 1 = .ok (.getfield 10, 3) := by decide +kernel
theorem dX8_about_4 : decode cX8_about 4 = .ok (.getfield 57, 3) := by decide +kernel
theorem dX8_about_7 : decode cX8_about 7 = .ok (.astore_n 3, 1) := by decide +kernel
theorem dX8_about_8 : decode cX8_about 8 = .ok (.iload_n 1, 1) := by decide +kernel
theorem dX8_about_9 : decode cX8_about 9 = .ok (.invokestatic 68, 3) := by decide +kernel
theorem dX8_about_12 : decode cX8_about 12 = .ok (.ifCond .ne 10, 3) := by decide +kernel
theorem dX8_about_15 : decode cX8_about 15 = .ok (.aload_n 0, 1) := by decide +kernel
theorem dX8_about_16 : decode cX8_about 16 = .ok (.bipush (-2), 2) := by decide +kernel
theorem dX8_about_18 : decode cX8_about 18 = .ok (.invokevirtual 53, 3) := by decide +kernel
theorem dX8_about_21 : decode cX8_about 21 = .ok (.ireturn, 1) := by decide +kernel
theorem dX8_about_22 : decode cX8_about 22 = .ok (.iload_n 2, 1) := by decide +kernel
theorem dX8_about_23 : decode cX8_about 23 = .ok (.tableswitch 45 0 2 #[25, 32, 39], 25) := by decide +kernel
theorem dX8_about_48 : decode cX8_about 48 = .ok (.aload_n 3, 1) := by decide +kernel
theorem dX8_about_49 : decode cX8_about 49 = .ok (.getfield 175, 3) := by decide +kernel
theorem dX8_about_52 : decode cX8_about 52 = .ok (.iload_n 1, 1) := by decide +kernel
theorem dX8_about_53 : decode cX8_about 53 = .ok (.iaload, 1) := by decide +kernel
theorem dX8_about_54 : decode cX8_about 54 = .ok (.ireturn, 1) := by decide +kernel
theorem dX8_about_55 : decode cX8_about 55 = .ok (.aload_n 3, 1) := by decide +kernel
theorem dX8_about_56 : decode cX8_about 56 = .ok (.getfield 75, 3) := by decide +kernel
theorem dX8_about_59 : decode cX8_about 59 = .ok (.iload_n 1, 1) := by decide +kernel
theorem dX8_about_60 : decode cX8_about 60 = .ok (.iaload, 1) := by decide +kernel
theorem dX8_about_61 : decode cX8_about 61 = .ok (.ireturn, 1) := by decide +kernel
theorem dX8_about_62 : decode cX8_about 62 = .ok (.aload_n 3, 1) := by decide +kernel
theorem dX8_about_63 : decode cX8_about 63 = .ok (.iload_n 1, 1) := by decide +kernel
theorem dX8_about_64 : decode cX8_about 64 = .ok (.invokevirtual 178, 3) := by decide +kernel
theorem dX8_about_67 : decode cX8_about 67 = .ok (.ireturn, 1) := by decide +kernel
theorem dX8_about_68 : decode cX8_about 68 = .ok (.aload_n 0, 1) := by decide +kernel
theorem dX8_about_69 : decode cX8_about 69 = .ok (.bipush (-2), 2) := by decide +kernel
theorem dX8_about_71 : decode cX8_about 71 = .ok (.invokevirtual 53, 3) := by decide +kernel
theorem dX8_about_74 : decode cX8_about 74 = .ok (.ireturn, 1) := by decide +kernel
set_option maxRecDepth 20000 in
theorem ggX8_moves_X3_hasPoint : GoodIn wsX8_moves wsX3_hasPoint := goodIn_r _ [8, 9, 97, 98, 99, 100, 101, 102, 103, 104, 105, 106] (by decide +kernel) (by decide +kernel)
set_option maxRecDepth 20000 in
theorem gX8_moves_X3_hasPoint : GoodIn wsX8_moves (wsV RX8 117 RX3 yX3_hasPoint wsX3_hasPoint) := goodIn_app (goodIn_of _ (by decide +kernel)) ggX8_moves_X3_hasPoint
set_option maxRecDepth 20000 in
theorem ggX8_moves_X8_refuseAsBad : GoodIn wsX8_moves wsX8_refuseAsBad := goodIn_r _ [14, 15, 80, 81, 82, 83, 84, 85, 86, 87] (by decide +kernel) (by decide +kernel)
set_option maxRecDepth 20000 in
theorem gX8_moves_X8_refuseAsBad : GoodIn wsX8_moves (wsV RX8 53 RX8 yX8_refuseAsBad wsX8_refuseAsBad) := goodIn_app (goodIn_of _ (by decide +kernel)) ggX8_moves_X8_refuseAsBad
set_option maxRecDepth 20000 in
theorem ggX8_moves_X8_has : GoodIn wsX8_moves wsX8_has := goodIn_r _ [18] (by decide +kernel) (by decide +kernel)
set_option maxRecDepth 20000 in
theorem gX8_moves_X8_has : GoodIn wsX8_moves (va_wsS RX8 123 yX8_has wsX8_has) := goodIn_app (goodIn_of _ (by decide +kernel)) ggX8_moves_X8_has
set_option maxRecDepth 20000 in
theorem ggX8_moves_X8_refuseAsNo : GoodIn wsX8_moves wsX8_refuseAsNo := goodIn_r _ [22, 15, 80, 81, 82, 83, 84, 85, 86, 87] (by decide +kernel) (by decide +kernel)
set_option maxRecDepth 20000 in
theorem gX8_moves_X8_refuseAsNo : GoodIn wsX8_moves (wsV RX8 127 RX8 yX8_refuseAsNo wsX8_refuseAsNo) := goodIn_app (goodIn_of _ (by decide +kernel)) ggX8_moves_X8_refuseAsNo
set_option maxRecDepth 20000 in
theorem ggX8_moves_X3_counting : GoodIn wsX8_moves wsX3_counting := goodIn_r _ [26, 27, 28, 29, 30, 5, 6, 7, 8, 9, 31, 32, 33, 34, 35, 36, 37, 38, 39, 40, 41, 42, 43, 44, 45, 46, 47, 48, 49, 50, 51, 52, 53, 54, 55, 56, 57, 58, 59, 60, 61, 62, 63, 64, 65, 66, 67, 68, 69, 70, 71, 72, 73, 74, 75, 76, 77, 78, 79, 97, 98, 99, 100, 101, 102, 103, 104, 105, 106] (by decide +kernel) (by decide +kernel)
set_option maxRecDepth 20000 in
theorem gX8_moves_X3_counting : GoodIn wsX8_moves (wsV RX8 181 RX3 yX3_counting wsX3_counting) := goodIn_app (goodIn_of _ (by decide +kernel)) ggX8_moves_X3_counting
theorem dX8_moves_0 : decode cX8_moves 0 = .ok (.aload_n 0, 1) := by decide +kernel
theorem dX8_moves_1 : decode cX8_moves 1 = .ok (.getfield 10, 3) := by decide +kernel
theorem dX8_moves_4 : decode cX8_moves 4 = .ok (.getfield 57, 3) := by decide +kernel
theorem dX8_moves_7 : decode cX8_moves 7 = .ok (.astore_n 2, 1) := by decide +kernel
theorem dX8_moves_8 : decode cX8_moves 8 = .ok (.aload_n 2, 1) := by decide +kernel
theorem dX8_moves_9 : decode cX8_moves 9 = .ok (.iload_n 1, 1) := by decide +kernel
theorem dX8_moves_10 : decode cX8_moves 10 = .ok (.invokevirtual 117, 3) := by decide +kernel
theorem dX8_moves_13 : decode cX8_moves 13 = .ok (.ifCond .ne 11, 3) := by decide +kernel
theorem dX8_moves_16 : decode cX8_moves 16 = .ok (.aload_n 0, 1) := by decide +kernel
theorem dX8_moves_17 : decode cX8_moves 17 = .ok (.sipush (-1000), 3) := by decide +kernel
theorem dX8_moves_20 : decode cX8_moves 20 = .ok (.invokevirtual 53, 3) := by decide +kernel
theorem dX8_moves_23 : decode cX8_moves 23 = .ok (.ireturn, 1) := by decide +kernel
theorem dX8_moves_24 : decode cX8_moves 24 = .ok (.aload_n 2, 1) := by decide +kernel
theorem dX8_moves_25 : decode cX8_moves 25 = .ok (.getfield 120, 3) := by decide +kernel
theorem dX8_moves_28 : decode cX8_moves 28 = .ok (.iload_n 1, 1) := by decide +kernel
theorem dX8_moves_29 : decode cX8_moves 29 = .ok (.invokestatic 123, 3) := by decide +kernel
theorem dX8_moves_32 : decode cX8_moves 32 = .ok (.ifCond .eq 11, 3) := by decide +kernel
theorem dX8_moves_35 : decode cX8_moves 35 = .ok (.aload_n 0, 1) := by decide +kernel
theorem dX8_moves_36 : decode cX8_moves 36 = .ok (.sipush (-1001), 3) := by decide +kernel
theorem dX8_moves_39 : decode cX8_moves 39 = .ok (.invokevirtual 127, 3) := by decide +kernel
theorem dX8_moves_42 : decode cX8_moves 42 = .ok (.ireturn, 1) := by decide +kernel
theorem dX8_moves_43 : decode cX8_moves 43 = .ok (.aload_n 2, 1) := by decide +kernel
theorem dX8_moves_44 : decode cX8_moves 44 = .ok (.iload_n 1, 1) := by decide +kernel
theorem dX8_moves_45 : decode cX8_moves 45 = .ok (.invokevirtual 181, 3) := by decide +kernel
theorem dX8_moves_48 : decode cX8_moves 48 = .ok (.ireturn, 1) := by decide +kernel
set_option maxRecDepth 20000 in
theorem ggX8_play_X8_within : GoodIn wsX8_play wsX8_within := goodIn_r _ [7] (by decide +kernel) (by decide +kernel)
set_option maxRecDepth 20000 in
theorem gX8_play_X8_within : GoodIn wsX8_play (va_wsS RX8 71 yX8_within wsX8_within) := goodIn_app (goodIn_of _ (by decide +kernel)) ggX8_play_X8_within
set_option maxRecDepth 20000 in
theorem ggX8_play_X8_refuseAsBad : GoodIn wsX8_play wsX8_refuseAsBad := goodIn_r _ [11, 12, 136, 137, 138, 139, 140, 141, 142, 143] (by decide +kernel) (by decide +kernel)
set_option maxRecDepth 20000 in
theorem gX8_play_X8_refuseAsBad : GoodIn wsX8_play (wsV RX8 53 RX8 yX8_refuseAsBad wsX8_refuseAsBad) := goodIn_app (goodIn_of _ (by decide +kernel)) ggX8_play_X8_refuseAsBad
set_option maxRecDepth 20000 in
theorem ggX8_play_X3_copy : GoodIn wsX8_play wsX3_copy := goodIn_r _ [17, 18, 19, 20, 21, 22, 23, 24, 25, 26, 27, 153, 154, 155, 156, 157, 158, 159, 160, 161, 162] (by decide +kernel) (by decide +kernel)
set_option maxRecDepth 20000 in
theorem gX8_play_X3_copy : GoodIn wsX8_play (wsV RX8 113 RX3 yX3_copy wsX3_copy) := goodIn_app (goodIn_of _ (by decide +kernel)) ggX8_play_X3_copy
set_option maxRecDepth 20000 in
theorem ggX8_play_X0_worth : GoodIn wsX8_play wsX0_worth := goodIn_r _ [30, 31, 32, 33, 34, 35, 36, 37, 38, 39, 29, 40, 41, 42, 16, 43, 27, 22, 19, 44, 45, 46, 47, 23, 48, 49, 50, 51, 24, 52, 53, 54, 55, 56, 57, 58, 59, 60, 61, 62, 63, 26, 25, 64, 65, 66, 67, 68, 69, 70, 71, 72, 73, 74, 75, 76, 77, 78, 79, 80, 81, 82, 83, 84, 85, 86, 87, 88, 89, 90, 91, 92, 93, 6, 94, 95, 96, 97, 98, 99, 100, 101, 102, 103, 104, 20, 21, 18, 105, 106, 107, 108, 109, 110, 111, 112, 113, 114, 115, 116, 117, 118, 119, 120, 121, 122, 123, 124, 125, 126, 127, 128, 129, 28, 153, 154, 155, 156, 157, 158, 159, 160, 161, 162] (by decide +kernel) (by decide +kernel)
set_option maxRecDepth 20000 in
theorem gX8_play_X0_worth_n186 : GoodIn wsX8_play (wsX0_worth) := ggX8_play_X0_worth
set_option maxRecDepth 20000 in
theorem ggX8_play_X0_whetherToBow : GoodIn wsX8_play wsX0_whetherToBow := goodIn_r _ [132, 40, 41, 42, 16, 43, 27, 22, 19, 44, 45, 46, 47, 23, 48, 49, 50, 51, 24, 52, 53, 54, 55, 56, 57, 58, 59, 38, 39, 29, 76, 31, 32, 33, 34, 35, 36, 37, 77, 78, 79, 80, 81, 82, 83, 84, 85, 86, 87, 88, 26, 89, 90, 91, 92, 25, 60, 61, 62, 63, 93, 6, 94, 95, 96, 97, 98, 99, 100, 101, 102, 103, 104, 20, 21, 18, 105, 106, 107, 108, 109, 110, 111, 112, 113, 114, 115, 116, 117, 118, 119, 120, 121, 122, 123, 124, 125, 126, 127, 128, 129, 28, 69, 70, 71, 72, 73, 74, 75, 30, 64, 65, 66, 67, 68, 153, 154, 155, 156, 157, 158, 159, 160, 161, 162] (by decide +kernel) (by decide +kernel)
set_option maxRecDepth 20000 in
theorem gX8_play_X0_whetherToBow : GoodIn wsX8_play (va_wsS RX8 190 yX0_whetherToBow wsX0_whetherToBow) := goodIn_app (goodIn_of _ (by decide +kernel)) ggX8_play_X0_whetherToBow
set_option maxRecDepth 20000 in
theorem ggX8_play_X0_whatToSay : GoodIn wsX8_play wsX0_whatToSay := goodIn_r _ [135, 59, 49, 50, 16, 51, 24, 52, 53, 54, 55, 56, 57, 58, 77, 78, 79, 80, 23, 60, 61, 62, 63, 22, 19, 26, 25, 27, 93, 6, 94, 95, 96, 97, 98, 99, 36, 33, 37, 100, 32, 34, 44, 45, 46, 47, 101, 102, 103, 104, 20, 21, 18, 48, 85, 86, 87, 88, 89, 90, 91, 92, 105, 106, 107, 108, 109, 110, 111, 112, 113, 114, 115, 116, 117, 118, 119, 120, 121, 122, 123, 124, 125, 126, 127, 128, 129, 28, 29, 30, 31, 35, 38, 39, 40, 41, 42, 43, 64, 65, 66, 67, 68, 69, 70, 71, 72, 73, 74, 75, 76, 81, 82, 83, 84, 153, 154, 155, 156, 157, 158, 159, 160, 161, 162] (by decide +kernel) (by decide +kernel)
set_option maxRecDepth 20000 in
theorem gX8_play_X0_whatToSay : GoodIn wsX8_play (va_wsS RX8 194 yX0_whatToSay wsX0_whatToSay) := goodIn_app (goodIn_of _ (by decide +kernel)) ggX8_play_X0_whatToSay
theorem dX8_play_0 : decode cX8_play 0 = .ok (.iconst 0, 1) := by decide +kernel
theorem dX8_play_1 : decode cX8_play 1 = .ok (.iload_n 1, 1) := by decide +kernel
theorem dX8_play_2 : decode cX8_play 2 = .ok (.iconst 2, 1) := by decide +kernel
theorem dX8_play_3 : decode cX8_play 3 = .ok (.invokestatic 71, 3) := by decide +kernel
theorem dX8_play_6 : decode cX8_play 6 = .ok (.ifCond .ne 11, 3) := by decide +kernel
theorem dX8_play_9 : decode cX8_play 9 = .ok (.aload_n 0, 1) := by decide +kernel
theorem dX8_play_10 : decode cX8_play 10 = .ok (.sipush (-1000), 3) := by decide +kernel
theorem dX8_play_13 : decode cX8_play 13 = .ok (.invokevirtual 53, 3) := by decide +kernel
theorem dX8_play_16 : decode cX8_play 16 = .ok (.ireturn, 1) := by decide +kernel
theorem dX8_play_17 : decode cX8_play 17 = .ok (.aload_n 0, 1) := by decide +kernel
theorem dX8_play_18 : decode cX8_play 18 = .ok (.getfield 27, 3) := by decide +kernel
theorem dX8_play_21 : decode cX8_play 21 = .ok (.aload_n 0, 1) := by decide +kernel
theorem dX8_play_22 : decode cX8_play 22 = .ok (.getfield 10, 3) := by decide +kernel
theorem dX8_play_25 : decode cX8_play 25 = .ok (.getfield 57, 3) := by decide +kernel
theorem dX8_play_28 : decode cX8_play 28 = .ok (.invokevirtual 113, 3) := by decide +kernel
theorem dX8_play_31 : decode cX8_play 31 = .ok (.iload_n 1, 1) := by decide +kernel
theorem dX8_play_32 : decode cX8_play 32 = .ok (.ifCond .ne 18, 3) := by decide +kernel
theorem dX8_play_35 : decode cX8_play 35 = .ok (.aload_n 0, 1) := by decide +kernel
theorem dX8_play_36 : decode cX8_play 36 = .ok (.getfield 27, 3) := by decide +kernel
theorem dX8_play_39 : decode cX8_play 39 = .ok (.sipush (-1000), 3) := by decide +kernel
theorem dX8_play_42 : decode cX8_play 42 = .ok (.sipush 1000, 3) := by decide +kernel
theorem dX8_play_45 : decode cX8_play 45 = .ok (.iconst 0, 1) := by decide +kernel
theorem dX8_play_46 : decode cX8_play 46 = .ok (.invokestatic 186, 3) := by decide +kernel
theorem dX8_play_49 : decode cX8_play 49 = .ok (.ireturn, 1) := by decide +kernel
theorem dX8_play_50 : decode cX8_play 50 = .ok (.iload_n 1, 1) := by decide +kernel
theorem dX8_play_51 : decode cX8_play 51 = .ok (.iconst 1, 1) := by decide +kernel
theorem dX8_play_52 : decode cX8_play 52 = .ok (.if_icmp .ne 13, 3) := by decide +kernel
theorem dX8_play_55 : decode cX8_play 55 = .ok (.aload_n 0, 1) := by decide +kernel
theorem dX8_play_56 : decode cX8_play 56 = .ok (.getfield 27, 3) := by decide +kernel
theorem dX8_play_59 : decode cX8_play 59 = .ok (.invokestatic 190, 3) := by decide +kernel
theorem dX8_play_62 : decode cX8_play 62 = .ok (.goto 10, 3) := by decide +kernel
theorem dX8_play_65 : decode cX8_play 65 = .ok (.aload_n 0, 1) := by decide +kernel
theorem dX8_play_66 : decode cX8_play 66 = .ok (.getfield 27, 3) := by decide +kernel
theorem dX8_play_69 : decode cX8_play 69 = .ok (.invokestatic 194, 3) := by decide +kernel
theorem dX8_play_72 : decode cX8_play 72 = .ok (.ireturn, 1) := by decide +kernel
set_option maxRecDepth 20000 in
theorem ggX8_proof_X8_isChair : GoodIn wsX8_proof wsX8_isChair := goodIn_r _ [7, 8, 9, 6, 10] (by decide +kernel) (by decide +kernel)
set_option maxRecDepth 20000 in
theorem gX8_proof_X8_isChair : GoodIn wsX8_proof (va_wsS RX8 197 yX8_isChair wsX8_isChair) := goodIn_app (goodIn_of _ (by decide +kernel)) ggX8_proof_X8_isChair
set_option maxRecDepth 20000 in
theorem ggX8_proof_X8_refuseAsBad : GoodIn wsX8_proof wsX8_refuseAsBad := goodIn_r _ [14, 15, 119, 120, 121, 122, 123, 124, 125, 126] (by decide +kernel) (by decide +kernel)
set_option maxRecDepth 20000 in
theorem gX8_proof_X8_refuseAsBad : GoodIn wsX8_proof (wsV RX8 53 RX8 yX8_refuseAsBad wsX8_refuseAsBad) := goodIn_app (goodIn_of _ (by decide +kernel)) ggX8_proof_X8_refuseAsBad
set_option maxRecDepth 20000 in
theorem ggX8_proof_X3_copy : GoodIn wsX8_proof wsX3_copy := goodIn_r _ [20, 21, 22, 23, 24, 25, 26, 27, 28, 29, 30, 136, 137, 138, 139, 140, 141, 142, 143, 144, 145] (by decide +kernel) (by decide +kernel)
set_option maxRecDepth 20000 in
theorem gX8_proof_X3_copy : GoodIn wsX8_proof (wsV RX8 113 RX3 yX3_copy wsX3_copy) := goodIn_app (goodIn_of _ (by decide +kernel)) ggX8_proof_X3_copy
set_option maxRecDepth 20000 in
theorem ggX8_proof_X4_proofFor : GoodIn wsX8_proof wsX4_proofFor := goodIn_r _ [34, 35, 36, 37, 38, 19, 39, 27, 25, 22, 29, 28, 30, 40, 41, 42, 43, 26, 44, 45, 46, 47, 48, 49, 50, 51, 52, 53, 54, 55, 56, 57, 58, 59, 33, 60, 61, 6, 62, 63, 64, 65, 66, 67, 68, 69, 70, 71, 72, 73, 74, 75, 76, 77, 78, 79, 80, 81, 23, 24, 21, 82, 83, 84, 85, 86, 87, 88, 89, 90, 91, 92, 93, 94, 95, 96, 97, 98, 99, 100, 101, 102, 103, 104, 105, 106, 107, 108, 109, 110, 111, 112, 113, 114, 115, 116, 117, 118, 136, 137, 138, 139, 140, 141, 142, 143, 144, 145] (by decide +kernel) (by decide +kernel)
set_option maxRecDepth 20000 in
theorem gX8_proof_X4_proofFor : GoodIn wsX8_proof (va_wsS RX8 200 yX4_proofFor wsX4_proofFor) := goodIn_app (goodIn_of _ (by decide +kernel)) ggX8_proof_X4_proofFor
theorem dX8_proof_0 : decode cX8_proof 0 = .ok (.iload_n 1, 1) := by decide +kernel
theorem dX8_proof_1 : decode cX8_proof 1 = .ok (.invokestatic 197, 3) := by decide +kernel
theorem dX8_proof_4 : decode cX8_proof 4 = .ok (.ifCond .ne 10, 3) := by decide +kernel
theorem dX8_proof_7 : decode cX8_proof 7 = .ok (.aload_n 0, 1) := by decide +kernel
theorem dX8_proof_8 : decode cX8_proof 8 = .ok (.bipush (-2), 2) := by decide +kernel
theorem dX8_proof_10 : decode cX8_proof 10 = .ok (.invokevirtual 53, 3) := by decide +kernel
theorem dX8_proof_13 : decode cX8_proof 13 = .ok (.ireturn, 1) := by decide +kernel
theorem dX8_proof_14 : decode cX8_proof 14 = .ok (.aload_n 0, 1) := by decide +kernel
theorem dX8_proof_15 : decode cX8_proof 15 = .ok (.getfield 27, 3) := by decide +kernel
theorem dX8_proof_18 : decode cX8_proof 18 = .ok (.aload_n 0, 1) := by decide +kernel
theorem dX8_proof_19 : decode cX8_proof 19 = .ok (.getfield 10, 3) := by decide +kernel
theorem dX8_proof_22 : decode cX8_proof 22 = .ok (.getfield 57, 3) := by decide +kernel
theorem dX8_proof_25 : decode cX8_proof 25 = .ok (.invokevirtual 113, 3) := by decide +kernel
theorem dX8_proof_28 : decode cX8_proof 28 = .ok (.aload_n 0, 1) := by decide +kernel
theorem dX8_proof_29 : decode cX8_proof 29 = .ok (.getfield 27, 3) := by decide +kernel
theorem dX8_proof_32 : decode cX8_proof 32 = .ok (.iload_n 1, 1) := by decide +kernel
theorem dX8_proof_33 : decode cX8_proof 33 = .ok (.invokestatic 200, 3) := by decide +kernel
theorem dX8_proof_36 : decode cX8_proof 36 = .ok (.ireturn, 1) := by decide +kernel
set_option maxRecDepth 20000 in
theorem ggX8_ends_X8_within : GoodIn wsX8_ends wsX8_within := goodIn_r _ [7] (by decide +kernel) (by decide +kernel)
set_option maxRecDepth 20000 in
theorem gX8_ends_X8_within : GoodIn wsX8_ends (va_wsS RX8 71 yX8_within wsX8_within) := goodIn_app (goodIn_of _ (by decide +kernel)) ggX8_ends_X8_within
set_option maxRecDepth 20000 in
theorem ggX8_ends_X8_refuseAsBad : GoodIn wsX8_ends wsX8_refuseAsBad := goodIn_r _ [11, 12, 17, 18, 19, 20, 21, 22, 23, 24] (by decide +kernel) (by decide +kernel)
set_option maxRecDepth 20000 in
theorem gX8_ends_X8_refuseAsBad : GoodIn wsX8_ends (wsV RX8 53 RX8 yX8_refuseAsBad wsX8_refuseAsBad) := goodIn_app (goodIn_of _ (by decide +kernel)) ggX8_ends_X8_refuseAsBad
set_option maxRecDepth 20000 in
theorem ggX8_ends_X8_refuseAsFull : GoodIn wsX8_ends wsX8_refuseAsFull := goodIn_r _ [16, 12, 17, 18, 19, 20, 21, 22, 23, 24] (by decide +kernel) (by decide +kernel)
set_option maxRecDepth 20000 in
theorem gX8_ends_X8_refuseAsFull : GoodIn wsX8_ends (wsV RX8 85 RX8 yX8_refuseAsFull wsX8_refuseAsFull) := goodIn_app (goodIn_of _ (by decide +kernel)) ggX8_ends_X8_refuseAsFull
theorem dX8_ends_0 : decode cX8_ends 0 = .ok (.bipush (-99), 2) := by decide +kernel
theorem dX8_ends_2 : decode cX8_ends 2 = .ok (.iload_n 1, 1) := by decide +kernel
theorem dX8_ends_3 : decode cX8_ends 3 = .ok (.bipush 99, 2) := by decide +kernel
theorem dX8_ends_5 : decode cX8_ends 5 = .ok (.invokestatic 71, 3) := by decide +kernel
theorem dX8_ends_8 : decode cX8_ends 8 = .ok (.ifCond .ne 10, 3) := by decide +kernel
theorem dX8_ends_11 : decode cX8_ends 11 = .ok (.aload_n 0, 1) := by decide +kernel
theorem dX8_ends_12 : decode cX8_ends 12 = .ok (.bipush (-2), 2) := by decide +kernel
theorem dX8_ends_14 : decode cX8_ends 14 = .ok (.invokevirtual 53, 3) := by decide +kernel
theorem dX8_ends_17 : decode cX8_ends 17 = .ok (.ireturn, 1) := by decide +kernel
theorem dX8_ends_18 : decode cX8_ends 18 = .ok (.aload_n 0, 1) := by decide +kernel
theorem dX8_ends_19 : decode cX8_ends 19 = .ok (.getfield 10, 3) := by decide +kernel
theorem dX8_ends_22 : decode cX8_ends 22 = .ok (.getfield 206, 3) := by decide +kernel
theorem dX8_ends_25 : decode cX8_ends 25 = .ok (.iconst 4, 1) := by decide +kernel
theorem dX8_ends_26 : decode cX8_ends 26 = .ok (.if_icmp .lt 8, 3) := by decide +kernel
theorem dX8_ends_29 : decode cX8_ends 29 = .ok (.aload_n 0, 1) := by decide +kernel
theorem dX8_ends_30 : decode cX8_ends 30 = .ok (.invokevirtual 85, 3) := by decide +kernel
theorem dX8_ends_33 : decode cX8_ends 33 = .ok (.ireturn, 1) := by decide +kernel
theorem dX8_ends_34 : decode cX8_ends 34 = .ok (.aload_n 0, 1) := by decide +kernel
theorem dX8_ends_35 : decode cX8_ends 35 = .ok (.getfield 10, 3) := by decide +kernel
theorem dX8_ends_38 : decode cX8_ends 38 = .ok (.getfield 209, 3) := by decide +kernel
theorem dX8_ends_41 : decode cX8_ends 41 = .ok (.aload_n 0, 1) := by decide +kernel
theorem dX8_ends_42 : decode cX8_ends 42 = .ok (.getfield 10, 3) := by decide +kernel
theorem dX8_ends_45 : decode cX8_ends 45 = .ok (.getfield 206, 3) := by decide +kernel
theorem dX8_ends_48 : decode cX8_ends 48 = .ok (.iload_n 1, 1) := by decide +kernel
theorem dX8_ends_49 : decode cX8_ends 49 = .ok (.iastore, 1) := by decide +kernel
theorem dX8_ends_50 : decode cX8_ends 50 = .ok (.aload_n 0, 1) := by decide +kernel
theorem dX8_ends_51 : decode cX8_ends 51 = .ok (.getfield 10, 3) := by decide +kernel
theorem dX8_ends_54 : decode cX8_ends 54 = .ok (.dup, 1) := by decide +kernel
theorem dX8_ends_55 : decode cX8_ends 55 = .ok (.getfield 206, 3) := by decide +kernel
theorem dX8_ends_58 : decode cX8_ends 58 = .ok (.iconst 1, 1) := by decide +kernel
theorem dX8_ends_59 : decode cX8_ends 59 = .ok (.iadd, 1) := by decide +kernel
theorem dX8_ends_60 : decode cX8_ends 60 = .ok (.putfield 206, 3) := by decide +kernel
theorem dX8_ends_63 : decode cX8_ends 63 = .ok (.aload_n 0, 1) := by decide +kernel
theorem dX8_ends_64 : decode cX8_ends 64 = .ok (.getfield 10, 3) := by decide +kernel
theorem dX8_ends_67 : decode cX8_ends 67 = .ok (.getfield 206, 3) := by decide +kernel
theorem dX8_ends_70 : decode cX8_ends 70 = .ok (.ireturn, 1) := by decide +kernel
set_option maxRecDepth 20000 in
theorem ggX8_bowed_X8_within : GoodIn wsX8_bowed wsX8_within := goodIn_r _ [8] (by decide +kernel) (by decide +kernel)
set_option maxRecDepth 20000 in
theorem gX8_bowed_X8_within : GoodIn wsX8_bowed (va_wsS RX8 71 yX8_within wsX8_within) := goodIn_app (goodIn_of _ (by decide +kernel)) ggX8_bowed_X8_within
set_option maxRecDepth 20000 in
theorem ggX8_bowed_X8_refuseAsBad : GoodIn wsX8_bowed wsX8_refuseAsBad := goodIn_r _ [12, 13, 118, 119, 120, 121, 122, 123, 124, 125] (by decide +kernel) (by decide +kernel)
set_option maxRecDepth 20000 in
theorem gX8_bowed_X8_refuseAsBad : GoodIn wsX8_bowed (wsV RX8 53 RX8 yX8_refuseAsBad wsX8_refuseAsBad) := goodIn_app (goodIn_of _ (by decide +kernel)) ggX8_bowed_X8_refuseAsBad
set_option maxRecDepth 20000 in
theorem ggX8_bowed_X3_unsaid : GoodIn wsX8_bowed wsX3_unsaid := goodIn_r _ [18, 19, 20, 135, 136, 137, 138, 139, 140, 141, 142, 143, 144] (by decide +kernel) (by decide +kernel)
set_option maxRecDepth 20000 in
theorem gX8_bowed_X3_unsaid : GoodIn wsX8_bowed (wsV RX8 160 RX3 yX3_unsaid wsX3_unsaid) := goodIn_app (goodIn_of _ (by decide +kernel)) ggX8_bowed_X3_unsaid
set_option maxRecDepth 20000 in
theorem ggX8_bowed_X3_copy : GoodIn wsX8_bowed wsX3_copy := goodIn_r _ [24, 25, 26, 27, 28, 29, 19, 20, 30, 31, 32, 135, 136, 137, 138, 139, 140, 141, 142, 143, 144] (by decide +kernel) (by decide +kernel)
set_option maxRecDepth 20000 in
theorem gX8_bowed_X3_copy : GoodIn wsX8_bowed (wsV RX8 113 RX3 yX3_copy wsX3_copy) := goodIn_app (goodIn_of _ (by decide +kernel)) ggX8_bowed_X3_copy
set_option maxRecDepth 20000 in
theorem ggX8_bowed_X4_bowsTo : GoodIn wsX8_bowed wsX4_bowsTo := goodIn_r _ [36, 37, 15, 16, 17, 18, 19, 20, 38, 7, 39, 40, 41, 42, 43, 30, 44, 45, 46, 47, 48, 49, 50, 32, 51, 52, 53, 54, 55, 56, 57, 58, 27, 28, 25, 59, 60, 61, 62, 63, 64, 65, 66, 67, 68, 69, 70, 71, 72, 73, 31, 74, 75, 76, 77, 78, 79, 80, 81, 82, 83, 84, 85, 86, 87, 88, 89, 90, 91, 92, 93, 94, 95, 96, 97, 98, 99, 100, 101, 102, 103, 104, 105, 29, 26, 106, 107, 108, 109, 110, 135, 136, 137, 138, 139, 140, 141, 142, 143, 144] (by decide +kernel) (by decide +kernel)
set_option maxRecDepth 20000 in
theorem gX8_bowed_X4_bowsTo : GoodIn wsX8_bowed (va_wsS RX8 212 yX4_bowsTo wsX4_bowsTo) := goodIn_app (goodIn_of _ (by decide +kernel)) ggX8_bowed_X4_bowsTo
set_option maxRecDepth 20000 in
theorem ggX8_bowed_X1_allEndsAre : GoodIn wsX8_bowed wsX1_allEndsAre := goodIn_r _ [115, 116, 117, 126, 127, 128, 129, 130, 131, 132, 133, 134] (by decide +kernel) (by decide +kernel)
set_option maxRecDepth 20000 in
theorem gX8_bowed_X1_allEndsAre : GoodIn wsX8_bowed (wsV RX8 216 RX1 yX1_allEndsAre wsX1_allEndsAre) := goodIn_app (goodIn_of _ (by decide +kernel)) ggX8_bowed_X1_allEndsAre
theorem dX8_bowed_0 : decode cX8_bowed 0 = .ok (.iconst 0, 1) := by decide +kernel
theorem dX8_bowed_1 : decode cX8_bowed 1 = .ok (.iload_n 1, 1) := by decide +kernel
theorem dX8_bowed_2 : decode cX8_bowed 2 = .ok (.iconst 2, 1) := by decide +kernel
theorem dX8_bowed_3 : decode cX8_bowed 3 = .ok (.invokestatic 71, 3) := by decide +kernel
theorem dX8_bowed_6 : decode cX8_bowed 6 = .ok (.ifCond .ne 10, 3) := by decide +kernel
theorem dX8_bowed_9 : decode cX8_bowed 9 = .ok (.aload_n 0, 1) := by decide +kernel
theorem dX8_bowed_10 : decode cX8_bowed 10 = .ok (.bipush (-2), 2) := by decide +kernel
theorem dX8_bowed_12 : decode cX8_bowed 12 = .ok (.invokevirtual 53, 3) := by decide +kernel
theorem dX8_bowed_15 : decode cX8_bowed 15 = .ok (.ireturn, 1) := by decide +kernel
theorem dX8_bowed_16 : decode cX8_bowed 16 = .ok (.aload_n 0, 1) := by decide +kernel
theorem dX8_bowed_17 : decode cX8_bowed 17 = .ok (.getfield 10, 3) := by decide +kernel
theorem dX8_bowed_20 : decode cX8_bowed 20 = .ok (.getfield 57, 3) := by decide +kernel
theorem dX8_bowed_23 : decode cX8_bowed 23 = .ok (.astore_n 2, 1) := by decide +kernel
theorem dX8_bowed_24 : decode cX8_bowed 24 = .ok (.aload_n 2, 1) := by decide +kernel
theorem dX8_bowed_25 : decode cX8_bowed 25 = .ok (.invokevirtual 160, 3) := by decide +kernel
theorem dX8_bowed_28 : decode cX8_bowed 28 = .ok (.istore_n 3, 1) := by decide +kernel
theorem dX8_bowed_29 : decode cX8_bowed 29 = .ok (.iconst 0, 1) := by decide +kernel
theorem dX8_bowed_30 : decode cX8_bowed 30 = .ok (.istore 4, 2) := by decide +kernel
theorem dX8_bowed_32 : decode cX8_bowed 32 = .ok (.iload_n 3, 1) := by decide +kernel
theorem dX8_bowed_33 : decode cX8_bowed 33 = .ok (.istore 5, 2) := by decide +kernel
theorem dX8_bowed_35 : decode cX8_bowed 35 = .ok (.iconst 0, 1) := by decide +kernel
theorem dX8_bowed_36 : decode cX8_bowed 36 = .ok (.istore 6, 2) := by decide +kernel
theorem dX8_bowed_38 : decode cX8_bowed 38 = .ok (.iconst 0, 1) := by decide +kernel
theorem dX8_bowed_39 : decode cX8_bowed 39 = .ok (.istore 7, 2) := by decide +kernel
theorem dX8_bowed_41 : decode cX8_bowed 41 = .ok (.iload 7, 2) := by decide +kernel
theorem dX8_bowed_43 : decode cX8_bowed 43 = .ok (.iload_n 3, 1) := by decide +kernel
theorem dX8_bowed_44 : decode cX8_bowed 44 = .ok (.if_icmp .gt 75, 3) := by decide +kernel
theorem dX8_bowed_47 : decode cX8_bowed 47 = .ok (.iload 7, 2) := by decide +kernel
theorem dX8_bowed_49 : decode cX8_bowed 49 = .ok (.iload_n 3, 1) := by decide +kernel
theorem dX8_bowed_50 : decode cX8_bowed 50 = .ok (.iconst (-1), 1) := by decide +kernel
theorem dX8_bowed_51 : decode cX8_bowed 51 = .ok (.ixor, 1) := by decide +kernel
theorem dX8_bowed_52 : decode cX8_bowed 52 = .ok (.iand, 1) := by decide +kernel
theorem dX8_bowed_53 : decode cX8_bowed 53 = .ok (.ifCond .eq 6, 3) := by decide +kernel
theorem dX8_bowed_56 : decode cX8_bowed 56 = .ok (.goto 57, 3) := by decide +kernel
theorem dX8_bowed_59 : decode cX8_bowed 59 = .ok (.aload_n 0, 1) := by decide +kernel
theorem dX8_bowed_60 : decode cX8_bowed 60 = .ok (.getfield 27, 3) := by decide +kernel
theorem dX8_bowed_63 : decode cX8_bowed 63 = .ok (.aload_n 2, 1) := by decide +kernel
theorem dX8_bowed_64 : decode cX8_bowed 64 = .ok (.invokevirtual 113, 3) := by decide +kernel
theorem dX8_bowed_67 : decode cX8_bowed 67 = .ok (.aload_n 0, 1) := by decide +kernel
theorem dX8_bowed_68 : decode cX8_bowed 68 = .ok (.getfield 27, 3) := by decide +kernel
theorem dX8_bowed_71 : decode cX8_bowed 71 = .ok (.iload 7, 2) := by decide +kernel
theorem dX8_bowed_73 : decode cX8_bowed 73 = .ok (.invokestatic 212, 3) := by decide +kernel
theorem dX8_bowed_76 : decode cX8_bowed 76 = .ok (.ifCond .eq 37, 3) := by decide +kernel
theorem dX8_bowed_79 : decode cX8_bowed 79 = .ok (.aload_n 0, 1) := by decide +kernel
theorem dX8_bowed_80 : decode cX8_bowed 80 = .ok (.getfield 10, 3) := by decide +kernel
theorem dX8_bowed_83 : decode cX8_bowed 83 = .ok (.aload_n 0, 1) := by decide +kernel
theorem dX8_bowed_84 : decode cX8_bowed 84 = .ok (.getfield 27, 3) := by decide +kernel
theorem dX8_bowed_87 : decode cX8_bowed 87 = .ok (.getfield 136, 3) := by decide +kernel
theorem dX8_bowed_90 : decode cX8_bowed 90 = .ok (.invokevirtual 216, 3) := by decide +kernel
theorem dX8_bowed_93 : decode cX8_bowed 93 = .ok (.ifCond .eq 20, 3) := by decide +kernel
theorem dX8_bowed_96 : decode cX8_bowed 96 = .ok (.iinc 4 1, 3) := by decide +kernel
theorem dX8_bowed_99 : decode cX8_bowed 99 = .ok (.iload 5, 2) := by decide +kernel
theorem dX8_bowed_101 : decode cX8_bowed 101 = .ok (.iload 7, 2) := by decide +kernel
theorem dX8_bowed_103 : decode cX8_bowed 103 = .ok (.iand, 1) := by decide +kernel
theorem dX8_bowed_104 : decode cX8_bowed 104 = .ok (.istore 5, 2) := by decide +kernel
theorem dX8_bowed_106 : decode cX8_bowed 106 = .ok (.iload 6, 2) := by decide +kernel
theorem dX8_bowed_108 : decode cX8_bowed 108 = .ok (.iload 7, 2) := by decide +kernel
theorem dX8_bowed_110 : decode cX8_bowed 110 = .ok (.ior, 1) := by decide +kernel
theorem dX8_bowed_111 : decode cX8_bowed 111 = .ok (.istore 6, 2) := by decide +kernel
theorem dX8_bowed_113 : decode cX8_bowed 113 = .ok (.iinc 7 1, 3) := by decide +kernel
theorem dX8_bowed_116 : decode cX8_bowed 116 = .ok (.goto (-75), 3) := by decide +kernel
theorem dX8_bowed_119 : decode cX8_bowed 119 = .ok (.iload_n 1, 1) := by decide +kernel
theorem dX8_bowed_120 : decode cX8_bowed 120 = .ok (.ifCond .ne 6, 3) := by decide +kernel
theorem dX8_bowed_123 : decode cX8_bowed 123 = .ok (.iload 4, 2) := by decide +kernel
theorem dX8_bowed_125 : decode cX8_bowed 125 = .ok (.ireturn, 1) := by decide +kernel
theorem dX8_bowed_126 : decode cX8_bowed 126 = .ok (.iload_n 1, 1) := by decide +kernel
theorem dX8_bowed_127 : decode cX8_bowed 127 = .ok (.iconst 2, 1) := by decide +kernel
theorem dX8_bowed_128 : decode cX8_bowed 128 = .ok (.if_icmp .ne 8, 3) := by decide +kernel
theorem dX8_bowed_131 : decode cX8_bowed 131 = .ok (.iload 6, 2) := by decide +kernel
theorem dX8_bowed_133 : decode cX8_bowed 133 = .ok (.goto 14, 3) := by decide +kernel
theorem dX8_bowed_136 : decode cX8_bowed 136 = .ok (.iload 4, 2) := by decide +kernel
theorem dX8_bowed_138 : decode cX8_bowed 138 = .ok (.ifCond .ne 7, 3) := by decide +kernel
theorem dX8_bowed_141 : decode cX8_bowed 141 = .ok (.iconst (-1), 1) := by decide +kernel
theorem dX8_bowed_142 : decode cX8_bowed 142 = .ok (.goto 5, 3) := by decide +kernel
theorem dX8_bowed_145 : decode cX8_bowed 145 = .ok (.iload 5, 2) := by decide +kernel
theorem dX8_bowed_147 : decode cX8_bowed 147 = .ok (.ireturn, 1) := by decide +kernel
set_option maxRecDepth 20000 in
theorem ggX8_note_X3_hasPoint : GoodIn wsX8_note wsX3_hasPoint := goodIn_r _ [8, 9, 47, 48, 49, 50, 51, 52, 53, 54, 55, 56] (by decide +kernel) (by decide +kernel)
set_option maxRecDepth 20000 in
theorem gX8_note_X3_hasPoint : GoodIn wsX8_note (wsV RX8 117 RX3 yX3_hasPoint wsX3_hasPoint) := goodIn_app (goodIn_of _ (by decide +kernel)) ggX8_note_X3_hasPoint
set_option maxRecDepth 20000 in
theorem ggX8_note_X8_within : GoodIn wsX8_note wsX8_within := goodIn_r _ [13] (by decide +kernel) (by decide +kernel)
set_option maxRecDepth 20000 in
theorem gX8_note_X8_within : GoodIn wsX8_note (va_wsS RX8 71 yX8_within wsX8_within) := goodIn_app (goodIn_of _ (by decide +kernel)) ggX8_note_X8_within
set_option maxRecDepth 20000 in
theorem ggX8_note_X8_refuseAsBad : GoodIn wsX8_note wsX8_refuseAsBad := goodIn_r _ [17, 18, 30, 31, 32, 33, 34, 35, 36, 37] (by decide +kernel) (by decide +kernel)
set_option maxRecDepth 20000 in
theorem gX8_note_X8_refuseAsBad : GoodIn wsX8_note (wsV RX8 53 RX8 yX8_refuseAsBad wsX8_refuseAsBad) := goodIn_app (goodIn_of _ (by decide +kernel)) ggX8_note_X8_refuseAsBad
set_option maxRecDepth 20000 in
theorem ggX8_note_X8_refuseAsFull : GoodIn wsX8_note wsX8_refuseAsFull := goodIn_r _ [22, 18, 30, 31, 32, 33, 34, 35, 36, 37] (by decide +kernel) (by decide +kernel)
set_option maxRecDepth 20000 in
theorem gX8_note_X8_refuseAsFull : GoodIn wsX8_note (wsV RX8 85 RX8 yX8_refuseAsFull wsX8_refuseAsFull) := goodIn_app (goodIn_of _ (by decide +kernel)) ggX8_note_X8_refuseAsFull
set_option maxRecDepth 20000 in
theorem ggX8_note_X1_addNote : GoodIn wsX8_note wsX1_addNote := goodIn_r _ [27, 28, 29, 38, 39, 40, 41, 42, 43, 44, 45, 46] (by decide +kernel) (by decide +kernel)
set_option maxRecDepth 20000 in
theorem gX8_note_X1_addNote : GoodIn wsX8_note (wsV RX8 222 RX1 yX1_addNote wsX1_addNote) := goodIn_app (goodIn_of _ (by decide +kernel)) ggX8_note_X1_addNote
theorem dX8_note_0 : decode cX8_note 0 = .ok (.aload_n 0, 1) := by decide +kernel
theorem dX8_note_1 : decode cX8_note 1 = .ok (.getfield 10, 3) := by decide +kernel
theorem dX8_note_4 : decode cX8_note 4 = .ok (.getfield 57, 3) := by decide +kernel
theorem dX8_note_7 : decode cX8_note 7 = .ok (.iload_n 1, 1) := by decide +kernel
theorem dX8_note_8 : decode cX8_note 8 = .ok (.invokevirtual 117, 3) := by decide +kernel
theorem dX8_note_11 : decode cX8_note 11 = .ok (.ifCond .eq 46, 3) := by decide +kernel
theorem dX8_note_14 : decode cX8_note 14 = .ok (.iconst 1, 1) := by decide +kernel
theorem dX8_note_15 : decode cX8_note 15 = .ok (.iload_n 2, 1) := by decide +kernel
theorem dX8_note_16 : decode cX8_note 16 = .ok (.bipush 9, 2) := by decide +kernel
theorem dX8_note_18 : decode cX8_note 18 = .ok (.invokestatic 71, 3) := by decide +kernel
theorem dX8_note_21 : decode cX8_note 21 = .ok (.ifCond .eq 36, 3) := by decide +kernel
theorem dX8_note_24 : decode cX8_note 24 = .ok (.bipush (-99), 2) := by decide +kernel
theorem dX8_note_26 : decode cX8_note 26 = .ok (.iload_n 3, 1) := by decide +kernel
theorem dX8_note_27 : decode cX8_note 27 = .ok (.bipush 99, 2) := by decide +kernel
theorem dX8_note_29 : decode cX8_note 29 = .ok (.invokestatic 71, 3) := by decide +kernel
theorem dX8_note_32 : decode cX8_note 32 = .ok (.ifCond .eq 25, 3) := by decide +kernel
theorem dX8_note_35 : decode cX8_note 35 = .ok (.iconst 0, 1) := by decide +kernel
theorem dX8_note_36 : decode cX8_note 36 = .ok (.iload 4, 2) := by decide +kernel
theorem dX8_note_38 : decode cX8_note 38 = .ok (.bipush 9, 2) := by decide +kernel
theorem dX8_note_40 : decode cX8_note 40 = .ok (.invokestatic 71, 3) := by decide +kernel
theorem dX8_note_43 : decode cX8_note 43 = .ok (.ifCond .eq 14, 3) := by decide +kernel
theorem dX8_note_46 : decode cX8_note 46 = .ok (.iconst 0, 1) := by decide +kernel
theorem dX8_note_47 : decode cX8_note 47 = .ok (.iload 5, 2) := by decide +kernel
theorem dX8_note_49 : decode cX8_note 49 = .ok (.bipush 40, 2) := by decide +kernel
theorem dX8_note_51 : decode cX8_note 51 = .ok (.invokestatic 71, 3) := by decide +kernel
theorem dX8_note_54 : decode cX8_note 54 = .ok (.ifCond .ne 10, 3) := by decide +kernel
theorem dX8_note_57 : decode cX8_note 57 = .ok (.aload_n 0, 1) := by decide +kernel
theorem dX8_note_58 : decode cX8_note 58 = .ok (.bipush (-2), 2) := by decide +kernel
theorem dX8_note_60 : decode cX8_note 60 = .ok (.invokevirtual 53, 3) := by decide +kernel
theorem dX8_note_63 : decode cX8_note 63 = .ok (.ireturn, 1) := by decide +kernel
theorem dX8_note_64 : decode cX8_note 64 = .ok (.aload_n 0, 1) := by decide +kernel
theorem dX8_note_65 : decode cX8_note 65 = .ok (.getfield 10, 3) := by decide +kernel
theorem dX8_note_68 : decode cX8_note 68 = .ok (.getfield 219, 3) := by decide +kernel
theorem dX8_note_71 : decode cX8_note 71 = .ok (.bipush 6, 2) := by decide +kernel
theorem dX8_note_73 : decode cX8_note 73 = .ok (.if_icmp .lt 8, 3) := by decide +kernel
theorem dX8_note_76 : decode cX8_note 76 = .ok (.aload_n 0, 1) := by decide +kernel
theorem dX8_note_77 : decode cX8_note 77 = .ok (.invokevirtual 85, 3) := by decide +kernel
theorem dX8_note_80 : decode cX8_note 80 = .ok (.ireturn, 1) := by decide +kernel
theorem dX8_note_81 : decode cX8_note 81 = .ok (.aload_n 0, 1) := by decide +kernel
theorem dX8_note_82 : decode cX8_note 82 = .ok (.getfield 10, 3) := by decide +kernel
theorem dX8_note_85 : decode cX8_note 85 = .ok (.iload_n 1, 1) := by decide +kernel
theorem dX8_note_86 : decode cX8_note 86 = .ok (.iload_n 2, 1) := by decide +kernel
theorem dX8_note_87 : decode cX8_note 87 = .ok (.iload_n 3, 1) := by decide +kernel
theorem dX8_note_88 : decode cX8_note 88 = .ok (.iload 4, 2) := by decide +kernel
theorem dX8_note_90 : decode cX8_note 90 = .ok (.iload 5, 2) := by decide +kernel
theorem dX8_note_92 : decode cX8_note 92 = .ok (.invokevirtual 222, 3) := by decide +kernel
theorem dX8_note_95 : decode cX8_note 95 = .ok (.aload_n 0, 1) := by decide +kernel
theorem dX8_note_96 : decode cX8_note 96 = .ok (.getfield 10, 3) := by decide +kernel
theorem dX8_note_99 : decode cX8_note 99 = .ok (.getfield 219, 3) := by decide +kernel
theorem dX8_note_102 : decode cX8_note 102 = .ok (.ireturn, 1) := by decide +kernel
set_option maxRecDepth 20000 in
theorem ggX8_mark_X8_isCounsel : GoodIn wsX8_mark wsX8_isCounsel := goodIn_r _ [6, 7, 8, 5, 9] (by decide +kernel) (by decide +kernel)
set_option maxRecDepth 20000 in
theorem gX8_mark_X8_isCounsel : GoodIn wsX8_mark (va_wsS RX8 68 yX8_isCounsel wsX8_isCounsel) := goodIn_app (goodIn_of _ (by decide +kernel)) ggX8_mark_X8_isCounsel
set_option maxRecDepth 20000 in
theorem ggX8_mark_X8_within : GoodIn wsX8_mark wsX8_within := goodIn_r _ [9] (by decide +kernel) (by decide +kernel)
set_option maxRecDepth 20000 in
theorem gX8_mark_X8_within : GoodIn wsX8_mark (va_wsS RX8 71 yX8_within wsX8_within) := goodIn_app (goodIn_of _ (by decide +kernel)) ggX8_mark_X8_within
set_option maxRecDepth 20000 in
theorem ggX8_mark_X8_isChair : GoodIn wsX8_mark wsX8_isChair := goodIn_r _ [12, 7, 8, 5, 9] (by decide +kernel) (by decide +kernel)
set_option maxRecDepth 20000 in
theorem gX8_mark_X8_isChair : GoodIn wsX8_mark (va_wsS RX8 197 yX8_isChair wsX8_isChair) := goodIn_app (goodIn_of _ (by decide +kernel)) ggX8_mark_X8_isChair
set_option maxRecDepth 20000 in
theorem ggX8_mark_X8_refuseAsBad : GoodIn wsX8_mark wsX8_refuseAsBad := goodIn_r _ [16, 17, 29, 30, 31, 32, 33, 34, 35, 36] (by decide +kernel) (by decide +kernel)
set_option maxRecDepth 20000 in
theorem gX8_mark_X8_refuseAsBad : GoodIn wsX8_mark (wsV RX8 53 RX8 yX8_refuseAsBad wsX8_refuseAsBad) := goodIn_app (goodIn_of _ (by decide +kernel)) ggX8_mark_X8_refuseAsBad
set_option maxRecDepth 20000 in
theorem ggX8_mark_X8_refuseAsFull : GoodIn wsX8_mark wsX8_refuseAsFull := goodIn_r _ [21, 17, 29, 30, 31, 32, 33, 34, 35, 36] (by decide +kernel) (by decide +kernel)
set_option maxRecDepth 20000 in
theorem gX8_mark_X8_refuseAsFull : GoodIn wsX8_mark (wsV RX8 85 RX8 yX8_refuseAsFull wsX8_refuseAsFull) := goodIn_app (goodIn_of _ (by decide +kernel)) ggX8_mark_X8_refuseAsFull
set_option maxRecDepth 20000 in
theorem ggX8_mark_X1_addMark : GoodIn wsX8_mark wsX1_addMark := goodIn_r _ [26, 27, 28, 37, 38, 39, 40, 41, 42, 43, 44, 45] (by decide +kernel) (by decide +kernel)
set_option maxRecDepth 20000 in
theorem gX8_mark_X1_addMark : GoodIn wsX8_mark (wsV RX8 229 RX1 yX1_addMark wsX1_addMark) := goodIn_app (goodIn_of _ (by decide +kernel)) ggX8_mark_X1_addMark
theorem dX8_mark_0 : decode cX8_mark 0 = .ok (.iload_n 1, 1) := by decide +kernel
theorem dX8_mark_1 : decode cX8_mark 1 = .ok (.invokestatic 68, 3) := by decide +kernel
theorem dX8_mark_4 : decode cX8_mark 4 = .ok (.ifCond .eq 32, 3) := by decide +kernel
theorem dX8_mark_7 : decode cX8_mark 7 = .ok (.iconst 0, 1) := by decide +kernel
theorem dX8_mark_8 : decode cX8_mark 8 = .ok (.iload_n 2, 1) := by decide +kernel
theorem dX8_mark_9 : decode cX8_mark 9 = .ok (.bipush 40, 2) := by decide +kernel
theorem dX8_mark_11 : decode cX8_mark 11 = .ok (.invokestatic 71, 3) := by decide +kernel
theorem dX8_mark_14 : decode cX8_mark 14 = .ok (.ifCond .eq 22, 3) := by decide +kernel
theorem dX8_mark_17 : decode cX8_mark 17 = .ok (.iload_n 3, 1) := by decide +kernel
theorem dX8_mark_18 : decode cX8_mark 18 = .ok (.invokestatic 197, 3) := by decide +kernel
theorem dX8_mark_21 : decode cX8_mark 21 = .ok (.ifCond .eq 15, 3) := by decide +kernel
theorem dX8_mark_24 : decode cX8_mark 24 = .ok (.bipush (-50), 2) := by decide +kernel
theorem dX8_mark_26 : decode cX8_mark 26 = .ok (.iload 4, 2) := by decide +kernel
theorem dX8_mark_28 : decode cX8_mark 28 = .ok (.bipush 50, 2) := by decide +kernel
theorem dX8_mark_30 : decode cX8_mark 30 = .ok (.invokestatic 71, 3) := by decide +kernel
theorem dX8_mark_33 : decode cX8_mark 33 = .ok (.ifCond .ne 10, 3) := by decide +kernel
theorem dX8_mark_36 : decode cX8_mark 36 = .ok (.aload_n 0, 1) := by decide +kernel
theorem dX8_mark_37 : decode cX8_mark 37 = .ok (.bipush (-2), 2) := by decide +kernel
theorem dX8_mark_39 : decode cX8_mark 39 = .ok (.invokevirtual 53, 3) := by decide +kernel
theorem dX8_mark_42 : decode cX8_mark 42 = .ok (.ireturn, 1) := by decide +kernel
theorem dX8_mark_43 : decode cX8_mark 43 = .ok (.aload_n 0, 1) := by decide +kernel
theorem dX8_mark_44 : decode cX8_mark 44 = .ok (.getfield 10, 3) := by decide +kernel
theorem dX8_mark_47 : decode cX8_mark 47 = .ok (.getfield 226, 3) := by decide +kernel
theorem dX8_mark_50 : decode cX8_mark 50 = .ok (.bipush 6, 2) := by decide +kernel
theorem dX8_mark_52 : decode cX8_mark 52 = .ok (.if_icmp .lt 8, 3) := by decide +kernel
theorem dX8_mark_55 : decode cX8_mark 55 = .ok (.aload_n 0, 1) := by decide +kernel
theorem dX8_mark_56 : decode cX8_mark 56 = .ok (.invokevirtual 85, 3) := by decide +kernel
theorem dX8_mark_59 : decode cX8_mark 59 = .ok (.ireturn, 1) := by decide +kernel
theorem dX8_mark_60 : decode cX8_mark 60 = .ok (.aload_n 0, 1) := by decide +kernel
theorem dX8_mark_61 : decode cX8_mark 61 = .ok (.getfield 10, 3) := by decide +kernel
theorem dX8_mark_64 : decode cX8_mark 64 = .ok (.iload_n 1, 1) := by decide +kernel
theorem dX8_mark_65 : decode cX8_mark 65 = .ok (.iload_n 2, 1) := by decide +kernel
theorem dX8_mark_66 : decode cX8_mark 66 = .ok (.iload_n 3, 1) := by decide +kernel
theorem dX8_mark_67 : decode cX8_mark 67 = .ok (.iload 4, 2) := by decide +kernel
theorem dX8_mark_69 : decode cX8_mark 69 = .ok (.invokevirtual 229, 3) := by decide +kernel
theorem dX8_mark_72 : decode cX8_mark 72 = .ok (.aload_n 0, 1) := by decide +kernel
theorem dX8_mark_73 : decode cX8_mark 73 = .ok (.getfield 10, 3) := by decide +kernel
theorem dX8_mark_76 : decode cX8_mark 76 = .ok (.getfield 226, 3) := by decide +kernel
theorem dX8_mark_79 : decode cX8_mark 79 = .ok (.ireturn, 1) := by decide +kernel
set_option maxRecDepth 20000 in
theorem ggX8_forget_X8_refuseAsBad : GoodIn wsX8_forget wsX8_refuseAsBad := goodIn_r _ [9, 10, 11, 12, 13, 14, 15, 16, 17, 18] (by decide +kernel) (by decide +kernel)
set_option maxRecDepth 20000 in
theorem gX8_forget_X8_refuseAsBad : GoodIn wsX8_forget (wsV RX8 53 RX8 yX8_refuseAsBad wsX8_refuseAsBad) := goodIn_app (goodIn_of _ (by decide +kernel)) ggX8_forget_X8_refuseAsBad
theorem dX8_forget_0 : decode cX8_forget 0 = .ok (.iload_n 1, 1) := by decide +kernel
theorem dX8_forget_1 : decode cX8_forget 1 = .ok (.tableswitch 81 0 2 #[27, 45, 63], 27) := by decide +kernel
theorem dX8_forget_28 : decode cX8_forget 28 = .ok (.aload_n 0, 1) := by decide +kernel
theorem dX8_forget_29 : decode cX8_forget 29 = .ok (.getfield 10, 3) := by decide +kernel
theorem dX8_forget_32 : decode cX8_forget 32 = .ok (.getfield 206, 3) := by decide +kernel
theorem dX8_forget_35 : decode cX8_forget 35 = .ok (.istore_n 2, 1) := by decide +kernel
theorem dX8_forget_36 : decode cX8_forget 36 = .ok (.aload_n 0, 1) := by decide +kernel
theorem dX8_forget_37 : decode cX8_forget 37 = .ok (.getfield 10, 3) := by decide +kernel
theorem dX8_forget_40 : decode cX8_forget 40 = .ok (.iconst 0, 1) := by decide +kernel
theorem dX8_forget_41 : decode cX8_forget 41 = .ok (.putfield 206, 3) := by decide +kernel
theorem dX8_forget_44 : decode cX8_forget 44 = .ok (.iload_n 2, 1) := by decide +kernel
theorem dX8_forget_45 : decode cX8_forget 45 = .ok (.ireturn, 1) := by decide +kernel
theorem dX8_forget_46 : decode cX8_forget 46 = .ok (.aload_n 0, 1) := by decide +kernel
theorem dX8_forget_47 : decode cX8_forget 47 = .ok (.getfield 10, 3) := by decide +kernel
theorem dX8_forget_50 : decode cX8_forget 50 = .ok (.getfield 219, 3) := by decide +kernel
theorem dX8_forget_53 : decode cX8_forget 53 = .ok (.istore_n 2, 1) := by decide +kernel
theorem dX8_forget_54 : decode cX8_forget 54 = .ok (.aload_n 0, 1) := by decide +kernel
theorem dX8_forget_55 : decode cX8_forget 55 = .ok (.getfield 10, 3) := by decide +kernel
theorem dX8_forget_58 : decode cX8_forget 58 = .ok (.iconst 0, 1) := by decide +kernel
theorem dX8_forget_59 : decode cX8_forget 59 = .ok (.putfield 219, 3) := by decide +kernel
theorem dX8_forget_62 : decode cX8_forget 62 = .ok (.iload_n 2, 1) := by decide +kernel
theorem dX8_forget_63 : decode cX8_forget 63 = .ok (.ireturn, 1) := by decide +kernel
theorem dX8_forget_64 : decode cX8_forget 64 = .ok (.aload_n 0, 1) := by decide +kernel
theorem dX8_forget_65 : decode cX8_forget 65 = .ok (.getfield 10, 3) := by decide +kernel
theorem dX8_forget_68 : decode cX8_forget 68 = .ok (.getfield 226, 3) := by decide +kernel
theorem dX8_forget_71 : decode cX8_forget 71 = .ok (.istore_n 2, 1) := by decide +kernel
theorem dX8_forget_72 : decode cX8_forget 72 = .ok (.aload_n 0, 1) := by decide +kernel
theorem dX8_forget_73 : decode cX8_forget 73 = .ok (.getfield 10, 3) := by decide +kernel
theorem dX8_forget_76 : decode cX8_forget 76 = .ok (.iconst 0, 1) := by decide +kernel
theorem dX8_forget_77 : decode cX8_forget 77 = .ok (.putfield 226, 3) := by decide +kernel
theorem dX8_forget_80 : decode cX8_forget 80 = .ok (.iload_n 2, 1) := by decide +kernel
theorem dX8_forget_81 : decode cX8_forget 81 = .ok (.ireturn, 1) := by decide +kernel
theorem dX8_forget_82 : decode cX8_forget 82 = .ok (.aload_n 0, 1) := by decide +kernel
theorem dX8_forget_83 : decode cX8_forget 83 = .ok (.bipush (-2), 2) := by decide +kernel
theorem dX8_forget_85 : decode cX8_forget 85 = .ok (.invokevirtual 53, 3) := by decide +kernel
theorem dX8_forget_88 : decode cX8_forget 88 = .ok (.ireturn, 1) := by decide +kernel
set_option maxRecDepth 20000 in
theorem ggX8_is_X3_hasPoint : GoodIn wsX8_is wsX3_hasPoint := goodIn_r _ [7, 8, 53, 54, 55, 56, 57, 58, 59, 60, 61, 62] (by decide +kernel) (by decide +kernel)
set_option maxRecDepth 20000 in
theorem gX8_is_X3_hasPoint : GoodIn wsX8_is (wsV RX8 117 RX3 yX3_hasPoint wsX3_hasPoint) := goodIn_app (goodIn_of _ (by decide +kernel)) ggX8_is_X3_hasPoint
set_option maxRecDepth 20000 in
theorem ggX8_is_X8_refuseAsBad : GoodIn wsX8_is wsX8_refuseAsBad := goodIn_r _ [13, 14, 36, 37, 38, 39, 40, 41, 42, 43] (by decide +kernel) (by decide +kernel)
set_option maxRecDepth 20000 in
theorem gX8_is_X8_refuseAsBad : GoodIn wsX8_is (wsV RX8 53 RX8 yX8_refuseAsBad wsX8_refuseAsBad) := goodIn_app (goodIn_of _ (by decide +kernel)) ggX8_is_X8_refuseAsBad
set_option maxRecDepth 20000 in
theorem ggX8_is_X1_pointKindsThatFit : GoodIn wsX8_is wsX1_pointKindsThatFit := goodIn_r _ [19, 20, 21, 22, 18, 23, 24, 25, 26, 27, 28, 29, 30, 31, 32, 33, 34, 35, 44, 45, 46, 47, 48, 49, 50, 51, 52] (by decide +kernel) (by decide +kernel)
set_option maxRecDepth 20000 in
theorem gX8_is_X1_pointKindsThatFit : GoodIn wsX8_is (wsV RX8 233 RX1 yX1_pointKindsThatFit wsX1_pointKindsThatFit) := goodIn_app (goodIn_of _ (by decide +kernel)) ggX8_is_X1_pointKindsThatFit
theorem dX8_is_0 : decode cX8_is 0 = .ok (.aload_n 0, 1) := by decide +kernel
theorem dX8_is_1 : decode cX8_is 1 = .ok (.getfield 10, 3) := by decide +kernel
theorem dX8_is_4 : decode cX8_is 4 = .ok (.getfield 57, 3) := by decide +kernel
theorem dX8_is_7 : decode cX8_is 7 = .ok (.iload_n 1, 1) := by decide +kernel
theorem dX8_is_8 : decode cX8_is 8 = .ok (.invokevirtual 117, 3) := by decide +kernel
theorem dX8_is_11 : decode cX8_is 11 = .ok (.ifCond .ne 10, 3) := by decide +kernel
theorem dX8_is_14 : decode cX8_is 14 = .ok (.aload_n 0, 1) := by decide +kernel
theorem dX8_is_15 : decode cX8_is 15 = .ok (.bipush (-2), 2) := by decide +kernel
theorem dX8_is_17 : decode cX8_is 17 = .ok (.invokevirtual 53, 3) := by decide +kernel
theorem dX8_is_20 : decode cX8_is 20 = .ok (.ireturn, 1) := by decide +kernel
theorem dX8_is_21 : decode cX8_is 21 = .ok (.aload_n 0, 1) := by decide +kernel
theorem dX8_is_22 : decode cX8_is 22 = .ok (.getfield 10, 3) := by decide +kernel
theorem dX8_is_25 : decode cX8_is 25 = .ok (.iload_n 1, 1) := by decide +kernel
theorem dX8_is_26 : decode cX8_is 26 = .ok (.invokevirtual 233, 3) := by decide +kernel
theorem dX8_is_29 : decode cX8_is 29 = .ok (.ireturn, 1) := by decide +kernel
set_option maxRecDepth 20000 in
theorem ggX8_look_X3_hasPoint : GoodIn wsX8_look wsX3_hasPoint := goodIn_r _ [8, 9, 67, 68, 69, 70, 71, 72, 73, 74, 75, 76] (by decide +kernel) (by decide +kernel)
set_option maxRecDepth 20000 in
theorem gX8_look_X3_hasPoint : GoodIn wsX8_look (wsV RX8 117 RX3 yX3_hasPoint wsX3_hasPoint) := goodIn_app (goodIn_of _ (by decide +kernel)) ggX8_look_X3_hasPoint
set_option maxRecDepth 20000 in
theorem ggX8_look_X8_refuseAsBad : GoodIn wsX8_look wsX8_refuseAsBad := goodIn_r _ [14, 15, 50, 51, 52, 53, 54, 55, 56, 57] (by decide +kernel) (by decide +kernel)
set_option maxRecDepth 20000 in
theorem gX8_look_X8_refuseAsBad : GoodIn wsX8_look (wsV RX8 53 RX8 yX8_refuseAsBad wsX8_refuseAsBad) := goodIn_app (goodIn_of _ (by decide +kernel)) ggX8_look_X8_refuseAsBad
set_option maxRecDepth 20000 in
theorem ggX8_look_X1_pointKindsThatFit : GoodIn wsX8_look wsX1_pointKindsThatFit := goodIn_r _ [20, 21, 22, 23, 19, 24, 25, 26, 27, 28, 29, 30, 31, 32, 33, 34, 35, 36, 58, 59, 60, 61, 62, 63, 64, 65, 66] (by decide +kernel) (by decide +kernel)
set_option maxRecDepth 20000 in
theorem gX8_look_X1_pointKindsThatFit : GoodIn wsX8_look (wsV RX8 233 RX1 yX1_pointKindsThatFit wsX1_pointKindsThatFit) := goodIn_app (goodIn_of _ (by decide +kernel)) ggX8_look_X1_pointKindsThatFit
set_option maxRecDepth 20000 in
theorem ggX8_look_X5_bestLook : GoodIn wsX8_look wsX5_bestLook := goodIn_r _ [39, 40, 41, 29, 42, 43, 44, 45, 46, 47, 13, 48, 49, 28, 30, 31, 32, 33, 34, 35, 36] (by decide +kernel) (by decide +kernel)
set_option maxRecDepth 20000 in
theorem gX8_look_X5_bestLook : GoodIn wsX8_look (va_wsS RX8 236 yX5_bestLook wsX5_bestLook) := goodIn_app (goodIn_of _ (by decide +kernel)) ggX8_look_X5_bestLook
theorem dX8_look_0 : decode cX8_look 0 = .ok (.aload_n 0, 1) := by decide +kernel
theorem dX8_look_1 : decode cX8_look 1 = .ok (.getfield 10, 3) := by decide +kernel
theorem dX8_look_4 : decode cX8_look 4 = .ok (.getfield 57, 3) := by decide +kernel
theorem dX8_look_7 : decode cX8_look 7 = .ok (.iload_n 1, 1) := by decide +kernel
theorem dX8_look_8 : decode cX8_look 8 = .ok (.invokevirtual 117, 3) := by decide +kernel
theorem dX8_look_11 : decode cX8_look 11 = .ok (.ifCond .ne 10, 3) := by decide +kernel
theorem dX8_look_14 : decode cX8_look 14 = .ok (.aload_n 0, 1) := by decide +kernel
theorem dX8_look_15 : decode cX8_look 15 = .ok (.bipush (-2), 2) := by decide +kernel
theorem dX8_look_17 : decode cX8_look 17 = .ok (.invokevirtual 53, 3) := by decide +kernel
theorem dX8_look_20 : decode cX8_look 20 = .ok (.ireturn, 1) := by decide +kernel
theorem dX8_look_21 : decode cX8_look 21 = .ok (.aload_n 0, 1) := by decide +kernel
theorem dX8_look_22 : decode cX8_look 22 = .ok (.getfield 10, 3) := by decide +kernel
theorem dX8_look_25 : decode cX8_look 25 = .ok (.iload_n 1, 1) := by decide +kernel
theorem dX8_look_26 : decode cX8_look 26 = .ok (.invokevirtual 233, 3) := by decide +kernel
theorem dX8_look_29 : decode cX8_look 29 = .ok (.aload_n 0, 1) := by decide +kernel
theorem dX8_look_30 : decode cX8_look 30 = .ok (.getfield 10, 3) := by decide +kernel
theorem dX8_look_33 : decode cX8_look 33 = .ok (.getfield 57, 3) := by decide +kernel
theorem dX8_look_36 : decode cX8_look 36 = .ok (.getfield 169, 3) := by decide +kernel
theorem dX8_look_39 : decode cX8_look 39 = .ok (.iload_n 1, 1) := by decide +kernel
theorem dX8_look_40 : decode cX8_look 40 = .ok (.iaload, 1) := by decide +kernel
theorem dX8_look_41 : decode cX8_look 41 = .ok (.invokestatic 236, 3) := by decide +kernel
theorem dX8_look_44 : decode cX8_look 44 = .ok (.ireturn, 1) := by decide +kernel
set_option maxRecDepth 20000 in
theorem ggX8_kinds_X8_isCounsel : GoodIn wsX8_kinds wsX8_isCounsel := goodIn_r _ [5, 6, 7, 4, 8] (by decide +kernel) (by decide +kernel)
set_option maxRecDepth 20000 in
theorem gX8_kinds_X8_isCounsel : GoodIn wsX8_kinds (va_wsS RX8 68 yX8_isCounsel wsX8_isCounsel) := goodIn_app (goodIn_of _ (by decide +kernel)) ggX8_kinds_X8_isCounsel
set_option maxRecDepth 20000 in
theorem ggX8_kinds_X8_refuseAsBad : GoodIn wsX8_kinds wsX8_refuseAsBad := goodIn_r _ [12, 13, 39, 40, 41, 42, 43, 44, 45, 46] (by decide +kernel) (by decide +kernel)
set_option maxRecDepth 20000 in
theorem gX8_kinds_X8_refuseAsBad : GoodIn wsX8_kinds (wsV RX8 53 RX8 yX8_refuseAsBad wsX8_refuseAsBad) := goodIn_app (goodIn_of _ (by decide +kernel)) ggX8_kinds_X8_refuseAsBad
set_option maxRecDepth 20000 in
theorem ggX8_kinds_X1_counselKindsThatFit : GoodIn wsX8_kinds wsX1_counselKindsThatFit := goodIn_r _ [18, 19, 20, 21, 17, 22, 23, 24, 25, 26, 27, 28, 29, 30, 31, 32, 33, 34, 35, 36, 37, 38, 47, 48, 49, 50, 51, 52, 53, 54, 55] (by decide +kernel) (by decide +kernel)
set_option maxRecDepth 20000 in
theorem gX8_kinds_X1_counselKindsThatFit : GoodIn wsX8_kinds (wsV RX8 242 RX1 yX1_counselKindsThatFit wsX1_counselKindsThatFit) := goodIn_app (goodIn_of _ (by decide +kernel)) ggX8_kinds_X1_counselKindsThatFit
theorem dX8_kinds_0 : decode cX8_kinds 0 = .ok (.iload_n 1, 1) := by decide +kernel
theorem dX8_kinds_1 : decode cX8_kinds 1 = .ok (.invokestatic 68, 3) := by decide +kernel
theorem dX8_kinds_4 : decode cX8_kinds 4 = .ok (.ifCond .ne 10, 3) := by decide +kernel
theorem dX8_kinds_7 : decode cX8_kinds 7 = .ok (.aload_n 0, 1) := by decide +kernel
theorem dX8_kinds_8 : decode cX8_kinds 8 = .ok (.bipush (-2), 2) := by decide +kernel
theorem dX8_kinds_10 : decode cX8_kinds 10 = .ok (.invokevirtual 53, 3) := by decide +kernel
theorem dX8_kinds_13 : decode cX8_kinds 13 = .ok (.ireturn, 1) := by decide +kernel
theorem dX8_kinds_14 : decode cX8_kinds 14 = .ok (.aload_n 0, 1) := by decide +kernel
theorem dX8_kinds_15 : decode cX8_kinds 15 = .ok (.getfield 10, 3) := by decide +kernel
theorem dX8_kinds_18 : decode cX8_kinds 18 = .ok (.iload_n 1, 1) := by decide +kernel
theorem dX8_kinds_19 : decode cX8_kinds 19 = .ok (.invokevirtual 242, 3) := by decide +kernel
theorem dX8_kinds_22 : decode cX8_kinds 22 = .ok (.ireturn, 1) := by decide +kernel
set_option maxRecDepth 20000 in
theorem ggX8_ask_X8_isCounsel : GoodIn wsX8_ask wsX8_isCounsel := goodIn_r _ [5, 6, 7, 4, 8] (by decide +kernel) (by decide +kernel)
set_option maxRecDepth 20000 in
theorem gX8_ask_X8_isCounsel : GoodIn wsX8_ask (va_wsS RX8 68 yX8_isCounsel wsX8_isCounsel) := goodIn_app (goodIn_of _ (by decide +kernel)) ggX8_ask_X8_isCounsel
set_option maxRecDepth 20000 in
theorem ggX8_ask_X8_refuseAsBad : GoodIn wsX8_ask wsX8_refuseAsBad := goodIn_r _ [12, 13, 48, 49, 50, 51, 52, 53, 54, 55] (by decide +kernel) (by decide +kernel)
set_option maxRecDepth 20000 in
theorem gX8_ask_X8_refuseAsBad : GoodIn wsX8_ask (wsV RX8 53 RX8 yX8_refuseAsBad wsX8_refuseAsBad) := goodIn_app (goodIn_of _ (by decide +kernel)) ggX8_ask_X8_refuseAsBad
set_option maxRecDepth 20000 in
theorem ggX8_ask_X1_counselKindsThatFit : GoodIn wsX8_ask wsX1_counselKindsThatFit := goodIn_r _ [18, 19, 20, 21, 17, 22, 23, 24, 25, 26, 27, 28, 29, 30, 31, 32, 33, 34, 35, 36, 37, 38, 56, 57, 58, 59, 60, 61, 62, 63, 64] (by decide +kernel) (by decide +kernel)
set_option maxRecDepth 20000 in
theorem gX8_ask_X1_counselKindsThatFit : GoodIn wsX8_ask (wsV RX8 242 RX1 yX1_counselKindsThatFit wsX1_counselKindsThatFit) := goodIn_app (goodIn_of _ (by decide +kernel)) ggX8_ask_X1_counselKindsThatFit
set_option maxRecDepth 20000 in
theorem ggX8_ask_X5_bestQuestion : GoodIn wsX8_ask wsX5_bestQuestion := goodIn_r _ [41, 42, 43, 27, 44, 35, 36, 37, 38, 45, 4, 46, 47, 26, 28, 29, 30, 31, 32, 33, 34] (by decide +kernel) (by decide +kernel)
set_option maxRecDepth 20000 in
theorem gX8_ask_X5_bestQuestion : GoodIn wsX8_ask (va_wsS RX8 245 yX5_bestQuestion wsX5_bestQuestion) := goodIn_app (goodIn_of _ (by decide +kernel)) ggX8_ask_X5_bestQuestion
theorem dX8_ask_0 : decode cX8_ask 0 = .ok (.iload_n 1, 1) := by decide +kernel
theorem dX8_ask_1 : decode cX8_ask 1 = .ok (.invokestatic 68, 3) := by decide +kernel
theorem dX8_ask_4 : decode cX8_ask 4 = .ok (.ifCond .ne 10, 3) := by decide +kernel
theorem dX8_ask_7 : decode cX8_ask 7 = .ok (.aload_n 0, 1) := by decide +kernel
theorem dX8_ask_8 : decode cX8_ask 8 = .ok (.bipush (-2), 2) := by decide +kernel
theorem dX8_ask_10 : decode cX8_ask 10 = .ok (.invokevirtual 53, 3) := by decide +kernel
theorem dX8_ask_13 : decode cX8_ask 13 = .ok (.ireturn, 1) := by decide +kernel
theorem dX8_ask_14 : decode cX8_ask 14 = .ok (.aload_n 0, 1) := by decide +kernel
theorem dX8_ask_15 : decode cX8_ask 15 = .ok (.getfield 10, 3) := by decide +kernel
theorem dX8_ask_18 : decode cX8_ask 18 = .ok (.iload_n 1, 1) := by decide +kernel
theorem dX8_ask_19 : decode cX8_ask 19 = .ok (.invokevirtual 242, 3) := by decide +kernel
theorem dX8_ask_22 : decode cX8_ask 22 = .ok (.invokestatic 245, 3) := by decide +kernel
theorem dX8_ask_25 : decode cX8_ask 25 = .ok (.ireturn, 1) := by decide +kernel
set_option maxRecDepth 20000 in
theorem ggX8_settle_X8_refuseAsBad : GoodIn wsX8_settle wsX8_refuseAsBad := goodIn_r _ [8, 9, 134, 135, 136, 137, 138, 139, 140, 141] (by decide +kernel) (by decide +kernel)
set_option maxRecDepth 20000 in
theorem gX8_settle_X8_refuseAsBad : GoodIn wsX8_settle (wsV RX8 53 RX8 yX8_refuseAsBad wsX8_refuseAsBad) := goodIn_app (goodIn_of _ (by decide +kernel)) ggX8_settle_X8_refuseAsBad
set_option maxRecDepth 20000 in
theorem ggX8_settle_X3_copy : GoodIn wsX8_settle wsX3_copy := goodIn_r _ [14, 15, 16, 17, 18, 19, 20, 21, 22, 23, 24, 151, 152, 153, 154, 155, 156, 157, 158, 159, 160] (by decide +kernel) (by decide +kernel)
set_option maxRecDepth 20000 in
theorem gX8_settle_X3_copy : GoodIn wsX8_settle (wsV RX8 113 RX3 yX3_copy wsX3_copy) := goodIn_app (goodIn_of _ (by decide +kernel)) ggX8_settle_X3_copy
set_option maxRecDepth 20000 in
theorem ggX8_settle_X0_worth : GoodIn wsX8_settle wsX0_worth := goodIn_r _ [27, 28, 29, 30, 31, 32, 33, 34, 35, 36, 26, 37, 38, 39, 13, 40, 24, 19, 16, 41, 42, 43, 44, 20, 45, 46, 47, 48, 21, 49, 50, 51, 52, 53, 54, 55, 56, 57, 58, 59, 60, 23, 22, 61, 62, 63, 64, 65, 66, 67, 68, 69, 70, 71, 72, 73, 74, 75, 76, 77, 78, 79, 80, 81, 82, 83, 84, 85, 86, 87, 88, 89, 90, 7, 91, 92, 93, 94, 95, 96, 97, 98, 99, 100, 101, 17, 18, 15, 102, 103, 104, 105, 106, 107, 108, 109, 110, 111, 112, 113, 114, 115, 116, 117, 118, 119, 120, 121, 122, 123, 124, 125, 126, 25, 151, 152, 153, 154, 155, 156, 157, 158, 159, 160] (by decide +kernel) (by decide +kernel)
set_option maxRecDepth 20000 in
theorem gX8_settle_X0_worth_n186 : GoodIn wsX8_settle (wsX0_worth) := ggX8_settle_X0_worth
set_option maxRecDepth 20000 in
theorem ggX8_settle_X6_rests : GoodIn wsX8_settle wsX6_rests := goodIn_r _ [130, 131, 132, 129, 133] (by decide +kernel) (by decide +kernel)
set_option maxRecDepth 20000 in
theorem gX8_settle_X6_rests : GoodIn wsX8_settle (va_wsS RX8 248 yX6_rests wsX6_rests) := goodIn_app (goodIn_of _ (by decide +kernel)) ggX8_settle_X6_rests
theorem dX8_settle_0 : decode cX8_settle 0 = .ok (.iload_n 1, 1) := by decide +kernel
theorem dX8_settle_1 : decode cX8_settle 1 = .ok (.iconst (-1), 1) := by decide +kernel
theorem dX8_settle_2 : decode cX8_settle 2 = .ok (.if_icmp .ge 10, 3) := by decide +kernel
theorem dX8_settle_5 : decode cX8_settle 5 = .ok (.aload_n 0, 1) := by decide +kernel
theorem dX8_settle_6 : decode cX8_settle 6 = .ok (.bipush (-10), 2) := by decide +kernel
theorem dX8_settle_8 : decode cX8_settle 8 = .ok (.invokevirtual 53, 3) := by decide +kernel
theorem dX8_settle_11 : decode cX8_settle 11 = .ok (.ireturn, 1) := by decide +kernel
theorem dX8_settle_12 : decode cX8_settle 12 = .ok (.aload_n 0, 1) := by decide +kernel
theorem dX8_settle_13 : decode cX8_settle 13 = .ok (.getfield 27, 3) := by decide +kernel
theorem dX8_settle_16 : decode cX8_settle 16 = .ok (.aload_n 0, 1) := by decide +kernel
theorem dX8_settle_17 : decode cX8_settle 17 = .ok (.getfield 10, 3) := by decide +kernel
theorem dX8_settle_20 : decode cX8_settle 20 = .ok (.getfield 57, 3) := by decide +kernel
theorem dX8_settle_23 : decode cX8_settle 23 = .ok (.invokevirtual 113, 3) := by decide +kernel
theorem dX8_settle_26 : decode cX8_settle 26 = .ok (.aload_n 0, 1) := by decide +kernel
theorem dX8_settle_27 : decode cX8_settle 27 = .ok (.getfield 27, 3) := by decide +kernel
theorem dX8_settle_30 : decode cX8_settle 30 = .ok (.sipush (-1000), 3) := by decide +kernel
theorem dX8_settle_33 : decode cX8_settle 33 = .ok (.sipush 1000, 3) := by decide +kernel
theorem dX8_settle_36 : decode cX8_settle 36 = .ok (.iconst 0, 1) := by decide +kernel
theorem dX8_settle_37 : decode cX8_settle 37 = .ok (.invokestatic 186, 3) := by decide +kernel
theorem dX8_settle_40 : decode cX8_settle 40 = .ok (.istore_n 2, 1) := by decide +kernel
theorem dX8_settle_41 : decode cX8_settle 41 = .ok (.iconst 0, 1) := by decide +kernel
theorem dX8_settle_42 : decode cX8_settle 42 = .ok (.istore_n 3, 1) := by decide +kernel
theorem dX8_settle_43 : decode cX8_settle 43 = .ok (.iconst 0, 1) := by decide +kernel
theorem dX8_settle_44 : decode cX8_settle 44 = .ok (.istore 4, 2) := by decide +kernel
theorem dX8_settle_46 : decode cX8_settle 46 = .ok (.iload 4, 2) := by decide +kernel
theorem dX8_settle_48 : decode cX8_settle 48 = .ok (.bipush 100, 2) := by decide +kernel
theorem dX8_settle_50 : decode cX8_settle 50 = .ok (.if_icmp .ge 37, 3) := by decide +kernel
theorem dX8_settle_53 : decode cX8_settle 53 = .ok (.iload 4, 2) := by decide +kernel
theorem dX8_settle_55 : decode cX8_settle 55 = .ok (.bipush 10, 2) := by decide +kernel
theorem dX8_settle_57 : decode cX8_settle 57 = .ok (.idiv, 1) := by decide +kernel
theorem dX8_settle_58 : decode cX8_settle 58 = .ok (.iload 4, 2) := by decide +kernel
theorem dX8_settle_60 : decode cX8_settle 60 = .ok (.bipush 10, 2) := by decide +kernel
theorem dX8_settle_62 : decode cX8_settle 62 = .ok (.irem, 1) := by decide +kernel
theorem dX8_settle_63 : decode cX8_settle 63 = .ok (.iload_n 2, 1) := by decide +kernel
theorem dX8_settle_64 : decode cX8_settle 64 = .ok (.invokestatic 248, 3) := by decide +kernel
theorem dX8_settle_67 : decode cX8_settle 67 = .ok (.ifCond .eq 14, 3) := by decide +kernel
theorem dX8_settle_70 : decode cX8_settle 70 = .ok (.iload_n 3, 1) := by decide +kernel
theorem dX8_settle_71 : decode cX8_settle 71 = .ok (.iload_n 1, 1) := by decide +kernel
theorem dX8_settle_72 : decode cX8_settle 72 = .ok (.if_icmp .ne 6, 3) := by decide +kernel
theorem dX8_settle_75 : decode cX8_settle 75 = .ok (.iload 4, 2) := by decide +kernel
theorem dX8_settle_77 : decode cX8_settle 77 = .ok (.ireturn, 1) := by decide +kernel
theorem dX8_settle_78 : decode cX8_settle 78 = .ok (.iinc 3 1, 3) := by decide +kernel
theorem dX8_settle_81 : decode cX8_settle 81 = .ok (.iinc 4 1, 3) := by decide +kernel
theorem dX8_settle_84 : decode cX8_settle 84 = .ok (.goto (-38), 3) := by decide +kernel
theorem dX8_settle_87 : decode cX8_settle 87 = .ok (.iload_n 1, 1) := by decide +kernel
theorem dX8_settle_88 : decode cX8_settle 88 = .ok (.iconst (-1), 1) := by decide +kernel
theorem dX8_settle_89 : decode cX8_settle 89 = .ok (.if_icmp .ne 7, 3) := by decide +kernel
theorem dX8_settle_92 : decode cX8_settle 92 = .ok (.iload_n 3, 1) := by decide +kernel
theorem dX8_settle_93 : decode cX8_settle 93 = .ok (.goto 5, 3) := by decide +kernel
theorem dX8_settle_96 : decode cX8_settle 96 = .ok (.bipush (-5), 2) := by decide +kernel
theorem dX8_settle_98 : decode cX8_settle 98 = .ok (.ireturn, 1) := by decide +kernel
set_option maxRecDepth 20000 in
theorem ggX8_hearings_X8_within : GoodIn wsX8_hearings wsX8_within := goodIn_r _ [8] (by decide +kernel) (by decide +kernel)
set_option maxRecDepth 20000 in
theorem gX8_hearings_X8_within : GoodIn wsX8_hearings (va_wsS RX8 71 yX8_within wsX8_within) := goodIn_app (goodIn_of _ (by decide +kernel)) ggX8_hearings_X8_within
set_option maxRecDepth 20000 in
theorem ggX8_hearings_X8_refuseAsBad : GoodIn wsX8_hearings wsX8_refuseAsBad := goodIn_r _ [12, 13, 127, 128, 129, 130, 131, 132, 133, 134] (by decide +kernel) (by decide +kernel)
set_option maxRecDepth 20000 in
theorem gX8_hearings_X8_refuseAsBad : GoodIn wsX8_hearings (wsV RX8 53 RX8 yX8_refuseAsBad wsX8_refuseAsBad) := goodIn_app (goodIn_of _ (by decide +kernel)) ggX8_hearings_X8_refuseAsBad
set_option maxRecDepth 20000 in
theorem ggX8_hearings_X3_unsaid : GoodIn wsX8_hearings wsX3_unsaid := goodIn_r _ [18, 19, 20, 144, 145, 146, 147, 148, 149, 150, 151, 152, 153] (by decide +kernel) (by decide +kernel)
set_option maxRecDepth 20000 in
theorem gX8_hearings_X3_unsaid : GoodIn wsX8_hearings (wsV RX8 160 RX3 yX3_unsaid wsX3_unsaid) := goodIn_app (goodIn_of _ (by decide +kernel)) ggX8_hearings_X3_unsaid
set_option maxRecDepth 20000 in
theorem ggX8_hearings_X3_copy : GoodIn wsX8_hearings wsX3_copy := goodIn_r _ [24, 25, 26, 27, 28, 29, 19, 20, 30, 31, 32, 144, 145, 146, 147, 148, 149, 150, 151, 152, 153] (by decide +kernel) (by decide +kernel)
set_option maxRecDepth 20000 in
theorem gX8_hearings_X3_copy : GoodIn wsX8_hearings (wsV RX8 113 RX3 yX3_copy wsX3_copy) := goodIn_app (goodIn_of _ (by decide +kernel)) ggX8_hearings_X3_copy
set_option maxRecDepth 20000 in
theorem ggX8_hearings_X4_weightOf : GoodIn wsX8_hearings wsX4_weightOf := goodIn_r _ [36, 37, 38, 15, 16, 17, 18, 19, 20, 39, 7, 40, 41, 42, 43, 44, 30, 45, 46, 47, 48, 49, 50, 51, 32, 52, 53, 54, 55, 56, 57, 58, 59, 27, 28, 25, 60, 61, 62, 63, 64, 65, 66, 67, 68, 69, 70, 71, 72, 73, 74, 31, 75, 76, 77, 78, 79, 80, 81, 82, 83, 84, 85, 86, 87, 88, 89, 90, 91, 92, 93, 94, 95, 96, 97, 98, 99, 100, 101, 102, 103, 104, 105, 106, 29, 26, 107, 108, 109, 110, 111, 144, 145, 146, 147, 148, 149, 150, 151, 152, 153] (by decide +kernel) (by decide +kernel)
set_option maxRecDepth 20000 in
theorem gX8_hearings_X4_weightOf : GoodIn wsX8_hearings (va_wsS RX8 253 yX4_weightOf wsX4_weightOf) := goodIn_app (goodIn_of _ (by decide +kernel)) ggX8_hearings_X4_weightOf
set_option maxRecDepth 20000 in
theorem ggX8_hearings_X3_counselZeroWins : GoodIn wsX8_hearings wsX3_counselZeroWins := goodIn_r _ [115, 116, 117, 118, 17, 119, 30, 71, 72, 73, 74, 31, 144, 145, 146, 147, 148, 149, 150, 151, 152, 153] (by decide +kernel) (by decide +kernel)
set_option maxRecDepth 20000 in
theorem gX8_hearings_X3_counselZeroWins : GoodIn wsX8_hearings (wsV RX8 257 RX3 yX3_counselZeroWins wsX3_counselZeroWins) := goodIn_app (goodIn_of _ (by decide +kernel)) ggX8_hearings_X3_counselZeroWins
set_option maxRecDepth 20000 in
theorem ggX8_hearings_J6_bitCount_0f7a4 : GoodIn wsX8_hearings wsJ6_bitCount_0f7a4 := goodIn_r _ [67, 68, 69, 70] (by decide +kernel) (by decide +kernel)
set_option maxRecDepth 20000 in
theorem gX8_hearings_J6_bitCount_0f7a4 : GoodIn wsX8_hearings (va_wsS RX8 260 yJ6_bitCount_0f7a4 wsJ6_bitCount_0f7a4) := goodIn_app (goodIn_of _ (by decide +kernel)) ggX8_hearings_J6_bitCount_0f7a4
set_option maxRecDepth 20000 in
theorem ggX8_hearings_X8_keepFraction : GoodIn wsX8_hearings wsX8_keepFraction := goodIn_r _ [124, 125, 126, 127, 128, 129, 130, 131, 132, 133, 134] (by decide +kernel) (by decide +kernel)
set_option maxRecDepth 20000 in
theorem gX8_hearings_X8_keepFraction : GoodIn wsX8_hearings (wsV RX8 267 RX8 yX8_keepFraction wsX8_keepFraction) := goodIn_app (goodIn_of _ (by decide +kernel)) ggX8_hearings_X8_keepFraction
theorem dX8_hearings_0 : decode cX8_hearings 0 = .ok (.iconst 0, 1) := by decide +kernel
theorem dX8_hearings_1 : decode cX8_hearings 1 = .ok (.iload_n 1, 1) := by decide +kernel
theorem dX8_hearings_2 : decode cX8_hearings 2 = .ok (.bipush 10, 2) := by decide +kernel
theorem dX8_hearings_4 : decode cX8_hearings 4 = .ok (.invokestatic 71, 3) := by decide +kernel
theorem dX8_hearings_7 : decode cX8_hearings 7 = .ok (.ifCond .ne 10, 3) := by decide +kernel
theorem dX8_hearings_10 : decode cX8_hearings 10 = .ok (.aload_n 0, 1) := by decide +kernel
theorem dX8_hearings_11 : decode cX8_hearings 11 = .ok (.bipush (-2), 2) := by decide +kernel
theorem dX8_hearings_13 : decode cX8_hearings 13 = .ok (.invokevirtual 53, 3) := by decide +kernel
theorem dX8_hearings_16 : decode cX8_hearings 16 = .ok (.ireturn, 1) := by decide +kernel
theorem dX8_hearings_17 : decode cX8_hearings 17 = .ok (.aload_n 0, 1) := by decide +kernel
theorem dX8_hearings_18 : decode cX8_hearings 18 = .ok (.getfield 10, 3) := by decide +kernel
theorem dX8_hearings_21 : decode cX8_hearings 21 = .ok (.getfield 57, 3) := by decide +kernel
theorem dX8_hearings_24 : decode cX8_hearings 24 = .ok (.astore_n 2, 1) := by decide +kernel
theorem dX8_hearings_25 : decode cX8_hearings 25 = .ok (.aload_n 2, 1) := by decide +kernel
theorem dX8_hearings_26 : decode cX8_hearings 26 = .ok (.invokevirtual 160, 3) := by decide +kernel
theorem dX8_hearings_29 : decode cX8_hearings 29 = .ok (.istore_n 3, 1) := by decide +kernel
theorem dX8_hearings_30 : decode cX8_hearings 30 = .ok (.lconst 0, 1) := by decide +kernel
theorem dX8_hearings_31 : decode cX8_hearings 31 = .ok (.lstore 4, 2) := by decide +kernel
theorem dX8_hearings_33 : decode cX8_hearings 33 = .ok (.iconst 0, 1) := by decide +kernel
theorem dX8_hearings_34 : decode cX8_hearings 34 = .ok (.istore 6, 2) := by decide +kernel
theorem dX8_hearings_36 : decode cX8_hearings 36 = .ok (.iload 6, 2) := by decide +kernel
theorem dX8_hearings_38 : decode cX8_hearings 38 = .ok (.iload_n 3, 1) := by decide +kernel
theorem dX8_hearings_39 : decode cX8_hearings 39 = .ok (.if_icmp .gt 59, 3) := by decide +kernel
theorem dX8_hearings_42 : decode cX8_hearings 42 = .ok (.iload 6, 2) := by decide +kernel
theorem dX8_hearings_44 : decode cX8_hearings 44 = .ok (.iload_n 3, 1) := by decide +kernel
theorem dX8_hearings_45 : decode cX8_hearings 45 = .ok (.iconst (-1), 1) := by decide +kernel
theorem dX8_hearings_46 : decode cX8_hearings 46 = .ok (.ixor, 1) := by decide +kernel
theorem dX8_hearings_47 : decode cX8_hearings 47 = .ok (.iand, 1) := by decide +kernel
theorem dX8_hearings_48 : decode cX8_hearings 48 = .ok (.ifCond .ne 44, 3) := by decide +kernel
theorem dX8_hearings_51 : decode cX8_hearings 51 = .ok (.aload_n 0, 1) := by decide +kernel
theorem dX8_hearings_52 : decode cX8_hearings 52 = .ok (.getfield 27, 3) := by decide +kernel
theorem dX8_hearings_55 : decode cX8_hearings 55 = .ok (.aload_n 2, 1) := by decide +kernel
theorem dX8_hearings_56 : decode cX8_hearings 56 = .ok (.invokevirtual 113, 3) := by decide +kernel
theorem dX8_hearings_59 : decode cX8_hearings 59 = .ok (.aload_n 0, 1) := by decide +kernel
theorem dX8_hearings_60 : decode cX8_hearings 60 = .ok (.getfield 27, 3) := by decide +kernel
theorem dX8_hearings_63 : decode cX8_hearings 63 = .ok (.iload 6, 2) := by decide +kernel
theorem dX8_hearings_65 : decode cX8_hearings 65 = .ok (.iload_n 1, 1) := by decide +kernel
theorem dX8_hearings_66 : decode cX8_hearings 66 = .ok (.invokestatic 253, 3) := by decide +kernel
theorem dX8_hearings_69 : decode cX8_hearings 69 = .ok (.lstore 7, 2) := by decide +kernel
theorem dX8_hearings_71 : decode cX8_hearings 71 = .ok (.lload 4, 2) := by decide +kernel
theorem dX8_hearings_73 : decode cX8_hearings 73 = .ok (.aload_n 0, 1) := by decide +kernel
theorem dX8_hearings_74 : decode cX8_hearings 74 = .ok (.getfield 27, 3) := by decide +kernel
theorem dX8_hearings_77 : decode cX8_hearings 77 = .ok (.invokevirtual 257, 3) := by decide +kernel
theorem dX8_hearings_80 : decode cX8_hearings 80 = .ok (.ifCond .eq 8, 3) := by decide +kernel
theorem dX8_hearings_83 : decode cX8_hearings 83 = .ok (.lload 7, 2) := by decide +kernel
theorem dX8_hearings_85 : decode cX8_hearings 85 = .ok (.goto 4, 3) := by decide +kernel
theorem dX8_hearings_88 : decode cX8_hearings 88 = .ok (.lconst 0, 1) := by decide +kernel
theorem dX8_hearings_89 : decode cX8_hearings 89 = .ok (.ladd, 1) := by decide +kernel
theorem dX8_hearings_90 : decode cX8_hearings 90 = .ok (.lstore 4, 2) := by decide +kernel
theorem dX8_hearings_92 : decode cX8_hearings 92 = .ok (.iinc 6 1, 3) := by decide +kernel
theorem dX8_hearings_95 : decode cX8_hearings 95 = .ok (.goto (-59), 3) := by decide +kernel
theorem dX8_hearings_98 : decode cX8_hearings 98 = .ok (.lconst 1, 1) := by decide +kernel
theorem dX8_hearings_99 : decode cX8_hearings 99 = .ok (.lstore 6, 2) := by decide +kernel
theorem dX8_hearings_101 : decode cX8_hearings 101 = .ok (.iload_n 3, 1) := by decide +kernel
theorem dX8_hearings_102 : decode cX8_hearings 102 = .ok (.invokestatic 260, 3) := by decide +kernel
theorem dX8_hearings_105 : decode cX8_hearings 105 = .ok (.istore 8, 2) := by decide +kernel
theorem dX8_hearings_107 : decode cX8_hearings 107 = .ok (.iload 8, 2) := by decide +kernel
theorem dX8_hearings_109 : decode cX8_hearings 109 = .ok (.ifCond .le 17, 3) := by decide +kernel
theorem dX8_hearings_112 : decode cX8_hearings 112 = .ok (.lload 6, 2) := by decide +kernel
theorem dX8_hearings_114 : decode cX8_hearings 114 = .ok (.ldc2_w 265, 3) := by decide +kernel
theorem dX8_hearings_117 : decode cX8_hearings 117 = .ok (.lmul, 1) := by decide +kernel
theorem dX8_hearings_118 : decode cX8_hearings 118 = .ok (.lstore 6, 2) := by decide +kernel
theorem dX8_hearings_120 : decode cX8_hearings 120 = .ok (.iinc 8 (-1), 3) := by decide +kernel
theorem dX8_hearings_123 : decode cX8_hearings 123 = .ok (.goto (-16), 3) := by decide +kernel
theorem dX8_hearings_126 : decode cX8_hearings 126 = .ok (.aload_n 0, 1) := by decide +kernel
theorem dX8_hearings_127 : decode cX8_hearings 127 = .ok (.lload 4, 2) := by decide +kernel
theorem dX8_hearings_129 : decode cX8_hearings 129 = .ok (.lload 6, 2) := by decide +kernel
theorem dX8_hearings_131 : decode cX8_hearings 131 = .ok (.invokevirtual 267, 3) := by decide +kernel
theorem dX8_hearings_134 : decode cX8_hearings 134 = .ok (.iconst 1, 1) := by decide +kernel
theorem dX8_hearings_135 : decode cX8_hearings 135 = .ok (.ireturn, 1) := by decide +kernel
set_option maxRecDepth 20000 in
theorem ggX8_days_X8_within : GoodIn wsX8_days wsX8_within := goodIn_r _ [8] (by decide +kernel) (by decide +kernel)
set_option maxRecDepth 20000 in
theorem gX8_days_X8_within : GoodIn wsX8_days (va_wsS RX8 71 yX8_within wsX8_within) := goodIn_app (goodIn_of _ (by decide +kernel)) ggX8_days_X8_within
set_option maxRecDepth 20000 in
theorem ggX8_days_X8_refuseAsBad : GoodIn wsX8_days wsX8_refuseAsBad := goodIn_r _ [12, 13, 122, 123, 124, 125, 126, 127, 128, 129] (by decide +kernel) (by decide +kernel)
set_option maxRecDepth 20000 in
theorem gX8_days_X8_refuseAsBad : GoodIn wsX8_days (wsV RX8 53 RX8 yX8_refuseAsBad wsX8_refuseAsBad) := goodIn_app (goodIn_of _ (by decide +kernel)) ggX8_days_X8_refuseAsBad
set_option maxRecDepth 20000 in
theorem ggX8_days_X3_copy : GoodIn wsX8_days wsX3_copy := goodIn_r _ [18, 19, 20, 21, 22, 23, 24, 25, 26, 27, 28, 139, 140, 141, 142, 143, 144, 145, 146, 147, 148] (by decide +kernel) (by decide +kernel)
set_option maxRecDepth 20000 in
theorem gX8_days_X3_copy : GoodIn wsX8_days (wsV RX8 113 RX3 yX3_copy wsX3_copy) := goodIn_app (goodIn_of _ (by decide +kernel)) ggX8_days_X3_copy
set_option maxRecDepth 20000 in
theorem ggX8_days_X4_dayBy : GoodIn wsX8_days wsX4_dayBy := goodIn_r _ [32, 33, 34, 35, 36, 37, 38, 39, 40, 17, 41, 24, 25, 42, 7, 43, 44, 45, 46, 47, 26, 48, 49, 50, 51, 52, 53, 54, 28, 55, 56, 57, 58, 59, 60, 61, 62, 21, 22, 19, 63, 64, 65, 66, 67, 68, 69, 70, 71, 72, 73, 74, 75, 76, 77, 27, 78, 79, 80, 81, 82, 83, 84, 85, 86, 87, 88, 89, 90, 91, 92, 93, 94, 95, 96, 97, 98, 99, 100, 101, 102, 103, 104, 105, 106, 107, 108, 109, 20, 23, 110, 111, 112, 113, 139, 140, 141, 142, 143, 144, 145, 146, 147, 148] (by decide +kernel) (by decide +kernel)
set_option maxRecDepth 20000 in
theorem gX8_days_X4_dayBy : GoodIn wsX8_days (va_wsS RX8 272 yX4_dayBy wsX4_dayBy) := goodIn_app (goodIn_of _ (by decide +kernel)) ggX8_days_X4_dayBy
set_option maxRecDepth 20000 in
theorem ggX8_days_X3_counselZeroWins : GoodIn wsX8_days wsX3_counselZeroWins := goodIn_r _ [117, 118, 119, 120, 17, 121, 26, 74, 75, 76, 77, 27, 139, 140, 141, 142, 143, 144, 145, 146, 147, 148] (by decide +kernel) (by decide +kernel)
set_option maxRecDepth 20000 in
theorem gX8_days_X3_counselZeroWins : GoodIn wsX8_days (wsV RX8 257 RX3 yX3_counselZeroWins wsX3_counselZeroWins) := goodIn_app (goodIn_of _ (by decide +kernel)) ggX8_days_X3_counselZeroWins
theorem dX8_days_0 : decode cX8_days 0 = .ok (.iconst 0, 1) := by decide +kernel
theorem dX8_days_1 : decode cX8_days 1 = .ok (.iload_n 1, 1) := by decide +kernel
theorem dX8_days_2 : decode cX8_days 2 = .ok (.ldc_w 271, 3) := by decide +kernel
theorem dX8_days_5 : decode cX8_days 5 = .ok (.invokestatic 71, 3) := by decide +kernel
theorem dX8_days_8 : decode cX8_days 8 = .ok (.ifCond .eq 13, 3) := by decide +kernel
theorem dX8_days_11 : decode cX8_days 11 = .ok (.iconst 0, 1) := by decide +kernel
theorem dX8_days_12 : decode cX8_days 12 = .ok (.iload_n 2, 1) := by decide +kernel
theorem dX8_days_13 : decode cX8_days 13 = .ok (.bipush 60, 2) := by decide +kernel
theorem dX8_days_15 : decode cX8_days 15 = .ok (.invokestatic 71, 3) := by decide +kernel
theorem dX8_days_18 : decode cX8_days 18 = .ok (.ifCond .ne 10, 3) := by decide +kernel
theorem dX8_days_21 : decode cX8_days 21 = .ok (.aload_n 0, 1) := by decide +kernel
theorem dX8_days_22 : decode cX8_days 22 = .ok (.bipush (-2), 2) := by decide +kernel
theorem dX8_days_24 : decode cX8_days 24 = .ok (.invokevirtual 53, 3) := by decide +kernel
theorem dX8_days_27 : decode cX8_days 27 = .ok (.ireturn, 1) := by decide +kernel
theorem dX8_days_28 : decode cX8_days 28 = .ok (.iload_n 1, 1) := by decide +kernel
theorem dX8_days_29 : decode cX8_days 29 = .ok (.i2l, 1) := by decide +kernel
theorem dX8_days_30 : decode cX8_days 30 = .ok (.lstore_n 3, 1) := by decide +kernel
theorem dX8_days_31 : decode cX8_days 31 = .ok (.iconst 0, 1) := by decide +kernel
theorem dX8_days_32 : decode cX8_days 32 = .ok (.istore 5, 2) := by decide +kernel
theorem dX8_days_34 : decode cX8_days 34 = .ok (.iconst 0, 1) := by decide +kernel
theorem dX8_days_35 : decode cX8_days 35 = .ok (.istore 6, 2) := by decide +kernel
theorem dX8_days_37 : decode cX8_days 37 = .ok (.iload 6, 2) := by decide +kernel
theorem dX8_days_39 : decode cX8_days 39 = .ok (.iload_n 2, 1) := by decide +kernel
theorem dX8_days_40 : decode cX8_days 40 = .ok (.if_icmp .ge 52, 3) := by decide +kernel
theorem dX8_days_43 : decode cX8_days 43 = .ok (.aload_n 0, 1) := by decide +kernel
theorem dX8_days_44 : decode cX8_days 44 = .ok (.getfield 27, 3) := by decide +kernel
theorem dX8_days_47 : decode cX8_days 47 = .ok (.aload_n 0, 1) := by decide +kernel
theorem dX8_days_48 : decode cX8_days 48 = .ok (.getfield 10, 3) := by decide +kernel
theorem dX8_days_51 : decode cX8_days 51 = .ok (.getfield 57, 3) := by decide +kernel
theorem dX8_days_54 : decode cX8_days 54 = .ok (.invokevirtual 113, 3) := by decide +kernel
theorem dX8_days_57 : decode cX8_days 57 = .ok (.aload_n 0, 1) := by decide +kernel
theorem dX8_days_58 : decode cX8_days 58 = .ok (.getfield 27, 3) := by decide +kernel
theorem dX8_days_61 : decode cX8_days 61 = .ok (.lload_n 3, 1) := by decide +kernel
theorem dX8_days_62 : decode cX8_days 62 = .ok (.invokestatic 272, 3) := by decide +kernel
theorem dX8_days_65 : decode cX8_days 65 = .ok (.lstore_n 3, 1) := by decide +kernel
theorem dX8_days_66 : decode cX8_days 66 = .ok (.iload 5, 2) := by decide +kernel
theorem dX8_days_68 : decode cX8_days 68 = .ok (.aload_n 0, 1) := by decide +kernel
theorem dX8_days_69 : decode cX8_days 69 = .ok (.getfield 27, 3) := by decide +kernel
theorem dX8_days_72 : decode cX8_days 72 = .ok (.invokevirtual 257, 3) := by decide +kernel
theorem dX8_days_75 : decode cX8_days 75 = .ok (.ifCond .eq 7, 3) := by decide +kernel
theorem dX8_days_78 : decode cX8_days 78 = .ok (.iconst 1, 1) := by decide +kernel
theorem dX8_days_79 : decode cX8_days 79 = .ok (.goto 4, 3) := by decide +kernel
theorem dX8_days_82 : decode cX8_days 82 = .ok (.iconst 0, 1) := by decide +kernel
theorem dX8_days_83 : decode cX8_days 83 = .ok (.iadd, 1) := by decide +kernel
theorem dX8_days_84 : decode cX8_days 84 = .ok (.istore 5, 2) := by decide +kernel
theorem dX8_days_86 : decode cX8_days 86 = .ok (.iinc 6 1, 3) := by decide +kernel
theorem dX8_days_89 : decode cX8_days 89 = .ok (.goto (-52), 3) := by decide +kernel
theorem dX8_days_92 : decode cX8_days 92 = .ok (.iload 5, 2) := by decide +kernel
theorem dX8_days_94 : decode cX8_days 94 = .ok (.ireturn, 1) := by decide +kernel
set_option maxRecDepth 20000 in
theorem ggX8_part_X8_within : GoodIn wsX8_part wsX8_within := goodIn_r _ [6] (by decide +kernel) (by decide +kernel)
set_option maxRecDepth 20000 in
theorem gX8_part_X8_within : GoodIn wsX8_part (va_wsS RX8 71 yX8_within wsX8_within) := goodIn_app (goodIn_of _ (by decide +kernel)) ggX8_part_X8_within
set_option maxRecDepth 20000 in
theorem ggX8_part_X8_refuseAsBad : GoodIn wsX8_part wsX8_refuseAsBad := goodIn_r _ [10, 11, 12, 13, 14, 15, 16, 17, 18, 19] (by decide +kernel) (by decide +kernel)
set_option maxRecDepth 20000 in
theorem gX8_part_X8_refuseAsBad : GoodIn wsX8_part (wsV RX8 53 RX8 yX8_refuseAsBad wsX8_refuseAsBad) := goodIn_app (goodIn_of _ (by decide +kernel)) ggX8_part_X8_refuseAsBad
theorem dX8_part_0 : decode cX8_part 0 = .ok (.iconst 0, 1) := by decide +kernel
theorem dX8_part_1 : decode cX8_part 1 = .ok (.iload_n 1, 1) := by decide +kernel
theorem dX8_part_2 : decode cX8_part 2 = .ok (.iconst 1, 1) := by decide +kernel
theorem dX8_part_3 : decode cX8_part 3 = .ok (.invokestatic 71, 3) := by decide +kernel
theorem dX8_part_6 : decode cX8_part 6 = .ok (.ifCond .ne 11, 3) := by decide +kernel
theorem dX8_part_9 : decode cX8_part 9 = .ok (.aload_n 0, 1) := by decide +kernel
theorem dX8_part_10 : decode cX8_part 10 = .ok (.bipush (-2), 2) := by decide +kernel
theorem dX8_part_12 : decode cX8_part 12 = .ok (.invokevirtual 53, 3) := by decide +kernel
theorem dX8_part_15 : decode cX8_part 15 = .ok (.i2l, 1) := by decide +kernel
theorem dX8_part_16 : decode cX8_part 16 = .ok (.lreturn, 1) := by decide +kernel
theorem dX8_part_17 : decode cX8_part 17 = .ok (.iload_n 1, 1) := by decide +kernel
theorem dX8_part_18 : decode cX8_part 18 = .ok (.ifCond .ne 10, 3) := by decide +kernel
theorem dX8_part_21 : decode cX8_part 21 = .ok (.aload_n 0, 1) := by decide +kernel
theorem dX8_part_22 : decode cX8_part 22 = .ok (.getfield 42, 3) := by decide +kernel
theorem dX8_part_25 : decode cX8_part 25 = .ok (.goto 7, 3) := by decide +kernel
theorem dX8_part_28 : decode cX8_part 28 = .ok (.aload_n 0, 1) := by decide +kernel
theorem dX8_part_29 : decode cX8_part 29 = .ok (.getfield 46, 3) := by decide +kernel
theorem dX8_part_32 : decode cX8_part 32 = .ok (.lreturn, 1) := by decide +kernel
set_option maxRecDepth 20000 in
theorem ggX8_image_X8_within : GoodIn wsX8_image wsX8_within := goodIn_r _ [7] (by decide +kernel) (by decide +kernel)
set_option maxRecDepth 20000 in
theorem gX8_image_X8_within : GoodIn wsX8_image (va_wsS RX8 71 yX8_within wsX8_within) := goodIn_app (goodIn_of _ (by decide +kernel)) ggX8_image_X8_within
set_option maxRecDepth 20000 in
theorem ggX8_image_X8_refuseAsBad : GoodIn wsX8_image wsX8_refuseAsBad := goodIn_r _ [11, 12, 46, 47, 48, 49, 50, 51, 52, 53] (by decide +kernel) (by decide +kernel)
set_option maxRecDepth 20000 in
theorem gX8_image_X8_refuseAsBad : GoodIn wsX8_image (wsV RX8 53 RX8 yX8_refuseAsBad wsX8_refuseAsBad) := goodIn_app (goodIn_of _ (by decide +kernel)) ggX8_image_X8_refuseAsBad
set_option maxRecDepth 20000 in
theorem ggX8_image_X1_copyAll : GoodIn wsX8_image wsX1_copyAll := goodIn_r _ [17, 18, 19, 20, 21, 22, 23, 24, 25, 26, 27, 28, 29, 30, 31, 32, 33, 34, 35, 36, 37, 38, 39, 40, 41, 42, 43, 44, 45, 54, 55, 56, 57, 58, 59, 60, 61, 62, 63, 64, 65, 66, 67, 68, 69, 70, 71, 72] (by decide +kernel) (by decide +kernel)
set_option maxRecDepth 20000 in
theorem gX8_image_X1_copyAll : GoodIn wsX8_image (wsV RX8 276 RX1 yX1_copyAll wsX1_copyAll) := goodIn_app (goodIn_of _ (by decide +kernel)) ggX8_image_X1_copyAll
theorem dX8_image_0 : decode cX8_image 0 = .ok (.iconst 0, 1) := by decide +kernel
theorem dX8_image_1 : decode cX8_image 1 = .ok (.iload_n 1, 1) := by decide +kernel
theorem dX8_image_2 : decode cX8_image 2 = .ok (.iconst 1, 1) := by decide +kernel
theorem dX8_image_3 : decode cX8_image 3 = .ok (.invokestatic 71, 3) := by decide +kernel
theorem dX8_image_6 : decode cX8_image 6 = .ok (.ifCond .ne 10, 3) := by decide +kernel
theorem dX8_image_9 : decode cX8_image 9 = .ok (.aload_n 0, 1) := by decide +kernel
theorem dX8_image_10 : decode cX8_image 10 = .ok (.bipush (-2), 2) := by decide +kernel
theorem dX8_image_12 : decode cX8_image 12 = .ok (.invokevirtual 53, 3) := by decide +kernel
theorem dX8_image_15 : decode cX8_image 15 = .ok (.ireturn, 1) := by decide +kernel
theorem dX8_image_16 : decode cX8_image 16 = .ok (.aload_n 0, 1) := by decide +kernel
theorem dX8_image_17 : decode cX8_image 17 = .ok (.getfield 16, 3) := by decide +kernel
theorem dX8_image_20 : decode cX8_image 20 = .ok (.iload_n 1, 1) := by decide +kernel
theorem dX8_image_21 : decode cX8_image 21 = .ok (.aaload, 1) := by decide +kernel
theorem dX8_image_22 : decode cX8_image 22 = .ok (.aload_n 0, 1) := by decide +kernel
theorem dX8_image_23 : decode cX8_image 23 = .ok (.getfield 10, 3) := by decide +kernel
theorem dX8_image_26 : decode cX8_image 26 = .ok (.invokevirtual 276, 3) := by decide +kernel
theorem dX8_image_29 : decode cX8_image 29 = .ok (.aload_n 0, 1) := by decide +kernel
theorem dX8_image_30 : decode cX8_image 30 = .ok (.getfield 20, 3) := by decide +kernel
theorem dX8_image_33 : decode cX8_image 33 = .ok (.iload_n 1, 1) := by decide +kernel
theorem dX8_image_34 : decode cX8_image 34 = .ok (.iconst 1, 1) := by decide +kernel
theorem dX8_image_35 : decode cX8_image 35 = .ok (.bastore, 1) := by decide +kernel
theorem dX8_image_36 : decode cX8_image 36 = .ok (.iconst 1, 1) := by decide +kernel
theorem dX8_image_37 : decode cX8_image 37 = .ok (.ireturn, 1) := by decide +kernel
set_option maxRecDepth 20000 in
theorem ggX8_from_X8_within : GoodIn wsX8_from wsX8_within := goodIn_r _ [7] (by decide +kernel) (by decide +kernel)
set_option maxRecDepth 20000 in
theorem gX8_from_X8_within : GoodIn wsX8_from (va_wsS RX8 71 yX8_within wsX8_within) := goodIn_app (goodIn_of _ (by decide +kernel)) ggX8_from_X8_within
set_option maxRecDepth 20000 in
theorem ggX8_from_X8_refuseAsBad : GoodIn wsX8_from wsX8_refuseAsBad := goodIn_r _ [11, 12, 50, 51, 52, 53, 54, 55, 56, 57] (by decide +kernel) (by decide +kernel)
set_option maxRecDepth 20000 in
theorem gX8_from_X8_refuseAsBad : GoodIn wsX8_from (wsV RX8 53 RX8 yX8_refuseAsBad wsX8_refuseAsBad) := goodIn_app (goodIn_of _ (by decide +kernel)) ggX8_from_X8_refuseAsBad
set_option maxRecDepth 20000 in
theorem ggX8_from_X8_refuseAsNo : GoodIn wsX8_from wsX8_refuseAsNo := goodIn_r _ [16, 12, 50, 51, 52, 53, 54, 55, 56, 57] (by decide +kernel) (by decide +kernel)
set_option maxRecDepth 20000 in
theorem gX8_from_X8_refuseAsNo : GoodIn wsX8_from (wsV RX8 127 RX8 yX8_refuseAsNo wsX8_refuseAsNo) := goodIn_app (goodIn_of _ (by decide +kernel)) ggX8_from_X8_refuseAsNo
set_option maxRecDepth 20000 in
theorem ggX8_from_X1_copyAll : GoodIn wsX8_from wsX1_copyAll := goodIn_r _ [21, 22, 23, 24, 25, 26, 27, 28, 29, 30, 31, 32, 33, 34, 35, 36, 37, 38, 39, 40, 41, 42, 43, 44, 45, 46, 47, 48, 49, 58, 59, 60, 61, 62, 63, 64, 65, 66, 67, 68, 69, 70, 71, 72, 73, 74, 75, 76] (by decide +kernel) (by decide +kernel)
set_option maxRecDepth 20000 in
theorem gX8_from_X1_copyAll : GoodIn wsX8_from (wsV RX8 276 RX1 yX1_copyAll wsX1_copyAll) := goodIn_app (goodIn_of _ (by decide +kernel)) ggX8_from_X1_copyAll
theorem dX8_from_0 : decode cX8_from 0 = .ok (.iconst 0, 1) := by decide +kernel
theorem dX8_from_1 : decode cX8_from 1 = .ok (.iload_n 1, 1) := by decide +kernel
theorem dX8_from_2 : decode cX8_from 2 = .ok (.iconst 1, 1) := by decide +kernel
theorem dX8_from_3 : decode cX8_from 3 = .ok (.invokestatic 71, 3) := by decide +kernel
theorem dX8_from_6 : decode cX8_from 6 = .ok (.ifCond .ne 10, 3) := by decide +kernel
theorem dX8_from_9 : decode cX8_from 9 = .ok (.aload_n 0, 1) := by decide +kernel
theorem dX8_from_10 : decode cX8_from 10 = .ok (.bipush (-2), 2) := by decide +kernel
theorem dX8_from_12 : decode cX8_from 12 = .ok (.invokevirtual 53, 3) := by decide +kernel
theorem dX8_from_15 : decode cX8_from 15 = .ok (.ireturn, 1) := by decide +kernel
theorem dX8_from_16 : decode cX8_from 16 = .ok (.aload_n 0, 1) := by decide +kernel
theorem dX8_from_17 : decode cX8_from 17 = .ok (.getfield 20, 3) := by decide +kernel
theorem dX8_from_20 : decode cX8_from 20 = .ok (.iload_n 1, 1) := by decide +kernel
theorem dX8_from_21 : decode cX8_from 21 = .ok (.baload, 1) := by decide +kernel
theorem dX8_from_22 : decode cX8_from 22 = .ok (.ifCond .ne 10, 3) := by decide +kernel
theorem dX8_from_25 : decode cX8_from 25 = .ok (.aload_n 0, 1) := by decide +kernel
theorem dX8_from_26 : decode cX8_from 26 = .ok (.bipush (-3), 2) := by decide +kernel
theorem dX8_from_28 : decode cX8_from 28 = .ok (.invokevirtual 127, 3) := by decide +kernel
theorem dX8_from_31 : decode cX8_from 31 = .ok (.ireturn, 1) := by decide +kernel
theorem dX8_from_32 : decode cX8_from 32 = .ok (.aload_n 0, 1) := by decide +kernel
theorem dX8_from_33 : decode cX8_from 33 = .ok (.getfield 10, 3) := by decide +kernel
theorem dX8_from_36 : decode cX8_from 36 = .ok (.aload_n 0, 1) := by decide +kernel
theorem dX8_from_37 : decode cX8_from 37 = .ok (.getfield 16, 3) := by decide +kernel
theorem dX8_from_40 : decode cX8_from 40 = .ok (.iload_n 1, 1) := by decide +kernel
theorem dX8_from_41 : decode cX8_from 41 = .ok (.aaload, 1) := by decide +kernel
theorem dX8_from_42 : decode cX8_from 42 = .ok (.invokevirtual 276, 3) := by decide +kernel
theorem dX8_from_45 : decode cX8_from 45 = .ok (.iconst 1, 1) := by decide +kernel
theorem dX8_from_46 : decode cX8_from 46 = .ok (.ireturn, 1) := by decide +kernel
set_option maxRecDepth 20000 in
theorem ggX8_status_X8_within : GoodIn wsX8_status wsX8_within := goodIn_r _ [5] (by decide +kernel) (by decide +kernel)
set_option maxRecDepth 20000 in
theorem gX8_status_X8_within : GoodIn wsX8_status (va_wsS RX8 71 yX8_within wsX8_within) := goodIn_app (goodIn_of _ (by decide +kernel)) ggX8_status_X8_within
set_option maxRecDepth 20000 in
theorem ggX8_status_X8_refuseAsBad : GoodIn wsX8_status wsX8_refuseAsBad := goodIn_r _ [9, 1, 10, 11, 12, 13, 14, 15, 16, 17] (by decide +kernel) (by decide +kernel)
set_option maxRecDepth 20000 in
theorem gX8_status_X8_refuseAsBad : GoodIn wsX8_status (wsV RX8 53 RX8 yX8_refuseAsBad wsX8_refuseAsBad) := goodIn_app (goodIn_of _ (by decide +kernel)) ggX8_status_X8_refuseAsBad
theorem dX8_status_0 : decode cX8_status 0 = .ok (.iconst 0, 1) := by decide +kernel
theorem dX8_status_1 : decode cX8_status 1 = .ok (.iload_n 1, 1) := by decide +kernel
theorem dX8_status_2 : decode cX8_status 2 = .ok (.iconst 2, 1) := by decide +kernel
theorem dX8_status_3 : decode cX8_status 3 = .ok (.invokestatic 71, 3) := by decide +kernel
theorem dX8_status_6 : decode cX8_status 6 = .ok (.ifCond .ne 9, 3) := by decide +kernel
theorem dX8_status_9 : decode cX8_status 9 = .ok (.aload_n 0, 1) := by decide +kernel
theorem dX8_status_10 : decode cX8_status 10 = .ok (.iconst (-1), 1) := by decide +kernel
theorem dX8_status_11 : decode cX8_status 11 = .ok (.invokevirtual 53, 3) := by decide +kernel
theorem dX8_status_14 : decode cX8_status 14 = .ok (.ireturn, 1) := by decide +kernel
theorem dX8_status_15 : decode cX8_status 15 = .ok (.aload_n 0, 1) := by decide +kernel
theorem dX8_status_16 : decode cX8_status 16 = .ok (.getfield 38, 3) := by decide +kernel
theorem dX8_status_19 : decode cX8_status 19 = .ok (.iload_n 1, 1) := by decide +kernel
theorem dX8_status_20 : decode cX8_status 20 = .ok (.iaload, 1) := by decide +kernel
theorem dX8_status_21 : decode cX8_status 21 = .ok (.ireturn, 1) := by decide +kernel
set_option maxRecDepth 20000 in
theorem ggX8_count_X3_turn : GoodIn wsX8_count wsX3_turn := goodIn_r _ [15, 16, 17, 18, 19, 20, 21, 22, 23, 53, 54, 55, 56, 57, 58, 59, 60, 61, 62] (by decide +kernel) (by decide +kernel)
set_option maxRecDepth 20000 in
theorem gX8_count_X3_turn : GoodIn wsX8_count (wsV RX8 154 RX3 yX3_turn wsX3_turn) := goodIn_app (goodIn_of _ (by decide +kernel)) ggX8_count_X3_turn
set_option maxRecDepth 20000 in
theorem ggX8_count_X3_allGroundsLeft : GoodIn wsX8_count wsX3_allGroundsLeft := goodIn_r _ [27, 28, 29, 53, 54, 55, 56, 57, 58, 59, 60, 61, 62] (by decide +kernel) (by decide +kernel)
set_option maxRecDepth 20000 in
theorem gX8_count_X3_allGroundsLeft : GoodIn wsX8_count (wsV RX8 280 RX3 yX3_allGroundsLeft wsX3_allGroundsLeft) := goodIn_app (goodIn_of _ (by decide +kernel)) ggX8_count_X3_allGroundsLeft
set_option maxRecDepth 20000 in
theorem ggX8_count_X8_refuseAsBad : GoodIn wsX8_count wsX8_refuseAsBad := goodIn_r _ [34, 35, 36, 37, 38, 39, 40, 41, 42, 43] (by decide +kernel) (by decide +kernel)
set_option maxRecDepth 20000 in
theorem gX8_count_X8_refuseAsBad : GoodIn wsX8_count (wsV RX8 53 RX8 yX8_refuseAsBad wsX8_refuseAsBad) := goodIn_app (goodIn_of _ (by decide +kernel)) ggX8_count_X8_refuseAsBad
theorem dX8_count_0 : decode cX8_count 0 = .ok (.iload_n 1, 1) := by decide +kernel
theorem dX8_count_1 : decode cX8_count 1 = .ok (.tableswitch 123 0 7 #[47, 58, 69, 80, 88, 96, 104, 112], 47) := by decide +kernel
theorem dX8_count_48 : decode cX8_count 48 = .ok (.aload_n 0, 1) := by decide +kernel
theorem dX8_count_49 : decode cX8_count 49 = .ok (.getfield 10, 3) := by decide +kernel
theorem dX8_count_52 : decode cX8_count 52 = .ok (.getfield 57, 3) := by decide +kernel
theorem dX8_count_55 : decode cX8_count 55 = .ok (.getfield 60, 3) := by decide +kernel
theorem dX8_count_58 : decode cX8_count 58 = .ok (.ireturn, 1) := by decide +kernel
theorem dX8_count_59 : decode cX8_count 59 = .ok (.aload_n 0, 1) := by decide +kernel
theorem dX8_count_60 : decode cX8_count 60 = .ok (.getfield 10, 3) := by decide +kernel
theorem dX8_count_63 : decode cX8_count 63 = .ok (.getfield 57, 3) := by decide +kernel
theorem dX8_count_66 : decode cX8_count 66 = .ok (.invokevirtual 154, 3) := by decide +kernel
theorem dX8_count_69 : decode cX8_count 69 = .ok (.ireturn, 1) := by decide +kernel
theorem dX8_count_70 : decode cX8_count 70 = .ok (.aload_n 0, 1) := by decide +kernel
theorem dX8_count_71 : decode cX8_count 71 = .ok (.getfield 10, 3) := by decide +kernel
theorem dX8_count_74 : decode cX8_count 74 = .ok (.getfield 57, 3) := by decide +kernel
theorem dX8_count_77 : decode cX8_count 77 = .ok (.invokevirtual 280, 3) := by decide +kernel
theorem dX8_count_80 : decode cX8_count 80 = .ok (.ireturn, 1) := by decide +kernel
theorem dX8_count_81 : decode cX8_count 81 = .ok (.aload_n 0, 1) := by decide +kernel
theorem dX8_count_82 : decode cX8_count 82 = .ok (.getfield 10, 3) := by decide +kernel
theorem dX8_count_85 : decode cX8_count 85 = .ok (.getfield 206, 3) := by decide +kernel
theorem dX8_count_88 : decode cX8_count 88 = .ok (.ireturn, 1) := by decide +kernel
theorem dX8_count_89 : decode cX8_count 89 = .ok (.aload_n 0, 1) := by decide +kernel
theorem dX8_count_90 : decode cX8_count 90 = .ok (.getfield 10, 3) := by decide +kernel
theorem dX8_count_93 : decode cX8_count 93 = .ok (.getfield 219, 3) := by decide +kernel
theorem dX8_count_96 : decode cX8_count 96 = .ok (.ireturn, 1) := by decide +kernel
theorem dX8_count_97 : decode cX8_count 97 = .ok (.aload_n 0, 1) := by decide +kernel
theorem dX8_count_98 : decode cX8_count 98 = .ok (.getfield 10, 3) := by decide +kernel
theorem dX8_count_101 : decode cX8_count 101 = .ok (.getfield 226, 3) := by decide +kernel
theorem dX8_count_104 : decode cX8_count 104 = .ok (.ireturn, 1) := by decide +kernel
theorem dX8_count_105 : decode cX8_count 105 = .ok (.aload_n 0, 1) := by decide +kernel
theorem dX8_count_106 : decode cX8_count 106 = .ok (.getfield 10, 3) := by decide +kernel
theorem dX8_count_109 : decode cX8_count 109 = .ok (.getfield 148, 3) := by decide +kernel
theorem dX8_count_112 : decode cX8_count 112 = .ok (.ireturn, 1) := by decide +kernel
theorem dX8_count_113 : decode cX8_count 113 = .ok (.aload_n 0, 1) := by decide +kernel
theorem dX8_count_114 : decode cX8_count 114 = .ok (.getfield 34, 3) := by decide +kernel
theorem dX8_count_117 : decode cX8_count 117 = .ok (.getfield 93, 3) := by decide +kernel
theorem dX8_count_120 : decode cX8_count 120 = .ok (.getfield 97, 3) := by decide +kernel
theorem dX8_count_123 : decode cX8_count 123 = .ok (.ireturn, 1) := by decide +kernel
theorem dX8_count_124 : decode cX8_count 124 = .ok (.aload_n 0, 1) := by decide +kernel
theorem dX8_count_125 : decode cX8_count 125 = .ok (.bipush (-2), 2) := by decide +kernel
theorem dX8_count_127 : decode cX8_count 127 = .ok (.invokevirtual 53, 3) := by decide +kernel
theorem dX8_count_130 : decode cX8_count 130 = .ok (.ireturn, 1) := by decide +kernel
set_option maxRecDepth 20000 in
theorem ggX8_digest_X8_count : GoodIn wsX8_digest wsX8_count := goodIn_r _ [11, 3, 4, 12, 13, 14, 15, 16, 17, 18, 19, 20, 21, 22, 23, 24, 25, 26, 27, 28, 29, 30, 31, 32, 33, 34, 35, 36, 37, 38, 39, 40, 41, 10, 42, 43, 96, 97, 98, 99, 100, 101, 102, 103, 104, 105, 106, 107, 108, 109, 110, 111, 112, 113, 114, 115, 116, 117, 118, 119, 120, 121, 122, 123, 124, 125, 126, 127, 128, 129, 130] (by decide +kernel) (by decide +kernel)
set_option maxRecDepth 20000 in
theorem gX8_digest_X8_count : GoodIn wsX8_digest (wsV RX8 287 RX8 yX8_count wsX8_count) := goodIn_app (goodIn_of _ (by decide +kernel)) ggX8_digest_X8_count
set_option maxRecDepth 20000 in
theorem ggX8_digest_X8_now : GoodIn wsX8_digest wsX8_now := goodIn_r _ [47, 3, 4, 48, 49, 20, 21, 22, 23, 24, 25, 26, 27, 28, 29, 30, 31, 32, 50, 51, 52, 53, 54, 55, 56, 57, 58, 38, 59, 60, 61, 62, 63, 37, 64, 65, 66, 67, 68, 69, 70, 71, 72, 73, 39, 40, 41, 10, 42, 43, 96, 97, 98, 99, 100, 101, 102, 103, 104, 105, 106, 107, 108, 109, 110, 111, 112, 113, 114, 115, 116, 117, 118, 119, 120, 121, 122] (by decide +kernel) (by decide +kernel)
set_option maxRecDepth 20000 in
theorem gX8_digest_X8_now : GoodIn wsX8_digest (wsV RX8 290 RX8 yX8_now wsX8_now) := goodIn_app (goodIn_of _ (by decide +kernel)) ggX8_digest_X8_now
set_option maxRecDepth 20000 in
theorem ggX8_digest_X3_digestOn : GoodIn wsX8_digest wsX3_digestOn := goodIn_r _ [77, 78, 79, 59, 37, 80, 81, 38, 25, 82, 10, 83, 113, 114, 115, 116, 117, 118, 119, 120, 121, 122] (by decide +kernel) (by decide +kernel)
set_option maxRecDepth 20000 in
theorem gX8_digest_X3_digestOn : GoodIn wsX8_digest (wsV RX8 293 RX3 yX3_digestOn wsX3_digestOn) := goodIn_app (goodIn_of _ (by decide +kernel)) ggX8_digest_X3_digestOn
set_option maxRecDepth 20000 in
theorem ggX8_digest_X1_digestOn : GoodIn wsX8_digest wsX1_digestOn := goodIn_r _ [88, 89, 90, 91, 92, 93, 94, 95, 104, 105, 106, 107, 108, 109, 110, 111, 112] (by decide +kernel) (by decide +kernel)
set_option maxRecDepth 20000 in
theorem gX8_digest_X1_digestOn : GoodIn wsX8_digest (wsV RX8 297 RX1 yX1_digestOn wsX1_digestOn) := goodIn_app (goodIn_of _ (by decide +kernel)) ggX8_digest_X1_digestOn
theorem dX8_digest_0 : decode cX8_digest 0 = .ok (.ldc2_w 283, 3) := by decide +kernel
theorem dX8_digest_3 : decode cX8_digest 3 = .ok (.lstore_n 1, 1) := by decide +kernel
theorem dX8_digest_4 : decode cX8_digest 4 = .ok (.iconst 0, 1) := by decide +kernel
theorem dX8_digest_5 : decode cX8_digest 5 = .ok (.istore_n 3, 1) := by decide +kernel
theorem dX8_digest_6 : decode cX8_digest 6 = .ok (.iload_n 3, 1) := by decide +kernel
theorem dX8_digest_7 : decode cX8_digest 7 = .ok (.bipush 7, 2) := by decide +kernel
theorem dX8_digest_9 : decode cX8_digest 9 = .ok (.if_icmp .gt 22, 3) := by decide +kernel
theorem dX8_digest_12 : decode cX8_digest 12 = .ok (.ldc2_w 285, 3) := by decide +kernel
theorem dX8_digest_15 : decode cX8_digest 15 = .ok (.lload_n 1, 1) := by decide +kernel
theorem dX8_digest_16 : decode cX8_digest 16 = .ok (.lmul, 1) := by decide +kernel
theorem dX8_digest_17 : decode cX8_digest 17 = .ok (.aload_n 0, 1) := by decide +kernel
theorem dX8_digest_18 : decode cX8_digest 18 = .ok (.iload_n 3, 1) := by decide +kernel
theorem dX8_digest_19 : decode cX8_digest 19 = .ok (.invokevirtual 287, 3) := by decide +kernel
theorem dX8_digest_22 : decode cX8_digest 22 = .ok (.i2l, 1) := by decide +kernel
theorem dX8_digest_23 : decode cX8_digest 23 = .ok (.ladd, 1) := by decide +kernel
theorem dX8_digest_24 : decode cX8_digest 24 = .ok (.lstore_n 1, 1) := by decide +kernel
theorem dX8_digest_25 : decode cX8_digest 25 = .ok (.iinc 3 1, 3) := by decide +kernel
theorem dX8_digest_28 : decode cX8_digest 28 = .ok (.goto (-22), 3) := by decide +kernel
theorem dX8_digest_31 : decode cX8_digest 31 = .ok (.iconst 0, 1) := by decide +kernel
theorem dX8_digest_32 : decode cX8_digest 32 = .ok (.istore_n 3, 1) := by decide +kernel
theorem dX8_digest_33 : decode cX8_digest 33 = .ok (.iload_n 3, 1) := by decide +kernel
theorem dX8_digest_34 : decode cX8_digest 34 = .ok (.iconst 4, 1) := by decide +kernel
theorem dX8_digest_35 : decode cX8_digest 35 = .ok (.if_icmp .gt 22, 3) := by decide +kernel
theorem dX8_digest_38 : decode cX8_digest 38 = .ok (.ldc2_w 285, 3) := by decide +kernel
theorem dX8_digest_41 : decode cX8_digest 41 = .ok (.lload_n 1, 1) := by decide +kernel
theorem dX8_digest_42 : decode cX8_digest 42 = .ok (.lmul, 1) := by decide +kernel
theorem dX8_digest_43 : decode cX8_digest 43 = .ok (.aload_n 0, 1) := by decide +kernel
theorem dX8_digest_44 : decode cX8_digest 44 = .ok (.iload_n 3, 1) := by decide +kernel
theorem dX8_digest_45 : decode cX8_digest 45 = .ok (.invokevirtual 290, 3) := by decide +kernel
theorem dX8_digest_48 : decode cX8_digest 48 = .ok (.i2l, 1) := by decide +kernel
theorem dX8_digest_49 : decode cX8_digest 49 = .ok (.ladd, 1) := by decide +kernel
theorem dX8_digest_50 : decode cX8_digest 50 = .ok (.lstore_n 1, 1) := by decide +kernel
theorem dX8_digest_51 : decode cX8_digest 51 = .ok (.iinc 3 1, 3) := by decide +kernel
theorem dX8_digest_54 : decode cX8_digest 54 = .ok (.goto (-21), 3) := by decide +kernel
theorem dX8_digest_57 : decode cX8_digest 57 = .ok (.aload_n 0, 1) := by decide +kernel
theorem dX8_digest_58 : decode cX8_digest 58 = .ok (.getfield 10, 3) := by decide +kernel
theorem dX8_digest_61 : decode cX8_digest 61 = .ok (.getfield 57, 3) := by decide +kernel
theorem dX8_digest_64 : decode cX8_digest 64 = .ok (.lload_n 1, 1) := by decide +kernel
theorem dX8_digest_65 : decode cX8_digest 65 = .ok (.invokevirtual 293, 3) := by decide +kernel
theorem dX8_digest_68 : decode cX8_digest 68 = .ok (.lstore_n 1, 1) := by decide +kernel
theorem dX8_digest_69 : decode cX8_digest 69 = .ok (.aload_n 0, 1) := by decide +kernel
theorem dX8_digest_70 : decode cX8_digest 70 = .ok (.getfield 10, 3) := by decide +kernel
theorem dX8_digest_73 : decode cX8_digest 73 = .ok (.lload_n 1, 1) := by decide +kernel
theorem dX8_digest_74 : decode cX8_digest 74 = .ok (.invokevirtual 297, 3) := by decide +kernel
theorem dX8_digest_77 : decode cX8_digest 77 = .ok (.lstore_n 1, 1) := by decide +kernel
theorem dX8_digest_78 : decode cX8_digest 78 = .ok (.ldc2_w 285, 3) := by decide +kernel
theorem dX8_digest_81 : decode cX8_digest 81 = .ok (.lload_n 1, 1) := by decide +kernel
theorem dX8_digest_82 : decode cX8_digest 82 = .ok (.lmul, 1) := by decide +kernel
theorem dX8_digest_83 : decode cX8_digest 83 = .ok (.aload_n 0, 1) := by decide +kernel
theorem dX8_digest_84 : decode cX8_digest 84 = .ok (.getfield 42, 3) := by decide +kernel
theorem dX8_digest_87 : decode cX8_digest 87 = .ok (.ladd, 1) := by decide +kernel
theorem dX8_digest_88 : decode cX8_digest 88 = .ok (.lstore_n 1, 1) := by decide +kernel
theorem dX8_digest_89 : decode cX8_digest 89 = .ok (.ldc2_w 285, 3) := by decide +kernel
theorem dX8_digest_92 : decode cX8_digest 92 = .ok (.lload_n 1, 1) := by decide +kernel
theorem dX8_digest_93 : decode cX8_digest 93 = .ok (.lmul, 1) := by decide +kernel
theorem dX8_digest_94 : decode cX8_digest 94 = .ok (.aload_n 0, 1) := by decide +kernel
theorem dX8_digest_95 : decode cX8_digest 95 = .ok (.getfield 46, 3) := by decide +kernel
theorem dX8_digest_98 : decode cX8_digest 98 = .ok (.ladd, 1) := by decide +kernel
theorem dX8_digest_99 : decode cX8_digest 99 = .ok (.lreturn, 1) := by decide +kernel
theorem dX8_keepFraction_0 : decode cX8_keepFraction 0 = .ok (.lload_n 1, 1) := by decide +kernel
theorem dX8_keepFraction_1 : decode cX8_keepFraction 1 = .ok (.lstore 5, 2) := by decide +kernel
theorem dX8_keepFraction_3 : decode cX8_keepFraction 3 = .ok (.lload_n 3, 1) := by decide +kernel
theorem dX8_keepFraction_4 : decode cX8_keepFraction 4 = .ok (.lstore 7, 2) := by decide +kernel
theorem dX8_keepFraction_6 : decode cX8_keepFraction 6 = .ok (.iconst 0, 1) := by decide +kernel
theorem dX8_keepFraction_7 : decode cX8_keepFraction 7 = .ok (.istore 9, 2) := by decide +kernel
theorem dX8_keepFraction_9 : decode cX8_keepFraction 9 = .ok (.iload 9, 2) := by decide +kernel
theorem dX8_keepFraction_11 : decode cX8_keepFraction 11 = .ok (.sipush 128, 3) := by decide +kernel
theorem dX8_keepFraction_14 : decode cX8_keepFraction 14 = .ok (.if_icmp .ge 31, 3) := by decide +kernel
theorem dX8_keepFraction_17 : decode cX8_keepFraction 17 = .ok (.lload 7, 2) := by decide +kernel
theorem dX8_keepFraction_19 : decode cX8_keepFraction 19 = .ok (.lconst 0, 1) := by decide +kernel
theorem dX8_keepFraction_20 : decode cX8_keepFraction 20 = .ok (.lcmp, 1) := by decide +kernel
theorem dX8_keepFraction_21 : decode cX8_keepFraction 21 = .ok (.ifCond .eq 24, 3) := by decide +kernel
theorem dX8_keepFraction_24 : decode cX8_keepFraction 24 = .ok (.lload 5, 2) := by decide +kernel
theorem dX8_keepFraction_26 : decode cX8_keepFraction 26 = .ok (.lload 7, 2) := by decide +kernel
theorem dX8_keepFraction_28 : decode cX8_keepFraction 28 = .ok (.lrem, 1) := by decide +kernel
theorem dX8_keepFraction_29 : decode cX8_keepFraction 29 = .ok (.lstore 10, 2) := by decide +kernel
theorem dX8_keepFraction_31 : decode cX8_keepFraction 31 = .ok (.lload 7, 2) := by decide +kernel
theorem dX8_keepFraction_33 : decode cX8_keepFraction 33 = .ok (.lstore 5, 2) := by decide +kernel
theorem dX8_keepFraction_35 : decode cX8_keepFraction 35 = .ok (.lload 10, 2) := by decide +kernel
theorem dX8_keepFraction_37 : decode cX8_keepFraction 37 = .ok (.lstore 7, 2) := by decide +kernel
theorem dX8_keepFraction_39 : decode cX8_keepFraction 39 = .ok (.iinc 9 1, 3) := by decide +kernel
theorem dX8_keepFraction_42 : decode cX8_keepFraction 42 = .ok (.goto (-33), 3) := by decide +kernel
theorem dX8_keepFraction_45 : decode cX8_keepFraction 45 = .ok (.lload 5, 2) := by decide +kernel
theorem dX8_keepFraction_47 : decode cX8_keepFraction 47 = .ok (.lconst 0, 1) := by decide +kernel
theorem dX8_keepFraction_48 : decode cX8_keepFraction 48 = .ok (.lcmp, 1) := by decide +kernel
theorem dX8_keepFraction_49 : decode cX8_keepFraction 49 = .ok (.ifCond .le 19, 3) := by decide +kernel
theorem dX8_keepFraction_52 : decode cX8_keepFraction 52 = .ok (.aload_n 0, 1) := by decide +kernel
theorem dX8_keepFraction_53 : decode cX8_keepFraction 53 = .ok (.lload_n 1, 1) := by decide +kernel
theorem dX8_keepFraction_54 : decode cX8_keepFraction 54 = .ok (.lload 5, 2) := by decide +kernel
theorem dX8_keepFraction_56 : decode cX8_keepFraction 56 = .ok (.ldiv, 1) := by decide +kernel
theorem dX8_keepFraction_57 : decode cX8_keepFraction 57 = .ok (.putfield 42, 3) := by decide +kernel
theorem dX8_keepFraction_60 : decode cX8_keepFraction 60 = .ok (.aload_n 0, 1) := by decide +kernel
theorem dX8_keepFraction_61 : decode cX8_keepFraction 61 = .ok (.lload_n 3, 1) := by decide +kernel
theorem dX8_keepFraction_62 : decode cX8_keepFraction 62 = .ok (.lload 5, 2) := by decide +kernel
theorem dX8_keepFraction_64 : decode cX8_keepFraction 64 = .ok (.ldiv, 1) := by decide +kernel
theorem dX8_keepFraction_65 : decode cX8_keepFraction 65 = .ok (.putfield 46, 3) := by decide +kernel
theorem dX8_keepFraction_68 : decode cX8_keepFraction 68 = .ok (.return_, 1) := by decide +kernel
theorem dX8_refuseAsBad_0 : decode cX8_refuseAsBad 0 = .ok (.aload_n 0, 1) := by decide +kernel
theorem dX8_refuseAsBad_1 : decode cX8_refuseAsBad 1 = .ok (.getfield 38, 3) := by decide +kernel
theorem dX8_refuseAsBad_4 : decode cX8_refuseAsBad 4 = .ok (.iconst 0, 1) := by decide +kernel
theorem dX8_refuseAsBad_5 : decode cX8_refuseAsBad 5 = .ok (.dup2, 1) := by decide +kernel
theorem dX8_refuseAsBad_6 : decode cX8_refuseAsBad 6 = .ok (.iaload, 1) := by decide +kernel
theorem dX8_refuseAsBad_7 : decode cX8_refuseAsBad 7 = .ok (.iconst 1, 1) := by decide +kernel
theorem dX8_refuseAsBad_8 : decode cX8_refuseAsBad 8 = .ok (.iadd, 1) := by decide +kernel
theorem dX8_refuseAsBad_9 : decode cX8_refuseAsBad 9 = .ok (.iastore, 1) := by decide +kernel
theorem dX8_refuseAsBad_10 : decode cX8_refuseAsBad 10 = .ok (.iload_n 1, 1) := by decide +kernel
theorem dX8_refuseAsBad_11 : decode cX8_refuseAsBad 11 = .ok (.ireturn, 1) := by decide +kernel
theorem dX8_refuseAsNo_0 : decode cX8_refuseAsNo 0 = .ok (.aload_n 0, 1) := by decide +kernel
theorem dX8_refuseAsNo_1 : decode cX8_refuseAsNo 1 = .ok (.getfield 38, 3) := by decide +kernel
theorem dX8_refuseAsNo_4 : decode cX8_refuseAsNo 4 = .ok (.iconst 1, 1) := by decide +kernel
theorem dX8_refuseAsNo_5 : decode cX8_refuseAsNo 5 = .ok (.dup2, 1) := by decide +kernel
theorem dX8_refuseAsNo_6 : decode cX8_refuseAsNo 6 = .ok (.iaload, 1) := by decide +kernel
theorem dX8_refuseAsNo_7 : decode cX8_refuseAsNo 7 = .ok (.iconst 1, 1) := by decide +kernel
theorem dX8_refuseAsNo_8 : decode cX8_refuseAsNo 8 = .ok (.iadd, 1) := by decide +kernel
theorem dX8_refuseAsNo_9 : decode cX8_refuseAsNo 9 = .ok (.iastore, 1) := by decide +kernel
theorem dX8_refuseAsNo_10 : decode cX8_refuseAsNo 10 = .ok (.iload_n 1, 1) := by decide +kernel
theorem dX8_refuseAsNo_11 : decode cX8_refuseAsNo 11 = .ok (.ireturn, 1) := by decide +kernel
theorem dX8_refuseAsFull_0 : decode cX8_refuseAsFull 0 = .ok (.aload_n 0, 1) := by decide +kernel
theorem dX8_refuseAsFull_1 : decode cX8_refuseAsFull 1 = .ok (.getfield 38, 3) := by decide +kernel
theorem dX8_refuseAsFull_4 : decode cX8_refuseAsFull 4 = .ok (.iconst 2, 1) := by decide +kernel
theorem dX8_refuseAsFull_5 : decode cX8_refuseAsFull 5 = .ok (.dup2, 1) := by decide +kernel
theorem dX8_refuseAsFull_6 : decode cX8_refuseAsFull 6 = .ok (.iaload, 1) := by decide +kernel
theorem dX8_refuseAsFull_7 : decode cX8_refuseAsFull 7 = .ok (.iconst 1, 1) := by decide +kernel
theorem dX8_refuseAsFull_8 : decode cX8_refuseAsFull 8 = .ok (.iadd, 1) := by decide +kernel
theorem dX8_refuseAsFull_9 : decode cX8_refuseAsFull 9 = .ok (.iastore, 1) := by decide +kernel
theorem dX8_refuseAsFull_10 : decode cX8_refuseAsFull 10 = .ok (.bipush (-4), 2) := by decide +kernel
theorem dX8_refuseAsFull_12 : decode cX8_refuseAsFull 12 = .ok (.ireturn, 1) := by decide +kernel
theorem dX8_within_0 : decode cX8_within 0 = .ok (.iload_n 0, 1) := by decide +kernel
theorem dX8_within_1 : decode cX8_within 1 = .ok (.iload_n 1, 1) := by decide +kernel
theorem dX8_within_2 : decode cX8_within 2 = .ok (.if_icmp .gt 12, 3) := by decide +kernel
theorem dX8_within_5 : decode cX8_within 5 = .ok (.iload_n 1, 1) := by decide +kernel
theorem dX8_within_6 : decode cX8_within 6 = .ok (.iload_n 2, 1) := by decide +kernel
theorem dX8_within_7 : decode cX8_within 7 = .ok (.if_icmp .gt 7, 3) := by decide +kernel
theorem dX8_within_10 : decode cX8_within 10 = .ok (.iconst 1, 1) := by decide +kernel
theorem dX8_within_11 : decode cX8_within 11 = .ok (.goto 4, 3) := by decide +kernel
theorem dX8_within_14 : decode cX8_within 14 = .ok (.iconst 0, 1) := by decide +kernel
theorem dX8_within_15 : decode cX8_within 15 = .ok (.ireturn, 1) := by decide +kernel
set_option maxRecDepth 20000 in
theorem ggX8_isKind_X8_within : GoodIn wsX8_isKind wsX8_within := goodIn_r _ [4] (by decide +kernel) (by decide +kernel)
set_option maxRecDepth 20000 in
theorem gX8_isKind_X8_within : GoodIn wsX8_isKind (va_wsS RX8 71 yX8_within wsX8_within) := goodIn_app (goodIn_of _ (by decide +kernel)) ggX8_isKind_X8_within
theorem dX8_isKind_0 : decode cX8_isKind 0 = .ok (.iconst 0, 1) := by decide +kernel
theorem dX8_isKind_1 : decode cX8_isKind 1 = .ok (.iload_n 0, 1) := by decide +kernel
theorem dX8_isKind_2 : decode cX8_isKind 2 = .ok (.iconst 5, 1) := by decide +kernel
theorem dX8_isKind_3 : decode cX8_isKind 3 = .ok (.invokestatic 71, 3) := by decide +kernel
theorem dX8_isKind_6 : decode cX8_isKind 6 = .ok (.ireturn, 1) := by decide +kernel
set_option maxRecDepth 20000 in
theorem ggX8_isCounsel_X8_within : GoodIn wsX8_isCounsel wsX8_within := goodIn_r _ [4] (by decide +kernel) (by decide +kernel)
set_option maxRecDepth 20000 in
theorem gX8_isCounsel_X8_within : GoodIn wsX8_isCounsel (va_wsS RX8 71 yX8_within wsX8_within) := goodIn_app (goodIn_of _ (by decide +kernel)) ggX8_isCounsel_X8_within
theorem dX8_isCounsel_0 : decode cX8_isCounsel 0 = .ok (.iconst 0, 1) := by decide +kernel
theorem dX8_isCounsel_1 : decode cX8_isCounsel 1 = .ok (.iload_n 0, 1) := by decide +kernel
theorem dX8_isCounsel_2 : decode cX8_isCounsel 2 = .ok (.iconst 1, 1) := by decide +kernel
theorem dX8_isCounsel_3 : decode cX8_isCounsel 3 = .ok (.invokestatic 71, 3) := by decide +kernel
theorem dX8_isCounsel_6 : decode cX8_isCounsel 6 = .ok (.ireturn, 1) := by decide +kernel
set_option maxRecDepth 20000 in
theorem ggX8_isChair_X8_within : GoodIn wsX8_isChair wsX8_within := goodIn_r _ [4] (by decide +kernel) (by decide +kernel)
set_option maxRecDepth 20000 in
theorem gX8_isChair_X8_within : GoodIn wsX8_isChair (va_wsS RX8 71 yX8_within wsX8_within) := goodIn_app (goodIn_of _ (by decide +kernel)) ggX8_isChair_X8_within
theorem dX8_isChair_0 : decode cX8_isChair 0 = .ok (.iconst 0, 1) := by decide +kernel
theorem dX8_isChair_1 : decode cX8_isChair 1 = .ok (.iload_n 0, 1) := by decide +kernel
theorem dX8_isChair_2 : decode cX8_isChair 2 = .ok (.iconst 1, 1) := by decide +kernel
theorem dX8_isChair_3 : decode cX8_isChair 3 = .ok (.invokestatic 71, 3) := by decide +kernel
theorem dX8_isChair_6 : decode cX8_isChair 6 = .ok (.ireturn, 1) := by decide +kernel
theorem dX8_has_0 : decode cX8_has 0 = .ok (.iload_n 0, 1) := by decide +kernel
theorem dX8_has_1 : decode cX8_has 1 = .ok (.iload_n 1, 1) := by decide +kernel
theorem dX8_has_2 : decode cX8_has 2 = .ok (.ishr, 1) := by decide +kernel
theorem dX8_has_3 : decode cX8_has 3 = .ok (.iconst 1, 1) := by decide +kernel
theorem dX8_has_4 : decode cX8_has 4 = .ok (.iand, 1) := by decide +kernel
theorem dX8_has_5 : decode cX8_has 5 = .ok (.ifCond .eq 7, 3) := by decide +kernel
theorem dX8_has_8 : decode cX8_has 8 = .ok (.iconst 1, 1) := by decide +kernel
theorem dX8_has_9 : decode cX8_has 9 = .ok (.goto 4, 3) := by decide +kernel
theorem dX8_has_12 : decode cX8_has 12 = .ok (.iconst 0, 1) := by decide +kernel
theorem dX8_has_13 : decode cX8_has 13 = .ok (.ireturn, 1) := by decide +kernel
set_option maxRecDepth 20000 in
theorem ggX9_init_X9_begin : GoodIn wsX9_init wsX9_begin := goodIn_r _ [27] (by decide +kernel) (by decide +kernel)
set_option maxRecDepth 20000 in
theorem gX9_init_X9_begin : GoodIn wsX9_init (va_wsS RX9 66 yX9_begin wsX9_begin) := goodIn_app (goodIn_of _ (by decide +kernel)) ggX9_init_X9_begin
theorem dX9_init_0 : decode cX9_init 0 = .ok (.aload_n 0, 1) := by decide +kernel
theorem dX9_init_1 : decode cX9_init 1 = .ok (.invokespecial 1, 3) := by decide +kernel
theorem dX9_init_4 : decode cX9_init 4 = .ok (.aload_n 0, 1) := by decide +kernel
theorem dX9_init_5 : decode cX9_init 5 = .ok (.sipush 194, 3) := by decide +kernel
theorem dX9_init_8 : decode cX9_init 8 = .ok (.newarray .int, 2) := by decide +kernel
theorem dX9_init_10 : decode cX9_init 10 = .ok (.putfield 7, 3) := by decide +kernel
theorem dX9_init_13 : decode cX9_init 13 = .ok (.aload_n 0, 1) := by decide +kernel
theorem dX9_init_14 : decode cX9_init 14 = .ok (.sipush 388, 3) := by decide +kernel
theorem dX9_init_17 : decode cX9_init 17 = .ok (.newarray .int, 2) := by decide +kernel
theorem dX9_init_19 : decode cX9_init 19 = .ok (.putfield 13, 3) := by decide +kernel
theorem dX9_init_22 : decode cX9_init 22 = .ok (.aload_n 0, 1) := by decide +kernel
theorem dX9_init_23 : decode cX9_init 23 = .ok (.iconst 2, 1) := by decide +kernel
theorem dX9_init_24 : decode cX9_init 24 = .ok (.newarray .boolean, 2) := by decide +kernel
theorem dX9_init_26 : decode cX9_init 26 = .ok (.putfield 16, 3) := by decide +kernel
theorem dX9_init_29 : decode cX9_init 29 = .ok (.aload_n 0, 1) := by decide +kernel
theorem dX9_init_30 : decode cX9_init 30 = .ok (.iconst 3, 1) := by decide +kernel
theorem dX9_init_31 : decode cX9_init 31 = .ok (.newarray .int, 2) := by decide +kernel
theorem dX9_init_33 : decode cX9_init 33 = .ok (.putfield 20, 3) := by decide +kernel
theorem dX9_init_36 : decode cX9_init 36 = .ok (.aload_n 0, 1) := by decide +kernel
theorem dX9_init_37 : decode cX9_init 37 = .ok (.lconst 1, 1) := by decide +kernel
theorem dX9_init_38 : decode cX9_init 38 = .ok (.putfield 23, 3) := by decide +kernel
theorem dX9_init_41 : decode cX9_init 41 = .ok (.aload_n 0, 1) := by decide +kernel
theorem dX9_init_42 : decode cX9_init 42 = .ok (.bipush 14, 2) := by decide +kernel
theorem dX9_init_44 : decode cX9_init 44 = .ok (.newarray .int, 2) := by decide +kernel
theorem dX9_init_46 : decode cX9_init 46 = .ok (.putfield 27, 3) := by decide +kernel
theorem dX9_init_49 : decode cX9_init 49 = .ok (.aload_n 0, 1) := by decide +kernel
theorem dX9_init_50 : decode cX9_init 50 = .ok (.bipush 14, 2) := by decide +kernel
theorem dX9_init_52 : decode cX9_init 52 = .ok (.newarray .int, 2) := by decide +kernel
theorem dX9_init_54 : decode cX9_init 54 = .ok (.putfield 30, 3) := by decide +kernel
theorem dX9_init_57 : decode cX9_init 57 = .ok (.aload_n 0, 1) := by decide +kernel
theorem dX9_init_58 : decode cX9_init 58 = .ok (.bipush 14, 2) := by decide +kernel
theorem dX9_init_60 : decode cX9_init 60 = .ok (.newarray .int, 2) := by decide +kernel
theorem dX9_init_62 : decode cX9_init 62 = .ok (.putfield 33, 3) := by decide +kernel
theorem dX9_init_65 : decode cX9_init 65 = .ok (.aload_n 0, 1) := by decide +kernel
theorem dX9_init_66 : decode cX9_init 66 = .ok (.bipush 14, 2) := by decide +kernel
theorem dX9_init_68 : decode cX9_init 68 = .ok (.newarray .int, 2) := by decide +kernel
theorem dX9_init_70 : decode cX9_init 70 = .ok (.putfield 36, 3) := by decide +kernel
theorem dX9_init_73 : decode cX9_init 73 = .ok (.aload_n 0, 1) := by decide +kernel
theorem dX9_init_74 : decode cX9_init 74 = .ok (.bipush 28, 2) := by decide +kernel
theorem dX9_init_76 : decode cX9_init 76 = .ok (.newarray .int, 2) := by decide +kernel
theorem dX9_init_78 : decode cX9_init 78 = .ok (.putfield 39, 3) := by decide +kernel
theorem dX9_init_81 : decode cX9_init 81 = .ok (.aload_n 0, 1) := by decide +kernel
theorem dX9_init_82 : decode cX9_init 82 = .ok (.bipush 14, 2) := by decide +kernel
theorem dX9_init_84 : decode cX9_init 84 = .ok (.newarray .int, 2) := by decide +kernel
theorem dX9_init_86 : decode cX9_init 86 = .ok (.putfield 42, 3) := by decide +kernel
theorem dX9_init_89 : decode cX9_init 89 = .ok (.aload_n 0, 1) := by decide +kernel
theorem dX9_init_90 : decode cX9_init 90 = .ok (.bipush 14, 2) := by decide +kernel
theorem dX9_init_92 : decode cX9_init 92 = .ok (.newarray .int, 2) := by decide +kernel
theorem dX9_init_94 : decode cX9_init 94 = .ok (.putfield 45, 3) := by decide +kernel
theorem dX9_init_97 : decode cX9_init 97 = .ok (.aload_n 0, 1) := by decide +kernel
theorem dX9_init_98 : decode cX9_init 98 = .ok (.bipush 14, 2) := by decide +kernel
theorem dX9_init_100 : decode cX9_init 100 = .ok (.newarray .int, 2) := by decide +kernel
theorem dX9_init_102 : decode cX9_init 102 = .ok (.putfield 48, 3) := by decide +kernel
theorem dX9_init_105 : decode cX9_init 105 = .ok (.aload_n 0, 1) := by decide +kernel
theorem dX9_init_106 : decode cX9_init 106 = .ok (.iconst 2, 1) := by decide +kernel
theorem dX9_init_107 : decode cX9_init 107 = .ok (.newarray .int, 2) := by decide +kernel
theorem dX9_init_109 : decode cX9_init 109 = .ok (.putfield 51, 3) := by decide +kernel
theorem dX9_init_112 : decode cX9_init 112 = .ok (.aload_n 0, 1) := by decide +kernel
theorem dX9_init_113 : decode cX9_init 113 = .ok (.bipush 6, 2) := by decide +kernel
theorem dX9_init_115 : decode cX9_init 115 = .ok (.newarray .int, 2) := by decide +kernel
theorem dX9_init_117 : decode cX9_init 117 = .ok (.putfield 54, 3) := by decide +kernel
theorem dX9_init_120 : decode cX9_init 120 = .ok (.aload_n 0, 1) := by decide +kernel
theorem dX9_init_121 : decode cX9_init 121 = .ok (.sipush 150, 3) := by decide +kernel
theorem dX9_init_124 : decode cX9_init 124 = .ok (.newarray .int, 2) := by decide +kernel
theorem dX9_init_126 : decode cX9_init 126 = .ok (.putfield 57, 3) := by decide +kernel
theorem dX9_init_129 : decode cX9_init 129 = .ok (.aload_n 0, 1) := by decide +kernel
theorem dX9_init_130 : decode cX9_init 130 = .ok (.bipush 90, 2) := by decide +kernel
theorem dX9_init_132 : decode cX9_init 132 = .ok (.newarray .int, 2) := by decide +kernel
theorem dX9_init_134 : decode cX9_init 134 = .ok (.putfield 60, 3) := by decide +kernel
theorem dX9_init_137 : decode cX9_init 137 = .ok (.aload_n 0, 1) := by decide +kernel
theorem dX9_init_138 : decode cX9_init 138 = .ok (.iconst 3, 1) := by decide +kernel
theorem dX9_init_139 : decode cX9_init 139 = .ok (.newarray .int, 2) := by decide +kernel
theorem dX9_init_141 : decode cX9_init 141 = .ok (.putfield 63, 3) := by decide +kernel
theorem dX9_init_144 : decode cX9_init 144 = .ok (.aload_n 0, 1) := by decide +kernel
theorem dX9_init_145 : decode cX9_init 145 = .ok (.getfield 7, 3) := by decide +kernel
theorem dX9_init_148 : decode cX9_init 148 = .ok (.iconst 0, 1) := by decide +kernel
theorem dX9_init_149 : decode cX9_init 149 = .ok (.iconst 0, 1) := by decide +kernel
theorem dX9_init_150 : decode cX9_init 150 = .ok (.invokestatic 66, 3) := by decide +kernel
theorem dX9_init_153 : decode cX9_init 153 = .ok (.return_, 1) := by decide +kernel
theorem dX9_in_0 : decode cX9_in 0 = .ok (.lload_n 0, 1) := by decide +kernel
theorem dX9_in_1 : decode cX9_in 1 = .ok (.lload_n 2, 1) := by decide +kernel
theorem dX9_in_2 : decode cX9_in 2 = .ok (.lcmp, 1) := by decide +kernel
theorem dX9_in_3 : decode cX9_in 3 = .ok (.ifCond .lt 14, 3) := by decide +kernel
theorem dX9_in_6 : decode cX9_in 6 = .ok (.lload_n 0, 1) := by decide +kernel
theorem dX9_in_7 : decode cX9_in 7 = .ok (.lload 4, 2) := by decide +kernel
theorem dX9_in_9 : decode cX9_in 9 = .ok (.lcmp, 1) := by decide +kernel
