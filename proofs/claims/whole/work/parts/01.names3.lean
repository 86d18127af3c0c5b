theorem dX9_settle_19 : decode cX9_settle 19 = .ok (.iconst 0, 1) := by decide +kernel
theorem dX9_settle_20 : decode cX9_settle 20 = .ok (.istore 4, 2) := by decide +kernel
theorem dX9_settle_22 : decode cX9_settle 22 = .ok (.iload 4, 2) := by decide +kernel
theorem dX9_settle_24 : decode cX9_settle 24 = .ok (.bipush 100, 2) := by decide +kernel
theorem dX9_settle_26 : decode cX9_settle 26 = .ok (.if_icmp .ge 55, 3) := by decide +kernel
theorem dX9_settle_29 : decode cX9_settle 29 = .ok (.iload 4, 2) := by decide +kernel
theorem dX9_settle_31 : decode cX9_settle 31 = .ok (.bipush 10, 2) := by decide +kernel
theorem dX9_settle_33 : decode cX9_settle 33 = .ok (.idiv, 1) := by decide +kernel
theorem dX9_settle_34 : decode cX9_settle 34 = .ok (.iload 4, 2) := by decide +kernel
theorem dX9_settle_36 : decode cX9_settle 36 = .ok (.bipush 10, 2) := by decide +kernel
theorem dX9_settle_38 : decode cX9_settle 38 = .ok (.irem, 1) := by decide +kernel
theorem dX9_settle_39 : decode cX9_settle 39 = .ok (.iload_n 2, 1) := by decide +kernel
theorem dX9_settle_40 : decode cX9_settle 40 = .ok (.invokestatic 237, 3) := by decide +kernel
theorem dX9_settle_43 : decode cX9_settle 43 = .ok (.ifCond .eq 32, 3) := by decide +kernel
theorem dX9_settle_46 : decode cX9_settle 46 = .ok (.iload 4, 2) := by decide +kernel
theorem dX9_settle_48 : decode cX9_settle 48 = .ok (.bipush 10, 2) := by decide +kernel
theorem dX9_settle_50 : decode cX9_settle 50 = .ok (.irem, 1) := by decide +kernel
theorem dX9_settle_51 : decode cX9_settle 51 = .ok (.iload 4, 2) := by decide +kernel
theorem dX9_settle_53 : decode cX9_settle 53 = .ok (.bipush 10, 2) := by decide +kernel
theorem dX9_settle_55 : decode cX9_settle 55 = .ok (.idiv, 1) := by decide +kernel
theorem dX9_settle_56 : decode cX9_settle 56 = .ok (.iload_n 2, 1) := by decide +kernel
theorem dX9_settle_57 : decode cX9_settle 57 = .ok (.ineg, 1) := by decide +kernel
theorem dX9_settle_58 : decode cX9_settle 58 = .ok (.invokestatic 237, 3) := by decide +kernel
theorem dX9_settle_61 : decode cX9_settle 61 = .ok (.ifCond .eq 14, 3) := by decide +kernel
theorem dX9_settle_64 : decode cX9_settle 64 = .ok (.iload_n 3, 1) := by decide +kernel
theorem dX9_settle_65 : decode cX9_settle 65 = .ok (.iload_n 1, 1) := by decide +kernel
theorem dX9_settle_66 : decode cX9_settle 66 = .ok (.if_icmp .ne 6, 3) := by decide +kernel
theorem dX9_settle_69 : decode cX9_settle 69 = .ok (.iload 4, 2) := by decide +kernel
theorem dX9_settle_71 : decode cX9_settle 71 = .ok (.ireturn, 1) := by decide +kernel
theorem dX9_settle_72 : decode cX9_settle 72 = .ok (.iinc 3 1, 3) := by decide +kernel
theorem dX9_settle_75 : decode cX9_settle 75 = .ok (.iinc 4 1, 3) := by decide +kernel
theorem dX9_settle_78 : decode cX9_settle 78 = .ok (.goto (-56), 3) := by decide +kernel
theorem dX9_settle_81 : decode cX9_settle 81 = .ok (.iload_n 1, 1) := by decide +kernel
theorem dX9_settle_82 : decode cX9_settle 82 = .ok (.iconst (-1), 1) := by decide +kernel
theorem dX9_settle_83 : decode cX9_settle 83 = .ok (.if_icmp .ne 7, 3) := by decide +kernel
theorem dX9_settle_86 : decode cX9_settle 86 = .ok (.iload_n 3, 1) := by decide +kernel
theorem dX9_settle_87 : decode cX9_settle 87 = .ok (.goto 5, 3) := by decide +kernel
theorem dX9_settle_90 : decode cX9_settle 90 = .ok (.bipush (-5), 2) := by decide +kernel
theorem dX9_settle_92 : decode cX9_settle 92 = .ok (.ireturn, 1) := by decide +kernel
theorem dX9_fraction_0 : decode cX9_fraction 0 = .ok (.lload_n 1, 1) := by decide +kernel
theorem dX9_fraction_1 : decode cX9_fraction 1 = .ok (.lstore 5, 2) := by decide +kernel
theorem dX9_fraction_3 : decode cX9_fraction 3 = .ok (.lload_n 3, 1) := by decide +kernel
theorem dX9_fraction_4 : decode cX9_fraction 4 = .ok (.lstore 7, 2) := by decide +kernel
theorem dX9_fraction_6 : decode cX9_fraction 6 = .ok (.lload 7, 2) := by decide +kernel
theorem dX9_fraction_8 : decode cX9_fraction 8 = .ok (.lconst 0, 1) := by decide +kernel
theorem dX9_fraction_9 : decode cX9_fraction 9 = .ok (.lcmp, 1) := by decide +kernel
theorem dX9_fraction_10 : decode cX9_fraction 10 = .ok (.ifCond .eq 21, 3) := by decide +kernel
theorem dX9_fraction_13 : decode cX9_fraction 13 = .ok (.lload 5, 2) := by decide +kernel
theorem dX9_fraction_15 : decode cX9_fraction 15 = .ok (.lload 7, 2) := by decide +kernel
theorem dX9_fraction_17 : decode cX9_fraction 17 = .ok (.lrem, 1) := by decide +kernel
theorem dX9_fraction_18 : decode cX9_fraction 18 = .ok (.lstore 9, 2) := by decide +kernel
theorem dX9_fraction_20 : decode cX9_fraction 20 = .ok (.lload 7, 2) := by decide +kernel
theorem dX9_fraction_22 : decode cX9_fraction 22 = .ok (.lstore 5, 2) := by decide +kernel
theorem dX9_fraction_24 : decode cX9_fraction 24 = .ok (.lload 9, 2) := by decide +kernel
theorem dX9_fraction_26 : decode cX9_fraction 26 = .ok (.lstore 7, 2) := by decide +kernel
theorem dX9_fraction_28 : decode cX9_fraction 28 = .ok (.goto (-22), 3) := by decide +kernel
theorem dX9_fraction_31 : decode cX9_fraction 31 = .ok (.aload_n 0, 1) := by decide +kernel
theorem dX9_fraction_32 : decode cX9_fraction 32 = .ok (.lload_n 1, 1) := by decide +kernel
theorem dX9_fraction_33 : decode cX9_fraction 33 = .ok (.lload 5, 2) := by decide +kernel
theorem dX9_fraction_35 : decode cX9_fraction 35 = .ok (.ldiv, 1) := by decide +kernel
theorem dX9_fraction_36 : decode cX9_fraction 36 = .ok (.putfield 241, 3) := by decide +kernel
theorem dX9_fraction_39 : decode cX9_fraction 39 = .ok (.aload_n 0, 1) := by decide +kernel
theorem dX9_fraction_40 : decode cX9_fraction 40 = .ok (.lload_n 3, 1) := by decide +kernel
theorem dX9_fraction_41 : decode cX9_fraction 41 = .ok (.lload 5, 2) := by decide +kernel
theorem dX9_fraction_43 : decode cX9_fraction 43 = .ok (.ldiv, 1) := by decide +kernel
theorem dX9_fraction_44 : decode cX9_fraction 44 = .ok (.putfield 23, 3) := by decide +kernel
theorem dX9_fraction_47 : decode cX9_fraction 47 = .ok (.return_, 1) := by decide +kernel
theorem dX9_isWon_0 : decode cX9_isWon 0 = .ok (.aload_n 0, 1) := by decide +kernel
theorem dX9_isWon_1 : decode cX9_isWon 1 = .ok (.getfield 188, 3) := by decide +kernel
theorem dX9_isWon_4 : decode cX9_isWon 4 = .ok (.ifCond .ne 18, 3) := by decide +kernel
theorem dX9_isWon_7 : decode cX9_isWon 7 = .ok (.aload_n 0, 1) := by decide +kernel
theorem dX9_isWon_8 : decode cX9_isWon 8 = .ok (.getfield 191, 3) := by decide +kernel
theorem dX9_isWon_11 : decode cX9_isWon 11 = .ok (.ifCond .le 7, 3) := by decide +kernel
theorem dX9_isWon_14 : decode cX9_isWon 14 = .ok (.iconst 1, 1) := by decide +kernel
theorem dX9_isWon_15 : decode cX9_isWon 15 = .ok (.goto 19, 3) := by decide +kernel
theorem dX9_isWon_18 : decode cX9_isWon 18 = .ok (.iconst 0, 1) := by decide +kernel
theorem dX9_isWon_19 : decode cX9_isWon 19 = .ok (.goto 15, 3) := by decide +kernel
theorem dX9_isWon_22 : decode cX9_isWon 22 = .ok (.aload_n 0, 1) := by decide +kernel
theorem dX9_isWon_23 : decode cX9_isWon 23 = .ok (.getfield 191, 3) := by decide +kernel
theorem dX9_isWon_26 : decode cX9_isWon 26 = .ok (.ifCond .gt 7, 3) := by decide +kernel
theorem dX9_isWon_29 : decode cX9_isWon 29 = .ok (.iconst 1, 1) := by decide +kernel
theorem dX9_isWon_30 : decode cX9_isWon 30 = .ok (.goto 4, 3) := by decide +kernel
theorem dX9_isWon_33 : decode cX9_isWon 33 = .ok (.iconst 0, 1) := by decide +kernel
theorem dX9_isWon_34 : decode cX9_isWon 34 = .ok (.ireturn, 1) := by decide +kernel
set_option maxRecDepth 20000 in
theorem ggX9_hearings_X9_in : GoodIn wsX9_hearings wsX9_in := goodIn_r _ [6] (by decide +kernel) (by decide +kernel)
set_option maxRecDepth 20000 in
theorem gX9_hearings_X9_in : GoodIn wsX9_hearings (va_wsS RX9 74 yX9_in wsX9_in) := goodIn_app (goodIn_of _ (by decide +kernel)) ggX9_hearings_X9_in
set_option maxRecDepth 20000 in
theorem ggX9_hearings_X9_bad : GoodIn wsX9_hearings wsX9_bad := goodIn_r _ [10, 11, 73, 74, 75, 76, 77, 78, 79, 80, 81, 82, 83, 84, 85, 86, 87, 88, 89, 90, 91, 92, 93, 94, 95, 96, 97, 98, 99, 100] (by decide +kernel) (by decide +kernel)
set_option maxRecDepth 20000 in
theorem gX9_hearings_X9_bad : GoodIn wsX9_hearings (wsV RX9 84 RX9 yX9_bad wsX9_bad) := goodIn_app (goodIn_of _ (by decide +kernel)) ggX9_hearings_X9_bad
set_option maxRecDepth 20000 in
theorem ggX9_hearings_X9_open : GoodIn wsX9_hearings wsX9_open := goodIn_r _ [15, 2, 16, 17, 18, 5, 19, 73, 74, 75, 76, 77, 78, 79, 80, 81, 82, 83, 84, 85, 86, 87, 88, 89, 90, 91, 92, 93, 94, 95, 96, 97, 98, 99, 100] (by decide +kernel) (by decide +kernel)
set_option maxRecDepth 20000 in
theorem gX9_hearings_X9_open : GoodIn wsX9_hearings (wsV RX9 137 RX9 yX9_open wsX9_open) := goodIn_app (goodIn_of _ (by decide +kernel)) ggX9_hearings_X9_open
set_option maxRecDepth 20000 in
theorem ggX9_hearings_X9_bits : GoodIn wsX9_hearings wsX9_bits := goodIn_r _ [22] (by decide +kernel) (by decide +kernel)
set_option maxRecDepth 20000 in
theorem gX9_hearings_X9_bits : GoodIn wsX9_hearings (va_wsS RX9 197 yX9_bits wsX9_bits) := goodIn_app (goodIn_of _ (by decide +kernel)) ggX9_hearings_X9_bits
set_option maxRecDepth 20000 in
theorem ggX9_hearings_X9_many : GoodIn wsX9_hearings wsX9_many := goodIn_r _ [19, 2, 73, 74, 75, 76, 77, 78, 79, 80, 81, 82, 83, 84, 85, 86, 87, 88, 89, 90, 91, 92, 93, 94, 95, 96, 97, 98, 99, 100] (by decide +kernel) (by decide +kernel)
set_option maxRecDepth 20000 in
theorem gX9_hearings_X9_many : GoodIn wsX9_hearings (wsV RX9 70 RX9 yX9_many wsX9_many) := goodIn_app (goodIn_of _ (by decide +kernel)) ggX9_hearings_X9_many
set_option maxRecDepth 20000 in
theorem ggX9_hearings_X9_layNow : GoodIn wsX9_hearings wsX9_layNow := goodIn_r _ [26, 2, 27, 28, 29, 30, 73, 74, 75, 76, 77, 78, 79, 80, 81, 82, 83, 84, 85, 86, 87, 88, 89, 90, 91, 92, 93, 94, 95, 96, 97, 98, 99, 100] (by decide +kernel) (by decide +kernel)
set_option maxRecDepth 20000 in
theorem gX9_hearings_X9_layNow : GoodIn wsX9_hearings (wsV RX9 200 RX9 yX9_layNow wsX9_layNow) := goodIn_app (goodIn_of _ (by decide +kernel)) ggX9_hearings_X9_layNow
set_option maxRecDepth 20000 in
theorem ggX9_hearings_X9_has : GoodIn wsX9_hearings wsX9_has := goodIn_r _ [33] (by decide +kernel) (by decide +kernel)
set_option maxRecDepth 20000 in
theorem gX9_hearings_X9_has : GoodIn wsX9_hearings (va_wsS RX9 120 yX9_has wsX9_has) := goodIn_app (goodIn_of _ (by decide +kernel)) ggX9_hearings_X9_has
set_option maxRecDepth 20000 in
theorem ggX9_hearings_X9_goSaying : GoodIn wsX9_hearings wsX9_goSaying := goodIn_r _ [37, 27, 28, 29, 38, 39, 40, 5, 41, 42, 43, 44, 45, 2, 46, 47, 48, 49, 50, 51, 52, 53, 54, 73, 74, 75, 76, 77, 78, 79, 80, 81, 82, 83, 84, 85, 86, 87, 88, 89, 90, 91, 92, 93, 94, 95, 96, 97, 98, 99, 100] (by decide +kernel) (by decide +kernel)
set_option maxRecDepth 20000 in
theorem gX9_hearings_X9_goSaying : GoodIn wsX9_hearings (wsV RX9 203 RX9 yX9_goSaying wsX9_goSaying) := goodIn_app (goodIn_of _ (by decide +kernel)) ggX9_hearings_X9_goSaying
set_option maxRecDepth 20000 in
theorem ggX9_hearings_X9_mayTo : GoodIn wsX9_hearings wsX9_mayTo := goodIn_r _ [58, 2, 30, 29, 73, 74, 75, 76, 77, 78, 79, 80, 81, 82, 83, 84, 85, 86, 87, 88, 89, 90, 91, 92, 93, 94, 95, 96, 97, 98, 99, 100] (by decide +kernel) (by decide +kernel)
set_option maxRecDepth 20000 in
theorem gX9_hearings_X9_mayTo : GoodIn wsX9_hearings (wsV RX9 210 RX9 yX9_mayTo wsX9_mayTo) := goodIn_app (goodIn_of _ (by decide +kernel)) ggX9_hearings_X9_mayTo
set_option maxRecDepth 20000 in
theorem ggX9_hearings_X9_goObjecting : GoodIn wsX9_hearings wsX9_goObjecting := goodIn_r _ [62, 30, 29, 27, 73, 74, 75, 76, 77, 78, 79, 80, 81, 82, 83, 84, 85, 86, 87, 88, 89, 90, 91, 92, 93, 94, 95, 96, 97, 98, 99, 100] (by decide +kernel) (by decide +kernel)
set_option maxRecDepth 20000 in
theorem gX9_hearings_X9_goObjecting : GoodIn wsX9_hearings (wsV RX9 213 RX9 yX9_goObjecting wsX9_goObjecting) := goodIn_app (goodIn_of _ (by decide +kernel)) ggX9_hearings_X9_goObjecting
set_option maxRecDepth 20000 in
theorem ggX9_hearings_X9_isWon : GoodIn wsX9_hearings wsX9_isWon := goodIn_r _ [66, 27, 28, 73, 74, 75, 76, 77, 78, 79, 80, 81, 82, 83, 84, 85, 86, 87, 88, 89, 90, 91, 92, 93, 94, 95, 96, 97, 98, 99, 100] (by decide +kernel) (by decide +kernel)
set_option maxRecDepth 20000 in
theorem gX9_hearings_X9_isWon : GoodIn wsX9_hearings (wsV RX9 246 RX9 yX9_isWon wsX9_isWon) := goodIn_app (goodIn_of _ (by decide +kernel)) ggX9_hearings_X9_isWon
set_option maxRecDepth 20000 in
theorem ggX9_hearings_X9_fraction : GoodIn wsX9_hearings wsX9_fraction := goodIn_r _ [70, 71, 72, 73, 74, 75, 76, 77, 78, 79, 80, 81, 82, 83, 84, 85, 86, 87, 88, 89, 90, 91, 92, 93, 94, 95, 96, 97, 98, 99, 100] (by decide +kernel) (by decide +kernel)
set_option maxRecDepth 20000 in
theorem gX9_hearings_X9_fraction : GoodIn wsX9_hearings (wsV RX9 249 RX9 yX9_fraction wsX9_fraction) := goodIn_app (goodIn_of _ (by decide +kernel)) ggX9_hearings_X9_fraction
theorem dX9_hearings_0 : decode cX9_hearings 0 = .ok (.iload_n 1, 1) := by decide +kernel
theorem dX9_hearings_1 : decode cX9_hearings 1 = .ok (.i2l, 1) := by decide +kernel
theorem dX9_hearings_2 : decode cX9_hearings 2 = .ok (.lconst 0, 1) := by decide +kernel
theorem dX9_hearings_3 : decode cX9_hearings 3 = .ok (.ldc2_w 244, 3) := by decide +kernel
theorem dX9_hearings_6 : decode cX9_hearings 6 = .ok (.invokestatic 74, 3) := by decide +kernel
theorem dX9_hearings_9 : decode cX9_hearings 9 = .ok (.ifCond .ne 10, 3) := by decide +kernel
theorem dX9_hearings_12 : decode cX9_hearings 12 = .ok (.aload_n 0, 1) := by decide +kernel
theorem dX9_hearings_13 : decode cX9_hearings 13 = .ok (.bipush (-2), 2) := by decide +kernel
theorem dX9_hearings_15 : decode cX9_hearings 15 = .ok (.invokevirtual 84, 3) := by decide +kernel
theorem dX9_hearings_18 : decode cX9_hearings 18 = .ok (.ireturn, 1) := by decide +kernel
theorem dX9_hearings_19 : decode cX9_hearings 19 = .ok (.lconst 0, 1) := by decide +kernel
theorem dX9_hearings_20 : decode cX9_hearings 20 = .ok (.lstore_n 2, 1) := by decide +kernel
theorem dX9_hearings_21 : decode cX9_hearings 21 = .ok (.lconst 1, 1) := by decide +kernel
theorem dX9_hearings_22 : decode cX9_hearings 22 = .ok (.lstore 4, 2) := by decide +kernel
theorem dX9_hearings_24 : decode cX9_hearings 24 = .ok (.iconst 0, 1) := by decide +kernel
theorem dX9_hearings_25 : decode cX9_hearings 25 = .ok (.istore 6, 2) := by decide +kernel
theorem dX9_hearings_27 : decode cX9_hearings 27 = .ok (.iload 6, 2) := by decide +kernel
theorem dX9_hearings_29 : decode cX9_hearings 29 = .ok (.aload_n 0, 1) := by decide +kernel
theorem dX9_hearings_30 : decode cX9_hearings 30 = .ok (.invokevirtual 137, 3) := by decide +kernel
theorem dX9_hearings_33 : decode cX9_hearings 33 = .ok (.invokestatic 197, 3) := by decide +kernel
theorem dX9_hearings_36 : decode cX9_hearings 36 = .ok (.if_icmp .ge 17, 3) := by decide +kernel
theorem dX9_hearings_39 : decode cX9_hearings 39 = .ok (.lload 4, 2) := by decide +kernel
theorem dX9_hearings_41 : decode cX9_hearings 41 = .ok (.ldc2_w 244, 3) := by decide +kernel
theorem dX9_hearings_44 : decode cX9_hearings 44 = .ok (.lmul, 1) := by decide +kernel
theorem dX9_hearings_45 : decode cX9_hearings 45 = .ok (.lstore 4, 2) := by decide +kernel
theorem dX9_hearings_47 : decode cX9_hearings 47 = .ok (.iinc 6 1, 3) := by decide +kernel
theorem dX9_hearings_50 : decode cX9_hearings 50 = .ok (.goto (-23), 3) := by decide +kernel
theorem dX9_hearings_53 : decode cX9_hearings 53 = .ok (.iconst 0, 1) := by decide +kernel
theorem dX9_hearings_54 : decode cX9_hearings 54 = .ok (.istore 6, 2) := by decide +kernel
theorem dX9_hearings_56 : decode cX9_hearings 56 = .ok (.iload 6, 2) := by decide +kernel
theorem dX9_hearings_58 : decode cX9_hearings 58 = .ok (.iconst 1, 1) := by decide +kernel
theorem dX9_hearings_59 : decode cX9_hearings 59 = .ok (.aload_n 0, 1) := by decide +kernel
theorem dX9_hearings_60 : decode cX9_hearings 60 = .ok (.invokevirtual 70, 3) := by decide +kernel
theorem dX9_hearings_63 : decode cX9_hearings 63 = .ok (.ishl, 1) := by decide +kernel
theorem dX9_hearings_64 : decode cX9_hearings 64 = .ok (.if_icmp .ge 162, 3) := by decide +kernel
theorem dX9_hearings_67 : decode cX9_hearings 67 = .ok (.iload 6, 2) := by decide +kernel
theorem dX9_hearings_69 : decode cX9_hearings 69 = .ok (.aload_n 0, 1) := by decide +kernel
theorem dX9_hearings_70 : decode cX9_hearings 70 = .ok (.getfield 7, 3) := by decide +kernel
theorem dX9_hearings_73 : decode cX9_hearings 73 = .ok (.iconst 5, 1) := by decide +kernel
theorem dX9_hearings_74 : decode cX9_hearings 74 = .ok (.iaload, 1) := by decide +kernel
theorem dX9_hearings_75 : decode cX9_hearings 75 = .ok (.iand, 1) := by decide +kernel
theorem dX9_hearings_76 : decode cX9_hearings 76 = .ok (.ifCond .ne 7, 3) := by decide +kernel
theorem dX9_hearings_79 : decode cX9_hearings 79 = .ok (.lconst 1, 1) := by decide +kernel
theorem dX9_hearings_80 : decode cX9_hearings 80 = .ok (.goto 4, 3) := by decide +kernel
theorem dX9_hearings_83 : decode cX9_hearings 83 = .ok (.lconst 0, 1) := by decide +kernel
theorem dX9_hearings_84 : decode cX9_hearings 84 = .ok (.lstore 7, 2) := by decide +kernel
theorem dX9_hearings_86 : decode cX9_hearings 86 = .ok (.aload_n 0, 1) := by decide +kernel
theorem dX9_hearings_87 : decode cX9_hearings 87 = .ok (.invokevirtual 200, 3) := by decide +kernel
theorem dX9_hearings_90 : decode cX9_hearings 90 = .ok (.iconst 0, 1) := by decide +kernel
theorem dX9_hearings_91 : decode cX9_hearings 91 = .ok (.istore 9, 2) := by decide +kernel
theorem dX9_hearings_93 : decode cX9_hearings 93 = .ok (.iload 9, 2) := by decide +kernel
theorem dX9_hearings_95 : decode cX9_hearings 95 = .ok (.aload_n 0, 1) := by decide +kernel
theorem dX9_hearings_96 : decode cX9_hearings 96 = .ok (.invokevirtual 70, 3) := by decide +kernel
theorem dX9_hearings_99 : decode cX9_hearings 99 = .ok (.if_icmp .ge 105, 3) := by decide +kernel
theorem dX9_hearings_102 : decode cX9_hearings 102 = .ok (.lload 7, 2) := by decide +kernel
theorem dX9_hearings_104 : decode cX9_hearings 104 = .ok (.lconst 0, 1) := by decide +kernel
theorem dX9_hearings_105 : decode cX9_hearings 105 = .ok (.lcmp, 1) := by decide +kernel
theorem dX9_hearings_106 : decode cX9_hearings 106 = .ok (.ifCond .le 98, 3) := by decide +kernel
theorem dX9_hearings_109 : decode cX9_hearings 109 = .ok (.aload_n 0, 1) := by decide +kernel
theorem dX9_hearings_110 : decode cX9_hearings 110 = .ok (.getfield 7, 3) := by decide +kernel
theorem dX9_hearings_113 : decode cX9_hearings 113 = .ok (.iconst 5, 1) := by decide +kernel
theorem dX9_hearings_114 : decode cX9_hearings 114 = .ok (.iaload, 1) := by decide +kernel
theorem dX9_hearings_115 : decode cX9_hearings 115 = .ok (.iload 9, 2) := by decide +kernel
theorem dX9_hearings_117 : decode cX9_hearings 117 = .ok (.invokestatic 120, 3) := by decide +kernel
theorem dX9_hearings_120 : decode cX9_hearings 120 = .ok (.ifCond .ne 78, 3) := by decide +kernel
theorem dX9_hearings_123 : decode cX9_hearings 123 = .ok (.aload_n 0, 1) := by decide +kernel
theorem dX9_hearings_124 : decode cX9_hearings 124 = .ok (.iload 9, 2) := by decide +kernel
theorem dX9_hearings_126 : decode cX9_hearings 126 = .ok (.invokevirtual 203, 3) := by decide +kernel
theorem dX9_hearings_129 : decode cX9_hearings 129 = .ok (.iload 6, 2) := by decide +kernel
theorem dX9_hearings_131 : decode cX9_hearings 131 = .ok (.iload 9, 2) := by decide +kernel
theorem dX9_hearings_133 : decode cX9_hearings 133 = .ok (.invokestatic 120, 3) := by decide +kernel
theorem dX9_hearings_136 : decode cX9_hearings 136 = .ok (.istore 10, 2) := by decide +kernel
theorem dX9_hearings_138 : decode cX9_hearings 138 = .ok (.lload 7, 2) := by decide +kernel
theorem dX9_hearings_140 : decode cX9_hearings 140 = .ok (.aload_n 0, 1) := by decide +kernel
theorem dX9_hearings_141 : decode cX9_hearings 141 = .ok (.iload 9, 2) := by decide +kernel
theorem dX9_hearings_143 : decode cX9_hearings 143 = .ok (.invokevirtual 210, 3) := by decide +kernel
theorem dX9_hearings_146 : decode cX9_hearings 146 = .ok (.ifCond .ne 18, 3) := by decide +kernel
theorem dX9_hearings_149 : decode cX9_hearings 149 = .ok (.iload 10, 2) := by decide +kernel
theorem dX9_hearings_151 : decode cX9_hearings 151 = .ok (.ifCond .eq 7, 3) := by decide +kernel
theorem dX9_hearings_154 : decode cX9_hearings 154 = .ok (.lconst 0, 1) := by decide +kernel
theorem dX9_hearings_155 : decode cX9_hearings 155 = .ok (.goto 24, 3) := by decide +kernel
theorem dX9_hearings_158 : decode cX9_hearings 158 = .ok (.ldc2_w 244, 3) := by decide +kernel
theorem dX9_hearings_161 : decode cX9_hearings 161 = .ok (.goto 18, 3) := by decide +kernel
theorem dX9_hearings_164 : decode cX9_hearings 164 = .ok (.iload 10, 2) := by decide +kernel
theorem dX9_hearings_166 : decode cX9_hearings 166 = .ok (.ifCond .eq 8, 3) := by decide +kernel
theorem dX9_hearings_169 : decode cX9_hearings 169 = .ok (.iload_n 1, 1) := by decide +kernel
theorem dX9_hearings_170 : decode cX9_hearings 170 = .ok (.i2l, 1) := by decide +kernel
theorem dX9_hearings_171 : decode cX9_hearings 171 = .ok (.goto 8, 3) := by decide +kernel
theorem dX9_hearings_174 : decode cX9_hearings 174 = .ok (.bipush 10, 2) := by decide +kernel
theorem dX9_hearings_176 : decode cX9_hearings 176 = .ok (.iload_n 1, 1) := by decide +kernel
theorem dX9_hearings_177 : decode cX9_hearings 177 = .ok (.isub, 1) := by decide +kernel
theorem dX9_hearings_178 : decode cX9_hearings 178 = .ok (.i2l, 1) := by decide +kernel
theorem dX9_hearings_179 : decode cX9_hearings 179 = .ok (.lmul, 1) := by decide +kernel
theorem dX9_hearings_180 : decode cX9_hearings 180 = .ok (.lstore 7, 2) := by decide +kernel
theorem dX9_hearings_182 : decode cX9_hearings 182 = .ok (.iload 10, 2) := by decide +kernel
theorem dX9_hearings_184 : decode cX9_hearings 184 = .ok (.ifCond .eq 14, 3) := by decide +kernel
theorem dX9_hearings_187 : decode cX9_hearings 187 = .ok (.lload 7, 2) := by decide +kernel
theorem dX9_hearings_189 : decode cX9_hearings 189 = .ok (.lconst 0, 1) := by decide +kernel
theorem dX9_hearings_190 : decode cX9_hearings 190 = .ok (.lcmp, 1) := by decide +kernel
theorem dX9_hearings_191 : decode cX9_hearings 191 = .ok (.ifCond .le 7, 3) := by decide +kernel
theorem dX9_hearings_194 : decode cX9_hearings 194 = .ok (.aload_n 0, 1) := by decide +kernel
theorem dX9_hearings_195 : decode cX9_hearings 195 = .ok (.invokevirtual 213, 3) := by decide +kernel
theorem dX9_hearings_198 : decode cX9_hearings 198 = .ok (.iinc 9 1, 3) := by decide +kernel
theorem dX9_hearings_201 : decode cX9_hearings 201 = .ok (.goto (-108), 3) := by decide +kernel
theorem dX9_hearings_204 : decode cX9_hearings 204 = .ok (.lload_n 2, 1) := by decide +kernel
theorem dX9_hearings_205 : decode cX9_hearings 205 = .ok (.aload_n 0, 1) := by decide +kernel
theorem dX9_hearings_206 : decode cX9_hearings 206 = .ok (.invokevirtual 246, 3) := by decide +kernel
theorem dX9_hearings_209 : decode cX9_hearings 209 = .ok (.ifCond .eq 8, 3) := by decide +kernel
theorem dX9_hearings_212 : decode cX9_hearings 212 = .ok (.lload 7, 2) := by decide +kernel
theorem dX9_hearings_214 : decode cX9_hearings 214 = .ok (.goto 4, 3) := by decide +kernel
theorem dX9_hearings_217 : decode cX9_hearings 217 = .ok (.lconst 0, 1) := by decide +kernel
theorem dX9_hearings_218 : decode cX9_hearings 218 = .ok (.ladd, 1) := by decide +kernel
theorem dX9_hearings_219 : decode cX9_hearings 219 = .ok (.lstore_n 2, 1) := by decide +kernel
theorem dX9_hearings_220 : decode cX9_hearings 220 = .ok (.iinc 6 1, 3) := by decide +kernel
theorem dX9_hearings_223 : decode cX9_hearings 223 = .ok (.goto (-167), 3) := by decide +kernel
theorem dX9_hearings_226 : decode cX9_hearings 226 = .ok (.aload_n 0, 1) := by decide +kernel
theorem dX9_hearings_227 : decode cX9_hearings 227 = .ok (.lload_n 2, 1) := by decide +kernel
theorem dX9_hearings_228 : decode cX9_hearings 228 = .ok (.lload 4, 2) := by decide +kernel
theorem dX9_hearings_230 : decode cX9_hearings 230 = .ok (.invokevirtual 249, 3) := by decide +kernel
theorem dX9_hearings_233 : decode cX9_hearings 233 = .ok (.iconst 1, 1) := by decide +kernel
theorem dX9_hearings_234 : decode cX9_hearings 234 = .ok (.ireturn, 1) := by decide +kernel
set_option maxRecDepth 20000 in
theorem ggX9_days_X9_in : GoodIn wsX9_days wsX9_in := goodIn_r _ [12] (by decide +kernel) (by decide +kernel)
set_option maxRecDepth 20000 in
theorem gX9_days_X9_in : GoodIn wsX9_days (va_wsS RX9 74 yX9_in wsX9_in) := goodIn_app (goodIn_of _ (by decide +kernel)) ggX9_days_X9_in
set_option maxRecDepth 20000 in
theorem ggX9_days_X9_bad : GoodIn wsX9_days wsX9_bad := goodIn_r _ [16, 17, 66, 67, 68, 69, 70, 71, 72, 73, 74, 75, 76, 77, 78, 79, 80, 81, 82, 83, 84, 85, 86, 87, 88, 89, 90, 91, 92, 93] (by decide +kernel) (by decide +kernel)
set_option maxRecDepth 20000 in
theorem gX9_days_X9_bad : GoodIn wsX9_days (wsV RX9 84 RX9 yX9_bad wsX9_bad) := goodIn_app (goodIn_of _ (by decide +kernel)) ggX9_days_X9_bad
set_option maxRecDepth 20000 in
theorem ggX9_days_X9_layNow : GoodIn wsX9_days wsX9_layNow := goodIn_r _ [21, 3, 22, 23, 24, 25, 66, 67, 68, 69, 70, 71, 72, 73, 74, 75, 76, 77, 78, 79, 80, 81, 82, 83, 84, 85, 86, 87, 88, 89, 90, 91, 92, 93] (by decide +kernel) (by decide +kernel)
set_option maxRecDepth 20000 in
theorem gX9_days_X9_layNow : GoodIn wsX9_days (wsV RX9 200 RX9 yX9_layNow wsX9_layNow) := goodIn_app (goodIn_of _ (by decide +kernel)) ggX9_days_X9_layNow
set_option maxRecDepth 20000 in
theorem ggX9_days_X9_many : GoodIn wsX9_days wsX9_many := goodIn_r _ [29, 3, 66, 67, 68, 69, 70, 71, 72, 73, 74, 75, 76, 77, 78, 79, 80, 81, 82, 83, 84, 85, 86, 87, 88, 89, 90, 91, 92, 93] (by decide +kernel) (by decide +kernel)
set_option maxRecDepth 20000 in
theorem gX9_days_X9_many : GoodIn wsX9_days (wsV RX9 70 RX9 yX9_many wsX9_many) := goodIn_app (goodIn_of _ (by decide +kernel)) ggX9_days_X9_many
set_option maxRecDepth 20000 in
theorem ggX9_days_X9_has : GoodIn wsX9_days wsX9_has := goodIn_r _ [32] (by decide +kernel) (by decide +kernel)
set_option maxRecDepth 20000 in
theorem gX9_days_X9_has : GoodIn wsX9_days (va_wsS RX9 120 yX9_has wsX9_has) := goodIn_app (goodIn_of _ (by decide +kernel)) ggX9_days_X9_has
set_option maxRecDepth 20000 in
theorem ggX9_days_X9_goSaying : GoodIn wsX9_days wsX9_goSaying := goodIn_r _ [36, 22, 23, 24, 37, 38, 39, 11, 40, 41, 42, 43, 44, 3, 45, 46, 47, 48, 49, 50, 51, 52, 53, 66, 67, 68, 69, 70, 71, 72, 73, 74, 75, 76, 77, 78, 79, 80, 81, 82, 83, 84, 85, 86, 87, 88, 89, 90, 91, 92, 93] (by decide +kernel) (by decide +kernel)
set_option maxRecDepth 20000 in
theorem gX9_days_X9_goSaying : GoodIn wsX9_days (wsV RX9 203 RX9 yX9_goSaying wsX9_goSaying) := goodIn_app (goodIn_of _ (by decide +kernel)) ggX9_days_X9_goSaying
set_option maxRecDepth 20000 in
theorem ggX9_days_X9_mayTo : GoodIn wsX9_days wsX9_mayTo := goodIn_r _ [57, 3, 25, 24, 66, 67, 68, 69, 70, 71, 72, 73, 74, 75, 76, 77, 78, 79, 80, 81, 82, 83, 84, 85, 86, 87, 88, 89, 90, 91, 92, 93] (by decide +kernel) (by decide +kernel)
set_option maxRecDepth 20000 in
theorem gX9_days_X9_mayTo : GoodIn wsX9_days (wsV RX9 210 RX9 yX9_mayTo wsX9_mayTo) := goodIn_app (goodIn_of _ (by decide +kernel)) ggX9_days_X9_mayTo
set_option maxRecDepth 20000 in
theorem ggX9_days_X9_goObjecting : GoodIn wsX9_days wsX9_goObjecting := goodIn_r _ [61, 25, 24, 22, 66, 67, 68, 69, 70, 71, 72, 73, 74, 75, 76, 77, 78, 79, 80, 81, 82, 83, 84, 85, 86, 87, 88, 89, 90, 91, 92, 93] (by decide +kernel) (by decide +kernel)
set_option maxRecDepth 20000 in
theorem gX9_days_X9_goObjecting : GoodIn wsX9_days (wsV RX9 213 RX9 yX9_goObjecting wsX9_goObjecting) := goodIn_app (goodIn_of _ (by decide +kernel)) ggX9_days_X9_goObjecting
set_option maxRecDepth 20000 in
theorem ggX9_days_X9_isWon : GoodIn wsX9_days wsX9_isWon := goodIn_r _ [65, 22, 23, 66, 67, 68, 69, 70, 71, 72, 73, 74, 75, 76, 77, 78, 79, 80, 81, 82, 83, 84, 85, 86, 87, 88, 89, 90, 91, 92, 93] (by decide +kernel) (by decide +kernel)
set_option maxRecDepth 20000 in
theorem gX9_days_X9_isWon : GoodIn wsX9_days (wsV RX9 246 RX9 yX9_isWon wsX9_isWon) := goodIn_app (goodIn_of _ (by decide +kernel)) ggX9_days_X9_isWon
theorem dX9_days_0 : decode cX9_days 0 = .ok (.iload_n 1, 1) := by decide +kernel
theorem dX9_days_1 : decode cX9_days 1 = .ok (.i2l, 1) := by decide +kernel
theorem dX9_days_2 : decode cX9_days 2 = .ok (.lconst 0, 1) := by decide +kernel
theorem dX9_days_3 : decode cX9_days 3 = .ok (.ldc2_w 253, 3) := by decide +kernel
theorem dX9_days_6 : decode cX9_days 6 = .ok (.invokestatic 74, 3) := by decide +kernel
theorem dX9_days_9 : decode cX9_days 9 = .ok (.ifCond .eq 15, 3) := by decide +kernel
theorem dX9_days_12 : decode cX9_days 12 = .ok (.iload_n 2, 1) := by decide +kernel
theorem dX9_days_13 : decode cX9_days 13 = .ok (.i2l, 1) := by decide +kernel
theorem dX9_days_14 : decode cX9_days 14 = .ok (.lconst 0, 1) := by decide +kernel
theorem dX9_days_15 : decode cX9_days 15 = .ok (.ldc2_w 255, 3) := by decide +kernel
theorem dX9_days_18 : decode cX9_days 18 = .ok (.invokestatic 74, 3) := by decide +kernel
theorem dX9_days_21 : decode cX9_days 21 = .ok (.ifCond .ne 10, 3) := by decide +kernel
theorem dX9_days_24 : decode cX9_days 24 = .ok (.aload_n 0, 1) := by decide +kernel
theorem dX9_days_25 : decode cX9_days 25 = .ok (.bipush (-2), 2) := by decide +kernel
theorem dX9_days_27 : decode cX9_days 27 = .ok (.invokevirtual 84, 3) := by decide +kernel
theorem dX9_days_30 : decode cX9_days 30 = .ok (.ireturn, 1) := by decide +kernel
theorem dX9_days_31 : decode cX9_days 31 = .ok (.iload_n 1, 1) := by decide +kernel
theorem dX9_days_32 : decode cX9_days 32 = .ok (.i2l, 1) := by decide +kernel
theorem dX9_days_33 : decode cX9_days 33 = .ok (.lstore_n 3, 1) := by decide +kernel
theorem dX9_days_34 : decode cX9_days 34 = .ok (.iconst 0, 1) := by decide +kernel
theorem dX9_days_35 : decode cX9_days 35 = .ok (.istore 5, 2) := by decide +kernel
theorem dX9_days_37 : decode cX9_days 37 = .ok (.iconst 0, 1) := by decide +kernel
theorem dX9_days_38 : decode cX9_days 38 = .ok (.istore 6, 2) := by decide +kernel
theorem dX9_days_40 : decode cX9_days 40 = .ok (.iload 6, 2) := by decide +kernel
theorem dX9_days_42 : decode cX9_days 42 = .ok (.iload_n 2, 1) := by decide +kernel
theorem dX9_days_43 : decode cX9_days 43 = .ok (.if_icmp .ge 109, 3) := by decide +kernel
theorem dX9_days_46 : decode cX9_days 46 = .ok (.aload_n 0, 1) := by decide +kernel
theorem dX9_days_47 : decode cX9_days 47 = .ok (.invokevirtual 200, 3) := by decide +kernel
theorem dX9_days_50 : decode cX9_days 50 = .ok (.iconst 0, 1) := by decide +kernel
theorem dX9_days_51 : decode cX9_days 51 = .ok (.istore 7, 2) := by decide +kernel
theorem dX9_days_53 : decode cX9_days 53 = .ok (.iload 7, 2) := by decide +kernel
theorem dX9_days_55 : decode cX9_days 55 = .ok (.aload_n 0, 1) := by decide +kernel
theorem dX9_days_56 : decode cX9_days 56 = .ok (.invokevirtual 70, 3) := by decide +kernel
theorem dX9_days_59 : decode cX9_days 59 = .ok (.if_icmp .ge 70, 3) := by decide +kernel
theorem dX9_days_62 : decode cX9_days 62 = .ok (.aload_n 0, 1) := by decide +kernel
theorem dX9_days_63 : decode cX9_days 63 = .ok (.getfield 7, 3) := by decide +kernel
theorem dX9_days_66 : decode cX9_days 66 = .ok (.iconst 5, 1) := by decide +kernel
theorem dX9_days_67 : decode cX9_days 67 = .ok (.iaload, 1) := by decide +kernel
theorem dX9_days_68 : decode cX9_days 68 = .ok (.iload 7, 2) := by decide +kernel
theorem dX9_days_70 : decode cX9_days 70 = .ok (.invokestatic 120, 3) := by decide +kernel
theorem dX9_days_73 : decode cX9_days 73 = .ok (.ifCond .ne 50, 3) := by decide +kernel
theorem dX9_days_76 : decode cX9_days 76 = .ok (.lload_n 3, 1) := by decide +kernel
theorem dX9_days_77 : decode cX9_days 77 = .ok (.ldc2_w 257, 3) := by decide +kernel
theorem dX9_days_80 : decode cX9_days 80 = .ok (.lmul, 1) := by decide +kernel
theorem dX9_days_81 : decode cX9_days 81 = .ok (.ldc2_w 259, 3) := by decide +kernel
theorem dX9_days_84 : decode cX9_days 84 = .ok (.ladd, 1) := by decide +kernel
theorem dX9_days_85 : decode cX9_days 85 = .ok (.ldc2_w 261, 3) := by decide +kernel
theorem dX9_days_88 : decode cX9_days 88 = .ok (.lrem, 1) := by decide +kernel
theorem dX9_days_89 : decode cX9_days 89 = .ok (.lstore_n 3, 1) := by decide +kernel
theorem dX9_days_90 : decode cX9_days 90 = .ok (.aload_n 0, 1) := by decide +kernel
theorem dX9_days_91 : decode cX9_days 91 = .ok (.iload 7, 2) := by decide +kernel
theorem dX9_days_93 : decode cX9_days 93 = .ok (.invokevirtual 203, 3) := by decide +kernel
theorem dX9_days_96 : decode cX9_days 96 = .ok (.lload_n 3, 1) := by decide +kernel
theorem dX9_days_97 : decode cX9_days 97 = .ok (.ldc2_w 263, 3) := by decide +kernel
theorem dX9_days_100 : decode cX9_days 100 = .ok (.ldiv, 1) := by decide +kernel
theorem dX9_days_101 : decode cX9_days 101 = .ok (.ldc2_w 143, 3) := by decide +kernel
theorem dX9_days_104 : decode cX9_days 104 = .ok (.lrem, 1) := by decide +kernel
theorem dX9_days_105 : decode cX9_days 105 = .ok (.lconst 1, 1) := by decide +kernel
theorem dX9_days_106 : decode cX9_days 106 = .ok (.lcmp, 1) := by decide +kernel
theorem dX9_days_107 : decode cX9_days 107 = .ok (.ifCond .ne 16, 3) := by decide +kernel
theorem dX9_days_110 : decode cX9_days 110 = .ok (.aload_n 0, 1) := by decide +kernel
theorem dX9_days_111 : decode cX9_days 111 = .ok (.iload 7, 2) := by decide +kernel
theorem dX9_days_113 : decode cX9_days 113 = .ok (.invokevirtual 210, 3) := by decide +kernel
theorem dX9_days_116 : decode cX9_days 116 = .ok (.ifCond .eq 7, 3) := by decide +kernel
theorem dX9_days_119 : decode cX9_days 119 = .ok (.aload_n 0, 1) := by decide +kernel
theorem dX9_days_120 : decode cX9_days 120 = .ok (.invokevirtual 213, 3) := by decide +kernel
theorem dX9_days_123 : decode cX9_days 123 = .ok (.iinc 7 1, 3) := by decide +kernel
theorem dX9_days_126 : decode cX9_days 126 = .ok (.goto (-73), 3) := by decide +kernel
theorem dX9_days_129 : decode cX9_days 129 = .ok (.iload 5, 2) := by decide +kernel
theorem dX9_days_131 : decode cX9_days 131 = .ok (.aload_n 0, 1) := by decide +kernel
theorem dX9_days_132 : decode cX9_days 132 = .ok (.invokevirtual 246, 3) := by decide +kernel
theorem dX9_days_135 : decode cX9_days 135 = .ok (.ifCond .eq 7, 3) := by decide +kernel
theorem dX9_days_138 : decode cX9_days 138 = .ok (.iconst 1, 1) := by decide +kernel
theorem dX9_days_139 : decode cX9_days 139 = .ok (.goto 4, 3) := by decide +kernel
theorem dX9_days_142 : decode cX9_days 142 = .ok (.iconst 0, 1) := by decide +kernel
theorem dX9_days_143 : decode cX9_days 143 = .ok (.iadd, 1) := by decide +kernel
theorem dX9_days_144 : decode cX9_days 144 = .ok (.istore 5, 2) := by decide +kernel
theorem dX9_days_146 : decode cX9_days 146 = .ok (.iinc 6 1, 3) := by decide +kernel
theorem dX9_days_149 : decode cX9_days 149 = .ok (.goto (-109), 3) := by decide +kernel
theorem dX9_days_152 : decode cX9_days 152 = .ok (.iload 5, 2) := by decide +kernel
theorem dX9_days_154 : decode cX9_days 154 = .ok (.ireturn, 1) := by decide +kernel
set_option maxRecDepth 20000 in
theorem ggX9_type_X9_in : GoodIn wsX9_type wsX9_in := goodIn_r _ [7] (by decide +kernel) (by decide +kernel)
set_option maxRecDepth 20000 in
theorem gX9_type_X9_in : GoodIn wsX9_type (va_wsS RX9 74 yX9_in wsX9_in) := goodIn_app (goodIn_of _ (by decide +kernel)) ggX9_type_X9_in
set_option maxRecDepth 20000 in
theorem ggX9_type_X9_bad : GoodIn wsX9_type wsX9_bad := goodIn_r _ [11, 12, 17, 18, 19, 20, 21, 22, 23, 24, 25, 26, 27, 28, 29, 30, 31, 32, 33, 34, 35, 36, 37, 38, 39, 40, 41, 42, 43, 44] (by decide +kernel) (by decide +kernel)
set_option maxRecDepth 20000 in
theorem gX9_type_X9_bad : GoodIn wsX9_type (wsV RX9 84 RX9 yX9_bad wsX9_bad) := goodIn_app (goodIn_of _ (by decide +kernel)) ggX9_type_X9_bad
set_option maxRecDepth 20000 in
theorem ggX9_type_X9_full : GoodIn wsX9_type wsX9_full := goodIn_r _ [16, 12, 17, 18, 19, 20, 21, 22, 23, 24, 25, 26, 27, 28, 29, 30, 31, 32, 33, 34, 35, 36, 37, 38, 39, 40, 41, 42, 43, 44] (by decide +kernel) (by decide +kernel)
set_option maxRecDepth 20000 in
theorem gX9_type_X9_full : GoodIn wsX9_type (wsV RX9 95 RX9 yX9_full wsX9_full) := goodIn_app (goodIn_of _ (by decide +kernel)) ggX9_type_X9_full
theorem dX9_type_0 : decode cX9_type 0 = .ok (.iload_n 1, 1) := by decide +kernel
theorem dX9_type_1 : decode cX9_type 1 = .ok (.i2l, 1) := by decide +kernel
theorem dX9_type_2 : decode cX9_type 2 = .ok (.lconst 0, 1) := by decide +kernel
theorem dX9_type_3 : decode cX9_type 3 = .ok (.ldc2_w 265, 3) := by decide +kernel
theorem dX9_type_6 : decode cX9_type 6 = .ok (.invokestatic 74, 3) := by decide +kernel
theorem dX9_type_9 : decode cX9_type 9 = .ok (.ifCond .ne 10, 3) := by decide +kernel
theorem dX9_type_12 : decode cX9_type 12 = .ok (.aload_n 0, 1) := by decide +kernel
theorem dX9_type_13 : decode cX9_type 13 = .ok (.bipush (-2), 2) := by decide +kernel
theorem dX9_type_15 : decode cX9_type 15 = .ok (.invokevirtual 84, 3) := by decide +kernel
theorem dX9_type_18 : decode cX9_type 18 = .ok (.ireturn, 1) := by decide +kernel
theorem dX9_type_19 : decode cX9_type 19 = .ok (.aload_n 0, 1) := by decide +kernel
theorem dX9_type_20 : decode cX9_type 20 = .ok (.getfield 267, 3) := by decide +kernel
theorem dX9_type_23 : decode cX9_type 23 = .ok (.sipush 150, 3) := by decide +kernel
theorem dX9_type_26 : decode cX9_type 26 = .ok (.if_icmp .ne 8, 3) := by decide +kernel
theorem dX9_type_29 : decode cX9_type 29 = .ok (.aload_n 0, 1) := by decide +kernel
theorem dX9_type_30 : decode cX9_type 30 = .ok (.invokevirtual 95, 3) := by decide +kernel
theorem dX9_type_33 : decode cX9_type 33 = .ok (.ireturn, 1) := by decide +kernel
theorem dX9_type_34 : decode cX9_type 34 = .ok (.aload_n 0, 1) := by decide +kernel
theorem dX9_type_35 : decode cX9_type 35 = .ok (.getfield 57, 3) := by decide +kernel
theorem dX9_type_38 : decode cX9_type 38 = .ok (.aload_n 0, 1) := by decide +kernel
theorem dX9_type_39 : decode cX9_type 39 = .ok (.getfield 267, 3) := by decide +kernel
theorem dX9_type_42 : decode cX9_type 42 = .ok (.iload_n 1, 1) := by decide +kernel
theorem dX9_type_43 : decode cX9_type 43 = .ok (.iastore, 1) := by decide +kernel
theorem dX9_type_44 : decode cX9_type 44 = .ok (.aload_n 0, 1) := by decide +kernel
theorem dX9_type_45 : decode cX9_type 45 = .ok (.dup, 1) := by decide +kernel
theorem dX9_type_46 : decode cX9_type 46 = .ok (.getfield 267, 3) := by decide +kernel
theorem dX9_type_49 : decode cX9_type 49 = .ok (.iconst 1, 1) := by decide +kernel
theorem dX9_type_50 : decode cX9_type 50 = .ok (.iadd, 1) := by decide +kernel
theorem dX9_type_51 : decode cX9_type 51 = .ok (.putfield 267, 3) := by decide +kernel
theorem dX9_type_54 : decode cX9_type 54 = .ok (.aload_n 0, 1) := by decide +kernel
theorem dX9_type_55 : decode cX9_type 55 = .ok (.getfield 267, 3) := by decide +kernel
theorem dX9_type_58 : decode cX9_type 58 = .ok (.ireturn, 1) := by decide +kernel
theorem dX9_clear_0 : decode cX9_clear 0 = .ok (.aload_n 0, 1) := by decide +kernel
theorem dX9_clear_1 : decode cX9_clear 1 = .ok (.getfield 267, 3) := by decide +kernel
theorem dX9_clear_4 : decode cX9_clear 4 = .ok (.istore_n 1, 1) := by decide +kernel
theorem dX9_clear_5 : decode cX9_clear 5 = .ok (.aload_n 0, 1) := by decide +kernel
theorem dX9_clear_6 : decode cX9_clear 6 = .ok (.iconst 0, 1) := by decide +kernel
theorem dX9_clear_7 : decode cX9_clear 7 = .ok (.putfield 267, 3) := by decide +kernel
theorem dX9_clear_10 : decode cX9_clear 10 = .ok (.iload_n 1, 1) := by decide +kernel
theorem dX9_clear_11 : decode cX9_clear 11 = .ok (.ireturn, 1) := by decide +kernel
set_option maxRecDepth 20000 in
theorem ggX9_isSmall_X9_in : GoodIn wsX9_isSmall wsX9_in := goodIn_r _ [6] (by decide +kernel) (by decide +kernel)
set_option maxRecDepth 20000 in
theorem gX9_isSmall_X9_in : GoodIn wsX9_isSmall (va_wsS RX9 74 yX9_in wsX9_in) := goodIn_app (goodIn_of _ (by decide +kernel)) ggX9_isSmall_X9_in
theorem dX9_isSmall_0 : decode cX9_isSmall 0 = .ok (.iload_n 0, 1) := by decide +kernel
theorem dX9_isSmall_1 : decode cX9_isSmall 1 = .ok (.i2l, 1) := by decide +kernel
theorem dX9_isSmall_2 : decode cX9_isSmall 2 = .ok (.ldc2_w 270, 3) := by decide +kernel
theorem dX9_isSmall_5 : decode cX9_isSmall 5 = .ok (.ldc2_w 272, 3) := by decide +kernel
theorem dX9_isSmall_8 : decode cX9_isSmall 8 = .ok (.invokestatic 74, 3) := by decide +kernel
theorem dX9_isSmall_11 : decode cX9_isSmall 11 = .ok (.ireturn, 1) := by decide +kernel
set_option maxRecDepth 20000 in
theorem ggX9_isFigure_X9_in : GoodIn wsX9_isFigure wsX9_in := goodIn_r _ [6] (by decide +kernel) (by decide +kernel)
set_option maxRecDepth 20000 in
theorem gX9_isFigure_X9_in : GoodIn wsX9_isFigure (va_wsS RX9 74 yX9_in wsX9_in) := goodIn_app (goodIn_of _ (by decide +kernel)) ggX9_isFigure_X9_in
theorem dX9_isFigure_0 : decode cX9_isFigure 0 = .ok (.iload_n 0, 1) := by decide +kernel
theorem dX9_isFigure_1 : decode cX9_isFigure 1 = .ok (.i2l, 1) := by decide +kernel
theorem dX9_isFigure_2 : decode cX9_isFigure 2 = .ok (.ldc2_w 274, 3) := by decide +kernel
theorem dX9_isFigure_5 : decode cX9_isFigure 5 = .ok (.ldc2_w 276, 3) := by decide +kernel
theorem dX9_isFigure_8 : decode cX9_isFigure 8 = .ok (.invokestatic 74, 3) := by decide +kernel
theorem dX9_isFigure_11 : decode cX9_isFigure 11 = .ok (.ireturn, 1) := by decide +kernel
set_option maxRecDepth 20000 in
theorem ggX9_lookAt_X9_isSmall : GoodIn wsX9_lookAt wsX9_isSmall := goodIn_r _ [10, 11, 12, 13, 14, 9, 15] (by decide +kernel) (by decide +kernel)
set_option maxRecDepth 20000 in
theorem gX9_lookAt_X9_isSmall : GoodIn wsX9_lookAt (va_wsS RX9 290 yX9_isSmall wsX9_isSmall) := goodIn_app (goodIn_of _ (by decide +kernel)) ggX9_lookAt_X9_isSmall
set_option maxRecDepth 20000 in
theorem ggX9_lookAt_X9_isFigure : GoodIn wsX9_lookAt wsX9_isFigure := goodIn_r _ [18, 19, 20, 13, 14, 9, 15] (by decide +kernel) (by decide +kernel)
set_option maxRecDepth 20000 in
theorem gX9_lookAt_X9_isFigure : GoodIn wsX9_lookAt (va_wsS RX9 293 yX9_isFigure wsX9_isFigure) := goodIn_app (goodIn_of _ (by decide +kernel)) ggX9_lookAt_X9_isFigure
theorem dX9_lookAt_0 : decode cX9_lookAt 0 = .ok (.aload_n 0, 1) := by decide +kernel
theorem dX9_lookAt_1 : decode cX9_lookAt 1 = .ok (.iload_n 1, 1) := by decide +kernel
theorem dX9_lookAt_2 : decode cX9_lookAt 2 = .ok (.putfield 278, 3) := by decide +kernel
theorem dX9_lookAt_5 : decode cX9_lookAt 5 = .ok (.aload_n 0, 1) := by decide +kernel
theorem dX9_lookAt_6 : decode cX9_lookAt 6 = .ok (.getfield 278, 3) := by decide +kernel
theorem dX9_lookAt_9 : decode cX9_lookAt 9 = .ok (.aload_n 0, 1) := by decide +kernel
theorem dX9_lookAt_10 : decode cX9_lookAt 10 = .ok (.getfield 267, 3) := by decide +kernel
theorem dX9_lookAt_13 : decode cX9_lookAt 13 = .ok (.if_icmp .ge 30, 3) := by decide +kernel
theorem dX9_lookAt_16 : decode cX9_lookAt 16 = .ok (.aload_n 0, 1) := by decide +kernel
theorem dX9_lookAt_17 : decode cX9_lookAt 17 = .ok (.getfield 57, 3) := by decide +kernel
theorem dX9_lookAt_20 : decode cX9_lookAt 20 = .ok (.aload_n 0, 1) := by decide +kernel
theorem dX9_lookAt_21 : decode cX9_lookAt 21 = .ok (.getfield 278, 3) := by decide +kernel
theorem dX9_lookAt_24 : decode cX9_lookAt 24 = .ok (.iaload, 1) := by decide +kernel
theorem dX9_lookAt_25 : decode cX9_lookAt 25 = .ok (.bipush 32, 2) := by decide +kernel
theorem dX9_lookAt_27 : decode cX9_lookAt 27 = .ok (.if_icmp .ne 16, 3) := by decide +kernel
theorem dX9_lookAt_30 : decode cX9_lookAt 30 = .ok (.aload_n 0, 1) := by decide +kernel
theorem dX9_lookAt_31 : decode cX9_lookAt 31 = .ok (.dup, 1) := by decide +kernel
theorem dX9_lookAt_32 : decode cX9_lookAt 32 = .ok (.getfield 278, 3) := by decide +kernel
theorem dX9_lookAt_35 : decode cX9_lookAt 35 = .ok (.iconst 1, 1) := by decide +kernel
theorem dX9_lookAt_36 : decode cX9_lookAt 36 = .ok (.iadd, 1) := by decide +kernel
theorem dX9_lookAt_37 : decode cX9_lookAt 37 = .ok (.putfield 278, 3) := by decide +kernel
theorem dX9_lookAt_40 : decode cX9_lookAt 40 = .ok (.goto (-35), 3) := by decide +kernel
theorem dX9_lookAt_43 : decode cX9_lookAt 43 = .ok (.aload_n 0, 1) := by decide +kernel
theorem dX9_lookAt_44 : decode cX9_lookAt 44 = .ok (.iconst 0, 1) := by decide +kernel
theorem dX9_lookAt_45 : decode cX9_lookAt 45 = .ok (.putfield 281, 3) := by decide +kernel
theorem dX9_lookAt_48 : decode cX9_lookAt 48 = .ok (.aload_n 0, 1) := by decide +kernel
theorem dX9_lookAt_49 : decode cX9_lookAt 49 = .ok (.iconst 0, 1) := by decide +kernel
theorem dX9_lookAt_50 : decode cX9_lookAt 50 = .ok (.putfield 284, 3) := by decide +kernel
theorem dX9_lookAt_53 : decode cX9_lookAt 53 = .ok (.aload_n 0, 1) := by decide +kernel
theorem dX9_lookAt_54 : decode cX9_lookAt 54 = .ok (.iconst 0, 1) := by decide +kernel
theorem dX9_lookAt_55 : decode cX9_lookAt 55 = .ok (.putfield 287, 3) := by decide +kernel
theorem dX9_lookAt_58 : decode cX9_lookAt 58 = .ok (.aload_n 0, 1) := by decide +kernel
theorem dX9_lookAt_59 : decode cX9_lookAt 59 = .ok (.getfield 278, 3) := by decide +kernel
theorem dX9_lookAt_62 : decode cX9_lookAt 62 = .ok (.aload_n 0, 1) := by decide +kernel
theorem dX9_lookAt_63 : decode cX9_lookAt 63 = .ok (.getfield 267, 3) := by decide +kernel
theorem dX9_lookAt_66 : decode cX9_lookAt 66 = .ok (.if_icmp .ne 4, 3) := by decide +kernel
theorem dX9_lookAt_69 : decode cX9_lookAt 69 = .ok (.return_, 1) := by decide +kernel
theorem dX9_lookAt_70 : decode cX9_lookAt 70 = .ok (.aload_n 0, 1) := by decide +kernel
theorem dX9_lookAt_71 : decode cX9_lookAt 71 = .ok (.getfield 57, 3) := by decide +kernel
theorem dX9_lookAt_74 : decode cX9_lookAt 74 = .ok (.aload_n 0, 1) := by decide +kernel
theorem dX9_lookAt_75 : decode cX9_lookAt 75 = .ok (.getfield 278, 3) := by decide +kernel
theorem dX9_lookAt_78 : decode cX9_lookAt 78 = .ok (.iaload, 1) := by decide +kernel
theorem dX9_lookAt_79 : decode cX9_lookAt 79 = .ok (.istore_n 2, 1) := by decide +kernel
theorem dX9_lookAt_80 : decode cX9_lookAt 80 = .ok (.aload_n 0, 1) := by decide +kernel
theorem dX9_lookAt_81 : decode cX9_lookAt 81 = .ok (.iload_n 2, 1) := by decide +kernel
theorem dX9_lookAt_82 : decode cX9_lookAt 82 = .ok (.invokestatic 290, 3) := by decide +kernel
theorem dX9_lookAt_85 : decode cX9_lookAt 85 = .ok (.ifCond .eq 7, 3) := by decide +kernel
theorem dX9_lookAt_88 : decode cX9_lookAt 88 = .ok (.iconst 1, 1) := by decide +kernel
theorem dX9_lookAt_89 : decode cX9_lookAt 89 = .ok (.goto 25, 3) := by decide +kernel
theorem dX9_lookAt_92 : decode cX9_lookAt 92 = .ok (.iload_n 2, 1) := by decide +kernel
theorem dX9_lookAt_93 : decode cX9_lookAt 93 = .ok (.invokestatic 293, 3) := by decide +kernel
theorem dX9_lookAt_96 : decode cX9_lookAt 96 = .ok (.ifCond .eq 7, 3) := by decide +kernel
theorem dX9_lookAt_99 : decode cX9_lookAt 99 = .ok (.iconst 2, 1) := by decide +kernel
theorem dX9_lookAt_100 : decode cX9_lookAt 100 = .ok (.goto 14, 3) := by decide +kernel
theorem dX9_lookAt_103 : decode cX9_lookAt 103 = .ok (.iload_n 2, 1) := by decide +kernel
theorem dX9_lookAt_104 : decode cX9_lookAt 104 = .ok (.bipush 59, 2) := by decide +kernel
theorem dX9_lookAt_106 : decode cX9_lookAt 106 = .ok (.if_icmp .ne 7, 3) := by decide +kernel
theorem dX9_lookAt_109 : decode cX9_lookAt 109 = .ok (.iconst 3, 1) := by decide +kernel
theorem dX9_lookAt_110 : decode cX9_lookAt 110 = .ok (.goto 4, 3) := by decide +kernel
theorem dX9_lookAt_113 : decode cX9_lookAt 113 = .ok (.iconst 4, 1) := by decide +kernel
theorem dX9_lookAt_114 : decode cX9_lookAt 114 = .ok (.putfield 284, 3) := by decide +kernel
theorem dX9_lookAt_117 : decode cX9_lookAt 117 = .ok (.aload_n 0, 1) := by decide +kernel
theorem dX9_lookAt_118 : decode cX9_lookAt 118 = .ok (.iconst 1, 1) := by decide +kernel
theorem dX9_lookAt_119 : decode cX9_lookAt 119 = .ok (.putfield 281, 3) := by decide +kernel
theorem dX9_lookAt_122 : decode cX9_lookAt 122 = .ok (.aload_n 0, 1) := by decide +kernel
theorem dX9_lookAt_123 : decode cX9_lookAt 123 = .ok (.getfield 284, 3) := by decide +kernel
theorem dX9_lookAt_126 : decode cX9_lookAt 126 = .ok (.iconst 3, 1) := by decide +kernel
theorem dX9_lookAt_127 : decode cX9_lookAt 127 = .ok (.if_icmp .ge 7, 3) := by decide +kernel
theorem dX9_lookAt_130 : decode cX9_lookAt 130 = .ok (.iconst 1, 1) := by decide +kernel
theorem dX9_lookAt_131 : decode cX9_lookAt 131 = .ok (.goto 4, 3) := by decide +kernel
theorem dX9_lookAt_134 : decode cX9_lookAt 134 = .ok (.iconst 0, 1) := by decide +kernel
theorem dX9_lookAt_135 : decode cX9_lookAt 135 = .ok (.istore_n 3, 1) := by decide +kernel
theorem dX9_lookAt_136 : decode cX9_lookAt 136 = .ok (.iload_n 3, 1) := by decide +kernel
theorem dX9_lookAt_137 : decode cX9_lookAt 137 = .ok (.ifCond .eq 78, 3) := by decide +kernel
theorem dX9_lookAt_140 : decode cX9_lookAt 140 = .ok (.aload_n 0, 1) := by decide +kernel
theorem dX9_lookAt_141 : decode cX9_lookAt 141 = .ok (.getfield 278, 3) := by decide +kernel
theorem dX9_lookAt_144 : decode cX9_lookAt 144 = .ok (.aload_n 0, 1) := by decide +kernel
theorem dX9_lookAt_145 : decode cX9_lookAt 145 = .ok (.getfield 281, 3) := by decide +kernel
theorem dX9_lookAt_148 : decode cX9_lookAt 148 = .ok (.iadd, 1) := by decide +kernel
theorem dX9_lookAt_149 : decode cX9_lookAt 149 = .ok (.aload_n 0, 1) := by decide +kernel
theorem dX9_lookAt_150 : decode cX9_lookAt 150 = .ok (.getfield 267, 3) := by decide +kernel
theorem dX9_lookAt_153 : decode cX9_lookAt 153 = .ok (.if_icmp .ge 62, 3) := by decide +kernel
theorem dX9_lookAt_156 : decode cX9_lookAt 156 = .ok (.aload_n 0, 1) := by decide +kernel
theorem dX9_lookAt_157 : decode cX9_lookAt 157 = .ok (.getfield 57, 3) := by decide +kernel
theorem dX9_lookAt_160 : decode cX9_lookAt 160 = .ok (.aload_n 0, 1) := by decide +kernel
theorem dX9_lookAt_161 : decode cX9_lookAt 161 = .ok (.getfield 278, 3) := by decide +kernel
theorem dX9_lookAt_164 : decode cX9_lookAt 164 = .ok (.aload_n 0, 1) := by decide +kernel
theorem dX9_lookAt_165 : decode cX9_lookAt 165 = .ok (.getfield 281, 3) := by decide +kernel
theorem dX9_lookAt_168 : decode cX9_lookAt 168 = .ok (.iadd, 1) := by decide +kernel
theorem dX9_lookAt_169 : decode cX9_lookAt 169 = .ok (.iaload, 1) := by decide +kernel
theorem dX9_lookAt_170 : decode cX9_lookAt 170 = .ok (.istore 4, 2) := by decide +kernel
theorem dX9_lookAt_172 : decode cX9_lookAt 172 = .ok (.aload_n 0, 1) := by decide +kernel
theorem dX9_lookAt_173 : decode cX9_lookAt 173 = .ok (.getfield 284, 3) := by decide +kernel
theorem dX9_lookAt_176 : decode cX9_lookAt 176 = .ok (.iconst 1, 1) := by decide +kernel
theorem dX9_lookAt_177 : decode cX9_lookAt 177 = .ok (.if_icmp .ne 11, 3) := by decide +kernel
theorem dX9_lookAt_180 : decode cX9_lookAt 180 = .ok (.iload 4, 2) := by decide +kernel
theorem dX9_lookAt_182 : decode cX9_lookAt 182 = .ok (.invokestatic 290, 3) := by decide +kernel
theorem dX9_lookAt_185 : decode cX9_lookAt 185 = .ok (.goto 8, 3) := by decide +kernel
theorem dX9_lookAt_188 : decode cX9_lookAt 188 = .ok (.iload 4, 2) := by decide +kernel
theorem dX9_lookAt_190 : decode cX9_lookAt 190 = .ok (.invokestatic 293, 3) := by decide +kernel
theorem dX9_lookAt_193 : decode cX9_lookAt 193 = .ok (.istore_n 3, 1) := by decide +kernel
theorem dX9_lookAt_194 : decode cX9_lookAt 194 = .ok (.aload_n 0, 1) := by decide +kernel
theorem dX9_lookAt_195 : decode cX9_lookAt 195 = .ok (.dup, 1) := by decide +kernel
theorem dX9_lookAt_196 : decode cX9_lookAt 196 = .ok (.getfield 281, 3) := by decide +kernel
theorem dX9_lookAt_199 : decode cX9_lookAt 199 = .ok (.iload_n 3, 1) := by decide +kernel
theorem dX9_lookAt_200 : decode cX9_lookAt 200 = .ok (.ifCond .eq 7, 3) := by decide +kernel
theorem dX9_lookAt_203 : decode cX9_lookAt 203 = .ok (.iconst 1, 1) := by decide +kernel
theorem dX9_lookAt_204 : decode cX9_lookAt 204 = .ok (.goto 4, 3) := by decide +kernel
theorem dX9_lookAt_207 : decode cX9_lookAt 207 = .ok (.iconst 0, 1) := by decide +kernel
theorem dX9_lookAt_208 : decode cX9_lookAt 208 = .ok (.iadd, 1) := by decide +kernel
theorem dX9_lookAt_209 : decode cX9_lookAt 209 = .ok (.putfield 281, 3) := by decide +kernel
theorem dX9_lookAt_212 : decode cX9_lookAt 212 = .ok (.goto (-76), 3) := by decide +kernel
theorem dX9_lookAt_215 : decode cX9_lookAt 215 = .ok (.iconst 0, 1) := by decide +kernel
theorem dX9_lookAt_216 : decode cX9_lookAt 216 = .ok (.istore 4, 2) := by decide +kernel
theorem dX9_lookAt_218 : decode cX9_lookAt 218 = .ok (.iload 4, 2) := by decide +kernel
theorem dX9_lookAt_220 : decode cX9_lookAt 220 = .ok (.aload_n 0, 1) := by decide +kernel
theorem dX9_lookAt_221 : decode cX9_lookAt 221 = .ok (.getfield 281, 3) := by decide +kernel
theorem dX9_lookAt_224 : decode cX9_lookAt 224 = .ok (.if_icmp .ge 50, 3) := by decide +kernel
theorem dX9_lookAt_227 : decode cX9_lookAt 227 = .ok (.iload 4, 2) := by decide +kernel
theorem dX9_lookAt_229 : decode cX9_lookAt 229 = .ok (.iconst 2, 1) := by decide +kernel
theorem dX9_lookAt_230 : decode cX9_lookAt 230 = .ok (.if_icmp .ge 44, 3) := by decide +kernel
theorem dX9_lookAt_233 : decode cX9_lookAt 233 = .ok (.aload_n 0, 1) := by decide +kernel
theorem dX9_lookAt_234 : decode cX9_lookAt 234 = .ok (.getfield 284, 3) := by decide +kernel
theorem dX9_lookAt_237 : decode cX9_lookAt 237 = .ok (.iconst 2, 1) := by decide +kernel
theorem dX9_lookAt_238 : decode cX9_lookAt 238 = .ok (.if_icmp .ne 36, 3) := by decide +kernel
theorem dX9_lookAt_241 : decode cX9_lookAt 241 = .ok (.aload_n 0, 1) := by decide +kernel
theorem dX9_lookAt_242 : decode cX9_lookAt 242 = .ok (.bipush 10, 2) := by decide +kernel
theorem dX9_lookAt_244 : decode cX9_lookAt 244 = .ok (.aload_n 0, 1) := by decide +kernel
theorem dX9_lookAt_245 : decode cX9_lookAt 245 = .ok (.getfield 287, 3) := by decide +kernel
theorem dX9_lookAt_248 : decode cX9_lookAt 248 = .ok (.imul, 1) := by decide +kernel
theorem dX9_lookAt_249 : decode cX9_lookAt 249 = .ok (.aload_n 0, 1) := by decide +kernel
theorem dX9_lookAt_250 : decode cX9_lookAt 250 = .ok (.getfield 57, 3) := by decide +kernel
theorem dX9_lookAt_253 : decode cX9_lookAt 253 = .ok (.aload_n 0, 1) := by decide +kernel
theorem dX9_lookAt_254 : decode cX9_lookAt 254 = .ok (.getfield 278, 3) := by decide +kernel
theorem dX9_lookAt_257 : decode cX9_lookAt 257 = .ok (.iload 4, 2) := by decide +kernel
theorem dX9_lookAt_259 : decode cX9_lookAt 259 = .ok (.iadd, 1) := by decide +kernel
theorem dX9_lookAt_260 : decode cX9_lookAt 260 = .ok (.iaload, 1) := by decide +kernel
theorem dX9_lookAt_261 : decode cX9_lookAt 261 = .ok (.iadd, 1) := by decide +kernel
theorem dX9_lookAt_262 : decode cX9_lookAt 262 = .ok (.bipush 48, 2) := by decide +kernel
theorem dX9_lookAt_264 : decode cX9_lookAt 264 = .ok (.isub, 1) := by decide +kernel
theorem dX9_lookAt_265 : decode cX9_lookAt 265 = .ok (.putfield 287, 3) := by decide +kernel
theorem dX9_lookAt_268 : decode cX9_lookAt 268 = .ok (.iinc 4 1, 3) := by decide +kernel
theorem dX9_lookAt_271 : decode cX9_lookAt 271 = .ok (.goto (-53), 3) := by decide +kernel
theorem dX9_lookAt_274 : decode cX9_lookAt 274 = .ok (.aload_n 0, 1) := by decide +kernel
theorem dX9_lookAt_275 : decode cX9_lookAt 275 = .ok (.aload_n 0, 1) := by decide +kernel
theorem dX9_lookAt_276 : decode cX9_lookAt 276 = .ok (.getfield 284, 3) := by decide +kernel
theorem dX9_lookAt_279 : decode cX9_lookAt 279 = .ok (.iconst 2, 1) := by decide +kernel
theorem dX9_lookAt_280 : decode cX9_lookAt 280 = .ok (.if_icmp .ne 15, 3) := by decide +kernel
theorem dX9_lookAt_283 : decode cX9_lookAt 283 = .ok (.aload_n 0, 1) := by decide +kernel
theorem dX9_lookAt_284 : decode cX9_lookAt 284 = .ok (.getfield 281, 3) := by decide +kernel
theorem dX9_lookAt_287 : decode cX9_lookAt 287 = .ok (.iconst 2, 1) := by decide +kernel
theorem dX9_lookAt_288 : decode cX9_lookAt 288 = .ok (.if_icmp .le 7, 3) := by decide +kernel
theorem dX9_lookAt_291 : decode cX9_lookAt 291 = .ok (.iconst 4, 1) := by decide +kernel
theorem dX9_lookAt_292 : decode cX9_lookAt 292 = .ok (.goto 7, 3) := by decide +kernel
theorem dX9_lookAt_295 : decode cX9_lookAt 295 = .ok (.aload_n 0, 1) := by decide +kernel
theorem dX9_lookAt_296 : decode cX9_lookAt 296 = .ok (.getfield 284, 3) := by decide +kernel
theorem dX9_lookAt_299 : decode cX9_lookAt 299 = .ok (.putfield 284, 3) := by decide +kernel
theorem dX9_lookAt_302 : decode cX9_lookAt 302 = .ok (.return_, 1) := by decide +kernel
set_option maxRecDepth 20000 in
theorem ggX9_goBehind_X9_lookAt : GoodIn wsX9_goBehind wsX9_lookAt := goodIn_r _ [7, 1, 8, 9, 2, 10, 11, 12, 13, 6, 14, 15, 16, 17, 18, 19, 20, 21, 22, 23, 24, 25, 26, 27, 28, 29, 30, 31, 32, 33, 34, 35, 36, 37, 38, 39, 40, 41, 42, 43, 44, 45, 46, 47, 48, 49, 50, 51, 52] (by decide +kernel) (by decide +kernel)
set_option maxRecDepth 20000 in
theorem gX9_goBehind_X9_lookAt : GoodIn wsX9_goBehind (wsV RX9 296 RX9 yX9_lookAt wsX9_lookAt) := goodIn_app (goodIn_of _ (by decide +kernel)) ggX9_goBehind_X9_lookAt
theorem dX9_goBehind_0 : decode cX9_goBehind 0 = .ok (.aload_n 0, 1) := by decide +kernel
theorem dX9_goBehind_1 : decode cX9_goBehind 1 = .ok (.aload_n 0, 1) := by decide +kernel
theorem dX9_goBehind_2 : decode cX9_goBehind 2 = .ok (.getfield 278, 3) := by decide +kernel
theorem dX9_goBehind_5 : decode cX9_goBehind 5 = .ok (.aload_n 0, 1) := by decide +kernel
theorem dX9_goBehind_6 : decode cX9_goBehind 6 = .ok (.getfield 281, 3) := by decide +kernel
theorem dX9_goBehind_9 : decode cX9_goBehind 9 = .ok (.iadd, 1) := by decide +kernel
theorem dX9_goBehind_10 : decode cX9_goBehind 10 = .ok (.invokevirtual 296, 3) := by decide +kernel
theorem dX9_goBehind_13 : decode cX9_goBehind 13 = .ok (.return_, 1) := by decide +kernel
theorem dX9_spells_0 : decode cX9_spells 0 = .ok (.aload_n 0, 1) := by decide +kernel
theorem dX9_spells_1 : decode cX9_spells 1 = .ok (.getfield 284, 3) := by decide +kernel
theorem dX9_spells_4 : decode cX9_spells 4 = .ok (.iconst 1, 1) := by decide +kernel
theorem dX9_spells_5 : decode cX9_spells 5 = .ok (.if_icmp .ne 15, 3) := by decide +kernel
theorem dX9_spells_8 : decode cX9_spells 8 = .ok (.aload_n 0, 1) := by decide +kernel
theorem dX9_spells_9 : decode cX9_spells 9 = .ok (.getfield 281, 3) := by decide +kernel
theorem dX9_spells_12 : decode cX9_spells 12 = .ok (.iload_n 1, 1) := by decide +kernel
theorem dX9_spells_13 : decode cX9_spells 13 = .ok (.if_icmp .ne 7, 3) := by decide +kernel
theorem dX9_spells_16 : decode cX9_spells 16 = .ok (.iconst 1, 1) := by decide +kernel
theorem dX9_spells_17 : decode cX9_spells 17 = .ok (.goto 4, 3) := by decide +kernel
theorem dX9_spells_20 : decode cX9_spells 20 = .ok (.iconst 0, 1) := by decide +kernel
theorem dX9_spells_21 : decode cX9_spells 21 = .ok (.istore 8, 2) := by decide +kernel
theorem dX9_spells_23 : decode cX9_spells 23 = .ok (.iconst 0, 1) := by decide +kernel
theorem dX9_spells_24 : decode cX9_spells 24 = .ok (.istore 9, 2) := by decide +kernel
theorem dX9_spells_26 : decode cX9_spells 26 = .ok (.iload 9, 2) := by decide +kernel
theorem dX9_spells_28 : decode cX9_spells 28 = .ok (.iload_n 1, 1) := by decide +kernel
theorem dX9_spells_29 : decode cX9_spells 29 = .ok (.if_icmp .ge 90, 3) := by decide +kernel
theorem dX9_spells_32 : decode cX9_spells 32 = .ok (.iload 8, 2) := by decide +kernel
theorem dX9_spells_34 : decode cX9_spells 34 = .ok (.ifCond .eq 85, 3) := by decide +kernel
theorem dX9_spells_37 : decode cX9_spells 37 = .ok (.aload_n 0, 1) := by decide +kernel
theorem dX9_spells_38 : decode cX9_spells 38 = .ok (.getfield 57, 3) := by decide +kernel
theorem dX9_spells_41 : decode cX9_spells 41 = .ok (.aload_n 0, 1) := by decide +kernel
theorem dX9_spells_42 : decode cX9_spells 42 = .ok (.getfield 278, 3) := by decide +kernel
theorem dX9_spells_45 : decode cX9_spells 45 = .ok (.iload 9, 2) := by decide +kernel
theorem dX9_spells_47 : decode cX9_spells 47 = .ok (.iadd, 1) := by decide +kernel
theorem dX9_spells_48 : decode cX9_spells 48 = .ok (.iaload, 1) := by decide +kernel
theorem dX9_spells_49 : decode cX9_spells 49 = .ok (.iload 9, 2) := by decide +kernel
theorem dX9_spells_51 : decode cX9_spells 51 = .ok (.ifCond .ne 7, 3) := by decide +kernel
theorem dX9_spells_54 : decode cX9_spells 54 = .ok (.iload_n 2, 1) := by decide +kernel
theorem dX9_spells_55 : decode cX9_spells 55 = .ok (.goto 48, 3) := by decide +kernel
theorem dX9_spells_58 : decode cX9_spells 58 = .ok (.iload 9, 2) := by decide +kernel
theorem dX9_spells_60 : decode cX9_spells 60 = .ok (.iconst 1, 1) := by decide +kernel
theorem dX9_spells_61 : decode cX9_spells 61 = .ok (.if_icmp .ne 7, 3) := by decide +kernel
theorem dX9_spells_64 : decode cX9_spells 64 = .ok (.iload_n 3, 1) := by decide +kernel
theorem dX9_spells_65 : decode cX9_spells 65 = .ok (.goto 38, 3) := by decide +kernel
theorem dX9_spells_68 : decode cX9_spells 68 = .ok (.iload 9, 2) := by decide +kernel
theorem dX9_spells_70 : decode cX9_spells 70 = .ok (.iconst 2, 1) := by decide +kernel
theorem dX9_spells_71 : decode cX9_spells 71 = .ok (.if_icmp .ne 8, 3) := by decide +kernel
theorem dX9_spells_74 : decode cX9_spells 74 = .ok (.iload 4, 2) := by decide +kernel
theorem dX9_spells_76 : decode cX9_spells 76 = .ok (.goto 27, 3) := by decide +kernel
theorem dX9_spells_79 : decode cX9_spells 79 = .ok (.iload 9, 2) := by decide +kernel
theorem dX9_spells_81 : decode cX9_spells 81 = .ok (.iconst 3, 1) := by decide +kernel
theorem dX9_spells_82 : decode cX9_spells 82 = .ok (.if_icmp .ne 8, 3) := by decide +kernel
theorem dX9_spells_85 : decode cX9_spells 85 = .ok (.iload 5, 2) := by decide +kernel
theorem dX9_spells_87 : decode cX9_spells 87 = .ok (.goto 16, 3) := by decide +kernel
theorem dX9_spells_90 : decode cX9_spells 90 = .ok (.iload 9, 2) := by decide +kernel
theorem dX9_spells_92 : decode cX9_spells 92 = .ok (.iconst 4, 1) := by decide +kernel
theorem dX9_spells_93 : decode cX9_spells 93 = .ok (.if_icmp .ne 8, 3) := by decide +kernel
theorem dX9_spells_96 : decode cX9_spells 96 = .ok (.iload 6, 2) := by decide +kernel
theorem dX9_spells_98 : decode cX9_spells 98 = .ok (.goto 5, 3) := by decide +kernel
theorem dX9_spells_101 : decode cX9_spells 101 = .ok (.iload 7, 2) := by decide +kernel
theorem dX9_spells_103 : decode cX9_spells 103 = .ok (.if_icmp .ne 7, 3) := by decide +kernel
theorem dX9_spells_106 : decode cX9_spells 106 = .ok (.iconst 1, 1) := by decide +kernel
theorem dX9_spells_107 : decode cX9_spells 107 = .ok (.goto 4, 3) := by decide +kernel
theorem dX9_spells_110 : decode cX9_spells 110 = .ok (.iconst 0, 1) := by decide +kernel
theorem dX9_spells_111 : decode cX9_spells 111 = .ok (.istore 8, 2) := by decide +kernel
theorem dX9_spells_113 : decode cX9_spells 113 = .ok (.iinc 9 1, 3) := by decide +kernel
theorem dX9_spells_116 : decode cX9_spells 116 = .ok (.goto (-90), 3) := by decide +kernel
theorem dX9_spells_119 : decode cX9_spells 119 = .ok (.iload 8, 2) := by decide +kernel
theorem dX9_spells_121 : decode cX9_spells 121 = .ok (.ireturn, 1) := by decide +kernel
set_option maxRecDepth 20000 in
theorem ggX9_takes_X9_in : GoodIn wsX9_takes wsX9_in := goodIn_r _ [7] (by decide +kernel) (by decide +kernel)
set_option maxRecDepth 20000 in
theorem gX9_takes_X9_in : GoodIn wsX9_takes (va_wsS RX9 74 yX9_in wsX9_in) := goodIn_app (goodIn_of _ (by decide +kernel)) ggX9_takes_X9_in
set_option maxRecDepth 20000 in
theorem ggX9_takes_X9_goBehind : GoodIn wsX9_takes wsX9_goBehind := goodIn_r _ [11, 12, 13, 14, 15, 16, 6, 17, 18, 19, 1, 2, 20, 21, 22, 23, 24, 4, 5, 7, 25, 26, 27, 28, 29, 30, 31, 32, 33, 34, 35, 36, 37, 38, 39, 40, 41, 42, 43, 44, 45, 46, 47, 48, 49, 50, 51, 52, 53, 54, 55, 56, 57] (by decide +kernel) (by decide +kernel)
set_option maxRecDepth 20000 in
theorem gX9_takes_X9_goBehind : GoodIn wsX9_takes (wsV RX9 299 RX9 yX9_goBehind wsX9_goBehind) := goodIn_app (goodIn_of _ (by decide +kernel)) ggX9_takes_X9_goBehind
theorem dX9_takes_0 : decode cX9_takes 0 = .ok (.aload_n 0, 1) := by decide +kernel
theorem dX9_takes_1 : decode cX9_takes 1 = .ok (.getfield 284, 3) := by decide +kernel
theorem dX9_takes_4 : decode cX9_takes 4 = .ok (.iconst 2, 1) := by decide +kernel
theorem dX9_takes_5 : decode cX9_takes 5 = .ok (.if_icmp .ne 18, 3) := by decide +kernel
theorem dX9_takes_8 : decode cX9_takes 8 = .ok (.aload_n 0, 1) := by decide +kernel
theorem dX9_takes_9 : decode cX9_takes 9 = .ok (.getfield 287, 3) := by decide +kernel
theorem dX9_takes_12 : decode cX9_takes 12 = .ok (.i2l, 1) := by decide +kernel
theorem dX9_takes_13 : decode cX9_takes 13 = .ok (.iload_n 2, 1) := by decide +kernel
theorem dX9_takes_14 : decode cX9_takes 14 = .ok (.i2l, 1) := by decide +kernel
theorem dX9_takes_15 : decode cX9_takes 15 = .ok (.iload_n 3, 1) := by decide +kernel
theorem dX9_takes_16 : decode cX9_takes 16 = .ok (.i2l, 1) := by decide +kernel
theorem dX9_takes_17 : decode cX9_takes 17 = .ok (.invokestatic 74, 3) := by decide +kernel
theorem dX9_takes_20 : decode cX9_takes 20 = .ok (.ifCond .ne 5, 3) := by decide +kernel
theorem dX9_takes_23 : decode cX9_takes 23 = .ok (.iconst 0, 1) := by decide +kernel
theorem dX9_takes_24 : decode cX9_takes 24 = .ok (.ireturn, 1) := by decide +kernel
theorem dX9_takes_25 : decode cX9_takes 25 = .ok (.aload_n 0, 1) := by decide +kernel
theorem dX9_takes_26 : decode cX9_takes 26 = .ok (.getfield 63, 3) := by decide +kernel
theorem dX9_takes_29 : decode cX9_takes 29 = .ok (.iload_n 1, 1) := by decide +kernel
theorem dX9_takes_30 : decode cX9_takes 30 = .ok (.aload_n 0, 1) := by decide +kernel
theorem dX9_takes_31 : decode cX9_takes 31 = .ok (.getfield 287, 3) := by decide +kernel
theorem dX9_takes_34 : decode cX9_takes 34 = .ok (.iastore, 1) := by decide +kernel
theorem dX9_takes_35 : decode cX9_takes 35 = .ok (.aload_n 0, 1) := by decide +kernel
theorem dX9_takes_36 : decode cX9_takes 36 = .ok (.invokevirtual 299, 3) := by decide +kernel
theorem dX9_takes_39 : decode cX9_takes 39 = .ok (.iconst 1, 1) := by decide +kernel
theorem dX9_takes_40 : decode cX9_takes 40 = .ok (.ireturn, 1) := by decide +kernel
set_option maxRecDepth 20000 in
theorem ggX9_takesBows_X9_goBehind : GoodIn wsX9_takesBows wsX9_goBehind := goodIn_r _ [7, 8, 9, 10, 11, 12, 6, 13, 14, 15, 16, 17, 18, 19, 20, 21, 22, 23, 24, 25, 26, 27, 28, 29, 30, 35, 36, 37, 38, 39, 40, 41, 42, 43, 44, 45, 46, 47, 48, 49, 50, 51, 52, 53, 54, 55, 56, 57, 58, 59, 60, 61, 62] (by decide +kernel) (by decide +kernel)
set_option maxRecDepth 20000 in
theorem gX9_takesBows_X9_goBehind : GoodIn wsX9_takesBows (wsV RX9 299 RX9 yX9_goBehind wsX9_goBehind) := goodIn_app (goodIn_of _ (by decide +kernel)) ggX9_takesBows_X9_goBehind
set_option maxRecDepth 20000 in
theorem ggX9_takesBows_X9_takes : GoodIn wsX9_takesBows wsX9_takes := goodIn_r _ [34, 16, 17, 2, 23, 24, 6, 25, 3, 4, 5, 7, 8, 9, 10, 11, 12, 13, 14, 15, 18, 19, 20, 21, 22, 26, 27, 28, 29, 30, 35, 36, 37, 38, 39, 40, 41, 42, 43, 44, 45, 46, 47, 48, 49, 50, 51, 52, 53, 54, 55, 56, 57, 58, 59, 60, 61, 62] (by decide +kernel) (by decide +kernel)
set_option maxRecDepth 20000 in
theorem gX9_takesBows_X9_takes : GoodIn wsX9_takesBows (wsV RX9 302 RX9 yX9_takes wsX9_takes) := goodIn_app (goodIn_of _ (by decide +kernel)) ggX9_takesBows_X9_takes
theorem dX9_takesBows_0 : decode cX9_takesBows 0 = .ok (.aload_n 0, 1) := by decide +kernel
theorem dX9_takesBows_1 : decode cX9_takesBows 1 = .ok (.invokevirtual 299, 3) := by decide +kernel
theorem dX9_takesBows_4 : decode cX9_takesBows 4 = .ok (.aload_n 0, 1) := by decide +kernel
theorem dX9_takesBows_5 : decode cX9_takesBows 5 = .ok (.iconst 0, 1) := by decide +kernel
theorem dX9_takesBows_6 : decode cX9_takesBows 6 = .ok (.iconst 0, 1) := by decide +kernel
theorem dX9_takesBows_7 : decode cX9_takesBows 7 = .ok (.iconst 1, 1) := by decide +kernel
theorem dX9_takesBows_8 : decode cX9_takesBows 8 = .ok (.invokevirtual 302, 3) := by decide +kernel
theorem dX9_takesBows_11 : decode cX9_takesBows 11 = .ok (.ifCond .eq 13, 3) := by decide +kernel
theorem dX9_takesBows_14 : decode cX9_takesBows 14 = .ok (.aload_n 0, 1) := by decide +kernel
theorem dX9_takesBows_15 : decode cX9_takesBows 15 = .ok (.iconst 1, 1) := by decide +kernel
theorem dX9_takesBows_16 : decode cX9_takesBows 16 = .ok (.iconst 0, 1) := by decide +kernel
theorem dX9_takesBows_17 : decode cX9_takesBows 17 = .ok (.iconst 3, 1) := by decide +kernel
theorem dX9_takesBows_18 : decode cX9_takesBows 18 = .ok (.invokevirtual 302, 3) := by decide +kernel
theorem dX9_takesBows_21 : decode cX9_takesBows 21 = .ok (.ifCond .ne 5, 3) := by decide +kernel
theorem dX9_takesBows_24 : decode cX9_takesBows 24 = .ok (.iconst 0, 1) := by decide +kernel
theorem dX9_takesBows_25 : decode cX9_takesBows 25 = .ok (.ireturn, 1) := by decide +kernel
theorem dX9_takesBows_26 : decode cX9_takesBows 26 = .ok (.aload_n 0, 1) := by decide +kernel
theorem dX9_takesBows_27 : decode cX9_takesBows 27 = .ok (.getfield 7, 3) := by decide +kernel
theorem dX9_takesBows_30 : decode cX9_takesBows 30 = .ok (.bipush 12, 2) := by decide +kernel
theorem dX9_takesBows_32 : decode cX9_takesBows 32 = .ok (.aload_n 0, 1) := by decide +kernel
theorem dX9_takesBows_33 : decode cX9_takesBows 33 = .ok (.getfield 63, 3) := by decide +kernel
theorem dX9_takesBows_36 : decode cX9_takesBows 36 = .ok (.iconst 0, 1) := by decide +kernel
theorem dX9_takesBows_37 : decode cX9_takesBows 37 = .ok (.iaload, 1) := by decide +kernel
theorem dX9_takesBows_38 : decode cX9_takesBows 38 = .ok (.iadd, 1) := by decide +kernel
theorem dX9_takesBows_39 : decode cX9_takesBows 39 = .ok (.aload_n 0, 1) := by decide +kernel
theorem dX9_takesBows_40 : decode cX9_takesBows 40 = .ok (.getfield 63, 3) := by decide +kernel
theorem dX9_takesBows_43 : decode cX9_takesBows 43 = .ok (.iconst 1, 1) := by decide +kernel
theorem dX9_takesBows_44 : decode cX9_takesBows 44 = .ok (.iaload, 1) := by decide +kernel
theorem dX9_takesBows_45 : decode cX9_takesBows 45 = .ok (.iastore, 1) := by decide +kernel
theorem dX9_takesBows_46 : decode cX9_takesBows 46 = .ok (.iconst 1, 1) := by decide +kernel
theorem dX9_takesBows_47 : decode cX9_takesBows 47 = .ok (.ireturn, 1) := by decide +kernel
set_option maxRecDepth 20000 in
theorem ggX9_takesPoint_X9_many : GoodIn wsX9_takesPoint wsX9_many := goodIn_r _ [7, 1, 42, 43, 44, 45, 46, 47, 48, 49, 50, 51, 52, 53, 54, 55, 56, 57, 58, 59, 60, 61, 62, 63, 64, 65, 66, 67, 68, 69] (by decide +kernel) (by decide +kernel)
set_option maxRecDepth 20000 in
theorem gX9_takesPoint_X9_many : GoodIn wsX9_takesPoint (wsV RX9 70 RX9 yX9_many wsX9_many) := goodIn_app (goodIn_of _ (by decide +kernel)) ggX9_takesPoint_X9_many
set_option maxRecDepth 20000 in
theorem ggX9_takesPoint_X9_goBehind : GoodIn wsX9_takesPoint wsX9_goBehind := goodIn_r _ [11, 12, 13, 14, 15, 16, 6, 17, 18, 19, 20, 21, 22, 23, 24, 25, 26, 27, 28, 29, 30, 31, 32, 33, 34, 42, 43, 44, 45, 46, 47, 48, 49, 50, 51, 52, 53, 54, 55, 56, 57, 58, 59, 60, 61, 62, 63, 64, 65, 66, 67, 68, 69] (by decide +kernel) (by decide +kernel)
set_option maxRecDepth 20000 in
theorem gX9_takesPoint_X9_goBehind : GoodIn wsX9_takesPoint (wsV RX9 299 RX9 yX9_goBehind wsX9_goBehind) := goodIn_app (goodIn_of _ (by decide +kernel)) ggX9_takesPoint_X9_goBehind
set_option maxRecDepth 20000 in
theorem ggX9_takesPoint_X9_takes : GoodIn wsX9_takesPoint wsX9_takes := goodIn_r _ [38, 20, 21, 2, 27, 28, 6, 29, 8, 9, 10, 11, 12, 13, 14, 15, 16, 17, 18, 19, 22, 23, 24, 25, 26, 30, 31, 32, 33, 34, 42, 43, 44, 45, 46, 47, 48, 49, 50, 51, 52, 53, 54, 55, 56, 57, 58, 59, 60, 61, 62, 63, 64, 65, 66, 67, 68, 69] (by decide +kernel) (by decide +kernel)
set_option maxRecDepth 20000 in
theorem gX9_takesPoint_X9_takes : GoodIn wsX9_takesPoint (wsV RX9 302 RX9 yX9_takes wsX9_takes) := goodIn_app (goodIn_of _ (by decide +kernel)) ggX9_takesPoint_X9_takes
set_option maxRecDepth 20000 in
theorem ggX9_takesPoint_X9_layPoint : GoodIn wsX9_takesPoint wsX9_layPoint := goodIn_r _ [41] (by decide +kernel) (by decide +kernel)
set_option maxRecDepth 20000 in
theorem gX9_takesPoint_X9_layPoint : GoodIn wsX9_takesPoint (va_wsS RX9 98 yX9_layPoint wsX9_layPoint) := goodIn_app (goodIn_of _ (by decide +kernel)) ggX9_takesPoint_X9_layPoint
theorem dX9_takesPoint_0 : decode cX9_takesPoint 0 = .ok (.aload_n 0, 1) := by decide +kernel
theorem dX9_takesPoint_1 : decode cX9_takesPoint 1 = .ok (.invokevirtual 70, 3) := by decide +kernel
theorem dX9_takesPoint_4 : decode cX9_takesPoint 4 = .ok (.bipush 6, 2) := by decide +kernel
theorem dX9_takesPoint_6 : decode cX9_takesPoint 6 = .ok (.if_icmp .ne 5, 3) := by decide +kernel
theorem dX9_takesPoint_9 : decode cX9_takesPoint 9 = .ok (.iconst 0, 1) := by decide +kernel
theorem dX9_takesPoint_10 : decode cX9_takesPoint 10 = .ok (.ireturn, 1) := by decide +kernel
theorem dX9_takesPoint_11 : decode cX9_takesPoint 11 = .ok (.aload_n 0, 1) := by decide +kernel
theorem dX9_takesPoint_12 : decode cX9_takesPoint 12 = .ok (.invokevirtual 299, 3) := by decide +kernel
theorem dX9_takesPoint_15 : decode cX9_takesPoint 15 = .ok (.aload_n 0, 1) := by decide +kernel
theorem dX9_takesPoint_16 : decode cX9_takesPoint 16 = .ok (.iconst 0, 1) := by decide +kernel
theorem dX9_takesPoint_17 : decode cX9_takesPoint 17 = .ok (.iconst 0, 1) := by decide +kernel
theorem dX9_takesPoint_18 : decode cX9_takesPoint 18 = .ok (.iconst 5, 1) := by decide +kernel
theorem dX9_takesPoint_19 : decode cX9_takesPoint 19 = .ok (.invokevirtual 302, 3) := by decide +kernel
theorem dX9_takesPoint_22 : decode cX9_takesPoint 22 = .ok (.ifCond .eq 24, 3) := by decide +kernel
theorem dX9_takesPoint_25 : decode cX9_takesPoint 25 = .ok (.aload_n 0, 1) := by decide +kernel
theorem dX9_takesPoint_26 : decode cX9_takesPoint 26 = .ok (.iconst 1, 1) := by decide +kernel
theorem dX9_takesPoint_27 : decode cX9_takesPoint 27 = .ok (.iconst 1, 1) := by decide +kernel
theorem dX9_takesPoint_28 : decode cX9_takesPoint 28 = .ok (.bipush 9, 2) := by decide +kernel
theorem dX9_takesPoint_30 : decode cX9_takesPoint 30 = .ok (.invokevirtual 302, 3) := by decide +kernel
theorem dX9_takesPoint_33 : decode cX9_takesPoint 33 = .ok (.ifCond .eq 13, 3) := by decide +kernel
theorem dX9_takesPoint_36 : decode cX9_takesPoint 36 = .ok (.aload_n 0, 1) := by decide +kernel
theorem dX9_takesPoint_37 : decode cX9_takesPoint 37 = .ok (.iconst 2, 1) := by decide +kernel
theorem dX9_takesPoint_38 : decode cX9_takesPoint 38 = .ok (.iconst 0, 1) := by decide +kernel
theorem dX9_takesPoint_39 : decode cX9_takesPoint 39 = .ok (.iconst 3, 1) := by decide +kernel
theorem dX9_takesPoint_40 : decode cX9_takesPoint 40 = .ok (.invokevirtual 302, 3) := by decide +kernel
theorem dX9_takesPoint_43 : decode cX9_takesPoint 43 = .ok (.ifCond .ne 5, 3) := by decide +kernel
theorem dX9_takesPoint_46 : decode cX9_takesPoint 46 = .ok (.iconst 0, 1) := by decide +kernel
theorem dX9_takesPoint_47 : decode cX9_takesPoint 47 = .ok (.ireturn, 1) := by decide +kernel
theorem dX9_takesPoint_48 : decode cX9_takesPoint 48 = .ok (.aload_n 0, 1) := by decide +kernel
theorem dX9_takesPoint_49 : decode cX9_takesPoint 49 = .ok (.getfield 7, 3) := by decide +kernel
theorem dX9_takesPoint_52 : decode cX9_takesPoint 52 = .ok (.aload_n 0, 1) := by decide +kernel
theorem dX9_takesPoint_53 : decode cX9_takesPoint 53 = .ok (.getfield 63, 3) := by decide +kernel
theorem dX9_takesPoint_56 : decode cX9_takesPoint 56 = .ok (.iconst 0, 1) := by decide +kernel
theorem dX9_takesPoint_57 : decode cX9_takesPoint 57 = .ok (.iaload, 1) := by decide +kernel
theorem dX9_takesPoint_58 : decode cX9_takesPoint 58 = .ok (.aload_n 0, 1) := by decide +kernel
theorem dX9_takesPoint_59 : decode cX9_takesPoint 59 = .ok (.getfield 63, 3) := by decide +kernel
theorem dX9_takesPoint_62 : decode cX9_takesPoint 62 = .ok (.iconst 1, 1) := by decide +kernel
theorem dX9_takesPoint_63 : decode cX9_takesPoint 63 = .ok (.iaload, 1) := by decide +kernel
theorem dX9_takesPoint_64 : decode cX9_takesPoint 64 = .ok (.aload_n 0, 1) := by decide +kernel
theorem dX9_takesPoint_65 : decode cX9_takesPoint 65 = .ok (.getfield 63, 3) := by decide +kernel
theorem dX9_takesPoint_68 : decode cX9_takesPoint 68 = .ok (.iconst 2, 1) := by decide +kernel
theorem dX9_takesPoint_69 : decode cX9_takesPoint 69 = .ok (.iaload, 1) := by decide +kernel
theorem dX9_takesPoint_70 : decode cX9_takesPoint 70 = .ok (.invokestatic 98, 3) := by decide +kernel
theorem dX9_takesPoint_73 : decode cX9_takesPoint 73 = .ok (.iconst 1, 1) := by decide +kernel
theorem dX9_takesPoint_74 : decode cX9_takesPoint 74 = .ok (.ireturn, 1) := by decide +kernel
set_option maxRecDepth 20000 in
theorem ggX9_goSays_X9_meritBy : GoodIn wsX9_goSays wsX9_meritBy := goodIn_r _ [6, 7, 8, 9, 5, 10, 1, 11, 12, 13, 14, 15, 16, 17, 18, 19, 20, 21, 22, 23, 24, 25, 26, 27, 28, 29, 30, 31, 32, 33, 34, 35, 36, 37, 38, 39, 40, 41, 42, 43, 44, 45, 46, 47] (by decide +kernel) (by decide +kernel)
set_option maxRecDepth 20000 in
theorem gX9_goSays_X9_meritBy : GoodIn wsX9_goSays (wsV RX9 130 RX9 yX9_meritBy wsX9_meritBy) := goodIn_app (goodIn_of _ (by decide +kernel)) ggX9_goSays_X9_meritBy
theorem dX9_goSays_0 : decode cX9_goSays 0 = .ok (.aload_n 0, 1) := by decide +kernel
theorem dX9_goSays_1 : decode cX9_goSays 1 = .ok (.getfield 7, 3) := by decide +kernel
theorem dX9_goSays_4 : decode cX9_goSays 4 = .ok (.bipush 15, 2) := by decide +kernel
theorem dX9_goSays_6 : decode cX9_goSays 6 = .ok (.aload_n 0, 1) := by decide +kernel
theorem dX9_goSays_7 : decode cX9_goSays 7 = .ok (.iload_n 1, 1) := by decide +kernel
theorem dX9_goSays_8 : decode cX9_goSays 8 = .ok (.aload_n 0, 1) := by decide +kernel
theorem dX9_goSays_9 : decode cX9_goSays 9 = .ok (.getfield 7, 3) := by decide +kernel
theorem dX9_goSays_12 : decode cX9_goSays 12 = .ok (.bipush 14, 2) := by decide +kernel
theorem dX9_goSays_14 : decode cX9_goSays 14 = .ok (.iaload, 1) := by decide +kernel
theorem dX9_goSays_15 : decode cX9_goSays 15 = .ok (.aload_n 0, 1) := by decide +kernel
theorem dX9_goSays_16 : decode cX9_goSays 16 = .ok (.getfield 7, 3) := by decide +kernel
theorem dX9_goSays_19 : decode cX9_goSays 19 = .ok (.bipush 15, 2) := by decide +kernel
theorem dX9_goSays_21 : decode cX9_goSays 21 = .ok (.iaload, 1) := by decide +kernel
theorem dX9_goSays_22 : decode cX9_goSays 22 = .ok (.aload_n 0, 1) := by decide +kernel
theorem dX9_goSays_23 : decode cX9_goSays 23 = .ok (.getfield 7, 3) := by decide +kernel
theorem dX9_goSays_26 : decode cX9_goSays 26 = .ok (.bipush 16, 2) := by decide +kernel
theorem dX9_goSays_28 : decode cX9_goSays 28 = .ok (.iaload, 1) := by decide +kernel
theorem dX9_goSays_29 : decode cX9_goSays 29 = .ok (.invokevirtual 130, 3) := by decide +kernel
theorem dX9_goSays_32 : decode cX9_goSays 32 = .ok (.iastore, 1) := by decide +kernel
theorem dX9_goSays_33 : decode cX9_goSays 33 = .ok (.aload_n 0, 1) := by decide +kernel
theorem dX9_goSays_34 : decode cX9_goSays 34 = .ok (.getfield 7, 3) := by decide +kernel
theorem dX9_goSays_37 : decode cX9_goSays 37 = .ok (.iconst 5, 1) := by decide +kernel
theorem dX9_goSays_38 : decode cX9_goSays 38 = .ok (.dup2, 1) := by decide +kernel
theorem dX9_goSays_39 : decode cX9_goSays 39 = .ok (.iaload, 1) := by decide +kernel
theorem dX9_goSays_40 : decode cX9_goSays 40 = .ok (.iconst 1, 1) := by decide +kernel
theorem dX9_goSays_41 : decode cX9_goSays 41 = .ok (.iload_n 1, 1) := by decide +kernel
theorem dX9_goSays_42 : decode cX9_goSays 42 = .ok (.ishl, 1) := by decide +kernel
theorem dX9_goSays_43 : decode cX9_goSays 43 = .ok (.ior, 1) := by decide +kernel
theorem dX9_goSays_44 : decode cX9_goSays 44 = .ok (.iastore, 1) := by decide +kernel
theorem dX9_goSays_45 : decode cX9_goSays 45 = .ok (.aload_n 0, 1) := by decide +kernel
theorem dX9_goSays_46 : decode cX9_goSays 46 = .ok (.getfield 7, 3) := by decide +kernel
theorem dX9_goSays_49 : decode cX9_goSays 49 = .ok (.bipush 16, 2) := by decide +kernel
theorem dX9_goSays_51 : decode cX9_goSays 51 = .ok (.dup2, 1) := by decide +kernel
theorem dX9_goSays_52 : decode cX9_goSays 52 = .ok (.iaload, 1) := by decide +kernel
theorem dX9_goSays_53 : decode cX9_goSays 53 = .ok (.iconst 1, 1) := by decide +kernel
theorem dX9_goSays_54 : decode cX9_goSays 54 = .ok (.iadd, 1) := by decide +kernel
theorem dX9_goSays_55 : decode cX9_goSays 55 = .ok (.iastore, 1) := by decide +kernel
theorem dX9_goSays_56 : decode cX9_goSays 56 = .ok (.aload_n 0, 1) := by decide +kernel
theorem dX9_goSays_57 : decode cX9_goSays 57 = .ok (.getfield 7, 3) := by decide +kernel
theorem dX9_goSays_60 : decode cX9_goSays 60 = .ok (.bipush 17, 2) := by decide +kernel
theorem dX9_goSays_62 : decode cX9_goSays 62 = .ok (.iload_n 1, 1) := by decide +kernel
theorem dX9_goSays_63 : decode cX9_goSays 63 = .ok (.iastore, 1) := by decide +kernel
theorem dX9_goSays_64 : decode cX9_goSays 64 = .ok (.return_, 1) := by decide +kernel
theorem dX9_goObjects_0 : decode cX9_goObjects 0 = .ok (.aload_n 0, 1) := by decide +kernel
theorem dX9_goObjects_1 : decode cX9_goObjects 1 = .ok (.getfield 7, 3) := by decide +kernel
theorem dX9_goObjects_4 : decode cX9_goObjects 4 = .ok (.bipush 12, 2) := by decide +kernel
theorem dX9_goObjects_6 : decode cX9_goObjects 6 = .ok (.aload_n 0, 1) := by decide +kernel
theorem dX9_goObjects_7 : decode cX9_goObjects 7 = .ok (.getfield 7, 3) := by decide +kernel
theorem dX9_goObjects_10 : decode cX9_goObjects 10 = .ok (.bipush 16, 2) := by decide +kernel
theorem dX9_goObjects_12 : decode cX9_goObjects 12 = .ok (.iaload, 1) := by decide +kernel
theorem dX9_goObjects_13 : decode cX9_goObjects 13 = .ok (.iconst 2, 1) := by decide +kernel
theorem dX9_goObjects_14 : decode cX9_goObjects 14 = .ok (.irem, 1) := by decide +kernel
theorem dX9_goObjects_15 : decode cX9_goObjects 15 = .ok (.iadd, 1) := by decide +kernel
theorem dX9_goObjects_16 : decode cX9_goObjects 16 = .ok (.dup2, 1) := by decide +kernel
theorem dX9_goObjects_17 : decode cX9_goObjects 17 = .ok (.iaload, 1) := by decide +kernel
theorem dX9_goObjects_18 : decode cX9_goObjects 18 = .ok (.iconst 1, 1) := by decide +kernel
theorem dX9_goObjects_19 : decode cX9_goObjects 19 = .ok (.isub, 1) := by decide +kernel
theorem dX9_goObjects_20 : decode cX9_goObjects 20 = .ok (.iastore, 1) := by decide +kernel
theorem dX9_goObjects_21 : decode cX9_goObjects 21 = .ok (.aload_n 0, 1) := by decide +kernel
theorem dX9_goObjects_22 : decode cX9_goObjects 22 = .ok (.getfield 7, 3) := by decide +kernel
theorem dX9_goObjects_25 : decode cX9_goObjects 25 = .ok (.bipush 6, 2) := by decide +kernel
theorem dX9_goObjects_27 : decode cX9_goObjects 27 = .ok (.aload_n 0, 1) := by decide +kernel
theorem dX9_goObjects_28 : decode cX9_goObjects 28 = .ok (.getfield 7, 3) := by decide +kernel
theorem dX9_goObjects_31 : decode cX9_goObjects 31 = .ok (.bipush 17, 2) := by decide +kernel
theorem dX9_goObjects_33 : decode cX9_goObjects 33 = .ok (.iaload, 1) := by decide +kernel
theorem dX9_goObjects_34 : decode cX9_goObjects 34 = .ok (.iadd, 1) := by decide +kernel
theorem dX9_goObjects_35 : decode cX9_goObjects 35 = .ok (.dup2, 1) := by decide +kernel
theorem dX9_goObjects_36 : decode cX9_goObjects 36 = .ok (.iaload, 1) := by decide +kernel
theorem dX9_goObjects_37 : decode cX9_goObjects 37 = .ok (.iconst 1, 1) := by decide +kernel
theorem dX9_goObjects_38 : decode cX9_goObjects 38 = .ok (.isub, 1) := by decide +kernel
theorem dX9_goObjects_39 : decode cX9_goObjects 39 = .ok (.iastore, 1) := by decide +kernel
theorem dX9_goObjects_40 : decode cX9_goObjects 40 = .ok (.aload_n 0, 1) := by decide +kernel
theorem dX9_goObjects_41 : decode cX9_goObjects 41 = .ok (.getfield 7, 3) := by decide +kernel
theorem dX9_goObjects_44 : decode cX9_goObjects 44 = .ok (.bipush 14, 2) := by decide +kernel
theorem dX9_goObjects_46 : decode cX9_goObjects 46 = .ok (.iconst 1, 1) := by decide +kernel
theorem dX9_goObjects_47 : decode cX9_goObjects 47 = .ok (.aload_n 0, 1) := by decide +kernel
theorem dX9_goObjects_48 : decode cX9_goObjects 48 = .ok (.getfield 7, 3) := by decide +kernel
theorem dX9_goObjects_51 : decode cX9_goObjects 51 = .ok (.bipush 14, 2) := by decide +kernel
theorem dX9_goObjects_53 : decode cX9_goObjects 53 = .ok (.iaload, 1) := by decide +kernel
theorem dX9_goObjects_54 : decode cX9_goObjects 54 = .ok (.isub, 1) := by decide +kernel
theorem dX9_goObjects_55 : decode cX9_goObjects 55 = .ok (.iastore, 1) := by decide +kernel
theorem dX9_goObjects_56 : decode cX9_goObjects 56 = .ok (.aload_n 0, 1) := by decide +kernel
theorem dX9_goObjects_57 : decode cX9_goObjects 57 = .ok (.getfield 7, 3) := by decide +kernel
theorem dX9_goObjects_60 : decode cX9_goObjects 60 = .ok (.bipush 17, 2) := by decide +kernel
theorem dX9_goObjects_62 : decode cX9_goObjects 62 = .ok (.iconst (-1), 1) := by decide +kernel
theorem dX9_goObjects_63 : decode cX9_goObjects 63 = .ok (.iastore, 1) := by decide +kernel
theorem dX9_goObjects_64 : decode cX9_goObjects 64 = .ok (.return_, 1) := by decide +kernel
set_option maxRecDepth 20000 in
theorem ggX9_takesSaying_X9_goBehind : GoodIn wsX9_takesSaying wsX9_goBehind := goodIn_r _ [8, 9, 10, 11, 12, 13, 7, 14, 15, 16, 1, 2, 17, 18, 19, 20, 21, 22, 23, 24, 25, 26, 27, 28, 29, 62, 63, 64, 65, 66, 67, 68, 69, 70, 71, 72, 73, 74, 75, 76, 77, 78, 79, 80, 81, 82, 83, 84, 85, 86, 87, 88, 89] (by decide +kernel) (by decide +kernel)
set_option maxRecDepth 20000 in
theorem gX9_takesSaying_X9_goBehind : GoodIn wsX9_takesSaying (wsV RX9 299 RX9 yX9_goBehind wsX9_goBehind) := goodIn_app (goodIn_of _ (by decide +kernel)) ggX9_takesSaying_X9_goBehind
set_option maxRecDepth 20000 in
theorem ggX9_takesSaying_X9_isPoint : GoodIn wsX9_takesSaying wsX9_isPoint := goodIn_r _ [33, 34, 35, 36, 7, 37, 3, 22, 23, 24, 62, 63, 64, 65, 66, 67, 68, 69, 70, 71, 72, 73, 74, 75, 76, 77, 78, 79, 80, 81, 82, 83, 84, 85, 86, 87, 88, 89] (by decide +kernel) (by decide +kernel)
set_option maxRecDepth 20000 in
theorem gX9_takesSaying_X9_isPoint : GoodIn wsX9_takesSaying (wsV RX9 117 RX9 yX9_isPoint wsX9_isPoint) := goodIn_app (goodIn_of _ (by decide +kernel)) ggX9_takesSaying_X9_isPoint
set_option maxRecDepth 20000 in
theorem ggX9_takesSaying_X9_has : GoodIn wsX9_takesSaying wsX9_has := goodIn_r _ [40] (by decide +kernel) (by decide +kernel)
set_option maxRecDepth 20000 in
theorem gX9_takesSaying_X9_has : GoodIn wsX9_takesSaying (va_wsS RX9 120 yX9_has wsX9_has) := goodIn_app (goodIn_of _ (by decide +kernel)) ggX9_takesSaying_X9_has
set_option maxRecDepth 20000 in
theorem ggX9_takesSaying_X9_goSays : GoodIn wsX9_takesSaying wsX9_goSays := goodIn_r _ [44, 3, 45, 46, 47, 7, 48, 49, 50, 51, 52, 53, 54, 55, 56, 57, 58, 59, 60, 61, 62, 63, 64, 65, 66, 67, 68, 69, 70, 71, 72, 73, 74, 75, 76, 77, 78, 79, 80, 81, 82, 83, 84, 85, 86, 87, 88, 89] (by decide +kernel) (by decide +kernel)
set_option maxRecDepth 20000 in
theorem gX9_takesSaying_X9_goSays : GoodIn wsX9_takesSaying (wsV RX9 305 RX9 yX9_goSays wsX9_goSays) := goodIn_app (goodIn_of _ (by decide +kernel)) ggX9_takesSaying_X9_goSays
theorem dX9_takesSaying_0 : decode cX9_takesSaying 0 = .ok (.aload_n 0, 1) := by decide +kernel
theorem dX9_takesSaying_1 : decode cX9_takesSaying 1 = .ok (.invokevirtual 299, 3) := by decide +kernel
theorem dX9_takesSaying_4 : decode cX9_takesSaying 4 = .ok (.aload_n 0, 1) := by decide +kernel
theorem dX9_takesSaying_5 : decode cX9_takesSaying 5 = .ok (.getfield 284, 3) := by decide +kernel
theorem dX9_takesSaying_8 : decode cX9_takesSaying 8 = .ok (.iconst 2, 1) := by decide +kernel
theorem dX9_takesSaying_9 : decode cX9_takesSaying 9 = .ok (.if_icmp .ne 30, 3) := by decide +kernel
theorem dX9_takesSaying_12 : decode cX9_takesSaying 12 = .ok (.aload_n 0, 1) := by decide +kernel
theorem dX9_takesSaying_13 : decode cX9_takesSaying 13 = .ok (.aload_n 0, 1) := by decide +kernel
theorem dX9_takesSaying_14 : decode cX9_takesSaying 14 = .ok (.getfield 287, 3) := by decide +kernel
theorem dX9_takesSaying_17 : decode cX9_takesSaying 17 = .ok (.invokevirtual 117, 3) := by decide +kernel
theorem dX9_takesSaying_20 : decode cX9_takesSaying 20 = .ok (.ifCond .eq 19, 3) := by decide +kernel
theorem dX9_takesSaying_23 : decode cX9_takesSaying 23 = .ok (.aload_n 0, 1) := by decide +kernel
theorem dX9_takesSaying_24 : decode cX9_takesSaying 24 = .ok (.getfield 7, 3) := by decide +kernel
theorem dX9_takesSaying_27 : decode cX9_takesSaying 27 = .ok (.iconst 5, 1) := by decide +kernel
theorem dX9_takesSaying_28 : decode cX9_takesSaying 28 = .ok (.iaload, 1) := by decide +kernel
theorem dX9_takesSaying_29 : decode cX9_takesSaying 29 = .ok (.aload_n 0, 1) := by decide +kernel
theorem dX9_takesSaying_30 : decode cX9_takesSaying 30 = .ok (.getfield 287, 3) := by decide +kernel
theorem dX9_takesSaying_33 : decode cX9_takesSaying 33 = .ok (.invokestatic 120, 3) := by decide +kernel
theorem dX9_takesSaying_36 : decode cX9_takesSaying 36 = .ok (.ifCond .eq 5, 3) := by decide +kernel
theorem dX9_takesSaying_39 : decode cX9_takesSaying 39 = .ok (.iconst 0, 1) := by decide +kernel
theorem dX9_takesSaying_40 : decode cX9_takesSaying 40 = .ok (.ireturn, 1) := by decide +kernel
theorem dX9_takesSaying_41 : decode cX9_takesSaying 41 = .ok (.aload_n 0, 1) := by decide +kernel
theorem dX9_takesSaying_42 : decode cX9_takesSaying 42 = .ok (.aload_n 0, 1) := by decide +kernel
theorem dX9_takesSaying_43 : decode cX9_takesSaying 43 = .ok (.getfield 287, 3) := by decide +kernel
theorem dX9_takesSaying_46 : decode cX9_takesSaying 46 = .ok (.invokevirtual 305, 3) := by decide +kernel
theorem dX9_takesSaying_49 : decode cX9_takesSaying 49 = .ok (.aload_n 0, 1) := by decide +kernel
theorem dX9_takesSaying_50 : decode cX9_takesSaying 50 = .ok (.invokevirtual 299, 3) := by decide +kernel
theorem dX9_takesSaying_53 : decode cX9_takesSaying 53 = .ok (.iconst 1, 1) := by decide +kernel
theorem dX9_takesSaying_54 : decode cX9_takesSaying 54 = .ok (.ireturn, 1) := by decide +kernel
set_option maxRecDepth 20000 in
theorem ggX9_takesObjecting_X9_may : GoodIn wsX9_takesObjecting wsX9_may := goodIn_r _ [5, 6, 38, 39, 40, 41, 42, 43, 44, 45, 46, 47, 48, 49, 50, 51, 52, 53, 54, 55, 56, 57, 58, 59, 60, 61, 62, 63, 64, 65] (by decide +kernel) (by decide +kernel)
set_option maxRecDepth 20000 in
theorem gX9_takesObjecting_X9_may : GoodIn wsX9_takesObjecting (wsV RX9 133 RX9 yX9_may wsX9_may) := goodIn_app (goodIn_of _ (by decide +kernel)) ggX9_takesObjecting_X9_may
set_option maxRecDepth 20000 in
theorem ggX9_takesObjecting_X9_goObjects : GoodIn wsX9_takesObjecting wsX9_goObjects := goodIn_r _ [10, 6, 38, 39, 40, 41, 42, 43, 44, 45, 46, 47, 48, 49, 50, 51, 52, 53, 54, 55, 56, 57, 58, 59, 60, 61, 62, 63, 64, 65] (by decide +kernel) (by decide +kernel)
set_option maxRecDepth 20000 in
theorem gX9_takesObjecting_X9_goObjects : GoodIn wsX9_takesObjecting (wsV RX9 308 RX9 yX9_goObjects wsX9_goObjects) := goodIn_app (goodIn_of _ (by decide +kernel)) ggX9_takesObjecting_X9_goObjects
set_option maxRecDepth 20000 in
theorem ggX9_takesObjecting_X9_goBehind : GoodIn wsX9_takesObjecting wsX9_goBehind := goodIn_r _ [14, 15, 16, 17, 18, 19, 4, 20, 21, 22, 23, 24, 25, 26, 27, 28, 29, 30, 31, 32, 33, 34, 35, 36, 37, 38, 39, 40, 41, 42, 43, 44, 45, 46, 47, 48, 49, 50, 51, 52, 53, 54, 55, 56, 57, 58, 59, 60, 61, 62, 63, 64, 65] (by decide +kernel) (by decide +kernel)
set_option maxRecDepth 20000 in
theorem gX9_takesObjecting_X9_goBehind : GoodIn wsX9_takesObjecting (wsV RX9 299 RX9 yX9_goBehind wsX9_goBehind) := goodIn_app (goodIn_of _ (by decide +kernel)) ggX9_takesObjecting_X9_goBehind
theorem dX9_takesObjecting_0 : decode cX9_takesObjecting 0 = .ok (.aload_n 0, 1) := by decide +kernel
theorem dX9_takesObjecting_1 : decode cX9_takesObjecting 1 = .ok (.invokevirtual 133, 3) := by decide +kernel
theorem dX9_takesObjecting_4 : decode cX9_takesObjecting 4 = .ok (.ifCond .ne 5, 3) := by decide +kernel
theorem dX9_takesObjecting_7 : decode cX9_takesObjecting 7 = .ok (.iconst 0, 1) := by decide +kernel
theorem dX9_takesObjecting_8 : decode cX9_takesObjecting 8 = .ok (.ireturn, 1) := by decide +kernel
theorem dX9_takesObjecting_9 : decode cX9_takesObjecting 9 = .ok (.aload_n 0, 1) := by decide +kernel
theorem dX9_takesObjecting_10 : decode cX9_takesObjecting 10 = .ok (.invokevirtual 308, 3) := by decide +kernel
theorem dX9_takesObjecting_13 : decode cX9_takesObjecting 13 = .ok (.aload_n 0, 1) := by decide +kernel
theorem dX9_takesObjecting_14 : decode cX9_takesObjecting 14 = .ok (.invokevirtual 299, 3) := by decide +kernel
theorem dX9_takesObjecting_17 : decode cX9_takesObjecting 17 = .ok (.iconst 1, 1) := by decide +kernel
theorem dX9_takesObjecting_18 : decode cX9_takesObjecting 18 = .ok (.ireturn, 1) := by decide +kernel
set_option maxRecDepth 20000 in
theorem ggX9_takesItem_X9_spells : GoodIn wsX9_takesItem wsX9_spells := goodIn_r _ [5, 6, 7, 8, 9, 98, 99, 100, 101, 102, 103, 104, 105, 106, 107, 108, 109, 110, 111, 112, 113, 114, 115, 116, 117, 118, 119, 120, 121, 122, 123, 124, 125] (by decide +kernel) (by decide +kernel)
set_option maxRecDepth 20000 in
theorem gX9_takesItem_X9_spells : GoodIn wsX9_takesItem (wsV RX9 311 RX9 yX9_spells wsX9_spells) := goodIn_app (goodIn_of _ (by decide +kernel)) ggX9_takesItem_X9_spells
set_option maxRecDepth 20000 in
theorem ggX9_takesItem_X9_takesBows : GoodIn wsX9_takesItem wsX9_takesBows := goodIn_r _ [13, 14, 15, 16, 17, 18, 4, 19, 9, 7, 20, 21, 22, 23, 24, 8, 6, 25, 26, 27, 28, 29, 30, 31, 32, 33, 34, 35, 36, 37, 38, 39, 40, 41, 42, 98, 99, 100, 101, 102, 103, 104, 105, 106, 107, 108, 109, 110, 111, 112, 113, 114, 115, 116, 117, 118, 119, 120, 121, 122, 123, 124, 125] (by decide +kernel) (by decide +kernel)
set_option maxRecDepth 20000 in
theorem gX9_takesItem_X9_takesBows : GoodIn wsX9_takesItem (wsV RX9 315 RX9 yX9_takesBows wsX9_takesBows) := goodIn_app (goodIn_of _ (by decide +kernel)) ggX9_takesItem_X9_takesBows
set_option maxRecDepth 20000 in
theorem ggX9_takesItem_X9_takesPoint : GoodIn wsX9_takesItem wsX9_takesPoint := goodIn_r _ [46, 14, 15, 47, 48, 49, 4, 50, 16, 17, 18, 19, 9, 7, 20, 21, 22, 23, 24, 8, 6, 25, 26, 27, 28, 29, 30, 31, 32, 33, 34, 35, 36, 37, 38, 39, 40, 41, 42, 51, 52, 53, 98, 99, 100, 101, 102, 103, 104, 105, 106, 107, 108, 109, 110, 111, 112, 113, 114, 115, 116, 117, 118, 119, 120, 121, 122, 123, 124, 125] (by decide +kernel) (by decide +kernel)
set_option maxRecDepth 20000 in
theorem gX9_takesItem_X9_takesPoint : GoodIn wsX9_takesItem (wsV RX9 318 RX9 yX9_takesPoint wsX9_takesPoint) := goodIn_app (goodIn_of _ (by decide +kernel)) ggX9_takesItem_X9_takesPoint
set_option maxRecDepth 20000 in
theorem ggX9_takesItem_X9_takesSaying : GoodIn wsX9_takesItem wsX9_takesSaying := goodIn_r _ [57, 6, 25, 14, 16, 17, 18, 4, 19, 9, 7, 20, 21, 22, 23, 24, 8, 26, 27, 28, 29, 30, 31, 32, 33, 34, 35, 36, 37, 38, 58, 59, 60, 61, 47, 48, 49, 50, 62, 63, 64, 65, 66, 67, 68, 69, 70, 71, 72, 73, 74, 75, 76, 77, 78, 79, 80, 81, 82, 83, 84, 85, 98, 99, 100, 101, 102, 103, 104, 105, 106, 107, 108, 109, 110, 111, 112, 113, 114, 115, 116, 117, 118, 119, 120, 121, 122, 123, 124, 125] (by decide +kernel) (by decide +kernel)
set_option maxRecDepth 20000 in
theorem gX9_takesItem_X9_takesSaying : GoodIn wsX9_takesItem (wsV RX9 321 RX9 yX9_takesSaying wsX9_takesSaying) := goodIn_app (goodIn_of _ (by decide +kernel)) ggX9_takesItem_X9_takesSaying
set_option maxRecDepth 20000 in
theorem ggX9_takesItem_X9_takesObjecting : GoodIn wsX9_takesItem wsX9_takesObjecting := goodIn_r _ [89, 90, 91, 92, 4, 93, 14, 94, 95, 96, 97, 16, 17, 18, 19, 9, 7, 20, 21, 22, 23, 24, 8, 6, 25, 26, 27, 28, 29, 30, 31, 32, 33, 34, 35, 36, 37, 38, 98, 99, 100, 101, 102, 103, 104, 105, 106, 107, 108, 109, 110, 111, 112, 113, 114, 115, 116, 117, 118, 119, 120, 121, 122, 123, 124, 125] (by decide +kernel) (by decide +kernel)
set_option maxRecDepth 20000 in
theorem gX9_takesItem_X9_takesObjecting : GoodIn wsX9_takesItem (wsV RX9 324 RX9 yX9_takesObjecting wsX9_takesObjecting) := goodIn_app (goodIn_of _ (by decide +kernel)) ggX9_takesItem_X9_takesObjecting
theorem dX9_takesItem_0 : decode cX9_takesItem 0 = .ok (.aload_n 0, 1) := by decide +kernel
theorem dX9_takesItem_1 : decode cX9_takesItem 1 = .ok (.iconst 4, 1) := by decide +kernel
theorem dX9_takesItem_2 : decode cX9_takesItem 2 = .ok (.bipush 98, 2) := by decide +kernel
theorem dX9_takesItem_4 : decode cX9_takesItem 4 = .ok (.bipush 111, 2) := by decide +kernel
theorem dX9_takesItem_6 : decode cX9_takesItem 6 = .ok (.bipush 119, 2) := by decide +kernel
theorem dX9_takesItem_8 : decode cX9_takesItem 8 = .ok (.bipush 115, 2) := by decide +kernel
theorem dX9_takesItem_10 : decode cX9_takesItem 10 = .ok (.iconst 0, 1) := by decide +kernel
theorem dX9_takesItem_11 : decode cX9_takesItem 11 = .ok (.iconst 0, 1) := by decide +kernel
theorem dX9_takesItem_12 : decode cX9_takesItem 12 = .ok (.invokevirtual 311, 3) := by decide +kernel
theorem dX9_takesItem_15 : decode cX9_takesItem 15 = .ok (.ifCond .eq 8, 3) := by decide +kernel
theorem dX9_takesItem_18 : decode cX9_takesItem 18 = .ok (.aload_n 0, 1) := by decide +kernel
theorem dX9_takesItem_19 : decode cX9_takesItem 19 = .ok (.invokevirtual 315, 3) := by decide +kernel
theorem dX9_takesItem_22 : decode cX9_takesItem 22 = .ok (.ireturn, 1) := by decide +kernel
theorem dX9_takesItem_23 : decode cX9_takesItem 23 = .ok (.aload_n 0, 1) := by decide +kernel
theorem dX9_takesItem_24 : decode cX9_takesItem 24 = .ok (.iconst 5, 1) := by decide +kernel
theorem dX9_takesItem_25 : decode cX9_takesItem 25 = .ok (.bipush 112, 2) := by decide +kernel
theorem dX9_takesItem_27 : decode cX9_takesItem 27 = .ok (.bipush 111, 2) := by decide +kernel
theorem dX9_takesItem_29 : decode cX9_takesItem 29 = .ok (.bipush 105, 2) := by decide +kernel
theorem dX9_takesItem_31 : decode cX9_takesItem 31 = .ok (.bipush 110, 2) := by decide +kernel
theorem dX9_takesItem_33 : decode cX9_takesItem 33 = .ok (.bipush 116, 2) := by decide +kernel
theorem dX9_takesItem_35 : decode cX9_takesItem 35 = .ok (.iconst 0, 1) := by decide +kernel
theorem dX9_takesItem_36 : decode cX9_takesItem 36 = .ok (.invokevirtual 311, 3) := by decide +kernel
theorem dX9_takesItem_39 : decode cX9_takesItem 39 = .ok (.ifCond .eq 8, 3) := by decide +kernel
theorem dX9_takesItem_42 : decode cX9_takesItem 42 = .ok (.aload_n 0, 1) := by decide +kernel
theorem dX9_takesItem_43 : decode cX9_takesItem 43 = .ok (.invokevirtual 318, 3) := by decide +kernel
theorem dX9_takesItem_46 : decode cX9_takesItem 46 = .ok (.ireturn, 1) := by decide +kernel
theorem dX9_takesItem_47 : decode cX9_takesItem 47 = .ok (.aload_n 0, 1) := by decide +kernel
theorem dX9_takesItem_48 : decode cX9_takesItem 48 = .ok (.iconst 3, 1) := by decide +kernel
theorem dX9_takesItem_49 : decode cX9_takesItem 49 = .ok (.bipush 115, 2) := by decide +kernel
theorem dX9_takesItem_51 : decode cX9_takesItem 51 = .ok (.bipush 97, 2) := by decide +kernel
theorem dX9_takesItem_53 : decode cX9_takesItem 53 = .ok (.bipush 121, 2) := by decide +kernel
theorem dX9_takesItem_55 : decode cX9_takesItem 55 = .ok (.iconst 0, 1) := by decide +kernel
theorem dX9_takesItem_56 : decode cX9_takesItem 56 = .ok (.iconst 0, 1) := by decide +kernel
theorem dX9_takesItem_57 : decode cX9_takesItem 57 = .ok (.iconst 0, 1) := by decide +kernel
theorem dX9_takesItem_58 : decode cX9_takesItem 58 = .ok (.invokevirtual 311, 3) := by decide +kernel
theorem dX9_takesItem_61 : decode cX9_takesItem 61 = .ok (.ifCond .eq 8, 3) := by decide +kernel
theorem dX9_takesItem_64 : decode cX9_takesItem 64 = .ok (.aload_n 0, 1) := by decide +kernel
theorem dX9_takesItem_65 : decode cX9_takesItem 65 = .ok (.invokevirtual 321, 3) := by decide +kernel
theorem dX9_takesItem_68 : decode cX9_takesItem 68 = .ok (.ireturn, 1) := by decide +kernel
theorem dX9_takesItem_69 : decode cX9_takesItem 69 = .ok (.aload_n 0, 1) := by decide +kernel
theorem dX9_takesItem_70 : decode cX9_takesItem 70 = .ok (.bipush 6, 2) := by decide +kernel
theorem dX9_takesItem_72 : decode cX9_takesItem 72 = .ok (.bipush 111, 2) := by decide +kernel
theorem dX9_takesItem_74 : decode cX9_takesItem 74 = .ok (.bipush 98, 2) := by decide +kernel
theorem dX9_takesItem_76 : decode cX9_takesItem 76 = .ok (.bipush 106, 2) := by decide +kernel
theorem dX9_takesItem_78 : decode cX9_takesItem 78 = .ok (.bipush 101, 2) := by decide +kernel
theorem dX9_takesItem_80 : decode cX9_takesItem 80 = .ok (.bipush 99, 2) := by decide +kernel
theorem dX9_takesItem_82 : decode cX9_takesItem 82 = .ok (.bipush 116, 2) := by decide +kernel
theorem dX9_takesItem_84 : decode cX9_takesItem 84 = .ok (.invokevirtual 311, 3) := by decide +kernel
theorem dX9_takesItem_87 : decode cX9_takesItem 87 = .ok (.ifCond .eq 14, 3) := by decide +kernel
theorem dX9_takesItem_90 : decode cX9_takesItem 90 = .ok (.aload_n 0, 1) := by decide +kernel
theorem dX9_takesItem_91 : decode cX9_takesItem 91 = .ok (.invokevirtual 324, 3) := by decide +kernel
theorem dX9_takesItem_94 : decode cX9_takesItem 94 = .ok (.ifCond .eq 7, 3) := by decide +kernel
theorem dX9_takesItem_97 : decode cX9_takesItem 97 = .ok (.iconst 1, 1) := by decide +kernel
theorem dX9_takesItem_98 : decode cX9_takesItem 98 = .ok (.goto 4, 3) := by decide +kernel
theorem dX9_takesItem_101 : decode cX9_takesItem 101 = .ok (.iconst 0, 1) := by decide +kernel
theorem dX9_takesItem_102 : decode cX9_takesItem 102 = .ok (.ireturn, 1) := by decide +kernel
set_option maxRecDepth 20000 in
theorem ggX9_readInto_X9_goBehind : GoodIn wsX9_readInto wsX9_goBehind := goodIn_r _ [9, 2, 10, 11, 12, 13, 8, 14, 15, 16, 1, 17, 18, 19, 20, 21, 22, 23, 24, 25, 26, 27, 28, 29, 30, 105, 106, 107, 108, 109, 110, 111, 112, 113, 114, 115, 116, 117, 118, 119, 120, 121, 122, 123, 124, 125, 126, 127, 128, 129, 130, 131, 132] (by decide +kernel) (by decide +kernel)
set_option maxRecDepth 20000 in
theorem gX9_readInto_X9_goBehind : GoodIn wsX9_readInto (wsV RX9 299 RX9 yX9_goBehind wsX9_goBehind) := goodIn_app (goodIn_of _ (by decide +kernel)) ggX9_readInto_X9_goBehind
set_option maxRecDepth 20000 in
theorem ggX9_readInto_X9_takes : GoodIn wsX9_readInto wsX9_takes := goodIn_r _ [34, 1, 17, 4, 23, 24, 8, 25, 5, 6, 7, 9, 2, 10, 11, 12, 13, 14, 15, 16, 18, 19, 20, 21, 22, 26, 27, 28, 29, 30, 105, 106, 107, 108, 109, 110, 111, 112, 113, 114, 115, 116, 117, 118, 119, 120, 121, 122, 123, 124, 125, 126, 127, 128, 129, 130, 131, 132] (by decide +kernel) (by decide +kernel)
set_option maxRecDepth 20000 in
theorem gX9_readInto_X9_takes : GoodIn wsX9_readInto (wsV RX9 302 RX9 yX9_takes wsX9_takes) := goodIn_app (goodIn_of _ (by decide +kernel)) ggX9_readInto_X9_takes
set_option maxRecDepth 20000 in
theorem ggX9_readInto_X9_begin : GoodIn wsX9_readInto wsX9_begin := goodIn_r _ [37] (by decide +kernel) (by decide +kernel)
set_option maxRecDepth 20000 in
theorem gX9_readInto_X9_begin : GoodIn wsX9_readInto (va_wsS RX9 66 yX9_begin wsX9_begin) := goodIn_app (goodIn_of _ (by decide +kernel)) ggX9_readInto_X9_begin
set_option maxRecDepth 20000 in
theorem ggX9_readInto_X9_takesItem : GoodIn wsX9_readInto wsX9_takesItem := goodIn_r _ [41, 42, 43, 44, 8, 45, 1, 10, 16, 2, 46, 47, 48, 49, 3, 4, 5, 6, 7, 9, 11, 12, 13, 14, 15, 17, 18, 19, 20, 21, 22, 23, 24, 25, 26, 27, 28, 29, 30, 31, 32, 33, 34, 50, 51, 52, 53, 54, 55, 56, 57, 58, 59, 60, 61, 62, 63, 64, 65, 66, 67, 68, 69, 70, 71, 72, 73, 74, 75, 76, 77, 78, 79, 80, 81, 82, 83, 84, 85, 86, 87, 88, 89, 90, 91, 92, 93, 94, 95, 96, 97, 98, 99, 100, 101, 102, 103, 104, 105, 106, 107, 108, 109, 110, 111, 112, 113, 114, 115, 116, 117, 118, 119, 120, 121, 122, 123, 124, 125, 126, 127, 128, 129, 130, 131, 132] (by decide +kernel) (by decide +kernel)
set_option maxRecDepth 20000 in
theorem gX9_readInto_X9_takesItem : GoodIn wsX9_readInto (wsV RX9 327 RX9 yX9_takesItem wsX9_takesItem) := goodIn_app (goodIn_of _ (by decide +kernel)) ggX9_readInto_X9_takesItem
theorem dX9_readInto_0 : decode cX9_readInto 0 = .ok (.aload_n 0, 1) := by decide +kernel
theorem dX9_readInto_1 : decode cX9_readInto 1 = .ok (.invokevirtual 299, 3) := by decide +kernel
theorem dX9_readInto_4 : decode cX9_readInto 4 = .ok (.aload_n 0, 1) := by decide +kernel
theorem dX9_readInto_5 : decode cX9_readInto 5 = .ok (.iconst 0, 1) := by decide +kernel
theorem dX9_readInto_6 : decode cX9_readInto 6 = .ok (.iconst 0, 1) := by decide +kernel
theorem dX9_readInto_7 : decode cX9_readInto 7 = .ok (.iconst 5, 1) := by decide +kernel
theorem dX9_readInto_8 : decode cX9_readInto 8 = .ok (.invokevirtual 302, 3) := by decide +kernel
theorem dX9_readInto_11 : decode cX9_readInto 11 = .ok (.ifCond .eq 21, 3) := by decide +kernel
theorem dX9_readInto_14 : decode cX9_readInto 14 = .ok (.aload_n 0, 1) := by decide +kernel
theorem dX9_readInto_15 : decode cX9_readInto 15 = .ok (.iconst 1, 1) := by decide +kernel
theorem dX9_readInto_16 : decode cX9_readInto 16 = .ok (.iconst 0, 1) := by decide +kernel
theorem dX9_readInto_17 : decode cX9_readInto 17 = .ok (.iconst 5, 1) := by decide +kernel
theorem dX9_readInto_18 : decode cX9_readInto 18 = .ok (.invokevirtual 302, 3) := by decide +kernel
theorem dX9_readInto_21 : decode cX9_readInto 21 = .ok (.ifCond .eq 11, 3) := by decide +kernel
theorem dX9_readInto_24 : decode cX9_readInto 24 = .ok (.aload_n 0, 1) := by decide +kernel
theorem dX9_readInto_25 : decode cX9_readInto 25 = .ok (.getfield 284, 3) := by decide +kernel
theorem dX9_readInto_28 : decode cX9_readInto 28 = .ok (.iconst 3, 1) := by decide +kernel
theorem dX9_readInto_29 : decode cX9_readInto 29 = .ok (.if_icmp .eq 11, 3) := by decide +kernel
theorem dX9_readInto_32 : decode cX9_readInto 32 = .ok (.bipush (-10), 2) := by decide +kernel
theorem dX9_readInto_34 : decode cX9_readInto 34 = .ok (.aload_n 0, 1) := by decide +kernel
theorem dX9_readInto_35 : decode cX9_readInto 35 = .ok (.getfield 278, 3) := by decide +kernel
theorem dX9_readInto_38 : decode cX9_readInto 38 = .ok (.isub, 1) := by decide +kernel
theorem dX9_readInto_39 : decode cX9_readInto 39 = .ok (.ireturn, 1) := by decide +kernel
theorem dX9_readInto_40 : decode cX9_readInto 40 = .ok (.aload_n 0, 1) := by decide +kernel
theorem dX9_readInto_41 : decode cX9_readInto 41 = .ok (.invokevirtual 299, 3) := by decide +kernel
theorem dX9_readInto_44 : decode cX9_readInto 44 = .ok (.aload_n 0, 1) := by decide +kernel
theorem dX9_readInto_45 : decode cX9_readInto 45 = .ok (.getfield 7, 3) := by decide +kernel
theorem dX9_readInto_48 : decode cX9_readInto 48 = .ok (.aload_n 0, 1) := by decide +kernel
theorem dX9_readInto_49 : decode cX9_readInto 49 = .ok (.getfield 63, 3) := by decide +kernel
theorem dX9_readInto_52 : decode cX9_readInto 52 = .ok (.iconst 0, 1) := by decide +kernel
theorem dX9_readInto_53 : decode cX9_readInto 53 = .ok (.iaload, 1) := by decide +kernel
theorem dX9_readInto_54 : decode cX9_readInto 54 = .ok (.aload_n 0, 1) := by decide +kernel
theorem dX9_readInto_55 : decode cX9_readInto 55 = .ok (.getfield 63, 3) := by decide +kernel
theorem dX9_readInto_58 : decode cX9_readInto 58 = .ok (.iconst 1, 1) := by decide +kernel
theorem dX9_readInto_59 : decode cX9_readInto 59 = .ok (.iaload, 1) := by decide +kernel
theorem dX9_readInto_60 : decode cX9_readInto 60 = .ok (.invokestatic 66, 3) := by decide +kernel
theorem dX9_readInto_63 : decode cX9_readInto 63 = .ok (.iconst 1, 1) := by decide +kernel
theorem dX9_readInto_64 : decode cX9_readInto 64 = .ok (.istore_n 1, 1) := by decide +kernel
theorem dX9_readInto_65 : decode cX9_readInto 65 = .ok (.aload_n 0, 1) := by decide +kernel
theorem dX9_readInto_66 : decode cX9_readInto 66 = .ok (.getfield 284, 3) := by decide +kernel
theorem dX9_readInto_69 : decode cX9_readInto 69 = .ok (.ifCond .eq 36, 3) := by decide +kernel
theorem dX9_readInto_72 : decode cX9_readInto 72 = .ok (.aload_n 0, 1) := by decide +kernel
theorem dX9_readInto_73 : decode cX9_readInto 73 = .ok (.invokevirtual 327, 3) := by decide +kernel
theorem dX9_readInto_76 : decode cX9_readInto 76 = .ok (.ifCond .eq 11, 3) := by decide +kernel
theorem dX9_readInto_79 : decode cX9_readInto 79 = .ok (.aload_n 0, 1) := by decide +kernel
theorem dX9_readInto_80 : decode cX9_readInto 80 = .ok (.getfield 284, 3) := by decide +kernel
theorem dX9_readInto_83 : decode cX9_readInto 83 = .ok (.iconst 3, 1) := by decide +kernel
theorem dX9_readInto_84 : decode cX9_readInto 84 = .ok (.if_icmp .eq 11, 3) := by decide +kernel
theorem dX9_readInto_87 : decode cX9_readInto 87 = .ok (.bipush (-10), 2) := by decide +kernel
theorem dX9_readInto_89 : decode cX9_readInto 89 = .ok (.aload_n 0, 1) := by decide +kernel
theorem dX9_readInto_90 : decode cX9_readInto 90 = .ok (.getfield 278, 3) := by decide +kernel
theorem dX9_readInto_93 : decode cX9_readInto 93 = .ok (.isub, 1) := by decide +kernel
theorem dX9_readInto_94 : decode cX9_readInto 94 = .ok (.ireturn, 1) := by decide +kernel
theorem dX9_readInto_95 : decode cX9_readInto 95 = .ok (.aload_n 0, 1) := by decide +kernel
theorem dX9_readInto_96 : decode cX9_readInto 96 = .ok (.invokevirtual 299, 3) := by decide +kernel
theorem dX9_readInto_99 : decode cX9_readInto 99 = .ok (.iinc 1 1, 3) := by decide +kernel
theorem dX9_readInto_102 : decode cX9_readInto 102 = .ok (.goto (-37), 3) := by decide +kernel
theorem dX9_readInto_105 : decode cX9_readInto 105 = .ok (.iload_n 1, 1) := by decide +kernel
theorem dX9_readInto_106 : decode cX9_readInto 106 = .ok (.ireturn, 1) := by decide +kernel
set_option maxRecDepth 20000 in
theorem ggX9_read_X9_lookAt : GoodIn wsX9_read wsX9_lookAt := goodIn_r _ [8, 1, 9, 10, 11, 12, 13, 14, 15, 7, 16, 17, 18, 19, 20, 21, 22, 23, 24, 25, 26, 110, 111, 112, 113, 114, 115, 116, 117, 118, 119, 120, 121, 122, 123, 124, 125, 126, 127, 128, 129, 130, 131, 132, 133, 134, 135, 136, 137] (by decide +kernel) (by decide +kernel)
set_option maxRecDepth 20000 in
theorem gX9_read_X9_lookAt : GoodIn wsX9_read (wsV RX9 296 RX9 yX9_lookAt wsX9_lookAt) := goodIn_app (goodIn_of _ (by decide +kernel)) ggX9_read_X9_lookAt
set_option maxRecDepth 20000 in
theorem ggX9_read_X9_spells : GoodIn wsX9_read wsX9_spells := goodIn_r _ [30, 12, 11, 10, 1, 110, 111, 112, 113, 114, 115, 116, 117, 118, 119, 120, 121, 122, 123, 124, 125, 126, 127, 128, 129, 130, 131, 132, 133, 134, 135, 136, 137] (by decide +kernel) (by decide +kernel)
set_option maxRecDepth 20000 in
theorem gX9_read_X9_spells : GoodIn wsX9_read (wsV RX9 311 RX9 yX9_spells wsX9_spells) := goodIn_app (goodIn_of _ (by decide +kernel)) ggX9_read_X9_spells
set_option maxRecDepth 20000 in
theorem ggX9_read_X9_readInto : GoodIn wsX9_read wsX9_readInto := goodIn_r _ [34, 12, 1, 3, 35, 36, 37, 38, 7, 39, 11, 4, 5, 6, 8, 9, 10, 13, 14, 15, 16, 17, 18, 19, 20, 21, 22, 23, 24, 25, 26, 40, 41, 42, 43, 44, 45, 46, 47, 48, 49, 50, 27, 28, 29, 30, 51, 52, 53, 54, 55, 56, 57, 58, 59, 60, 61, 62, 63, 64, 65, 66, 67, 68, 69, 70, 71, 72, 73, 74, 75, 76, 77, 78, 79, 80, 81, 82, 83, 84, 85, 86, 87, 88, 89, 90, 91, 92, 93, 94, 95, 96, 97, 98, 99, 100, 101, 102, 103, 104, 105, 106, 107, 108, 109, 110, 111, 112, 113, 114, 115, 116, 117, 118, 119, 120, 121, 122, 123, 124, 125, 126, 127, 128, 129, 130, 131, 132, 133, 134, 135, 136, 137] (by decide +kernel) (by decide +kernel)
set_option maxRecDepth 20000 in
theorem gX9_read_X9_readInto : GoodIn wsX9_read (wsV RX9 330 RX9 yX9_readInto wsX9_readInto) := goodIn_app (goodIn_of _ (by decide +kernel)) ggX9_read_X9_readInto
theorem dX9_read_0 : decode cX9_read 0 = .ok (.aload_n 0, 1) := by decide +kernel
theorem dX9_read_1 : decode cX9_read 1 = .ok (.iconst 0, 1) := by decide +kernel
theorem dX9_read_2 : decode cX9_read 2 = .ok (.invokevirtual 296, 3) := by decide +kernel
theorem dX9_read_5 : decode cX9_read 5 = .ok (.aload_n 0, 1) := by decide +kernel
theorem dX9_read_6 : decode cX9_read 6 = .ok (.iconst 4, 1) := by decide +kernel
theorem dX9_read_7 : decode cX9_read 7 = .ok (.bipush 99, 2) := by decide +kernel
theorem dX9_read_9 : decode cX9_read 9 = .ok (.bipush 97, 2) := by decide +kernel
theorem dX9_read_11 : decode cX9_read 11 = .ok (.bipush 115, 2) := by decide +kernel
theorem dX9_read_13 : decode cX9_read 13 = .ok (.bipush 101, 2) := by decide +kernel
theorem dX9_read_15 : decode cX9_read 15 = .ok (.iconst 0, 1) := by decide +kernel
theorem dX9_read_16 : decode cX9_read 16 = .ok (.iconst 0, 1) := by decide +kernel
theorem dX9_read_17 : decode cX9_read 17 = .ok (.invokevirtual 311, 3) := by decide +kernel
theorem dX9_read_20 : decode cX9_read 20 = .ok (.ifCond .ne 11, 3) := by decide +kernel
theorem dX9_read_23 : decode cX9_read 23 = .ok (.bipush (-10), 2) := by decide +kernel
theorem dX9_read_25 : decode cX9_read 25 = .ok (.aload_n 0, 1) := by decide +kernel
theorem dX9_read_26 : decode cX9_read 26 = .ok (.getfield 278, 3) := by decide +kernel
theorem dX9_read_29 : decode cX9_read 29 = .ok (.isub, 1) := by decide +kernel
theorem dX9_read_30 : decode cX9_read 30 = .ok (.ireturn, 1) := by decide +kernel
theorem dX9_read_31 : decode cX9_read 31 = .ok (.iconst 0, 1) := by decide +kernel
theorem dX9_read_32 : decode cX9_read 32 = .ok (.istore_n 1, 1) := by decide +kernel
theorem dX9_read_33 : decode cX9_read 33 = .ok (.iload_n 1, 1) := by decide +kernel
theorem dX9_read_34 : decode cX9_read 34 = .ok (.bipush 90, 2) := by decide +kernel
theorem dX9_read_36 : decode cX9_read 36 = .ok (.if_icmp .ge 21, 3) := by decide +kernel
theorem dX9_read_39 : decode cX9_read 39 = .ok (.aload_n 0, 1) := by decide +kernel
theorem dX9_read_40 : decode cX9_read 40 = .ok (.getfield 60, 3) := by decide +kernel
theorem dX9_read_43 : decode cX9_read 43 = .ok (.iload_n 1, 1) := by decide +kernel
theorem dX9_read_44 : decode cX9_read 44 = .ok (.aload_n 0, 1) := by decide +kernel
theorem dX9_read_45 : decode cX9_read 45 = .ok (.getfield 7, 3) := by decide +kernel
theorem dX9_read_48 : decode cX9_read 48 = .ok (.iload_n 1, 1) := by decide +kernel
theorem dX9_read_49 : decode cX9_read 49 = .ok (.iaload, 1) := by decide +kernel
theorem dX9_read_50 : decode cX9_read 50 = .ok (.iastore, 1) := by decide +kernel
theorem dX9_read_51 : decode cX9_read 51 = .ok (.iinc 1 1, 3) := by decide +kernel
theorem dX9_read_54 : decode cX9_read 54 = .ok (.goto (-21), 3) := by decide +kernel
theorem dX9_read_57 : decode cX9_read 57 = .ok (.aload_n 0, 1) := by decide +kernel
theorem dX9_read_58 : decode cX9_read 58 = .ok (.invokevirtual 330, 3) := by decide +kernel
theorem dX9_read_61 : decode cX9_read 61 = .ok (.istore_n 1, 1) := by decide +kernel
theorem dX9_read_62 : decode cX9_read 62 = .ok (.iconst 0, 1) := by decide +kernel
theorem dX9_read_63 : decode cX9_read 63 = .ok (.istore_n 2, 1) := by decide +kernel
theorem dX9_read_64 : decode cX9_read 64 = .ok (.iload_n 2, 1) := by decide +kernel
theorem dX9_read_65 : decode cX9_read 65 = .ok (.bipush 90, 2) := by decide +kernel
theorem dX9_read_67 : decode cX9_read 67 = .ok (.if_icmp .ge 25, 3) := by decide +kernel
theorem dX9_read_70 : decode cX9_read 70 = .ok (.iload_n 1, 1) := by decide +kernel
theorem dX9_read_71 : decode cX9_read 71 = .ok (.ifCond .ge 21, 3) := by decide +kernel
theorem dX9_read_74 : decode cX9_read 74 = .ok (.aload_n 0, 1) := by decide +kernel
theorem dX9_read_75 : decode cX9_read 75 = .ok (.getfield 7, 3) := by decide +kernel
theorem dX9_read_78 : decode cX9_read 78 = .ok (.iload_n 2, 1) := by decide +kernel
theorem dX9_read_79 : decode cX9_read 79 = .ok (.aload_n 0, 1) := by decide +kernel
theorem dX9_read_80 : decode cX9_read 80 = .ok (.getfield 60, 3) := by decide +kernel
theorem dX9_read_83 : decode cX9_read 83 = .ok (.iload_n 2, 1) := by decide +kernel
theorem dX9_read_84 : decode cX9_read 84 = .ok (.iaload, 1) := by decide +kernel
theorem dX9_read_85 : decode cX9_read 85 = .ok (.iastore, 1) := by decide +kernel
theorem dX9_read_86 : decode cX9_read 86 = .ok (.iinc 2 1, 3) := by decide +kernel
theorem dX9_read_89 : decode cX9_read 89 = .ok (.goto (-25), 3) := by decide +kernel
theorem dX9_read_92 : decode cX9_read 92 = .ok (.iload_n 1, 1) := by decide +kernel
theorem dX9_read_93 : decode cX9_read 93 = .ok (.ireturn, 1) := by decide +kernel
set_option maxRecDepth 20000 in
theorem ggX9_part_X9_bad : GoodIn wsX9_part wsX9_bad := goodIn_r _ [7, 8, 9, 10, 11, 12, 13, 14, 15, 16, 17, 18, 19, 20, 21, 22, 23, 24, 25, 26, 27, 28, 29, 30, 31, 32, 33, 34, 35, 36] (by decide +kernel) (by decide +kernel)
set_option maxRecDepth 20000 in
theorem gX9_part_X9_bad : GoodIn wsX9_part (wsV RX9 84 RX9 yX9_bad wsX9_bad) := goodIn_app (goodIn_of _ (by decide +kernel)) ggX9_part_X9_bad
theorem dX9_part_0 : decode cX9_part 0 = .ok (.iload_n 1, 1) := by decide +kernel
theorem dX9_part_1 : decode cX9_part 1 = .ok (.ifCond .ne 10, 3) := by decide +kernel
theorem dX9_part_4 : decode cX9_part 4 = .ok (.aload_n 0, 1) := by decide +kernel
theorem dX9_part_5 : decode cX9_part 5 = .ok (.getfield 241, 3) := by decide +kernel
theorem dX9_part_8 : decode cX9_part 8 = .ok (.goto 22, 3) := by decide +kernel
theorem dX9_part_11 : decode cX9_part 11 = .ok (.iload_n 1, 1) := by decide +kernel
theorem dX9_part_12 : decode cX9_part 12 = .ok (.iconst 1, 1) := by decide +kernel
theorem dX9_part_13 : decode cX9_part 13 = .ok (.if_icmp .ne 10, 3) := by decide +kernel
theorem dX9_part_16 : decode cX9_part 16 = .ok (.aload_n 0, 1) := by decide +kernel
theorem dX9_part_17 : decode cX9_part 17 = .ok (.getfield 23, 3) := by decide +kernel
theorem dX9_part_20 : decode cX9_part 20 = .ok (.goto 10, 3) := by decide +kernel
theorem dX9_part_23 : decode cX9_part 23 = .ok (.aload_n 0, 1) := by decide +kernel
theorem dX9_part_24 : decode cX9_part 24 = .ok (.bipush (-2), 2) := by decide +kernel
theorem dX9_part_26 : decode cX9_part 26 = .ok (.invokevirtual 84, 3) := by decide +kernel
theorem dX9_part_29 : decode cX9_part 29 = .ok (.i2l, 1) := by decide +kernel
theorem dX9_part_30 : decode cX9_part 30 = .ok (.lreturn, 1) := by decide +kernel
set_option maxRecDepth 20000 in
theorem ggX9_image_X9_in : GoodIn wsX9_image wsX9_in := goodIn_r _ [7] (by decide +kernel) (by decide +kernel)
set_option maxRecDepth 20000 in
theorem gX9_image_X9_in : GoodIn wsX9_image (va_wsS RX9 74 yX9_in wsX9_in) := goodIn_app (goodIn_of _ (by decide +kernel)) ggX9_image_X9_in
set_option maxRecDepth 20000 in
theorem ggX9_image_X9_bad : GoodIn wsX9_image wsX9_bad := goodIn_r _ [11, 12, 13, 14, 15, 16, 17, 18, 19, 20, 21, 22, 23, 24, 25, 26, 27, 28, 29, 30, 31, 32, 33, 34, 35, 36, 37, 38, 39, 40] (by decide +kernel) (by decide +kernel)
set_option maxRecDepth 20000 in
theorem gX9_image_X9_bad : GoodIn wsX9_image (wsV RX9 84 RX9 yX9_bad wsX9_bad) := goodIn_app (goodIn_of _ (by decide +kernel)) ggX9_image_X9_bad
theorem dX9_image_0 : decode cX9_image 0 = .ok (.iload_n 1, 1) := by decide +kernel
theorem dX9_image_1 : decode cX9_image 1 = .ok (.i2l, 1) := by decide +kernel
theorem dX9_image_2 : decode cX9_image 2 = .ok (.lconst 0, 1) := by decide +kernel
theorem dX9_image_3 : decode cX9_image 3 = .ok (.lconst 1, 1) := by decide +kernel
theorem dX9_image_4 : decode cX9_image 4 = .ok (.invokestatic 74, 3) := by decide +kernel
theorem dX9_image_7 : decode cX9_image 7 = .ok (.ifCond .ne 10, 3) := by decide +kernel
theorem dX9_image_10 : decode cX9_image 10 = .ok (.aload_n 0, 1) := by decide +kernel
theorem dX9_image_11 : decode cX9_image 11 = .ok (.bipush (-2), 2) := by decide +kernel
theorem dX9_image_13 : decode cX9_image 13 = .ok (.invokevirtual 84, 3) := by decide +kernel
theorem dX9_image_16 : decode cX9_image 16 = .ok (.ireturn, 1) := by decide +kernel
theorem dX9_image_17 : decode cX9_image 17 = .ok (.iconst 0, 1) := by decide +kernel
theorem dX9_image_18 : decode cX9_image 18 = .ok (.istore_n 2, 1) := by decide +kernel
theorem dX9_image_19 : decode cX9_image 19 = .ok (.iload_n 2, 1) := by decide +kernel
theorem dX9_image_20 : decode cX9_image 20 = .ok (.sipush 194, 3) := by decide +kernel
theorem dX9_image_23 : decode cX9_image 23 = .ok (.if_icmp .ge 27, 3) := by decide +kernel
theorem dX9_image_26 : decode cX9_image 26 = .ok (.aload_n 0, 1) := by decide +kernel
theorem dX9_image_27 : decode cX9_image 27 = .ok (.getfield 13, 3) := by decide +kernel
theorem dX9_image_30 : decode cX9_image 30 = .ok (.sipush 194, 3) := by decide +kernel
theorem dX9_image_33 : decode cX9_image 33 = .ok (.iload_n 1, 1) := by decide +kernel
theorem dX9_image_34 : decode cX9_image 34 = .ok (.imul, 1) := by decide +kernel
theorem dX9_image_35 : decode cX9_image 35 = .ok (.iload_n 2, 1) := by decide +kernel
theorem dX9_image_36 : decode cX9_image 36 = .ok (.iadd, 1) := by decide +kernel
theorem dX9_image_37 : decode cX9_image 37 = .ok (.aload_n 0, 1) := by decide +kernel
theorem dX9_image_38 : decode cX9_image 38 = .ok (.getfield 7, 3) := by decide +kernel
theorem dX9_image_41 : decode cX9_image 41 = .ok (.iload_n 2, 1) := by decide +kernel
theorem dX9_image_42 : decode cX9_image 42 = .ok (.iaload, 1) := by decide +kernel
theorem dX9_image_43 : decode cX9_image 43 = .ok (.iastore, 1) := by decide +kernel
theorem dX9_image_44 : decode cX9_image 44 = .ok (.iinc 2 1, 3) := by decide +kernel
theorem dX9_image_47 : decode cX9_image 47 = .ok (.goto (-28), 3) := by decide +kernel
theorem dX9_image_50 : decode cX9_image 50 = .ok (.aload_n 0, 1) := by decide +kernel
theorem dX9_image_51 : decode cX9_image 51 = .ok (.getfield 16, 3) := by decide +kernel
theorem dX9_image_54 : decode cX9_image 54 = .ok (.iload_n 1, 1) := by decide +kernel
theorem dX9_image_55 : decode cX9_image 55 = .ok (.iconst 1, 1) := by decide +kernel
theorem dX9_image_56 : decode cX9_image 56 = .ok (.bastore, 1) := by decide +kernel
theorem dX9_image_57 : decode cX9_image 57 = .ok (.iconst 1, 1) := by decide +kernel
theorem dX9_image_58 : decode cX9_image 58 = .ok (.ireturn, 1) := by decide +kernel
set_option maxRecDepth 20000 in
theorem ggX9_from_X9_in : GoodIn wsX9_from wsX9_in := goodIn_r _ [7] (by decide +kernel) (by decide +kernel)
set_option maxRecDepth 20000 in
theorem gX9_from_X9_in : GoodIn wsX9_from (va_wsS RX9 74 yX9_in wsX9_in) := goodIn_app (goodIn_of _ (by decide +kernel)) ggX9_from_X9_in
set_option maxRecDepth 20000 in
theorem ggX9_from_X9_bad : GoodIn wsX9_from wsX9_bad := goodIn_r _ [11, 12, 17, 18, 19, 20, 21, 22, 23, 24, 25, 26, 27, 28, 29, 30, 31, 32, 33, 34, 35, 36, 37, 38, 39, 40, 41, 42, 43, 44] (by decide +kernel) (by decide +kernel)
set_option maxRecDepth 20000 in
theorem gX9_from_X9_bad : GoodIn wsX9_from (wsV RX9 84 RX9 yX9_bad wsX9_bad) := goodIn_app (goodIn_of _ (by decide +kernel)) ggX9_from_X9_bad
set_option maxRecDepth 20000 in
theorem ggX9_from_X9_no : GoodIn wsX9_from wsX9_no := goodIn_r _ [16, 12, 17, 18, 19, 20, 21, 22, 23, 24, 25, 26, 27, 28, 29, 30, 31, 32, 33, 34, 35, 36, 37, 38, 39, 40, 41, 42, 43, 44] (by decide +kernel) (by decide +kernel)
set_option maxRecDepth 20000 in
theorem gX9_from_X9_no : GoodIn wsX9_from (wsV RX9 124 RX9 yX9_no wsX9_no) := goodIn_app (goodIn_of _ (by decide +kernel)) ggX9_from_X9_no
theorem dX9_from_0 : decode cX9_from 0 = .ok (.iload_n 1, 1) := by decide +kernel
theorem dX9_from_1 : decode cX9_from 1 = .ok (.i2l, 1) := by decide +kernel
theorem dX9_from_2 : decode cX9_from 2 = .ok (.lconst 0, 1) := by decide +kernel
theorem dX9_from_3 : decode cX9_from 3 = .ok (.lconst 1, 1) := by decide +kernel
theorem dX9_from_4 : decode cX9_from 4 = .ok (.invokestatic 74, 3) := by decide +kernel
theorem dX9_from_7 : decode cX9_from 7 = .ok (.ifCond .ne 10, 3) := by decide +kernel
theorem dX9_from_10 : decode cX9_from 10 = .ok (.aload_n 0, 1) := by decide +kernel
theorem dX9_from_11 : decode cX9_from 11 = .ok (.bipush (-2), 2) := by decide +kernel
theorem dX9_from_13 : decode cX9_from 13 = .ok (.invokevirtual 84, 3) := by decide +kernel
theorem dX9_from_16 : decode cX9_from 16 = .ok (.ireturn, 1) := by decide +kernel
theorem dX9_from_17 : decode cX9_from 17 = .ok (.aload_n 0, 1) := by decide +kernel
theorem dX9_from_18 : decode cX9_from 18 = .ok (.getfield 16, 3) := by decide +kernel
theorem dX9_from_21 : decode cX9_from 21 = .ok (.iload_n 1, 1) := by decide +kernel
theorem dX9_from_22 : decode cX9_from 22 = .ok (.baload, 1) := by decide +kernel
theorem dX9_from_23 : decode cX9_from 23 = .ok (.ifCond .ne 10, 3) := by decide +kernel
theorem dX9_from_26 : decode cX9_from 26 = .ok (.aload_n 0, 1) := by decide +kernel
theorem dX9_from_27 : decode cX9_from 27 = .ok (.bipush (-3), 2) := by decide +kernel
theorem dX9_from_29 : decode cX9_from 29 = .ok (.invokevirtual 124, 3) := by decide +kernel
theorem dX9_from_32 : decode cX9_from 32 = .ok (.ireturn, 1) := by decide +kernel
theorem dX9_from_33 : decode cX9_from 33 = .ok (.iconst 0, 1) := by decide +kernel
theorem dX9_from_34 : decode cX9_from 34 = .ok (.istore_n 2, 1) := by decide +kernel
theorem dX9_from_35 : decode cX9_from 35 = .ok (.iload_n 2, 1) := by decide +kernel
theorem dX9_from_36 : decode cX9_from 36 = .ok (.sipush 194, 3) := by decide +kernel
theorem dX9_from_39 : decode cX9_from 39 = .ok (.if_icmp .ge 27, 3) := by decide +kernel
theorem dX9_from_42 : decode cX9_from 42 = .ok (.aload_n 0, 1) := by decide +kernel
theorem dX9_from_43 : decode cX9_from 43 = .ok (.getfield 7, 3) := by decide +kernel
theorem dX9_from_46 : decode cX9_from 46 = .ok (.iload_n 2, 1) := by decide +kernel
theorem dX9_from_47 : decode cX9_from 47 = .ok (.aload_n 0, 1) := by decide +kernel
theorem dX9_from_48 : decode cX9_from 48 = .ok (.getfield 13, 3) := by decide +kernel
theorem dX9_from_51 : decode cX9_from 51 = .ok (.sipush 194, 3) := by decide +kernel
theorem dX9_from_54 : decode cX9_from 54 = .ok (.iload_n 1, 1) := by decide +kernel
theorem dX9_from_55 : decode cX9_from 55 = .ok (.imul, 1) := by decide +kernel
theorem dX9_from_56 : decode cX9_from 56 = .ok (.iload_n 2, 1) := by decide +kernel
theorem dX9_from_57 : decode cX9_from 57 = .ok (.iadd, 1) := by decide +kernel
theorem dX9_from_58 : decode cX9_from 58 = .ok (.iaload, 1) := by decide +kernel
theorem dX9_from_59 : decode cX9_from 59 = .ok (.iastore, 1) := by decide +kernel
theorem dX9_from_60 : decode cX9_from 60 = .ok (.iinc 2 1, 3) := by decide +kernel
theorem dX9_from_63 : decode cX9_from 63 = .ok (.goto (-28), 3) := by decide +kernel
theorem dX9_from_66 : decode cX9_from 66 = .ok (.iconst 1, 1) := by decide +kernel
theorem dX9_from_67 : decode cX9_from 67 = .ok (.ireturn, 1) := by decide +kernel
set_option maxRecDepth 20000 in
theorem ggX9_status_X9_in : GoodIn wsX9_status wsX9_in := goodIn_r _ [6] (by decide +kernel) (by decide +kernel)
set_option maxRecDepth 20000 in
theorem gX9_status_X9_in : GoodIn wsX9_status (va_wsS RX9 74 yX9_in wsX9_in) := goodIn_app (goodIn_of _ (by decide +kernel)) ggX9_status_X9_in
set_option maxRecDepth 20000 in
theorem ggX9_status_X9_bad : GoodIn wsX9_status wsX9_bad := goodIn_r _ [10, 2, 11, 12, 13, 14, 15, 16, 17, 18, 19, 20, 21, 22, 23, 24, 25, 26, 27, 28, 29, 30, 31, 32, 33, 34, 35, 36, 37, 38] (by decide +kernel) (by decide +kernel)
set_option maxRecDepth 20000 in
theorem gX9_status_X9_bad : GoodIn wsX9_status (wsV RX9 84 RX9 yX9_bad wsX9_bad) := goodIn_app (goodIn_of _ (by decide +kernel)) ggX9_status_X9_bad
theorem dX9_status_0 : decode cX9_status 0 = .ok (.iload_n 1, 1) := by decide +kernel
theorem dX9_status_1 : decode cX9_status 1 = .ok (.i2l, 1) := by decide +kernel
theorem dX9_status_2 : decode cX9_status 2 = .ok (.lconst 0, 1) := by decide +kernel
theorem dX9_status_3 : decode cX9_status 3 = .ok (.ldc2_w 143, 3) := by decide +kernel
theorem dX9_status_6 : decode cX9_status 6 = .ok (.invokestatic 74, 3) := by decide +kernel
theorem dX9_status_9 : decode cX9_status 9 = .ok (.ifCond .eq 12, 3) := by decide +kernel
theorem dX9_status_12 : decode cX9_status 12 = .ok (.aload_n 0, 1) := by decide +kernel
theorem dX9_status_13 : decode cX9_status 13 = .ok (.getfield 20, 3) := by decide +kernel
theorem dX9_status_16 : decode cX9_status 16 = .ok (.iload_n 1, 1) := by decide +kernel
theorem dX9_status_17 : decode cX9_status 17 = .ok (.iaload, 1) := by decide +kernel
theorem dX9_status_18 : decode cX9_status 18 = .ok (.goto 8, 3) := by decide +kernel
theorem dX9_status_21 : decode cX9_status 21 = .ok (.aload_n 0, 1) := by decide +kernel
theorem dX9_status_22 : decode cX9_status 22 = .ok (.iconst (-1), 1) := by decide +kernel
theorem dX9_status_23 : decode cX9_status 23 = .ok (.invokevirtual 84, 3) := by decide +kernel
theorem dX9_status_26 : decode cX9_status 26 = .ok (.ireturn, 1) := by decide +kernel
set_option maxRecDepth 20000 in
theorem ggX9_counted_X9_many : GoodIn wsX9_counted wsX9_many := goodIn_r _ [7, 1, 11, 12, 13, 14, 15, 16, 17, 18, 19, 20, 21, 22, 23, 24, 25, 26, 27, 28, 29, 30, 31, 32, 33, 34, 35, 36, 37, 38] (by decide +kernel) (by decide +kernel)
set_option maxRecDepth 20000 in
theorem gX9_counted_X9_many : GoodIn wsX9_counted (wsV RX9 70 RX9 yX9_many wsX9_many) := goodIn_app (goodIn_of _ (by decide +kernel)) ggX9_counted_X9_many
set_option maxRecDepth 20000 in
theorem ggX9_counted_X9_bits : GoodIn wsX9_counted wsX9_bits := goodIn_r _ [10] (by decide +kernel) (by decide +kernel)
set_option maxRecDepth 20000 in
theorem gX9_counted_X9_bits : GoodIn wsX9_counted (va_wsS RX9 197 yX9_bits wsX9_bits) := goodIn_app (goodIn_of _ (by decide +kernel)) ggX9_counted_X9_bits
theorem dX9_counted_0 : decode cX9_counted 0 = .ok (.iconst 0, 1) := by decide +kernel
theorem dX9_counted_1 : decode cX9_counted 1 = .ok (.istore_n 2, 1) := by decide +kernel
theorem dX9_counted_2 : decode cX9_counted 2 = .ok (.iconst 0, 1) := by decide +kernel
theorem dX9_counted_3 : decode cX9_counted 3 = .ok (.istore_n 3, 1) := by decide +kernel
theorem dX9_counted_4 : decode cX9_counted 4 = .ok (.iload_n 3, 1) := by decide +kernel
theorem dX9_counted_5 : decode cX9_counted 5 = .ok (.aload_n 0, 1) := by decide +kernel
theorem dX9_counted_6 : decode cX9_counted 6 = .ok (.invokevirtual 70, 3) := by decide +kernel
theorem dX9_counted_9 : decode cX9_counted 9 = .ok (.if_icmp .ge 21, 3) := by decide +kernel
theorem dX9_counted_12 : decode cX9_counted 12 = .ok (.iload_n 2, 1) := by decide +kernel
theorem dX9_counted_13 : decode cX9_counted 13 = .ok (.aload_n 0, 1) := by decide +kernel
theorem dX9_counted_14 : decode cX9_counted 14 = .ok (.getfield 7, 3) := by decide +kernel
theorem dX9_counted_17 : decode cX9_counted 17 = .ok (.bipush 6, 2) := by decide +kernel
theorem dX9_counted_19 : decode cX9_counted 19 = .ok (.iload_n 3, 1) := by decide +kernel
theorem dX9_counted_20 : decode cX9_counted 20 = .ok (.iadd, 1) := by decide +kernel
theorem dX9_counted_21 : decode cX9_counted 21 = .ok (.iaload, 1) := by decide +kernel
theorem dX9_counted_22 : decode cX9_counted 22 = .ok (.iadd, 1) := by decide +kernel
theorem dX9_counted_23 : decode cX9_counted 23 = .ok (.istore_n 2, 1) := by decide +kernel
theorem dX9_counted_24 : decode cX9_counted 24 = .ok (.iinc 3 1, 3) := by decide +kernel
theorem dX9_counted_27 : decode cX9_counted 27 = .ok (.goto (-23), 3) := by decide +kernel
theorem dX9_counted_30 : decode cX9_counted 30 = .ok (.iload_n 1, 1) := by decide +kernel
theorem dX9_counted_31 : decode cX9_counted 31 = .ok (.tableswitch 74 0 7 #[45, 50, 60, 74, 74, 74, 62, 69], 45) := by decide +kernel
theorem dX9_counted_76 : decode cX9_counted 76 = .ok (.aload_n 0, 1) := by decide +kernel
theorem dX9_counted_77 : decode cX9_counted 77 = .ok (.invokevirtual 70, 3) := by decide +kernel
theorem dX9_counted_80 : decode cX9_counted 80 = .ok (.ireturn, 1) := by decide +kernel
theorem dX9_counted_81 : decode cX9_counted 81 = .ok (.aload_n 0, 1) := by decide +kernel
theorem dX9_counted_82 : decode cX9_counted 82 = .ok (.getfield 7, 3) := by decide +kernel
theorem dX9_counted_85 : decode cX9_counted 85 = .ok (.iconst 5, 1) := by decide +kernel
theorem dX9_counted_86 : decode cX9_counted 86 = .ok (.iaload, 1) := by decide +kernel
theorem dX9_counted_87 : decode cX9_counted 87 = .ok (.invokestatic 197, 3) := by decide +kernel
theorem dX9_counted_90 : decode cX9_counted 90 = .ok (.ireturn, 1) := by decide +kernel
theorem dX9_counted_91 : decode cX9_counted 91 = .ok (.iload_n 2, 1) := by decide +kernel
theorem dX9_counted_92 : decode cX9_counted 92 = .ok (.ireturn, 1) := by decide +kernel
theorem dX9_counted_93 : decode cX9_counted 93 = .ok (.aload_n 0, 1) := by decide +kernel
theorem dX9_counted_94 : decode cX9_counted 94 = .ok (.getfield 7, 3) := by decide +kernel
theorem dX9_counted_97 : decode cX9_counted 97 = .ok (.iconst 4, 1) := by decide +kernel
theorem dX9_counted_98 : decode cX9_counted 98 = .ok (.iaload, 1) := by decide +kernel
theorem dX9_counted_99 : decode cX9_counted 99 = .ok (.ireturn, 1) := by decide +kernel
theorem dX9_counted_100 : decode cX9_counted 100 = .ok (.aload_n 0, 1) := by decide +kernel
theorem dX9_counted_101 : decode cX9_counted 101 = .ok (.getfield 267, 3) := by decide +kernel
theorem dX9_counted_104 : decode cX9_counted 104 = .ok (.ireturn, 1) := by decide +kernel
theorem dX9_counted_105 : decode cX9_counted 105 = .ok (.aload_n 0, 1) := by decide +kernel
theorem dX9_counted_106 : decode cX9_counted 106 = .ok (.getfield 7, 3) := by decide +kernel
theorem dX9_counted_109 : decode cX9_counted 109 = .ok (.iconst 1, 1) := by decide +kernel
theorem dX9_counted_110 : decode cX9_counted 110 = .ok (.iload_n 1, 1) := by decide +kernel
theorem dX9_counted_111 : decode cX9_counted 111 = .ok (.iadd, 1) := by decide +kernel
theorem dX9_counted_112 : decode cX9_counted 112 = .ok (.iconst 3, 1) := by decide +kernel
theorem dX9_counted_113 : decode cX9_counted 113 = .ok (.isub, 1) := by decide +kernel
theorem dX9_counted_114 : decode cX9_counted 114 = .ok (.iaload, 1) := by decide +kernel
theorem dX9_counted_115 : decode cX9_counted 115 = .ok (.ireturn, 1) := by decide +kernel
set_option maxRecDepth 20000 in
theorem ggX9_count_X9_in : GoodIn wsX9_count wsX9_in := goodIn_r _ [5] (by decide +kernel) (by decide +kernel)
set_option maxRecDepth 20000 in
theorem gX9_count_X9_in : GoodIn wsX9_count (va_wsS RX9 74 yX9_in wsX9_in) := goodIn_app (goodIn_of _ (by decide +kernel)) ggX9_count_X9_in
set_option maxRecDepth 20000 in
theorem ggX9_count_X9_counted : GoodIn wsX9_count wsX9_counted := goodIn_r _ [9, 10, 11, 12, 13, 14, 4, 15, 16, 17, 18, 24, 25, 26, 27, 28, 29, 30, 31, 32, 33, 34, 35, 36, 37, 38, 39, 40, 41, 42, 43, 44, 45, 46, 47, 48, 49, 50, 51] (by decide +kernel) (by decide +kernel)
set_option maxRecDepth 20000 in
theorem gX9_count_X9_counted : GoodIn wsX9_count (wsV RX9 335 RX9 yX9_counted wsX9_counted) := goodIn_app (goodIn_of _ (by decide +kernel)) ggX9_count_X9_counted
set_option maxRecDepth 20000 in
theorem ggX9_count_X9_bad : GoodIn wsX9_count wsX9_bad := goodIn_r _ [22, 23, 24, 25, 26, 27, 28, 29, 30, 31, 32, 33, 34, 35, 36, 37, 38, 39, 40, 41, 42, 43, 44, 45, 46, 47, 48, 49, 50, 51] (by decide +kernel) (by decide +kernel)
set_option maxRecDepth 20000 in
theorem gX9_count_X9_bad : GoodIn wsX9_count (wsV RX9 84 RX9 yX9_bad wsX9_bad) := goodIn_app (goodIn_of _ (by decide +kernel)) ggX9_count_X9_bad
theorem dX9_count_0 : decode cX9_count 0 = .ok (.iload_n 1, 1) := by decide +kernel
theorem dX9_count_1 : decode cX9_count 1 = .ok (.i2l, 1) := by decide +kernel
theorem dX9_count_2 : decode cX9_count 2 = .ok (.lconst 0, 1) := by decide +kernel
theorem dX9_count_3 : decode cX9_count 3 = .ok (.ldc2_w 333, 3) := by decide +kernel
theorem dX9_count_6 : decode cX9_count 6 = .ok (.invokestatic 74, 3) := by decide +kernel
theorem dX9_count_9 : decode cX9_count 9 = .ok (.ifCond .eq 11, 3) := by decide +kernel
theorem dX9_count_12 : decode cX9_count 12 = .ok (.aload_n 0, 1) := by decide +kernel
theorem dX9_count_13 : decode cX9_count 13 = .ok (.iload_n 1, 1) := by decide +kernel
theorem dX9_count_14 : decode cX9_count 14 = .ok (.invokevirtual 335, 3) := by decide +kernel
theorem dX9_count_17 : decode cX9_count 17 = .ok (.goto 9, 3) := by decide +kernel
theorem dX9_count_20 : decode cX9_count 20 = .ok (.aload_n 0, 1) := by decide +kernel
theorem dX9_count_21 : decode cX9_count 21 = .ok (.bipush (-2), 2) := by decide +kernel
theorem dX9_count_23 : decode cX9_count 23 = .ok (.invokevirtual 84, 3) := by decide +kernel
theorem dX9_count_26 : decode cX9_count 26 = .ok (.ireturn, 1) := by decide +kernel
theorem dX9_sums_0 : decode cX9_sums 0 = .ok (.lload_n 1, 1) := by decide +kernel
theorem dX9_sums_1 : decode cX9_sums 1 = .ok (.lstore 5, 2) := by decide +kernel
theorem dX9_sums_3 : decode cX9_sums 3 = .ok (.iconst 0, 1) := by decide +kernel
theorem dX9_sums_4 : decode cX9_sums 4 = .ok (.istore 7, 2) := by decide +kernel
theorem dX9_sums_6 : decode cX9_sums 6 = .ok (.iload 7, 2) := by decide +kernel
theorem dX9_sums_8 : decode cX9_sums 8 = .ok (.iload 4, 2) := by decide +kernel
theorem dX9_sums_10 : decode cX9_sums 10 = .ok (.if_icmp .ge 28, 3) := by decide +kernel
theorem dX9_sums_13 : decode cX9_sums 13 = .ok (.ldc2_w 338, 3) := by decide +kernel
theorem dX9_sums_16 : decode cX9_sums 16 = .ok (.lload 5, 2) := by decide +kernel
theorem dX9_sums_18 : decode cX9_sums 18 = .ok (.lmul, 1) := by decide +kernel
theorem dX9_sums_19 : decode cX9_sums 19 = .ok (.aload_n 0, 1) := by decide +kernel
theorem dX9_sums_20 : decode cX9_sums 20 = .ok (.getfield 7, 3) := by decide +kernel
theorem dX9_sums_23 : decode cX9_sums 23 = .ok (.iload_n 3, 1) := by decide +kernel
theorem dX9_sums_24 : decode cX9_sums 24 = .ok (.iload 7, 2) := by decide +kernel
theorem dX9_sums_26 : decode cX9_sums 26 = .ok (.iadd, 1) := by decide +kernel
theorem dX9_sums_27 : decode cX9_sums 27 = .ok (.iaload, 1) := by decide +kernel
theorem dX9_sums_28 : decode cX9_sums 28 = .ok (.i2l, 1) := by decide +kernel
theorem dX9_sums_29 : decode cX9_sums 29 = .ok (.ladd, 1) := by decide +kernel
theorem dX9_sums_30 : decode cX9_sums 30 = .ok (.lstore 5, 2) := by decide +kernel
theorem dX9_sums_32 : decode cX9_sums 32 = .ok (.iinc 7 1, 3) := by decide +kernel
theorem dX9_sums_35 : decode cX9_sums 35 = .ok (.goto (-29), 3) := by decide +kernel
theorem dX9_sums_38 : decode cX9_sums 38 = .ok (.lload 5, 2) := by decide +kernel
theorem dX9_sums_40 : decode cX9_sums 40 = .ok (.lreturn, 1) := by decide +kernel
set_option maxRecDepth 20000 in
theorem ggX9_digest_X9_counted : GoodIn wsX9_digest wsX9_counted := goodIn_r _ [10, 3, 11, 12, 13, 14, 9, 15, 16, 17, 18, 35, 36, 37, 38, 39, 40, 41, 42, 43, 44, 45, 46, 47, 48, 49, 50, 51, 52, 53, 54, 55, 56, 57, 58, 59, 60, 61, 62] (by decide +kernel) (by decide +kernel)
set_option maxRecDepth 20000 in
theorem gX9_digest_X9_counted : GoodIn wsX9_digest (wsV RX9 335 RX9 yX9_counted wsX9_counted) := goodIn_app (goodIn_of _ (by decide +kernel)) ggX9_digest_X9_counted
set_option maxRecDepth 20000 in
theorem ggX9_digest_X9_toldNow : GoodIn wsX9_digest wsX9_toldNow := goodIn_r _ [22, 3, 23, 24, 25, 9, 26, 27, 28, 29, 30, 12, 13, 14, 15, 35, 36, 37, 38, 39, 40, 41, 42, 43, 44, 45, 46, 47, 48, 49, 50, 51, 52, 53, 54, 55, 56, 57, 58, 59, 60, 61, 62] (by decide +kernel) (by decide +kernel)
set_option maxRecDepth 20000 in
theorem gX9_digest_X9_toldNow : GoodIn wsX9_digest (wsV RX9 140 RX9 yX9_toldNow wsX9_toldNow) := goodIn_app (goodIn_of _ (by decide +kernel)) ggX9_digest_X9_toldNow
set_option maxRecDepth 20000 in
theorem ggX9_digest_X9_many : GoodIn wsX9_digest wsX9_many := goodIn_r _ [15, 3, 35, 36, 37, 38, 39, 40, 41, 42, 43, 44, 45, 46, 47, 48, 49, 50, 51, 52, 53, 54, 55, 56, 57, 58, 59, 60, 61, 62] (by decide +kernel) (by decide +kernel)
set_option maxRecDepth 20000 in
theorem gX9_digest_X9_many : GoodIn wsX9_digest (wsV RX9 70 RX9 yX9_many wsX9_many) := goodIn_app (goodIn_of _ (by decide +kernel)) ggX9_digest_X9_many
set_option maxRecDepth 20000 in
theorem ggX9_digest_X9_sums : GoodIn wsX9_digest wsX9_sums := goodIn_r _ [34, 2, 3, 35, 36, 37, 38, 39, 40, 41, 42, 43, 44, 45, 46, 47, 48, 49, 50, 51, 52, 53, 54, 55, 56, 57, 58, 59, 60, 61, 62] (by decide +kernel) (by decide +kernel)
set_option maxRecDepth 20000 in
theorem gX9_digest_X9_sums : GoodIn wsX9_digest (wsV RX9 342 RX9 yX9_sums wsX9_sums) := goodIn_app (goodIn_of _ (by decide +kernel)) ggX9_digest_X9_sums
theorem dX9_digest_0 : decode cX9_digest 0 = .ok (.ldc2_w 340, 3) := by decide +kernel
theorem dX9_digest_3 : decode cX9_digest 3 = .ok (.lstore_n 1, 1) := by decide +kernel
theorem dX9_digest_4 : decode cX9_digest 4 = .ok (.iconst 0, 1) := by decide +kernel
theorem dX9_digest_5 : decode cX9_digest 5 = .ok (.istore_n 3, 1) := by decide +kernel
theorem dX9_digest_6 : decode cX9_digest 6 = .ok (.iload_n 3, 1) := by decide +kernel
theorem dX9_digest_7 : decode cX9_digest 7 = .ok (.bipush 8, 2) := by decide +kernel
theorem dX9_digest_9 : decode cX9_digest 9 = .ok (.if_icmp .ge 22, 3) := by decide +kernel
theorem dX9_digest_12 : decode cX9_digest 12 = .ok (.ldc2_w 338, 3) := by decide +kernel
theorem dX9_digest_15 : decode cX9_digest 15 = .ok (.lload_n 1, 1) := by decide +kernel
theorem dX9_digest_16 : decode cX9_digest 16 = .ok (.lmul, 1) := by decide +kernel
theorem dX9_digest_17 : decode cX9_digest 17 = .ok (.aload_n 0, 1) := by decide +kernel
theorem dX9_digest_18 : decode cX9_digest 18 = .ok (.iload_n 3, 1) := by decide +kernel
theorem dX9_digest_19 : decode cX9_digest 19 = .ok (.invokevirtual 335, 3) := by decide +kernel
theorem dX9_digest_22 : decode cX9_digest 22 = .ok (.i2l, 1) := by decide +kernel
theorem dX9_digest_23 : decode cX9_digest 23 = .ok (.ladd, 1) := by decide +kernel
theorem dX9_digest_24 : decode cX9_digest 24 = .ok (.lstore_n 1, 1) := by decide +kernel
theorem dX9_digest_25 : decode cX9_digest 25 = .ok (.iinc 3 1, 3) := by decide +kernel
theorem dX9_digest_28 : decode cX9_digest 28 = .ok (.goto (-22), 3) := by decide +kernel
theorem dX9_digest_31 : decode cX9_digest 31 = .ok (.iconst 0, 1) := by decide +kernel
theorem dX9_digest_32 : decode cX9_digest 32 = .ok (.istore_n 3, 1) := by decide +kernel
theorem dX9_digest_33 : decode cX9_digest 33 = .ok (.iload_n 3, 1) := by decide +kernel
theorem dX9_digest_34 : decode cX9_digest 34 = .ok (.iconst 5, 1) := by decide +kernel
theorem dX9_digest_35 : decode cX9_digest 35 = .ok (.if_icmp .ge 22, 3) := by decide +kernel
theorem dX9_digest_38 : decode cX9_digest 38 = .ok (.ldc2_w 338, 3) := by decide +kernel
theorem dX9_digest_41 : decode cX9_digest 41 = .ok (.lload_n 1, 1) := by decide +kernel
theorem dX9_digest_42 : decode cX9_digest 42 = .ok (.lmul, 1) := by decide +kernel
theorem dX9_digest_43 : decode cX9_digest 43 = .ok (.aload_n 0, 1) := by decide +kernel
theorem dX9_digest_44 : decode cX9_digest 44 = .ok (.iload_n 3, 1) := by decide +kernel
theorem dX9_digest_45 : decode cX9_digest 45 = .ok (.invokevirtual 140, 3) := by decide +kernel
theorem dX9_digest_48 : decode cX9_digest 48 = .ok (.i2l, 1) := by decide +kernel
theorem dX9_digest_49 : decode cX9_digest 49 = .ok (.ladd, 1) := by decide +kernel
theorem dX9_digest_50 : decode cX9_digest 50 = .ok (.lstore_n 1, 1) := by decide +kernel
theorem dX9_digest_51 : decode cX9_digest 51 = .ok (.iinc 3 1, 3) := by decide +kernel
theorem dX9_digest_54 : decode cX9_digest 54 = .ok (.goto (-21), 3) := by decide +kernel
theorem dX9_digest_57 : decode cX9_digest 57 = .ok (.iconst 0, 1) := by decide +kernel
theorem dX9_digest_58 : decode cX9_digest 58 = .ok (.istore_n 3, 1) := by decide +kernel
theorem dX9_digest_59 : decode cX9_digest 59 = .ok (.iload_n 3, 1) := by decide +kernel
theorem dX9_digest_60 : decode cX9_digest 60 = .ok (.iconst 2, 1) := by decide +kernel
theorem dX9_digest_61 : decode cX9_digest 61 = .ok (.if_icmp .ge 41, 3) := by decide +kernel
theorem dX9_digest_64 : decode cX9_digest 64 = .ok (.ldc2_w 338, 3) := by decide +kernel
theorem dX9_digest_67 : decode cX9_digest 67 = .ok (.ldc2_w 338, 3) := by decide +kernel
theorem dX9_digest_70 : decode cX9_digest 70 = .ok (.lload_n 1, 1) := by decide +kernel
theorem dX9_digest_71 : decode cX9_digest 71 = .ok (.lmul, 1) := by decide +kernel
theorem dX9_digest_72 : decode cX9_digest 72 = .ok (.aload_n 0, 1) := by decide +kernel
theorem dX9_digest_73 : decode cX9_digest 73 = .ok (.getfield 7, 3) := by decide +kernel
theorem dX9_digest_76 : decode cX9_digest 76 = .ok (.bipush 30, 2) := by decide +kernel
theorem dX9_digest_78 : decode cX9_digest 78 = .ok (.iload_n 3, 1) := by decide +kernel
theorem dX9_digest_79 : decode cX9_digest 79 = .ok (.iadd, 1) := by decide +kernel
theorem dX9_digest_80 : decode cX9_digest 80 = .ok (.iaload, 1) := by decide +kernel
theorem dX9_digest_81 : decode cX9_digest 81 = .ok (.i2l, 1) := by decide +kernel
theorem dX9_digest_82 : decode cX9_digest 82 = .ok (.ladd, 1) := by decide +kernel
theorem dX9_digest_83 : decode cX9_digest 83 = .ok (.lmul, 1) := by decide +kernel
theorem dX9_digest_84 : decode cX9_digest 84 = .ok (.aload_n 0, 1) := by decide +kernel
theorem dX9_digest_85 : decode cX9_digest 85 = .ok (.getfield 7, 3) := by decide +kernel
theorem dX9_digest_88 : decode cX9_digest 88 = .ok (.bipush 12, 2) := by decide +kernel
theorem dX9_digest_90 : decode cX9_digest 90 = .ok (.iload_n 3, 1) := by decide +kernel
theorem dX9_digest_91 : decode cX9_digest 91 = .ok (.iadd, 1) := by decide +kernel
theorem dX9_digest_92 : decode cX9_digest 92 = .ok (.iaload, 1) := by decide +kernel
theorem dX9_digest_93 : decode cX9_digest 93 = .ok (.i2l, 1) := by decide +kernel
theorem dX9_digest_94 : decode cX9_digest 94 = .ok (.ladd, 1) := by decide +kernel
theorem dX9_digest_95 : decode cX9_digest 95 = .ok (.lstore_n 1, 1) := by decide +kernel
theorem dX9_digest_96 : decode cX9_digest 96 = .ok (.iinc 3 1, 3) := by decide +kernel
theorem dX9_digest_99 : decode cX9_digest 99 = .ok (.goto (-40), 3) := by decide +kernel
theorem dX9_digest_102 : decode cX9_digest 102 = .ok (.iconst 0, 1) := by decide +kernel
theorem dX9_digest_103 : decode cX9_digest 103 = .ok (.istore_n 3, 1) := by decide +kernel
theorem dX9_digest_104 : decode cX9_digest 104 = .ok (.iload_n 3, 1) := by decide +kernel
theorem dX9_digest_105 : decode cX9_digest 105 = .ok (.aload_n 0, 1) := by decide +kernel
theorem dX9_digest_106 : decode cX9_digest 106 = .ok (.invokevirtual 70, 3) := by decide +kernel
theorem dX9_digest_109 : decode cX9_digest 109 = .ok (.if_icmp .ge 74, 3) := by decide +kernel
theorem dX9_digest_112 : decode cX9_digest 112 = .ok (.ldc2_w 338, 3) := by decide +kernel
theorem dX9_digest_115 : decode cX9_digest 115 = .ok (.ldc2_w 338, 3) := by decide +kernel
theorem dX9_digest_118 : decode cX9_digest 118 = .ok (.lload_n 1, 1) := by decide +kernel
theorem dX9_digest_119 : decode cX9_digest 119 = .ok (.lmul, 1) := by decide +kernel
theorem dX9_digest_120 : decode cX9_digest 120 = .ok (.aload_n 0, 1) := by decide +kernel
theorem dX9_digest_121 : decode cX9_digest 121 = .ok (.getfield 7, 3) := by decide +kernel
theorem dX9_digest_124 : decode cX9_digest 124 = .ok (.bipush 18, 2) := by decide +kernel
theorem dX9_digest_126 : decode cX9_digest 126 = .ok (.iload_n 3, 1) := by decide +kernel
theorem dX9_digest_127 : decode cX9_digest 127 = .ok (.iadd, 1) := by decide +kernel
theorem dX9_digest_128 : decode cX9_digest 128 = .ok (.iaload, 1) := by decide +kernel
theorem dX9_digest_129 : decode cX9_digest 129 = .ok (.i2l, 1) := by decide +kernel
theorem dX9_digest_130 : decode cX9_digest 130 = .ok (.ladd, 1) := by decide +kernel
theorem dX9_digest_131 : decode cX9_digest 131 = .ok (.lmul, 1) := by decide +kernel
theorem dX9_digest_132 : decode cX9_digest 132 = .ok (.aload_n 0, 1) := by decide +kernel
theorem dX9_digest_133 : decode cX9_digest 133 = .ok (.getfield 7, 3) := by decide +kernel
theorem dX9_digest_136 : decode cX9_digest 136 = .ok (.bipush 24, 2) := by decide +kernel
theorem dX9_digest_138 : decode cX9_digest 138 = .ok (.iload_n 3, 1) := by decide +kernel
theorem dX9_digest_139 : decode cX9_digest 139 = .ok (.iadd, 1) := by decide +kernel
theorem dX9_digest_140 : decode cX9_digest 140 = .ok (.iaload, 1) := by decide +kernel
theorem dX9_digest_141 : decode cX9_digest 141 = .ok (.i2l, 1) := by decide +kernel
theorem dX9_digest_142 : decode cX9_digest 142 = .ok (.ladd, 1) := by decide +kernel
theorem dX9_digest_143 : decode cX9_digest 143 = .ok (.lstore_n 1, 1) := by decide +kernel
theorem dX9_digest_144 : decode cX9_digest 144 = .ok (.ldc2_w 338, 3) := by decide +kernel
theorem dX9_digest_147 : decode cX9_digest 147 = .ok (.ldc2_w 338, 3) := by decide +kernel
theorem dX9_digest_150 : decode cX9_digest 150 = .ok (.lload_n 1, 1) := by decide +kernel
theorem dX9_digest_151 : decode cX9_digest 151 = .ok (.lmul, 1) := by decide +kernel
theorem dX9_digest_152 : decode cX9_digest 152 = .ok (.aload_n 0, 1) := by decide +kernel
theorem dX9_digest_153 : decode cX9_digest 153 = .ok (.getfield 7, 3) := by decide +kernel
theorem dX9_digest_156 : decode cX9_digest 156 = .ok (.bipush 6, 2) := by decide +kernel
theorem dX9_digest_158 : decode cX9_digest 158 = .ok (.iload_n 3, 1) := by decide +kernel
theorem dX9_digest_159 : decode cX9_digest 159 = .ok (.iadd, 1) := by decide +kernel
theorem dX9_digest_160 : decode cX9_digest 160 = .ok (.iaload, 1) := by decide +kernel
theorem dX9_digest_161 : decode cX9_digest 161 = .ok (.i2l, 1) := by decide +kernel
theorem dX9_digest_162 : decode cX9_digest 162 = .ok (.ladd, 1) := by decide +kernel
theorem dX9_digest_163 : decode cX9_digest 163 = .ok (.lmul, 1) := by decide +kernel
theorem dX9_digest_164 : decode cX9_digest 164 = .ok (.aload_n 0, 1) := by decide +kernel
theorem dX9_digest_165 : decode cX9_digest 165 = .ok (.getfield 7, 3) := by decide +kernel
theorem dX9_digest_168 : decode cX9_digest 168 = .ok (.iconst 5, 1) := by decide +kernel
theorem dX9_digest_169 : decode cX9_digest 169 = .ok (.iaload, 1) := by decide +kernel
theorem dX9_digest_170 : decode cX9_digest 170 = .ok (.iload_n 3, 1) := by decide +kernel
theorem dX9_digest_171 : decode cX9_digest 171 = .ok (.ishr, 1) := by decide +kernel
theorem dX9_digest_172 : decode cX9_digest 172 = .ok (.iconst 1, 1) := by decide +kernel
theorem dX9_digest_173 : decode cX9_digest 173 = .ok (.iand, 1) := by decide +kernel
theorem dX9_digest_174 : decode cX9_digest 174 = .ok (.i2l, 1) := by decide +kernel
theorem dX9_digest_175 : decode cX9_digest 175 = .ok (.ladd, 1) := by decide +kernel
theorem dX9_digest_176 : decode cX9_digest 176 = .ok (.lstore_n 1, 1) := by decide +kernel
theorem dX9_digest_177 : decode cX9_digest 177 = .ok (.iinc 3 1, 3) := by decide +kernel
theorem dX9_digest_180 : decode cX9_digest 180 = .ok (.goto (-76), 3) := by decide +kernel
theorem dX9_digest_183 : decode cX9_digest 183 = .ok (.aload_n 0, 1) := by decide +kernel
theorem dX9_digest_184 : decode cX9_digest 184 = .ok (.lload_n 1, 1) := by decide +kernel
theorem dX9_digest_185 : decode cX9_digest 185 = .ok (.bipush 32, 2) := by decide +kernel
theorem dX9_digest_187 : decode cX9_digest 187 = .ok (.aload_n 0, 1) := by decide +kernel
theorem dX9_digest_188 : decode cX9_digest 188 = .ok (.getfield 7, 3) := by decide +kernel
theorem dX9_digest_191 : decode cX9_digest 191 = .ok (.iconst 1, 1) := by decide +kernel
theorem dX9_digest_192 : decode cX9_digest 192 = .ok (.iaload, 1) := by decide +kernel
theorem dX9_digest_193 : decode cX9_digest 193 = .ok (.invokevirtual 342, 3) := by decide +kernel
theorem dX9_digest_196 : decode cX9_digest 196 = .ok (.lstore_n 1, 1) := by decide +kernel
theorem dX9_digest_197 : decode cX9_digest 197 = .ok (.aload_n 0, 1) := by decide +kernel
theorem dX9_digest_198 : decode cX9_digest 198 = .ok (.lload_n 1, 1) := by decide +kernel
theorem dX9_digest_199 : decode cX9_digest 199 = .ok (.bipush 36, 2) := by decide +kernel
theorem dX9_digest_201 : decode cX9_digest 201 = .ok (.iconst 5, 1) := by decide +kernel
theorem dX9_digest_202 : decode cX9_digest 202 = .ok (.aload_n 0, 1) := by decide +kernel
theorem dX9_digest_203 : decode cX9_digest 203 = .ok (.getfield 7, 3) := by decide +kernel
theorem dX9_digest_206 : decode cX9_digest 206 = .ok (.iconst 2, 1) := by decide +kernel
theorem dX9_digest_207 : decode cX9_digest 207 = .ok (.iaload, 1) := by decide +kernel
theorem dX9_digest_208 : decode cX9_digest 208 = .ok (.imul, 1) := by decide +kernel
theorem dX9_digest_209 : decode cX9_digest 209 = .ok (.invokevirtual 342, 3) := by decide +kernel
theorem dX9_digest_212 : decode cX9_digest 212 = .ok (.lstore_n 1, 1) := by decide +kernel
theorem dX9_digest_213 : decode cX9_digest 213 = .ok (.aload_n 0, 1) := by decide +kernel
theorem dX9_digest_214 : decode cX9_digest 214 = .ok (.lload_n 1, 1) := by decide +kernel
theorem dX9_digest_215 : decode cX9_digest 215 = .ok (.bipush 66, 2) := by decide +kernel
theorem dX9_digest_217 : decode cX9_digest 217 = .ok (.iconst 4, 1) := by decide +kernel
theorem dX9_digest_218 : decode cX9_digest 218 = .ok (.aload_n 0, 1) := by decide +kernel
theorem dX9_digest_219 : decode cX9_digest 219 = .ok (.getfield 7, 3) := by decide +kernel
theorem dX9_digest_222 : decode cX9_digest 222 = .ok (.iconst 3, 1) := by decide +kernel
theorem dX9_digest_223 : decode cX9_digest 223 = .ok (.iaload, 1) := by decide +kernel
theorem dX9_digest_224 : decode cX9_digest 224 = .ok (.imul, 1) := by decide +kernel
theorem dX9_digest_225 : decode cX9_digest 225 = .ok (.invokevirtual 342, 3) := by decide +kernel
theorem dX9_digest_228 : decode cX9_digest 228 = .ok (.lstore_n 1, 1) := by decide +kernel
theorem dX9_digest_229 : decode cX9_digest 229 = .ok (.ldc2_w 338, 3) := by decide +kernel
theorem dX9_digest_232 : decode cX9_digest 232 = .ok (.ldc2_w 338, 3) := by decide +kernel
theorem dX9_digest_235 : decode cX9_digest 235 = .ok (.lload_n 1, 1) := by decide +kernel
theorem dX9_digest_236 : decode cX9_digest 236 = .ok (.lmul, 1) := by decide +kernel
theorem dX9_digest_237 : decode cX9_digest 237 = .ok (.aload_n 0, 1) := by decide +kernel
theorem dX9_digest_238 : decode cX9_digest 238 = .ok (.getfield 241, 3) := by decide +kernel
theorem dX9_digest_241 : decode cX9_digest 241 = .ok (.ladd, 1) := by decide +kernel
theorem dX9_digest_242 : decode cX9_digest 242 = .ok (.lmul, 1) := by decide +kernel
theorem dX9_digest_243 : decode cX9_digest 243 = .ok (.aload_n 0, 1) := by decide +kernel
theorem dX9_digest_244 : decode cX9_digest 244 = .ok (.getfield 23, 3) := by decide +kernel
theorem dX9_digest_247 : decode cX9_digest 247 = .ok (.ladd, 1) := by decide +kernel
theorem dX9_digest_248 : decode cX9_digest 248 = .ok (.lreturn, 1) := by decide +kernel
theorem dJ6_bitCount_0f7a4_0 : decode cJ6_bitCount_0f7a4 0 = .ok (.iload_n 0, 1) := by decide +kernel
theorem dJ6_bitCount_0f7a4_1 : decode cJ6_bitCount_0f7a4 1 = .ok (.iload_n 0, 1) := by decide +kernel
theorem dJ6_bitCount_0f7a4_2 : decode cJ6_bitCount_0f7a4 2 = .ok (.iconst 1, 1) := by decide +kernel
theorem dJ6_bitCount_0f7a4_3 : decode cJ6_bitCount_0f7a4 3 = .ok (.iushr, 1) := by decide +kernel
theorem dJ6_bitCount_0f7a4_4 : decode cJ6_bitCount_0f7a4 4 = .ok (.ldc_w 265, 3) := by decide +kernel
theorem dJ6_bitCount_0f7a4_7 : decode cJ6_bitCount_0f7a4 7 = .ok (.iand, 1) := by decide +kernel
theorem dJ6_bitCount_0f7a4_8 : decode cJ6_bitCount_0f7a4 8 = .ok (.isub, 1) := by decide +kernel
theorem dJ6_bitCount_0f7a4_9 : decode cJ6_bitCount_0f7a4 9 = .ok (.istore_n 0, 1) := by decide +kernel
theorem dJ6_bitCount_0f7a4_10 : decode cJ6_bitCount_0f7a4 10 = .ok (.iload_n 0, 1) := by decide +kernel
theorem dJ6_bitCount_0f7a4_11 : decode cJ6_bitCount_0f7a4 11 = .ok (.ldc_w 266, 3) := by decide +kernel
theorem dJ6_bitCount_0f7a4_14 : decode cJ6_bitCount_0f7a4 14 = .ok (.iand, 1) := by decide +kernel
theorem dJ6_bitCount_0f7a4_15 : decode cJ6_bitCount_0f7a4 15 = .ok (.iload_n 0, 1) := by decide +kernel
theorem dJ6_bitCount_0f7a4_16 : decode cJ6_bitCount_0f7a4 16 = .ok (.iconst 2, 1) := by decide +kernel
theorem dJ6_bitCount_0f7a4_17 : decode cJ6_bitCount_0f7a4 17 = .ok (.iushr, 1) := by decide +kernel
theorem dJ6_bitCount_0f7a4_18 : decode cJ6_bitCount_0f7a4 18 = .ok (.ldc_w 266, 3) := by decide +kernel
theorem dJ6_bitCount_0f7a4_21 : decode cJ6_bitCount_0f7a4 21 = .ok (.iand, 1) := by decide +kernel
theorem dJ6_bitCount_0f7a4_22 : decode cJ6_bitCount_0f7a4 22 = .ok (.iadd, 1) := by decide +kernel
theorem dJ6_bitCount_0f7a4_23 : decode cJ6_bitCount_0f7a4 23 = .ok (.istore_n 0, 1) := by decide +kernel
theorem dJ6_bitCount_0f7a4_24 : decode cJ6_bitCount_0f7a4 24 = .ok (.iload_n 0, 1) := by decide +kernel
theorem dJ6_bitCount_0f7a4_25 : decode cJ6_bitCount_0f7a4 25 = .ok (.iload_n 0, 1) := by decide +kernel
theorem dJ6_bitCount_0f7a4_26 : decode cJ6_bitCount_0f7a4 26 = .ok (.iconst 4, 1) := by decide +kernel
theorem dJ6_bitCount_0f7a4_27 : decode cJ6_bitCount_0f7a4 27 = .ok (.iushr, 1) := by decide +kernel
theorem dJ6_bitCount_0f7a4_28 : decode cJ6_bitCount_0f7a4 28 = .ok (.iadd, 1) := by decide +kernel
theorem dJ6_bitCount_0f7a4_29 : decode cJ6_bitCount_0f7a4 29 = .ok (.ldc_w 267, 3) := by decide +kernel
theorem dJ6_bitCount_0f7a4_32 : decode cJ6_bitCount_0f7a4 32 = .ok (.iand, 1) := by decide +kernel
theorem dJ6_bitCount_0f7a4_33 : decode cJ6_bitCount_0f7a4 33 = .ok (.istore_n 0, 1) := by decide +kernel
theorem dJ6_bitCount_0f7a4_34 : decode cJ6_bitCount_0f7a4 34 = .ok (.iload_n 0, 1) := by decide +kernel
theorem dJ6_bitCount_0f7a4_35 : decode cJ6_bitCount_0f7a4 35 = .ok (.iload_n 0, 1) := by decide +kernel
theorem dJ6_bitCount_0f7a4_36 : decode cJ6_bitCount_0f7a4 36 = .ok (.bipush 8, 2) := by decide +kernel
theorem dJ6_bitCount_0f7a4_38 : decode cJ6_bitCount_0f7a4 38 = .ok (.iushr, 1) := by decide +kernel
theorem dJ6_bitCount_0f7a4_39 : decode cJ6_bitCount_0f7a4 39 = .ok (.iadd, 1) := by decide +kernel
theorem dJ6_bitCount_0f7a4_40 : decode cJ6_bitCount_0f7a4 40 = .ok (.istore_n 0, 1) := by decide +kernel
theorem dJ6_bitCount_0f7a4_41 : decode cJ6_bitCount_0f7a4 41 = .ok (.iload_n 0, 1) := by decide +kernel
theorem dJ6_bitCount_0f7a4_42 : decode cJ6_bitCount_0f7a4 42 = .ok (.iload_n 0, 1) := by decide +kernel
theorem dJ6_bitCount_0f7a4_43 : decode cJ6_bitCount_0f7a4 43 = .ok (.bipush 16, 2) := by decide +kernel
theorem dJ6_bitCount_0f7a4_45 : decode cJ6_bitCount_0f7a4 45 = .ok (.iushr, 1) := by decide +kernel
theorem dJ6_bitCount_0f7a4_46 : decode cJ6_bitCount_0f7a4 46 = .ok (.iadd, 1) := by decide +kernel
theorem dJ6_bitCount_0f7a4_47 : decode cJ6_bitCount_0f7a4 47 = .ok (.istore_n 0, 1) := by decide +kernel
theorem dJ6_bitCount_0f7a4_48 : decode cJ6_bitCount_0f7a4 48 = .ok (.iload_n 0, 1) := by decide +kernel
theorem dJ6_bitCount_0f7a4_49 : decode cJ6_bitCount_0f7a4 49 = .ok (.bipush 63, 2) := by decide +kernel
theorem dJ6_bitCount_0f7a4_51 : decode cJ6_bitCount_0f7a4 51 = .ok (.iand, 1) := by decide +kernel
theorem dJ6_bitCount_0f7a4_52 : decode cJ6_bitCount_0f7a4 52 = .ok (.ireturn, 1) := by decide +kernel
theorem dJ9_max_7cf53_0 : decode cJ9_max_7cf53 0 = .ok (.iload_n 0, 1) := by decide +kernel
theorem dJ9_max_7cf53_1 : decode cJ9_max_7cf53 1 = .ok (.iload_n 1, 1) := by decide +kernel
theorem dJ9_max_7cf53_2 : decode cJ9_max_7cf53 2 = .ok (.if_icmp .lt 7, 3) := by decide +kernel
theorem dJ9_max_7cf53_5 : decode cJ9_max_7cf53 5 = .ok (.iload_n 0, 1) := by decide +kernel
theorem dJ9_max_7cf53_6 : decode cJ9_max_7cf53 6 = .ok (.goto 4, 3) := by decide +kernel
theorem dJ9_max_7cf53_9 : decode cJ9_max_7cf53 9 = .ok (.iload_n 1, 1) := by decide +kernel
theorem dJ9_max_7cf53_10 : decode cJ9_max_7cf53 10 = .ok (.ireturn, 1) := by decide +kernel
theorem dJ9_min_7cf53_0 : decode cJ9_min_7cf53 0 = .ok (.iload_n 0, 1) := by decide +kernel
theorem dJ9_min_7cf53_1 : decode cJ9_min_7cf53 1 = .ok (.iload_n 1, 1) := by decide +kernel
theorem dJ9_min_7cf53_2 : decode cJ9_min_7cf53 2 = .ok (.if_icmp .gt 7, 3) := by decide +kernel
theorem dJ9_min_7cf53_5 : decode cJ9_min_7cf53 5 = .ok (.iload_n 0, 1) := by decide +kernel
theorem dJ9_min_7cf53_6 : decode cJ9_min_7cf53 6 = .ok (.goto 4, 3) := by decide +kernel
theorem dJ9_min_7cf53_9 : decode cJ9_min_7cf53 9 = .ok (.iload_n 1, 1) := by decide +kernel
theorem dJ9_min_7cf53_10 : decode cJ9_min_7cf53 10 = .ok (.ireturn, 1) := by decide +kernel
set_option maxRecDepth 20000 in
theorem ggJ0_length_8abf5_J0_coder_7d493 : GoodIn wsJ0_length_8abf5 wsJ0_coder_7d493 := goodIn_r _ [6, 7, 8] (by decide +kernel) (by decide +kernel)
set_option maxRecDepth 20000 in
theorem gJ0_length_8abf5_J0_coder_7d493 : GoodIn wsJ0_length_8abf5 (wsV RJ0 335 RJ0 yJ0_coder_7d493 wsJ0_coder_7d493) := goodIn_app (goodIn_of _ (by decide +kernel)) ggJ0_length_8abf5_J0_coder_7d493
theorem dJ0_length_8abf5_0 : decode cJ0_length_8abf5 0 = .ok (.aload_n 0, 1) := by decide +kernel
theorem dJ0_length_8abf5_1 : decode cJ0_length_8abf5 1 = .ok (.getfield 9, 3) := by decide +kernel
theorem dJ0_length_8abf5_4 : decode cJ0_length_8abf5 4 = .ok (.arraylength, 1) := by decide +kernel
theorem dJ0_length_8abf5_5 : decode cJ0_length_8abf5 5 = .ok (.aload_n 0, 1) := by decide +kernel
theorem dJ0_length_8abf5_6 : decode cJ0_length_8abf5 6 = .ok (.invokevirtual 335, 3) := by decide +kernel
theorem dJ0_length_8abf5_9 : decode cJ0_length_8abf5 9 = .ok (.ishr, 1) := by decide +kernel
theorem dJ0_length_8abf5_10 : decode cJ0_length_8abf5 10 = .ok (.ireturn, 1) := by decide +kernel
set_option maxRecDepth 20000 in
theorem ggJ0_charAt_5068e_J0_isLatin1_aae02 : GoodIn wsJ0_charAt_5068e wsJ0_isLatin1_aae02 := goodIn_r _ [6, 7, 8] (by decide +kernel) (by decide +kernel)
set_option maxRecDepth 20000 in
theorem gJ0_charAt_5068e_J0_isLatin1_aae02 : GoodIn wsJ0_charAt_5068e (wsV RJ0 492 RJ0 yJ0_isLatin1_aae02 wsJ0_isLatin1_aae02) := goodIn_app (goodIn_of _ (by decide +kernel)) ggJ0_charAt_5068e_J0_isLatin1_aae02
set_option maxRecDepth 20000 in
theorem ggJ0_charAt_5068e_J1_charAt_3b067 : GoodIn wsJ0_charAt_5068e wsJ1_charAt_3b067 := goodIn_r _ [12, 13, 14, 5, 15, 16, 17, 18, 19, 20] (by decide +kernel) (by decide +kernel)
set_option maxRecDepth 20000 in
theorem gJ0_charAt_5068e_J1_charAt_3b067 : GoodIn wsJ0_charAt_5068e (va_wsS RJ0 495 yJ1_charAt_3b067 wsJ1_charAt_3b067) := goodIn_app (goodIn_of _ (by decide +kernel)) ggJ0_charAt_5068e_J1_charAt_3b067
set_option maxRecDepth 20000 in
theorem ggJ0_charAt_5068e_J2_charAt_3b067 : GoodIn wsJ0_charAt_5068e wsJ2_charAt_3b067 := goodIn_r _ [24, 25, 26, 23, 27, 28, 29, 30, 31, 14, 5, 15, 16, 17, 18, 19, 20, 32, 33, 34, 35, 36, 37] (by decide +kernel) (by decide +kernel)
set_option maxRecDepth 20000 in
theorem gJ0_charAt_5068e_J2_charAt_3b067 : GoodIn wsJ0_charAt_5068e (va_wsS RJ0 498 yJ2_charAt_3b067 wsJ2_charAt_3b067) := goodIn_app (goodIn_of _ (by decide +kernel)) ggJ0_charAt_5068e_J2_charAt_3b067
theorem dJ0_charAt_5068e_0 : decode cJ0_charAt_5068e 0 = .ok (.aload_n 0, 1) := by decide +kernel
theorem dJ0_charAt_5068e_1 : decode cJ0_charAt_5068e 1 = .ok (.invokevirtual 492, 3) := by decide +kernel
theorem dJ0_charAt_5068e_4 : decode cJ0_charAt_5068e 4 = .ok (.ifCond .eq 12, 3) := by decide +kernel
theorem dJ0_charAt_5068e_7 : decode cJ0_charAt_5068e 7 = .ok (.aload_n 0, 1) := by decide +kernel
theorem dJ0_charAt_5068e_8 : decode cJ0_charAt_5068e 8 = .ok (.getfield 9, 3) := by decide +kernel
theorem dJ0_charAt_5068e_11 : decode cJ0_charAt_5068e 11 = .ok (.iload_n 1, 1) := by decide +kernel
theorem dJ0_charAt_5068e_12 : decode cJ0_charAt_5068e 12 = .ok (.invokestatic 495, 3) := by decide +kernel
theorem dJ0_charAt_5068e_15 : decode cJ0_charAt_5068e 15 = .ok (.ireturn, 1) := by decide +kernel
theorem dJ0_charAt_5068e_16 : decode cJ0_charAt_5068e 16 = .ok (.aload_n 0, 1) := by decide +kernel
theorem dJ0_charAt_5068e_17 : decode cJ0_charAt_5068e 17 = .ok (.getfield 9, 3) := by decide +kernel
theorem dJ0_charAt_5068e_20 : decode cJ0_charAt_5068e 20 = .ok (.iload_n 1, 1) := by decide +kernel
theorem dJ0_charAt_5068e_21 : decode cJ0_charAt_5068e 21 = .ok (.invokestatic 498, 3) := by decide +kernel
theorem dJ0_charAt_5068e_24 : decode cJ0_charAt_5068e 24 = .ok (.ireturn, 1) := by decide +kernel
theorem dJ0_coder_7d493_0 : decode cJ0_coder_7d493 0 = .ok (.getstatic 38, 3) := by decide +kernel
theorem dJ0_coder_7d493_3 : decode cJ0_coder_7d493 3 = .ok (.ifCond .eq 10, 3) := by decide +kernel
theorem dJ0_coder_7d493_6 : decode cJ0_coder_7d493 6 = .ok (.aload_n 0, 1) := by decide +kernel
theorem dJ0_coder_7d493_7 : decode cJ0_coder_7d493 7 = .ok (.getfield 15, 3) := by decide +kernel
theorem dJ0_coder_7d493_10 : decode cJ0_coder_7d493 10 = .ok (.goto 4, 3) := by decide +kernel
theorem dJ0_coder_7d493_13 : decode cJ0_coder_7d493 13 = .ok (.iconst 1, 1) := by decide +kernel
theorem dJ0_coder_7d493_14 : decode cJ0_coder_7d493 14 = .ok (.ireturn, 1) := by decide +kernel
theorem dJ0_isLatin1_aae02_0 : decode cJ0_isLatin1_aae02 0 = .ok (.getstatic 38, 3) := by decide +kernel
theorem dJ0_isLatin1_aae02_3 : decode cJ0_isLatin1_aae02 3 = .ok (.ifCond .eq 14, 3) := by decide +kernel
theorem dJ0_isLatin1_aae02_6 : decode cJ0_isLatin1_aae02 6 = .ok (.aload_n 0, 1) := by decide +kernel
theorem dJ0_isLatin1_aae02_7 : decode cJ0_isLatin1_aae02 7 = .ok (.getfield 15, 3) := by decide +kernel
theorem dJ0_isLatin1_aae02_10 : decode cJ0_isLatin1_aae02 10 = .ok (.ifCond .ne 7, 3) := by decide +kernel
theorem dJ0_isLatin1_aae02_13 : decode cJ0_isLatin1_aae02 13 = .ok (.iconst 1, 1) := by decide +kernel
theorem dJ0_isLatin1_aae02_14 : decode cJ0_isLatin1_aae02 14 = .ok (.goto 4, 3) := by decide +kernel
theorem dJ0_isLatin1_aae02_17 : decode cJ0_isLatin1_aae02 17 = .ok (.iconst 0, 1) := by decide +kernel
theorem dJ0_isLatin1_aae02_18 : decode cJ0_isLatin1_aae02 18 = .ok (.ireturn, 1) := by decide +kernel
set_option maxRecDepth 20000 in
theorem ggJ0_checkIndex_df160_J3_checkIndex_8e157 : GoodIn wsJ0_checkIndex_df160 wsJ3_checkIndex_8e157 := goodIn_r _ [5] (by decide +kernel) (by decide +kernel)
set_option maxRecDepth 20000 in
theorem gJ0_checkIndex_df160_J3_checkIndex_8e157 : GoodIn wsJ0_checkIndex_df160 (va_wsS RJ0 1059 yJ3_checkIndex_8e157 wsJ3_checkIndex_8e157) := goodIn_app (goodIn_of _ (by decide +kernel)) ggJ0_checkIndex_df160_J3_checkIndex_8e157
theorem dJ0_checkIndex_df160_0 : decode cJ0_checkIndex_df160 0 = .ok (.iload_n 0, 1) := by decide +kernel
theorem dJ0_checkIndex_df160_1 : decode cJ0_checkIndex_df160 1 = .ok (.iload_n 1, 1) := by decide +kernel
theorem dJ0_checkIndex_df160_2 : decode cJ0_checkIndex_df160 2 = .ok (.getstatic 1053, 3) := by decide +kernel
theorem dJ0_checkIndex_df160_5 : decode cJ0_checkIndex_df160 5 = .ok (.invokestatic 1059, 3) := by decide +kernel
theorem dJ0_checkIndex_df160_8 : decode cJ0_checkIndex_df160 8 = .ok (.pop, 1) := by decide +kernel
theorem dJ0_checkIndex_df160_9 : decode cJ0_checkIndex_df160 9 = .ok (.return_, 1) := by decide +kernel
set_option maxRecDepth 20000 in
theorem ggJ1_charAt_3b067_J0_checkIndex_df160 : GoodIn wsJ1_charAt_3b067 wsJ0_checkIndex_df160 := goodIn_r _ [4, 5, 6, 7, 8, 9] (by decide +kernel) (by decide +kernel)
set_option maxRecDepth 20000 in
theorem gJ1_charAt_3b067_J0_checkIndex_df160 : GoodIn wsJ1_charAt_3b067 (va_wsS RJ1 9 yJ0_checkIndex_df160 wsJ0_checkIndex_df160) := goodIn_app (goodIn_of _ (by decide +kernel)) ggJ1_charAt_3b067_J0_checkIndex_df160
theorem dJ1_charAt_3b067_0 : decode cJ1_charAt_3b067 0 = .ok (.iload_n 1, 1) := by decide +kernel
theorem dJ1_charAt_3b067_1 : decode cJ1_charAt_3b067 1 = .ok (.aload_n 0, 1) := by decide +kernel
theorem dJ1_charAt_3b067_2 : decode cJ1_charAt_3b067 2 = .ok (.arraylength, 1) := by decide +kernel
theorem dJ1_charAt_3b067_3 : decode cJ1_charAt_3b067 3 = .ok (.invokestatic 9, 3) := by decide +kernel
theorem dJ1_charAt_3b067_6 : decode cJ1_charAt_3b067 6 = .ok (.aload_n 0, 1) := by decide +kernel
theorem dJ1_charAt_3b067_7 : decode cJ1_charAt_3b067 7 = .ok (.iload_n 1, 1) := by decide +kernel
theorem dJ1_charAt_3b067_8 : decode cJ1_charAt_3b067 8 = .ok (.baload, 1) := by decide +kernel
theorem dJ1_charAt_3b067_9 : decode cJ1_charAt_3b067 9 = .ok (.sipush 255, 3) := by decide +kernel
theorem dJ1_charAt_3b067_12 : decode cJ1_charAt_3b067 12 = .ok (.iand, 1) := by decide +kernel
theorem dJ1_charAt_3b067_13 : decode cJ1_charAt_3b067 13 = .ok (.i2c, 1) := by decide +kernel
theorem dJ1_charAt_3b067_14 : decode cJ1_charAt_3b067 14 = .ok (.ireturn, 1) := by decide +kernel
set_option maxRecDepth 20000 in
theorem ggJ2_getChar_3b067_J2_length_9d52b : GoodIn wsJ2_getChar_3b067 wsJ2_length_9d52b := goodIn_r _ [7] (by decide +kernel) (by decide +kernel)
set_option maxRecDepth 20000 in
theorem gJ2_getChar_3b067_J2_length_9d52b : GoodIn wsJ2_getChar_3b067 (va_wsS RJ2 48 yJ2_length_9d52b wsJ2_length_9d52b) := goodIn_app (goodIn_of _ (by decide +kernel)) ggJ2_getChar_3b067_J2_length_9d52b
theorem dJ2_getChar_3b067_0 : decode cJ2_getChar_3b067 0 = .ok (.getstatic 44, 3) := by decide +kernel
theorem dJ2_getChar_3b067_3 : decode cJ2_getChar_3b067 3 = .ok (.ifCond .ne 25, 3) := by decide +kernel
theorem dJ2_getChar_3b067_6 : decode cJ2_getChar_3b067 6 = .ok (.iload_n 1, 1) := by decide +kernel
theorem dJ2_getChar_3b067_7 : decode cJ2_getChar_3b067 7 = .ok (.ifCond .lt 11, 3) := by decide +kernel
theorem dJ2_getChar_3b067_10 : decode cJ2_getChar_3b067 10 = .ok (.iload_n 1, 1) := by decide +kernel
theorem dJ2_getChar_3b067_11 : decode cJ2_getChar_3b067 11 = .ok (.aload_n 0, 1) := by decide +kernel
theorem dJ2_getChar_3b067_12 : decode cJ2_getChar_3b067 12 = .ok (.invokestatic 48, 3) := by decide +kernel
theorem dJ2_getChar_3b067_15 : decode cJ2_getChar_3b067 15 = .ok (.if_icmp .lt 13, 3) := by decide +kernel
theorem dJ2_getChar_3b067_18 : decode cJ2_getChar_3b067 18 = .ok (.new 52, 3) := by decide +kernel
theorem dJ2_getChar_3b067_21 : decode cJ2_getChar_3b067 21 = .ok (.dup, 1) := by decide +kernel
theorem dJ2_getChar_3b067_22 : decode cJ2_getChar_3b067 22 = .ok (.ldc 54, 2) := by decide +kernel
theorem dJ2_getChar_3b067_24 : decode cJ2_getChar_3b067 24 = .ok (.invokespecial 56, 3) := by decide +kernel
theorem dJ2_getChar_3b067_27 : decode cJ2_getChar_3b067 27 = .ok (.athrow, 1) := by decide +kernel
theorem dJ2_getChar_3b067_28 : decode cJ2_getChar_3b067 28 = .ok (.iload_n 1, 1) := by decide +kernel
theorem dJ2_getChar_3b067_29 : decode cJ2_getChar_3b067 29 = .ok (.iconst 1, 1) := by decide +kernel
theorem dJ2_getChar_3b067_30 : decode cJ2_getChar_3b067 30 = .ok (.ishl, 1) := by decide +kernel
theorem dJ2_getChar_3b067_31 : decode cJ2_getChar_3b067 31 = .ok (.istore_n 1, 1) := by decide +kernel
theorem dJ2_getChar_3b067_32 : decode cJ2_getChar_3b067 32 = .ok (.aload_n 0, 1) := by decide +kernel
theorem dJ2_getChar_3b067_33 : decode cJ2_getChar_3b067 33 = .ok (.iload_n 1, 1) := by decide +kernel
theorem dJ2_getChar_3b067_34 : decode cJ2_getChar_3b067 34 = .ok (.iinc 1 1, 3) := by decide +kernel
theorem dJ2_getChar_3b067_37 : decode cJ2_getChar_3b067 37 = .ok (.baload, 1) := by decide +kernel
theorem dJ2_getChar_3b067_38 : decode cJ2_getChar_3b067 38 = .ok (.sipush 255, 3) := by decide +kernel
theorem dJ2_getChar_3b067_41 : decode cJ2_getChar_3b067 41 = .ok (.iand, 1) := by decide +kernel
theorem dJ2_getChar_3b067_42 : decode cJ2_getChar_3b067 42 = .ok (.getstatic 59, 3) := by decide +kernel
theorem dJ2_getChar_3b067_45 : decode cJ2_getChar_3b067 45 = .ok (.ishl, 1) := by decide +kernel
theorem dJ2_getChar_3b067_46 : decode cJ2_getChar_3b067 46 = .ok (.aload_n 0, 1) := by decide +kernel
theorem dJ2_getChar_3b067_47 : decode cJ2_getChar_3b067 47 = .ok (.iload_n 1, 1) := by decide +kernel
theorem dJ2_getChar_3b067_48 : decode cJ2_getChar_3b067 48 = .ok (.baload, 1) := by decide +kernel
theorem dJ2_getChar_3b067_49 : decode cJ2_getChar_3b067 49 = .ok (.sipush 255, 3) := by decide +kernel
theorem dJ2_getChar_3b067_52 : decode cJ2_getChar_3b067 52 = .ok (.iand, 1) := by decide +kernel
theorem dJ2_getChar_3b067_53 : decode cJ2_getChar_3b067 53 = .ok (.getstatic 63, 3) := by decide +kernel
theorem dJ2_getChar_3b067_56 : decode cJ2_getChar_3b067 56 = .ok (.ishl, 1) := by decide +kernel
theorem dJ2_getChar_3b067_57 : decode cJ2_getChar_3b067 57 = .ok (.ior, 1) := by decide +kernel
theorem dJ2_getChar_3b067_58 : decode cJ2_getChar_3b067 58 = .ok (.i2c, 1) := by decide +kernel
theorem dJ2_getChar_3b067_59 : decode cJ2_getChar_3b067 59 = .ok (.ireturn, 1) := by decide +kernel
theorem dJ2_length_9d52b_0 : decode cJ2_length_9d52b 0 = .ok (.aload_n 0, 1) := by decide +kernel
theorem dJ2_length_9d52b_1 : decode cJ2_length_9d52b 1 = .ok (.arraylength, 1) := by decide +kernel
theorem dJ2_length_9d52b_2 : decode cJ2_length_9d52b 2 = .ok (.iconst 1, 1) := by decide +kernel
theorem dJ2_length_9d52b_3 : decode cJ2_length_9d52b 3 = .ok (.ishr, 1) := by decide +kernel
theorem dJ2_length_9d52b_4 : decode cJ2_length_9d52b 4 = .ok (.ireturn, 1) := by decide +kernel
set_option maxRecDepth 20000 in
theorem ggJ2_charAt_3b067_J2_checkIndex_2214a : GoodIn wsJ2_charAt_3b067 wsJ2_checkIndex_2214a := goodIn_r _ [4, 5, 6, 3, 7, 8, 9, 10, 11, 12, 13, 14, 15, 16] (by decide +kernel) (by decide +kernel)
set_option maxRecDepth 20000 in
theorem gJ2_charAt_3b067_J2_checkIndex_2214a : GoodIn wsJ2_charAt_3b067 (va_wsS RJ2 67 yJ2_checkIndex_2214a wsJ2_checkIndex_2214a) := goodIn_app (goodIn_of _ (by decide +kernel)) ggJ2_charAt_3b067_J2_checkIndex_2214a
set_option maxRecDepth 20000 in
theorem ggJ2_charAt_3b067_J2_getChar_3b067 : GoodIn wsJ2_charAt_3b067 wsJ2_getChar_3b067 := goodIn_r _ [19, 20, 21, 22, 5, 6, 3, 7] (by decide +kernel) (by decide +kernel)
set_option maxRecDepth 20000 in
theorem gJ2_charAt_3b067_J2_getChar_3b067 : GoodIn wsJ2_charAt_3b067 (va_wsS RJ2 71 yJ2_getChar_3b067 wsJ2_getChar_3b067) := goodIn_app (goodIn_of _ (by decide +kernel)) ggJ2_charAt_3b067_J2_getChar_3b067
theorem dJ2_charAt_3b067_0 : decode cJ2_charAt_3b067 0 = .ok (.iload_n 1, 1) := by decide +kernel
theorem dJ2_charAt_3b067_1 : decode cJ2_charAt_3b067 1 = .ok (.aload_n 0, 1) := by decide +kernel
theorem dJ2_charAt_3b067_2 : decode cJ2_charAt_3b067 2 = .ok (.invokestatic 67, 3) := by decide +kernel
theorem dJ2_charAt_3b067_5 : decode cJ2_charAt_3b067 5 = .ok (.aload_n 0, 1) := by decide +kernel
theorem dJ2_charAt_3b067_6 : decode cJ2_charAt_3b067 6 = .ok (.iload_n 1, 1) := by decide +kernel
theorem dJ2_charAt_3b067_7 : decode cJ2_charAt_3b067 7 = .ok (.invokestatic 71, 3) := by decide +kernel
theorem dJ2_charAt_3b067_10 : decode cJ2_charAt_3b067 10 = .ok (.ireturn, 1) := by decide +kernel
set_option maxRecDepth 20000 in
theorem ggJ2_checkIndex_2214a_J2_length_9d52b : GoodIn wsJ2_checkIndex_2214a wsJ2_length_9d52b := goodIn_r _ [4] (by decide +kernel) (by decide +kernel)
set_option maxRecDepth 20000 in
theorem gJ2_checkIndex_2214a_J2_length_9d52b : GoodIn wsJ2_checkIndex_2214a (va_wsS RJ2 48 yJ2_length_9d52b wsJ2_length_9d52b) := goodIn_app (goodIn_of _ (by decide +kernel)) ggJ2_checkIndex_2214a_J2_length_9d52b
set_option maxRecDepth 20000 in
theorem ggJ2_checkIndex_2214a_J0_checkIndex_df160 : GoodIn wsJ2_checkIndex_2214a wsJ0_checkIndex_df160 := goodIn_r _ [8, 9, 10, 11, 12, 13] (by decide +kernel) (by decide +kernel)
set_option maxRecDepth 20000 in
theorem gJ2_checkIndex_2214a_J0_checkIndex_df160 : GoodIn wsJ2_checkIndex_2214a (va_wsS RJ2 414 yJ0_checkIndex_df160 wsJ0_checkIndex_df160) := goodIn_app (goodIn_of _ (by decide +kernel)) ggJ2_checkIndex_2214a_J0_checkIndex_df160
theorem dJ2_checkIndex_2214a_0 : decode cJ2_checkIndex_2214a 0 = .ok (.iload_n 0, 1) := by decide +kernel
theorem dJ2_checkIndex_2214a_1 : decode cJ2_checkIndex_2214a 1 = .ok (.aload_n 1, 1) := by decide +kernel
theorem dJ2_checkIndex_2214a_2 : decode cJ2_checkIndex_2214a 2 = .ok (.invokestatic 48, 3) := by decide +kernel
theorem dJ2_checkIndex_2214a_5 : decode cJ2_checkIndex_2214a 5 = .ok (.invokestatic 414, 3) := by decide +kernel
theorem dJ2_checkIndex_2214a_8 : decode cJ2_checkIndex_2214a 8 = .ok (.return_, 1) := by decide +kernel
theorem dJ3_checkIndex_8e157_0 : decode cJ3_checkIndex_8e157 0 = .ok (.iload_n 0, 1) := by decide +kernel
theorem dJ3_checkIndex_8e157_1 : decode cJ3_checkIndex_8e157 1 = .ok (.ifCond .lt 8, 3) := by decide +kernel
theorem dJ3_checkIndex_8e157_4 : decode cJ3_checkIndex_8e157 4 = .ok (.iload_n 0, 1) := by decide +kernel
theorem dJ3_checkIndex_8e157_5 : decode cJ3_checkIndex_8e157 5 = .ok (.iload_n 1, 1) := by decide +kernel
theorem dJ3_checkIndex_8e157_6 : decode cJ3_checkIndex_8e157 6 = .ok (.if_icmp .lt 10, 3) := by decide +kernel
theorem dJ3_checkIndex_8e157_9 : decode cJ3_checkIndex_8e157 9 = .ok (.aload_n 2, 1) := by decide +kernel
theorem dJ3_checkIndex_8e157_10 : decode cJ3_checkIndex_8e157 10 = .ok (.iload_n 0, 1) := by decide +kernel
theorem dJ3_checkIndex_8e157_11 : decode cJ3_checkIndex_8e157 11 = .ok (.iload_n 1, 1) := by decide +kernel
theorem dJ3_checkIndex_8e157_12 : decode cJ3_checkIndex_8e157 12 = .ok (.invokestatic 95, 3) := by decide +kernel
theorem dJ3_checkIndex_8e157_15 : decode cJ3_checkIndex_8e157 15 = .ok (.athrow, 1) := by decide +kernel
theorem dJ3_checkIndex_8e157_16 : decode cJ3_checkIndex_8e157 16 = .ok (.iload_n 0, 1) := by decide +kernel
theorem dJ3_checkIndex_8e157_17 : decode cJ3_checkIndex_8e157 17 = .ok (.ireturn, 1) := by decide +kernel
theorem dL_law_0 : decode cL_law 0 = .ok (.new 7, 3) := by decide +kernel
theorem dL_law_3 : decode cL_law 3 = .ok (.dup, 1) := by decide +kernel
theorem dL_law_4 : decode cL_law 4 = .ok (.invokespecial 9, 3) := by decide +kernel
theorem dL_law_7 : decode cL_law 7 = .ok (.astore_n 1, 1) := by decide +kernel
theorem dL_law_8 : decode cL_law 8 = .ok (.new 10, 3) := by decide +kernel
theorem dL_law_11 : decode cL_law 11 = .ok (.dup, 1) := by decide +kernel
theorem dL_law_12 : decode cL_law 12 = .ok (.invokespecial 12, 3) := by decide +kernel
theorem dL_law_15 : decode cL_law 15 = .ok (.astore_n 2, 1) := by decide +kernel
theorem dL_law_16 : decode cL_law 16 = .ok (.iconst 0, 1) := by decide +kernel
theorem dL_law_17 : decode cL_law 17 = .ok (.istore_n 3, 1) := by decide +kernel
theorem dL_law_18 : decode cL_law 18 = .ok (.iload_n 3, 1) := by decide +kernel
theorem dL_law_19 : decode cL_law 19 = .ok (.aload_n 0, 1) := by decide +kernel
theorem dL_law_20 : decode cL_law 20 = .ok (.arraylength, 1) := by decide +kernel
theorem dL_law_21 : decode cL_law 21 = .ok (.bipush 6, 2) := by decide +kernel
theorem dL_law_23 : decode cL_law 23 = .ok (.isub, 1) := by decide +kernel
theorem dL_law_24 : decode cL_law 24 = .ok (.if_icmp .gt 1013, 3) := by decide +kernel
theorem dL_law_27 : decode cL_law 27 = .ok (.aload_n 0, 1) := by decide +kernel
theorem dL_law_28 : decode cL_law 28 = .ok (.iload_n 3, 1) := by decide +kernel
theorem dL_law_29 : decode cL_law 29 = .ok (.iaload, 1) := by decide +kernel
theorem dL_law_30 : decode cL_law 30 = .ok (.bipush 63, 2) := by decide +kernel
theorem dL_law_32 : decode cL_law 32 = .ok (.iand, 1) := by decide +kernel
theorem dL_law_33 : decode cL_law 33 = .ok (.tableswitch 998 0 32 #[147, 180, 213, 256, 279, 292, 305, 328, 341, 354, 377, 410, 443, 466, 489, 512, 535, 558, 621, 674, 697, 720, 743, 766, 789, 812, 835, 868, 892, 915, 938, 961, 984], 147) := by decide +kernel
theorem dL_law_180 : decode cL_law 180 = .ok (.aload_n 1, 1) := by decide +kernel
theorem dL_law_181 : decode cL_law 181 = .ok (.aload_n 0, 1) := by decide +kernel
theorem dL_law_182 : decode cL_law 182 = .ok (.iload_n 3, 1) := by decide +kernel
theorem dL_law_183 : decode cL_law 183 = .ok (.iconst 1, 1) := by decide +kernel
theorem dL_law_184 : decode cL_law 184 = .ok (.iadd, 1) := by decide +kernel
theorem dL_law_185 : decode cL_law 185 = .ok (.iaload, 1) := by decide +kernel
theorem dL_law_186 : decode cL_law 186 = .ok (.aload_n 0, 1) := by decide +kernel
theorem dL_law_187 : decode cL_law 187 = .ok (.iload_n 3, 1) := by decide +kernel
theorem dL_law_188 : decode cL_law 188 = .ok (.iconst 2, 1) := by decide +kernel
theorem dL_law_189 : decode cL_law 189 = .ok (.iadd, 1) := by decide +kernel
theorem dL_law_190 : decode cL_law 190 = .ok (.iaload, 1) := by decide +kernel
theorem dL_law_191 : decode cL_law 191 = .ok (.invokevirtual 13, 3) := by decide +kernel
theorem dL_law_194 : decode cL_law 194 = .ok (.aload_n 2, 1) := by decide +kernel
theorem dL_law_195 : decode cL_law 195 = .ok (.aload_n 0, 1) := by decide +kernel
theorem dL_law_196 : decode cL_law 196 = .ok (.iload_n 3, 1) := by decide +kernel
theorem dL_law_197 : decode cL_law 197 = .ok (.iconst 1, 1) := by decide +kernel
theorem dL_law_198 : decode cL_law 198 = .ok (.iadd, 1) := by decide +kernel
theorem dL_law_199 : decode cL_law 199 = .ok (.iaload, 1) := by decide +kernel
theorem dL_law_200 : decode cL_law 200 = .ok (.aload_n 0, 1) := by decide +kernel
theorem dL_law_201 : decode cL_law 201 = .ok (.iload_n 3, 1) := by decide +kernel
theorem dL_law_202 : decode cL_law 202 = .ok (.iconst 2, 1) := by decide +kernel
theorem dL_law_203 : decode cL_law 203 = .ok (.iadd, 1) := by decide +kernel
theorem dL_law_204 : decode cL_law 204 = .ok (.iaload, 1) := by decide +kernel
theorem dL_law_205 : decode cL_law 205 = .ok (.invokevirtual 17, 3) := by decide +kernel
theorem dL_law_208 : decode cL_law 208 = .ok (.if_icmp .eq 823, 3) := by decide +kernel
theorem dL_law_211 : decode cL_law 211 = .ok (.iconst 0, 1) := by decide +kernel
theorem dL_law_212 : decode cL_law 212 = .ok (.ireturn, 1) := by decide +kernel
theorem dL_law_213 : decode cL_law 213 = .ok (.aload_n 1, 1) := by decide +kernel
theorem dL_law_214 : decode cL_law 214 = .ok (.aload_n 0, 1) := by decide +kernel
theorem dL_law_215 : decode cL_law 215 = .ok (.iload_n 3, 1) := by decide +kernel
theorem dL_law_216 : decode cL_law 216 = .ok (.iconst 1, 1) := by decide +kernel
theorem dL_law_217 : decode cL_law 217 = .ok (.iadd, 1) := by decide +kernel
theorem dL_law_218 : decode cL_law 218 = .ok (.iaload, 1) := by decide +kernel
theorem dL_law_219 : decode cL_law 219 = .ok (.aload_n 0, 1) := by decide +kernel
theorem dL_law_220 : decode cL_law 220 = .ok (.iload_n 3, 1) := by decide +kernel
theorem dL_law_221 : decode cL_law 221 = .ok (.iconst 2, 1) := by decide +kernel
theorem dL_law_222 : decode cL_law 222 = .ok (.iadd, 1) := by decide +kernel
theorem dL_law_223 : decode cL_law 223 = .ok (.iaload, 1) := by decide +kernel
theorem dL_law_224 : decode cL_law 224 = .ok (.invokevirtual 18, 3) := by decide +kernel
theorem dL_law_227 : decode cL_law 227 = .ok (.aload_n 2, 1) := by decide +kernel
theorem dL_law_228 : decode cL_law 228 = .ok (.aload_n 0, 1) := by decide +kernel
theorem dL_law_229 : decode cL_law 229 = .ok (.iload_n 3, 1) := by decide +kernel
theorem dL_law_230 : decode cL_law 230 = .ok (.iconst 1, 1) := by decide +kernel
theorem dL_law_231 : decode cL_law 231 = .ok (.iadd, 1) := by decide +kernel
theorem dL_law_232 : decode cL_law 232 = .ok (.iaload, 1) := by decide +kernel
theorem dL_law_233 : decode cL_law 233 = .ok (.aload_n 0, 1) := by decide +kernel
theorem dL_law_234 : decode cL_law 234 = .ok (.iload_n 3, 1) := by decide +kernel
theorem dL_law_235 : decode cL_law 235 = .ok (.iconst 2, 1) := by decide +kernel
theorem dL_law_236 : decode cL_law 236 = .ok (.iadd, 1) := by decide +kernel
theorem dL_law_237 : decode cL_law 237 = .ok (.iaload, 1) := by decide +kernel
theorem dL_law_238 : decode cL_law 238 = .ok (.invokevirtual 21, 3) := by decide +kernel
theorem dL_law_241 : decode cL_law 241 = .ok (.if_icmp .eq 790, 3) := by decide +kernel
theorem dL_law_244 : decode cL_law 244 = .ok (.iconst 0, 1) := by decide +kernel
theorem dL_law_245 : decode cL_law 245 = .ok (.ireturn, 1) := by decide +kernel
theorem dL_law_246 : decode cL_law 246 = .ok (.aload_n 1, 1) := by decide +kernel
theorem dL_law_247 : decode cL_law 247 = .ok (.aload_n 0, 1) := by decide +kernel
theorem dL_law_248 : decode cL_law 248 = .ok (.iload_n 3, 1) := by decide +kernel
theorem dL_law_249 : decode cL_law 249 = .ok (.iconst 1, 1) := by decide +kernel
theorem dL_law_250 : decode cL_law 250 = .ok (.iadd, 1) := by decide +kernel
theorem dL_law_251 : decode cL_law 251 = .ok (.iaload, 1) := by decide +kernel
theorem dL_law_252 : decode cL_law 252 = .ok (.aload_n 0, 1) := by decide +kernel
theorem dL_law_253 : decode cL_law 253 = .ok (.iload_n 3, 1) := by decide +kernel
theorem dL_law_254 : decode cL_law 254 = .ok (.iconst 2, 1) := by decide +kernel
theorem dL_law_255 : decode cL_law 255 = .ok (.iadd, 1) := by decide +kernel
theorem dL_law_256 : decode cL_law 256 = .ok (.iaload, 1) := by decide +kernel
theorem dL_law_257 : decode cL_law 257 = .ok (.aload_n 0, 1) := by decide +kernel
theorem dL_law_258 : decode cL_law 258 = .ok (.iload_n 3, 1) := by decide +kernel
theorem dL_law_259 : decode cL_law 259 = .ok (.iconst 3, 1) := by decide +kernel
theorem dL_law_260 : decode cL_law 260 = .ok (.iadd, 1) := by decide +kernel
theorem dL_law_261 : decode cL_law 261 = .ok (.iaload, 1) := by decide +kernel
theorem dL_law_262 : decode cL_law 262 = .ok (.invokevirtual 22, 3) := by decide +kernel
theorem dL_law_265 : decode cL_law 265 = .ok (.aload_n 2, 1) := by decide +kernel
theorem dL_law_266 : decode cL_law 266 = .ok (.aload_n 0, 1) := by decide +kernel
theorem dL_law_267 : decode cL_law 267 = .ok (.iload_n 3, 1) := by decide +kernel
theorem dL_law_268 : decode cL_law 268 = .ok (.iconst 1, 1) := by decide +kernel
theorem dL_law_269 : decode cL_law 269 = .ok (.iadd, 1) := by decide +kernel
theorem dL_law_270 : decode cL_law 270 = .ok (.iaload, 1) := by decide +kernel
theorem dL_law_271 : decode cL_law 271 = .ok (.aload_n 0, 1) := by decide +kernel
theorem dL_law_272 : decode cL_law 272 = .ok (.iload_n 3, 1) := by decide +kernel
theorem dL_law_273 : decode cL_law 273 = .ok (.iconst 2, 1) := by decide +kernel
theorem dL_law_274 : decode cL_law 274 = .ok (.iadd, 1) := by decide +kernel
theorem dL_law_275 : decode cL_law 275 = .ok (.iaload, 1) := by decide +kernel
theorem dL_law_276 : decode cL_law 276 = .ok (.aload_n 0, 1) := by decide +kernel
theorem dL_law_277 : decode cL_law 277 = .ok (.iload_n 3, 1) := by decide +kernel
theorem dL_law_278 : decode cL_law 278 = .ok (.iconst 3, 1) := by decide +kernel
theorem dL_law_279 : decode cL_law 279 = .ok (.iadd, 1) := by decide +kernel
theorem dL_law_280 : decode cL_law 280 = .ok (.iaload, 1) := by decide +kernel
theorem dL_law_281 : decode cL_law 281 = .ok (.invokevirtual 26, 3) := by decide +kernel
theorem dL_law_284 : decode cL_law 284 = .ok (.if_icmp .eq 747, 3) := by decide +kernel
theorem dL_law_287 : decode cL_law 287 = .ok (.iconst 0, 1) := by decide +kernel
theorem dL_law_288 : decode cL_law 288 = .ok (.ireturn, 1) := by decide +kernel
theorem dL_law_289 : decode cL_law 289 = .ok (.aload_n 1, 1) := by decide +kernel
theorem dL_law_290 : decode cL_law 290 = .ok (.aload_n 0, 1) := by decide +kernel
theorem dL_law_291 : decode cL_law 291 = .ok (.iload_n 3, 1) := by decide +kernel
theorem dL_law_292 : decode cL_law 292 = .ok (.iconst 1, 1) := by decide +kernel
theorem dL_law_293 : decode cL_law 293 = .ok (.iadd, 1) := by decide +kernel
theorem dL_law_294 : decode cL_law 294 = .ok (.iaload, 1) := by decide +kernel
theorem dL_law_295 : decode cL_law 295 = .ok (.invokevirtual 27, 3) := by decide +kernel
theorem dL_law_298 : decode cL_law 298 = .ok (.aload_n 2, 1) := by decide +kernel
theorem dL_law_299 : decode cL_law 299 = .ok (.aload_n 0, 1) := by decide +kernel
theorem dL_law_300 : decode cL_law 300 = .ok (.iload_n 3, 1) := by decide +kernel
theorem dL_law_301 : decode cL_law 301 = .ok (.iconst 1, 1) := by decide +kernel
theorem dL_law_302 : decode cL_law 302 = .ok (.iadd, 1) := by decide +kernel
theorem dL_law_303 : decode cL_law 303 = .ok (.iaload, 1) := by decide +kernel
theorem dL_law_304 : decode cL_law 304 = .ok (.invokevirtual 31, 3) := by decide +kernel
theorem dL_law_307 : decode cL_law 307 = .ok (.if_icmp .eq 724, 3) := by decide +kernel
theorem dL_law_310 : decode cL_law 310 = .ok (.iconst 0, 1) := by decide +kernel
theorem dL_law_311 : decode cL_law 311 = .ok (.ireturn, 1) := by decide +kernel
theorem dL_law_312 : decode cL_law 312 = .ok (.aload_n 1, 1) := by decide +kernel
theorem dL_law_313 : decode cL_law 313 = .ok (.invokevirtual 32, 3) := by decide +kernel
theorem dL_law_316 : decode cL_law 316 = .ok (.aload_n 2, 1) := by decide +kernel
theorem dL_law_317 : decode cL_law 317 = .ok (.invokevirtual 36, 3) := by decide +kernel
theorem dL_law_320 : decode cL_law 320 = .ok (.if_icmp .eq 711, 3) := by decide +kernel
theorem dL_law_323 : decode cL_law 323 = .ok (.iconst 0, 1) := by decide +kernel
theorem dL_law_324 : decode cL_law 324 = .ok (.ireturn, 1) := by decide +kernel
theorem dL_law_325 : decode cL_law 325 = .ok (.aload_n 1, 1) := by decide +kernel
theorem dL_law_326 : decode cL_law 326 = .ok (.invokevirtual 37, 3) := by decide +kernel
theorem dL_law_329 : decode cL_law 329 = .ok (.aload_n 2, 1) := by decide +kernel
theorem dL_law_330 : decode cL_law 330 = .ok (.invokevirtual 40, 3) := by decide +kernel
theorem dL_law_333 : decode cL_law 333 = .ok (.if_icmp .eq 698, 3) := by decide +kernel
theorem dL_law_336 : decode cL_law 336 = .ok (.iconst 0, 1) := by decide +kernel
theorem dL_law_337 : decode cL_law 337 = .ok (.ireturn, 1) := by decide +kernel
theorem dL_law_338 : decode cL_law 338 = .ok (.aload_n 1, 1) := by decide +kernel
theorem dL_law_339 : decode cL_law 339 = .ok (.aload_n 0, 1) := by decide +kernel
theorem dL_law_340 : decode cL_law 340 = .ok (.iload_n 3, 1) := by decide +kernel
theorem dL_law_341 : decode cL_law 341 = .ok (.iconst 1, 1) := by decide +kernel
theorem dL_law_342 : decode cL_law 342 = .ok (.iadd, 1) := by decide +kernel
theorem dL_law_343 : decode cL_law 343 = .ok (.iaload, 1) := by decide +kernel
theorem dL_law_344 : decode cL_law 344 = .ok (.invokevirtual 41, 3) := by decide +kernel
theorem dL_law_347 : decode cL_law 347 = .ok (.aload_n 2, 1) := by decide +kernel
theorem dL_law_348 : decode cL_law 348 = .ok (.aload_n 0, 1) := by decide +kernel
theorem dL_law_349 : decode cL_law 349 = .ok (.iload_n 3, 1) := by decide +kernel
theorem dL_law_350 : decode cL_law 350 = .ok (.iconst 1, 1) := by decide +kernel
theorem dL_law_351 : decode cL_law 351 = .ok (.iadd, 1) := by decide +kernel
theorem dL_law_352 : decode cL_law 352 = .ok (.iaload, 1) := by decide +kernel
theorem dL_law_353 : decode cL_law 353 = .ok (.invokevirtual 44, 3) := by decide +kernel
theorem dL_law_356 : decode cL_law 356 = .ok (.if_icmp .eq 675, 3) := by decide +kernel
theorem dL_law_359 : decode cL_law 359 = .ok (.iconst 0, 1) := by decide +kernel
theorem dL_law_360 : decode cL_law 360 = .ok (.ireturn, 1) := by decide +kernel
theorem dL_law_361 : decode cL_law 361 = .ok (.aload_n 1, 1) := by decide +kernel
theorem dL_law_362 : decode cL_law 362 = .ok (.invokevirtual 45, 3) := by decide +kernel
theorem dL_law_365 : decode cL_law 365 = .ok (.aload_n 2, 1) := by decide +kernel
theorem dL_law_366 : decode cL_law 366 = .ok (.invokevirtual 48, 3) := by decide +kernel
theorem dL_law_369 : decode cL_law 369 = .ok (.if_icmp .eq 662, 3) := by decide +kernel
theorem dL_law_372 : decode cL_law 372 = .ok (.iconst 0, 1) := by decide +kernel
theorem dL_law_373 : decode cL_law 373 = .ok (.ireturn, 1) := by decide +kernel
theorem dL_law_374 : decode cL_law 374 = .ok (.aload_n 1, 1) := by decide +kernel
theorem dL_law_375 : decode cL_law 375 = .ok (.invokevirtual 49, 3) := by decide +kernel
theorem dL_law_378 : decode cL_law 378 = .ok (.aload_n 2, 1) := by decide +kernel
theorem dL_law_379 : decode cL_law 379 = .ok (.invokevirtual 52, 3) := by decide +kernel
theorem dL_law_382 : decode cL_law 382 = .ok (.if_icmp .eq 649, 3) := by decide +kernel
theorem dL_law_385 : decode cL_law 385 = .ok (.iconst 0, 1) := by decide +kernel
theorem dL_law_386 : decode cL_law 386 = .ok (.ireturn, 1) := by decide +kernel
theorem dL_law_387 : decode cL_law 387 = .ok (.aload_n 1, 1) := by decide +kernel
theorem dL_law_388 : decode cL_law 388 = .ok (.aload_n 0, 1) := by decide +kernel
theorem dL_law_389 : decode cL_law 389 = .ok (.iload_n 3, 1) := by decide +kernel
theorem dL_law_390 : decode cL_law 390 = .ok (.iconst 1, 1) := by decide +kernel
theorem dL_law_391 : decode cL_law 391 = .ok (.iadd, 1) := by decide +kernel
theorem dL_law_392 : decode cL_law 392 = .ok (.iaload, 1) := by decide +kernel
theorem dL_law_393 : decode cL_law 393 = .ok (.invokevirtual 53, 3) := by decide +kernel
theorem dL_law_396 : decode cL_law 396 = .ok (.aload_n 2, 1) := by decide +kernel
theorem dL_law_397 : decode cL_law 397 = .ok (.aload_n 0, 1) := by decide +kernel
theorem dL_law_398 : decode cL_law 398 = .ok (.iload_n 3, 1) := by decide +kernel
theorem dL_law_399 : decode cL_law 399 = .ok (.iconst 1, 1) := by decide +kernel
theorem dL_law_400 : decode cL_law 400 = .ok (.iadd, 1) := by decide +kernel
theorem dL_law_401 : decode cL_law 401 = .ok (.iaload, 1) := by decide +kernel
theorem dL_law_402 : decode cL_law 402 = .ok (.invokevirtual 56, 3) := by decide +kernel
theorem dL_law_405 : decode cL_law 405 = .ok (.if_icmp .eq 626, 3) := by decide +kernel
theorem dL_law_408 : decode cL_law 408 = .ok (.iconst 0, 1) := by decide +kernel
theorem dL_law_409 : decode cL_law 409 = .ok (.ireturn, 1) := by decide +kernel
theorem dL_law_410 : decode cL_law 410 = .ok (.aload_n 1, 1) := by decide +kernel
theorem dL_law_411 : decode cL_law 411 = .ok (.aload_n 0, 1) := by decide +kernel
theorem dL_law_412 : decode cL_law 412 = .ok (.iload_n 3, 1) := by decide +kernel
theorem dL_law_413 : decode cL_law 413 = .ok (.iconst 1, 1) := by decide +kernel
theorem dL_law_414 : decode cL_law 414 = .ok (.iadd, 1) := by decide +kernel
theorem dL_law_415 : decode cL_law 415 = .ok (.iaload, 1) := by decide +kernel
theorem dL_law_416 : decode cL_law 416 = .ok (.aload_n 0, 1) := by decide +kernel
theorem dL_law_417 : decode cL_law 417 = .ok (.iload_n 3, 1) := by decide +kernel
theorem dL_law_418 : decode cL_law 418 = .ok (.iconst 2, 1) := by decide +kernel
theorem dL_law_419 : decode cL_law 419 = .ok (.iadd, 1) := by decide +kernel
theorem dL_law_420 : decode cL_law 420 = .ok (.iaload, 1) := by decide +kernel
theorem dL_law_421 : decode cL_law 421 = .ok (.invokevirtual 57, 3) := by decide +kernel
theorem dL_law_424 : decode cL_law 424 = .ok (.aload_n 2, 1) := by decide +kernel
theorem dL_law_425 : decode cL_law 425 = .ok (.aload_n 0, 1) := by decide +kernel
theorem dL_law_426 : decode cL_law 426 = .ok (.iload_n 3, 1) := by decide +kernel
theorem dL_law_427 : decode cL_law 427 = .ok (.iconst 1, 1) := by decide +kernel
theorem dL_law_428 : decode cL_law 428 = .ok (.iadd, 1) := by decide +kernel
theorem dL_law_429 : decode cL_law 429 = .ok (.iaload, 1) := by decide +kernel
theorem dL_law_430 : decode cL_law 430 = .ok (.aload_n 0, 1) := by decide +kernel
theorem dL_law_431 : decode cL_law 431 = .ok (.iload_n 3, 1) := by decide +kernel
theorem dL_law_432 : decode cL_law 432 = .ok (.iconst 2, 1) := by decide +kernel
theorem dL_law_433 : decode cL_law 433 = .ok (.iadd, 1) := by decide +kernel
theorem dL_law_434 : decode cL_law 434 = .ok (.iaload, 1) := by decide +kernel
theorem dL_law_435 : decode cL_law 435 = .ok (.invokevirtual 60, 3) := by decide +kernel
theorem dL_law_438 : decode cL_law 438 = .ok (.if_icmp .eq 593, 3) := by decide +kernel
theorem dL_law_441 : decode cL_law 441 = .ok (.iconst 0, 1) := by decide +kernel
theorem dL_law_442 : decode cL_law 442 = .ok (.ireturn, 1) := by decide +kernel
theorem dL_law_443 : decode cL_law 443 = .ok (.aload_n 1, 1) := by decide +kernel
theorem dL_law_444 : decode cL_law 444 = .ok (.aload_n 0, 1) := by decide +kernel
theorem dL_law_445 : decode cL_law 445 = .ok (.iload_n 3, 1) := by decide +kernel
theorem dL_law_446 : decode cL_law 446 = .ok (.iconst 1, 1) := by decide +kernel
theorem dL_law_447 : decode cL_law 447 = .ok (.iadd, 1) := by decide +kernel
theorem dL_law_448 : decode cL_law 448 = .ok (.iaload, 1) := by decide +kernel
theorem dL_law_449 : decode cL_law 449 = .ok (.aload_n 0, 1) := by decide +kernel
theorem dL_law_450 : decode cL_law 450 = .ok (.iload_n 3, 1) := by decide +kernel
theorem dL_law_451 : decode cL_law 451 = .ok (.iconst 2, 1) := by decide +kernel
theorem dL_law_452 : decode cL_law 452 = .ok (.iadd, 1) := by decide +kernel
theorem dL_law_453 : decode cL_law 453 = .ok (.iaload, 1) := by decide +kernel
theorem dL_law_454 : decode cL_law 454 = .ok (.invokevirtual 61, 3) := by decide +kernel
theorem dL_law_457 : decode cL_law 457 = .ok (.aload_n 2, 1) := by decide +kernel
theorem dL_law_458 : decode cL_law 458 = .ok (.aload_n 0, 1) := by decide +kernel
theorem dL_law_459 : decode cL_law 459 = .ok (.iload_n 3, 1) := by decide +kernel
theorem dL_law_460 : decode cL_law 460 = .ok (.iconst 1, 1) := by decide +kernel
theorem dL_law_461 : decode cL_law 461 = .ok (.iadd, 1) := by decide +kernel
theorem dL_law_462 : decode cL_law 462 = .ok (.iaload, 1) := by decide +kernel
theorem dL_law_463 : decode cL_law 463 = .ok (.aload_n 0, 1) := by decide +kernel
theorem dL_law_464 : decode cL_law 464 = .ok (.iload_n 3, 1) := by decide +kernel
theorem dL_law_465 : decode cL_law 465 = .ok (.iconst 2, 1) := by decide +kernel
theorem dL_law_466 : decode cL_law 466 = .ok (.iadd, 1) := by decide +kernel
theorem dL_law_467 : decode cL_law 467 = .ok (.iaload, 1) := by decide +kernel
theorem dL_law_468 : decode cL_law 468 = .ok (.invokevirtual 64, 3) := by decide +kernel
theorem dL_law_471 : decode cL_law 471 = .ok (.if_icmp .eq 560, 3) := by decide +kernel
theorem dL_law_474 : decode cL_law 474 = .ok (.iconst 0, 1) := by decide +kernel
theorem dL_law_475 : decode cL_law 475 = .ok (.ireturn, 1) := by decide +kernel
theorem dL_law_476 : decode cL_law 476 = .ok (.aload_n 1, 1) := by decide +kernel
theorem dL_law_477 : decode cL_law 477 = .ok (.aload_n 0, 1) := by decide +kernel
theorem dL_law_478 : decode cL_law 478 = .ok (.iload_n 3, 1) := by decide +kernel
theorem dL_law_479 : decode cL_law 479 = .ok (.iconst 1, 1) := by decide +kernel
theorem dL_law_480 : decode cL_law 480 = .ok (.iadd, 1) := by decide +kernel
theorem dL_law_481 : decode cL_law 481 = .ok (.iaload, 1) := by decide +kernel
theorem dL_law_482 : decode cL_law 482 = .ok (.invokevirtual 65, 3) := by decide +kernel
theorem dL_law_485 : decode cL_law 485 = .ok (.aload_n 2, 1) := by decide +kernel
theorem dL_law_486 : decode cL_law 486 = .ok (.aload_n 0, 1) := by decide +kernel
theorem dL_law_487 : decode cL_law 487 = .ok (.iload_n 3, 1) := by decide +kernel
theorem dL_law_488 : decode cL_law 488 = .ok (.iconst 1, 1) := by decide +kernel
theorem dL_law_489 : decode cL_law 489 = .ok (.iadd, 1) := by decide +kernel
theorem dL_law_490 : decode cL_law 490 = .ok (.iaload, 1) := by decide +kernel
theorem dL_law_491 : decode cL_law 491 = .ok (.invokevirtual 68, 3) := by decide +kernel
theorem dL_law_494 : decode cL_law 494 = .ok (.if_icmp .eq 537, 3) := by decide +kernel
theorem dL_law_497 : decode cL_law 497 = .ok (.iconst 0, 1) := by decide +kernel
theorem dL_law_498 : decode cL_law 498 = .ok (.ireturn, 1) := by decide +kernel
theorem dL_law_499 : decode cL_law 499 = .ok (.aload_n 1, 1) := by decide +kernel
theorem dL_law_500 : decode cL_law 500 = .ok (.aload_n 0, 1) := by decide +kernel
theorem dL_law_501 : decode cL_law 501 = .ok (.iload_n 3, 1) := by decide +kernel
theorem dL_law_502 : decode cL_law 502 = .ok (.iconst 1, 1) := by decide +kernel
theorem dL_law_503 : decode cL_law 503 = .ok (.iadd, 1) := by decide +kernel
theorem dL_law_504 : decode cL_law 504 = .ok (.iaload, 1) := by decide +kernel
theorem dL_law_505 : decode cL_law 505 = .ok (.invokevirtual 69, 3) := by decide +kernel
theorem dL_law_508 : decode cL_law 508 = .ok (.aload_n 2, 1) := by decide +kernel
theorem dL_law_509 : decode cL_law 509 = .ok (.aload_n 0, 1) := by decide +kernel
theorem dL_law_510 : decode cL_law 510 = .ok (.iload_n 3, 1) := by decide +kernel
theorem dL_law_511 : decode cL_law 511 = .ok (.iconst 1, 1) := by decide +kernel
theorem dL_law_512 : decode cL_law 512 = .ok (.iadd, 1) := by decide +kernel
theorem dL_law_513 : decode cL_law 513 = .ok (.iaload, 1) := by decide +kernel
theorem dL_law_514 : decode cL_law 514 = .ok (.invokevirtual 72, 3) := by decide +kernel
theorem dL_law_517 : decode cL_law 517 = .ok (.if_icmp .eq 514, 3) := by decide +kernel
theorem dL_law_520 : decode cL_law 520 = .ok (.iconst 0, 1) := by decide +kernel
theorem dL_law_521 : decode cL_law 521 = .ok (.ireturn, 1) := by decide +kernel
theorem dL_law_522 : decode cL_law 522 = .ok (.aload_n 1, 1) := by decide +kernel
theorem dL_law_523 : decode cL_law 523 = .ok (.aload_n 0, 1) := by decide +kernel
theorem dL_law_524 : decode cL_law 524 = .ok (.iload_n 3, 1) := by decide +kernel
theorem dL_law_525 : decode cL_law 525 = .ok (.iconst 1, 1) := by decide +kernel
theorem dL_law_526 : decode cL_law 526 = .ok (.iadd, 1) := by decide +kernel
theorem dL_law_527 : decode cL_law 527 = .ok (.iaload, 1) := by decide +kernel
theorem dL_law_528 : decode cL_law 528 = .ok (.invokevirtual 73, 3) := by decide +kernel
theorem dL_law_531 : decode cL_law 531 = .ok (.aload_n 2, 1) := by decide +kernel
theorem dL_law_532 : decode cL_law 532 = .ok (.aload_n 0, 1) := by decide +kernel
theorem dL_law_533 : decode cL_law 533 = .ok (.iload_n 3, 1) := by decide +kernel
theorem dL_law_534 : decode cL_law 534 = .ok (.iconst 1, 1) := by decide +kernel
theorem dL_law_535 : decode cL_law 535 = .ok (.iadd, 1) := by decide +kernel
theorem dL_law_536 : decode cL_law 536 = .ok (.iaload, 1) := by decide +kernel
theorem dL_law_537 : decode cL_law 537 = .ok (.invokevirtual 76, 3) := by decide +kernel
theorem dL_law_540 : decode cL_law 540 = .ok (.if_icmp .eq 491, 3) := by decide +kernel
theorem dL_law_543 : decode cL_law 543 = .ok (.iconst 0, 1) := by decide +kernel
theorem dL_law_544 : decode cL_law 544 = .ok (.ireturn, 1) := by decide +kernel
theorem dL_law_545 : decode cL_law 545 = .ok (.aload_n 1, 1) := by decide +kernel
theorem dL_law_546 : decode cL_law 546 = .ok (.aload_n 0, 1) := by decide +kernel
theorem dL_law_547 : decode cL_law 547 = .ok (.iload_n 3, 1) := by decide +kernel
theorem dL_law_548 : decode cL_law 548 = .ok (.iconst 1, 1) := by decide +kernel
theorem dL_law_549 : decode cL_law 549 = .ok (.iadd, 1) := by decide +kernel
theorem dL_law_550 : decode cL_law 550 = .ok (.iaload, 1) := by decide +kernel
theorem dL_law_551 : decode cL_law 551 = .ok (.invokevirtual 77, 3) := by decide +kernel
theorem dL_law_554 : decode cL_law 554 = .ok (.aload_n 2, 1) := by decide +kernel
theorem dL_law_555 : decode cL_law 555 = .ok (.aload_n 0, 1) := by decide +kernel
theorem dL_law_556 : decode cL_law 556 = .ok (.iload_n 3, 1) := by decide +kernel
theorem dL_law_557 : decode cL_law 557 = .ok (.iconst 1, 1) := by decide +kernel
theorem dL_law_558 : decode cL_law 558 = .ok (.iadd, 1) := by decide +kernel
theorem dL_law_559 : decode cL_law 559 = .ok (.iaload, 1) := by decide +kernel
theorem dL_law_560 : decode cL_law 560 = .ok (.invokevirtual 80, 3) := by decide +kernel
theorem dL_law_563 : decode cL_law 563 = .ok (.if_icmp .eq 468, 3) := by decide +kernel
theorem dL_law_566 : decode cL_law 566 = .ok (.iconst 0, 1) := by decide +kernel
theorem dL_law_567 : decode cL_law 567 = .ok (.ireturn, 1) := by decide +kernel
theorem dL_law_568 : decode cL_law 568 = .ok (.aload_n 1, 1) := by decide +kernel
theorem dL_law_569 : decode cL_law 569 = .ok (.aload_n 0, 1) := by decide +kernel
theorem dL_law_570 : decode cL_law 570 = .ok (.iload_n 3, 1) := by decide +kernel
theorem dL_law_571 : decode cL_law 571 = .ok (.iconst 1, 1) := by decide +kernel
theorem dL_law_572 : decode cL_law 572 = .ok (.iadd, 1) := by decide +kernel
theorem dL_law_573 : decode cL_law 573 = .ok (.iaload, 1) := by decide +kernel
theorem dL_law_574 : decode cL_law 574 = .ok (.invokevirtual 81, 3) := by decide +kernel
theorem dL_law_577 : decode cL_law 577 = .ok (.aload_n 2, 1) := by decide +kernel
theorem dL_law_578 : decode cL_law 578 = .ok (.aload_n 0, 1) := by decide +kernel
theorem dL_law_579 : decode cL_law 579 = .ok (.iload_n 3, 1) := by decide +kernel
theorem dL_law_580 : decode cL_law 580 = .ok (.iconst 1, 1) := by decide +kernel
theorem dL_law_581 : decode cL_law 581 = .ok (.iadd, 1) := by decide +kernel
theorem dL_law_582 : decode cL_law 582 = .ok (.iaload, 1) := by decide +kernel
theorem dL_law_583 : decode cL_law 583 = .ok (.invokevirtual 84, 3) := by decide +kernel
theorem dL_law_586 : decode cL_law 586 = .ok (.if_icmp .eq 445, 3) := by decide +kernel
theorem dL_law_589 : decode cL_law 589 = .ok (.iconst 0, 1) := by decide +kernel
theorem dL_law_590 : decode cL_law 590 = .ok (.ireturn, 1) := by decide +kernel
theorem dL_law_591 : decode cL_law 591 = .ok (.aload_n 1, 1) := by decide +kernel
theorem dL_law_592 : decode cL_law 592 = .ok (.aload_n 0, 1) := by decide +kernel
theorem dL_law_593 : decode cL_law 593 = .ok (.iload_n 3, 1) := by decide +kernel
theorem dL_law_594 : decode cL_law 594 = .ok (.iconst 1, 1) := by decide +kernel
theorem dL_law_595 : decode cL_law 595 = .ok (.iadd, 1) := by decide +kernel
theorem dL_law_596 : decode cL_law 596 = .ok (.iaload, 1) := by decide +kernel
theorem dL_law_597 : decode cL_law 597 = .ok (.aload_n 0, 1) := by decide +kernel
theorem dL_law_598 : decode cL_law 598 = .ok (.iload_n 3, 1) := by decide +kernel
theorem dL_law_599 : decode cL_law 599 = .ok (.iconst 2, 1) := by decide +kernel
theorem dL_law_600 : decode cL_law 600 = .ok (.iadd, 1) := by decide +kernel
theorem dL_law_601 : decode cL_law 601 = .ok (.iaload, 1) := by decide +kernel
theorem dL_law_602 : decode cL_law 602 = .ok (.aload_n 0, 1) := by decide +kernel
theorem dL_law_603 : decode cL_law 603 = .ok (.iload_n 3, 1) := by decide +kernel
theorem dL_law_604 : decode cL_law 604 = .ok (.iconst 3, 1) := by decide +kernel
theorem dL_law_605 : decode cL_law 605 = .ok (.iadd, 1) := by decide +kernel
theorem dL_law_606 : decode cL_law 606 = .ok (.iaload, 1) := by decide +kernel
theorem dL_law_607 : decode cL_law 607 = .ok (.aload_n 0, 1) := by decide +kernel
theorem dL_law_608 : decode cL_law 608 = .ok (.iload_n 3, 1) := by decide +kernel
theorem dL_law_609 : decode cL_law 609 = .ok (.iconst 4, 1) := by decide +kernel
theorem dL_law_610 : decode cL_law 610 = .ok (.iadd, 1) := by decide +kernel
theorem dL_law_611 : decode cL_law 611 = .ok (.iaload, 1) := by decide +kernel
theorem dL_law_612 : decode cL_law 612 = .ok (.aload_n 0, 1) := by decide +kernel
theorem dL_law_613 : decode cL_law 613 = .ok (.iload_n 3, 1) := by decide +kernel
theorem dL_law_614 : decode cL_law 614 = .ok (.iconst 5, 1) := by decide +kernel
theorem dL_law_615 : decode cL_law 615 = .ok (.iadd, 1) := by decide +kernel
theorem dL_law_616 : decode cL_law 616 = .ok (.iaload, 1) := by decide +kernel
theorem dL_law_617 : decode cL_law 617 = .ok (.invokevirtual 85, 3) := by decide +kernel
theorem dL_law_620 : decode cL_law 620 = .ok (.aload_n 2, 1) := by decide +kernel
theorem dL_law_621 : decode cL_law 621 = .ok (.aload_n 0, 1) := by decide +kernel
theorem dL_law_622 : decode cL_law 622 = .ok (.iload_n 3, 1) := by decide +kernel
theorem dL_law_623 : decode cL_law 623 = .ok (.iconst 1, 1) := by decide +kernel
theorem dL_law_624 : decode cL_law 624 = .ok (.iadd, 1) := by decide +kernel
theorem dL_law_625 : decode cL_law 625 = .ok (.iaload, 1) := by decide +kernel
theorem dL_law_626 : decode cL_law 626 = .ok (.aload_n 0, 1) := by decide +kernel
theorem dL_law_627 : decode cL_law 627 = .ok (.iload_n 3, 1) := by decide +kernel
theorem dL_law_628 : decode cL_law 628 = .ok (.iconst 2, 1) := by decide +kernel
theorem dL_law_629 : decode cL_law 629 = .ok (.iadd, 1) := by decide +kernel
theorem dL_law_630 : decode cL_law 630 = .ok (.iaload, 1) := by decide +kernel
theorem dL_law_631 : decode cL_law 631 = .ok (.aload_n 0, 1) := by decide +kernel
theorem dL_law_632 : decode cL_law 632 = .ok (.iload_n 3, 1) := by decide +kernel
theorem dL_law_633 : decode cL_law 633 = .ok (.iconst 3, 1) := by decide +kernel
theorem dL_law_634 : decode cL_law 634 = .ok (.iadd, 1) := by decide +kernel
theorem dL_law_635 : decode cL_law 635 = .ok (.iaload, 1) := by decide +kernel
theorem dL_law_636 : decode cL_law 636 = .ok (.aload_n 0, 1) := by decide +kernel
theorem dL_law_637 : decode cL_law 637 = .ok (.iload_n 3, 1) := by decide +kernel
theorem dL_law_638 : decode cL_law 638 = .ok (.iconst 4, 1) := by decide +kernel
theorem dL_law_639 : decode cL_law 639 = .ok (.iadd, 1) := by decide +kernel
theorem dL_law_640 : decode cL_law 640 = .ok (.iaload, 1) := by decide +kernel
theorem dL_law_641 : decode cL_law 641 = .ok (.aload_n 0, 1) := by decide +kernel
theorem dL_law_642 : decode cL_law 642 = .ok (.iload_n 3, 1) := by decide +kernel
theorem dL_law_643 : decode cL_law 643 = .ok (.iconst 5, 1) := by decide +kernel
theorem dL_law_644 : decode cL_law 644 = .ok (.iadd, 1) := by decide +kernel
theorem dL_law_645 : decode cL_law 645 = .ok (.iaload, 1) := by decide +kernel
theorem dL_law_646 : decode cL_law 646 = .ok (.invokevirtual 89, 3) := by decide +kernel
theorem dL_law_649 : decode cL_law 649 = .ok (.if_icmp .eq 382, 3) := by decide +kernel
theorem dL_law_652 : decode cL_law 652 = .ok (.iconst 0, 1) := by decide +kernel
theorem dL_law_653 : decode cL_law 653 = .ok (.ireturn, 1) := by decide +kernel
theorem dL_law_654 : decode cL_law 654 = .ok (.aload_n 1, 1) := by decide +kernel
theorem dL_law_655 : decode cL_law 655 = .ok (.aload_n 0, 1) := by decide +kernel
theorem dL_law_656 : decode cL_law 656 = .ok (.iload_n 3, 1) := by decide +kernel
theorem dL_law_657 : decode cL_law 657 = .ok (.iconst 1, 1) := by decide +kernel
theorem dL_law_658 : decode cL_law 658 = .ok (.iadd, 1) := by decide +kernel
theorem dL_law_659 : decode cL_law 659 = .ok (.iaload, 1) := by decide +kernel
theorem dL_law_660 : decode cL_law 660 = .ok (.aload_n 0, 1) := by decide +kernel
theorem dL_law_661 : decode cL_law 661 = .ok (.iload_n 3, 1) := by decide +kernel
theorem dL_law_662 : decode cL_law 662 = .ok (.iconst 2, 1) := by decide +kernel
theorem dL_law_663 : decode cL_law 663 = .ok (.iadd, 1) := by decide +kernel
theorem dL_law_664 : decode cL_law 664 = .ok (.iaload, 1) := by decide +kernel
theorem dL_law_665 : decode cL_law 665 = .ok (.aload_n 0, 1) := by decide +kernel
theorem dL_law_666 : decode cL_law 666 = .ok (.iload_n 3, 1) := by decide +kernel
theorem dL_law_667 : decode cL_law 667 = .ok (.iconst 3, 1) := by decide +kernel
theorem dL_law_668 : decode cL_law 668 = .ok (.iadd, 1) := by decide +kernel
theorem dL_law_669 : decode cL_law 669 = .ok (.iaload, 1) := by decide +kernel
theorem dL_law_670 : decode cL_law 670 = .ok (.aload_n 0, 1) := by decide +kernel
theorem dL_law_671 : decode cL_law 671 = .ok (.iload_n 3, 1) := by decide +kernel
theorem dL_law_672 : decode cL_law 672 = .ok (.iconst 4, 1) := by decide +kernel
theorem dL_law_673 : decode cL_law 673 = .ok (.iadd, 1) := by decide +kernel
theorem dL_law_674 : decode cL_law 674 = .ok (.iaload, 1) := by decide +kernel
theorem dL_law_675 : decode cL_law 675 = .ok (.invokevirtual 90, 3) := by decide +kernel
theorem dL_law_678 : decode cL_law 678 = .ok (.aload_n 2, 1) := by decide +kernel
theorem dL_law_679 : decode cL_law 679 = .ok (.aload_n 0, 1) := by decide +kernel
theorem dL_law_680 : decode cL_law 680 = .ok (.iload_n 3, 1) := by decide +kernel
theorem dL_law_681 : decode cL_law 681 = .ok (.iconst 1, 1) := by decide +kernel
theorem dL_law_682 : decode cL_law 682 = .ok (.iadd, 1) := by decide +kernel
theorem dL_law_683 : decode cL_law 683 = .ok (.iaload, 1) := by decide +kernel
theorem dL_law_684 : decode cL_law 684 = .ok (.aload_n 0, 1) := by decide +kernel
theorem dL_law_685 : decode cL_law 685 = .ok (.iload_n 3, 1) := by decide +kernel
theorem dL_law_686 : decode cL_law 686 = .ok (.iconst 2, 1) := by decide +kernel
theorem dL_law_687 : decode cL_law 687 = .ok (.iadd, 1) := by decide +kernel
theorem dL_law_688 : decode cL_law 688 = .ok (.iaload, 1) := by decide +kernel
theorem dL_law_689 : decode cL_law 689 = .ok (.aload_n 0, 1) := by decide +kernel
theorem dL_law_690 : decode cL_law 690 = .ok (.iload_n 3, 1) := by decide +kernel
theorem dL_law_691 : decode cL_law 691 = .ok (.iconst 3, 1) := by decide +kernel
theorem dL_law_692 : decode cL_law 692 = .ok (.iadd, 1) := by decide +kernel
theorem dL_law_693 : decode cL_law 693 = .ok (.iaload, 1) := by decide +kernel
theorem dL_law_694 : decode cL_law 694 = .ok (.aload_n 0, 1) := by decide +kernel
theorem dL_law_695 : decode cL_law 695 = .ok (.iload_n 3, 1) := by decide +kernel
theorem dL_law_696 : decode cL_law 696 = .ok (.iconst 4, 1) := by decide +kernel
theorem dL_law_697 : decode cL_law 697 = .ok (.iadd, 1) := by decide +kernel
theorem dL_law_698 : decode cL_law 698 = .ok (.iaload, 1) := by decide +kernel
theorem dL_law_699 : decode cL_law 699 = .ok (.invokevirtual 94, 3) := by decide +kernel
theorem dL_law_702 : decode cL_law 702 = .ok (.if_icmp .eq 329, 3) := by decide +kernel
theorem dL_law_705 : decode cL_law 705 = .ok (.iconst 0, 1) := by decide +kernel
theorem dL_law_706 : decode cL_law 706 = .ok (.ireturn, 1) := by decide +kernel
theorem dL_law_707 : decode cL_law 707 = .ok (.aload_n 1, 1) := by decide +kernel
theorem dL_law_708 : decode cL_law 708 = .ok (.aload_n 0, 1) := by decide +kernel
theorem dL_law_709 : decode cL_law 709 = .ok (.iload_n 3, 1) := by decide +kernel
theorem dL_law_710 : decode cL_law 710 = .ok (.iconst 1, 1) := by decide +kernel
theorem dL_law_711 : decode cL_law 711 = .ok (.iadd, 1) := by decide +kernel
theorem dL_law_712 : decode cL_law 712 = .ok (.iaload, 1) := by decide +kernel
theorem dL_law_713 : decode cL_law 713 = .ok (.invokevirtual 95, 3) := by decide +kernel
theorem dL_law_716 : decode cL_law 716 = .ok (.aload_n 2, 1) := by decide +kernel
theorem dL_law_717 : decode cL_law 717 = .ok (.aload_n 0, 1) := by decide +kernel
theorem dL_law_718 : decode cL_law 718 = .ok (.iload_n 3, 1) := by decide +kernel
theorem dL_law_719 : decode cL_law 719 = .ok (.iconst 1, 1) := by decide +kernel
theorem dL_law_720 : decode cL_law 720 = .ok (.iadd, 1) := by decide +kernel
theorem dL_law_721 : decode cL_law 721 = .ok (.iaload, 1) := by decide +kernel
theorem dL_law_722 : decode cL_law 722 = .ok (.invokevirtual 98, 3) := by decide +kernel
theorem dL_law_725 : decode cL_law 725 = .ok (.if_icmp .eq 306, 3) := by decide +kernel
theorem dL_law_728 : decode cL_law 728 = .ok (.iconst 0, 1) := by decide +kernel
theorem dL_law_729 : decode cL_law 729 = .ok (.ireturn, 1) := by decide +kernel
theorem dL_law_730 : decode cL_law 730 = .ok (.aload_n 1, 1) := by decide +kernel
theorem dL_law_731 : decode cL_law 731 = .ok (.aload_n 0, 1) := by decide +kernel
theorem dL_law_732 : decode cL_law 732 = .ok (.iload_n 3, 1) := by decide +kernel
theorem dL_law_733 : decode cL_law 733 = .ok (.iconst 1, 1) := by decide +kernel
theorem dL_law_734 : decode cL_law 734 = .ok (.iadd, 1) := by decide +kernel
theorem dL_law_735 : decode cL_law 735 = .ok (.iaload, 1) := by decide +kernel
theorem dL_law_736 : decode cL_law 736 = .ok (.invokevirtual 99, 3) := by decide +kernel
theorem dL_law_739 : decode cL_law 739 = .ok (.aload_n 2, 1) := by decide +kernel
theorem dL_law_740 : decode cL_law 740 = .ok (.aload_n 0, 1) := by decide +kernel
theorem dL_law_741 : decode cL_law 741 = .ok (.iload_n 3, 1) := by decide +kernel
theorem dL_law_742 : decode cL_law 742 = .ok (.iconst 1, 1) := by decide +kernel
theorem dL_law_743 : decode cL_law 743 = .ok (.iadd, 1) := by decide +kernel
theorem dL_law_744 : decode cL_law 744 = .ok (.iaload, 1) := by decide +kernel
theorem dL_law_745 : decode cL_law 745 = .ok (.invokevirtual 102, 3) := by decide +kernel
theorem dL_law_748 : decode cL_law 748 = .ok (.if_icmp .eq 283, 3) := by decide +kernel
theorem dL_law_751 : decode cL_law 751 = .ok (.iconst 0, 1) := by decide +kernel
theorem dL_law_752 : decode cL_law 752 = .ok (.ireturn, 1) := by decide +kernel
theorem dL_law_753 : decode cL_law 753 = .ok (.aload_n 1, 1) := by decide +kernel
theorem dL_law_754 : decode cL_law 754 = .ok (.aload_n 0, 1) := by decide +kernel
theorem dL_law_755 : decode cL_law 755 = .ok (.iload_n 3, 1) := by decide +kernel
theorem dL_law_756 : decode cL_law 756 = .ok (.iconst 1, 1) := by decide +kernel
theorem dL_law_757 : decode cL_law 757 = .ok (.iadd, 1) := by decide +kernel
theorem dL_law_758 : decode cL_law 758 = .ok (.iaload, 1) := by decide +kernel
theorem dL_law_759 : decode cL_law 759 = .ok (.invokevirtual 103, 3) := by decide +kernel
theorem dL_law_762 : decode cL_law 762 = .ok (.aload_n 2, 1) := by decide +kernel
theorem dL_law_763 : decode cL_law 763 = .ok (.aload_n 0, 1) := by decide +kernel
theorem dL_law_764 : decode cL_law 764 = .ok (.iload_n 3, 1) := by decide +kernel
theorem dL_law_765 : decode cL_law 765 = .ok (.iconst 1, 1) := by decide +kernel
theorem dL_law_766 : decode cL_law 766 = .ok (.iadd, 1) := by decide +kernel
theorem dL_law_767 : decode cL_law 767 = .ok (.iaload, 1) := by decide +kernel
theorem dL_law_768 : decode cL_law 768 = .ok (.invokevirtual 106, 3) := by decide +kernel
theorem dL_law_771 : decode cL_law 771 = .ok (.if_icmp .eq 260, 3) := by decide +kernel
theorem dL_law_774 : decode cL_law 774 = .ok (.iconst 0, 1) := by decide +kernel
theorem dL_law_775 : decode cL_law 775 = .ok (.ireturn, 1) := by decide +kernel
theorem dL_law_776 : decode cL_law 776 = .ok (.aload_n 1, 1) := by decide +kernel
theorem dL_law_777 : decode cL_law 777 = .ok (.aload_n 0, 1) := by decide +kernel
theorem dL_law_778 : decode cL_law 778 = .ok (.iload_n 3, 1) := by decide +kernel
theorem dL_law_779 : decode cL_law 779 = .ok (.iconst 1, 1) := by decide +kernel
theorem dL_law_780 : decode cL_law 780 = .ok (.iadd, 1) := by decide +kernel
theorem dL_law_781 : decode cL_law 781 = .ok (.iaload, 1) := by decide +kernel
theorem dL_law_782 : decode cL_law 782 = .ok (.invokevirtual 107, 3) := by decide +kernel
theorem dL_law_785 : decode cL_law 785 = .ok (.aload_n 2, 1) := by decide +kernel
theorem dL_law_786 : decode cL_law 786 = .ok (.aload_n 0, 1) := by decide +kernel
theorem dL_law_787 : decode cL_law 787 = .ok (.iload_n 3, 1) := by decide +kernel
theorem dL_law_788 : decode cL_law 788 = .ok (.iconst 1, 1) := by decide +kernel
theorem dL_law_789 : decode cL_law 789 = .ok (.iadd, 1) := by decide +kernel
theorem dL_law_790 : decode cL_law 790 = .ok (.iaload, 1) := by decide +kernel
theorem dL_law_791 : decode cL_law 791 = .ok (.invokevirtual 110, 3) := by decide +kernel
theorem dL_law_794 : decode cL_law 794 = .ok (.if_icmp .eq 237, 3) := by decide +kernel
theorem dL_law_797 : decode cL_law 797 = .ok (.iconst 0, 1) := by decide +kernel
theorem dL_law_798 : decode cL_law 798 = .ok (.ireturn, 1) := by decide +kernel
theorem dL_law_799 : decode cL_law 799 = .ok (.aload_n 1, 1) := by decide +kernel
theorem dL_law_800 : decode cL_law 800 = .ok (.aload_n 0, 1) := by decide +kernel
theorem dL_law_801 : decode cL_law 801 = .ok (.iload_n 3, 1) := by decide +kernel
theorem dL_law_802 : decode cL_law 802 = .ok (.iconst 1, 1) := by decide +kernel
theorem dL_law_803 : decode cL_law 803 = .ok (.iadd, 1) := by decide +kernel
theorem dL_law_804 : decode cL_law 804 = .ok (.iaload, 1) := by decide +kernel
theorem dL_law_805 : decode cL_law 805 = .ok (.invokevirtual 111, 3) := by decide +kernel
theorem dL_law_808 : decode cL_law 808 = .ok (.aload_n 2, 1) := by decide +kernel
theorem dL_law_809 : decode cL_law 809 = .ok (.aload_n 0, 1) := by decide +kernel
theorem dL_law_810 : decode cL_law 810 = .ok (.iload_n 3, 1) := by decide +kernel
theorem dL_law_811 : decode cL_law 811 = .ok (.iconst 1, 1) := by decide +kernel
theorem dL_law_812 : decode cL_law 812 = .ok (.iadd, 1) := by decide +kernel
theorem dL_law_813 : decode cL_law 813 = .ok (.iaload, 1) := by decide +kernel
theorem dL_law_814 : decode cL_law 814 = .ok (.invokevirtual 114, 3) := by decide +kernel
theorem dL_law_817 : decode cL_law 817 = .ok (.if_icmp .eq 214, 3) := by decide +kernel
theorem dL_law_820 : decode cL_law 820 = .ok (.iconst 0, 1) := by decide +kernel
theorem dL_law_821 : decode cL_law 821 = .ok (.ireturn, 1) := by decide +kernel
theorem dL_law_822 : decode cL_law 822 = .ok (.aload_n 1, 1) := by decide +kernel
theorem dL_law_823 : decode cL_law 823 = .ok (.aload_n 0, 1) := by decide +kernel
theorem dL_law_824 : decode cL_law 824 = .ok (.iload_n 3, 1) := by decide +kernel
theorem dL_law_825 : decode cL_law 825 = .ok (.iconst 1, 1) := by decide +kernel
theorem dL_law_826 : decode cL_law 826 = .ok (.iadd, 1) := by decide +kernel
theorem dL_law_827 : decode cL_law 827 = .ok (.iaload, 1) := by decide +kernel
theorem dL_law_828 : decode cL_law 828 = .ok (.invokevirtual 115, 3) := by decide +kernel
theorem dL_law_831 : decode cL_law 831 = .ok (.aload_n 2, 1) := by decide +kernel
theorem dL_law_832 : decode cL_law 832 = .ok (.aload_n 0, 1) := by decide +kernel
theorem dL_law_833 : decode cL_law 833 = .ok (.iload_n 3, 1) := by decide +kernel
theorem dL_law_834 : decode cL_law 834 = .ok (.iconst 1, 1) := by decide +kernel
theorem dL_law_835 : decode cL_law 835 = .ok (.iadd, 1) := by decide +kernel
theorem dL_law_836 : decode cL_law 836 = .ok (.iaload, 1) := by decide +kernel
theorem dL_law_837 : decode cL_law 837 = .ok (.invokevirtual 118, 3) := by decide +kernel
theorem dL_law_840 : decode cL_law 840 = .ok (.if_icmp .eq 191, 3) := by decide +kernel
theorem dL_law_843 : decode cL_law 843 = .ok (.iconst 0, 1) := by decide +kernel
theorem dL_law_844 : decode cL_law 844 = .ok (.ireturn, 1) := by decide +kernel
theorem dL_law_845 : decode cL_law 845 = .ok (.aload_n 1, 1) := by decide +kernel
theorem dL_law_846 : decode cL_law 846 = .ok (.aload_n 0, 1) := by decide +kernel
theorem dL_law_847 : decode cL_law 847 = .ok (.iload_n 3, 1) := by decide +kernel
theorem dL_law_848 : decode cL_law 848 = .ok (.iconst 1, 1) := by decide +kernel
theorem dL_law_849 : decode cL_law 849 = .ok (.iadd, 1) := by decide +kernel
theorem dL_law_850 : decode cL_law 850 = .ok (.iaload, 1) := by decide +kernel
theorem dL_law_851 : decode cL_law 851 = .ok (.invokevirtual 119, 3) := by decide +kernel
theorem dL_law_854 : decode cL_law 854 = .ok (.aload_n 2, 1) := by decide +kernel
theorem dL_law_855 : decode cL_law 855 = .ok (.aload_n 0, 1) := by decide +kernel
theorem dL_law_856 : decode cL_law 856 = .ok (.iload_n 3, 1) := by decide +kernel
theorem dL_law_857 : decode cL_law 857 = .ok (.iconst 1, 1) := by decide +kernel
theorem dL_law_858 : decode cL_law 858 = .ok (.iadd, 1) := by decide +kernel
theorem dL_law_859 : decode cL_law 859 = .ok (.iaload, 1) := by decide +kernel
theorem dL_law_860 : decode cL_law 860 = .ok (.invokevirtual 122, 3) := by decide +kernel
theorem dL_law_863 : decode cL_law 863 = .ok (.if_icmp .eq 168, 3) := by decide +kernel
theorem dL_law_866 : decode cL_law 866 = .ok (.iconst 0, 1) := by decide +kernel
theorem dL_law_867 : decode cL_law 867 = .ok (.ireturn, 1) := by decide +kernel
theorem dL_law_868 : decode cL_law 868 = .ok (.aload_n 1, 1) := by decide +kernel
theorem dL_law_869 : decode cL_law 869 = .ok (.aload_n 0, 1) := by decide +kernel
theorem dL_law_870 : decode cL_law 870 = .ok (.iload_n 3, 1) := by decide +kernel
theorem dL_law_871 : decode cL_law 871 = .ok (.iconst 1, 1) := by decide +kernel
theorem dL_law_872 : decode cL_law 872 = .ok (.iadd, 1) := by decide +kernel
theorem dL_law_873 : decode cL_law 873 = .ok (.iaload, 1) := by decide +kernel
theorem dL_law_874 : decode cL_law 874 = .ok (.aload_n 0, 1) := by decide +kernel
theorem dL_law_875 : decode cL_law 875 = .ok (.iload_n 3, 1) := by decide +kernel
theorem dL_law_876 : decode cL_law 876 = .ok (.iconst 2, 1) := by decide +kernel
theorem dL_law_877 : decode cL_law 877 = .ok (.iadd, 1) := by decide +kernel
theorem dL_law_878 : decode cL_law 878 = .ok (.iaload, 1) := by decide +kernel
theorem dL_law_879 : decode cL_law 879 = .ok (.invokevirtual 123, 3) := by decide +kernel
theorem dL_law_882 : decode cL_law 882 = .ok (.aload_n 2, 1) := by decide +kernel
theorem dL_law_883 : decode cL_law 883 = .ok (.aload_n 0, 1) := by decide +kernel
theorem dL_law_884 : decode cL_law 884 = .ok (.iload_n 3, 1) := by decide +kernel
theorem dL_law_885 : decode cL_law 885 = .ok (.iconst 1, 1) := by decide +kernel
theorem dL_law_886 : decode cL_law 886 = .ok (.iadd, 1) := by decide +kernel
theorem dL_law_887 : decode cL_law 887 = .ok (.iaload, 1) := by decide +kernel
theorem dL_law_888 : decode cL_law 888 = .ok (.aload_n 0, 1) := by decide +kernel
theorem dL_law_889 : decode cL_law 889 = .ok (.iload_n 3, 1) := by decide +kernel
theorem dL_law_890 : decode cL_law 890 = .ok (.iconst 2, 1) := by decide +kernel
theorem dL_law_891 : decode cL_law 891 = .ok (.iadd, 1) := by decide +kernel
theorem dL_law_892 : decode cL_law 892 = .ok (.iaload, 1) := by decide +kernel
theorem dL_law_893 : decode cL_law 893 = .ok (.invokevirtual 126, 3) := by decide +kernel
theorem dL_law_896 : decode cL_law 896 = .ok (.if_icmp .eq 135, 3) := by decide +kernel
theorem dL_law_899 : decode cL_law 899 = .ok (.iconst 0, 1) := by decide +kernel
theorem dL_law_900 : decode cL_law 900 = .ok (.ireturn, 1) := by decide +kernel
theorem dL_law_901 : decode cL_law 901 = .ok (.aload_n 1, 1) := by decide +kernel
theorem dL_law_902 : decode cL_law 902 = .ok (.aload_n 0, 1) := by decide +kernel
theorem dL_law_903 : decode cL_law 903 = .ok (.iload_n 3, 1) := by decide +kernel
theorem dL_law_904 : decode cL_law 904 = .ok (.iconst 1, 1) := by decide +kernel
theorem dL_law_905 : decode cL_law 905 = .ok (.iadd, 1) := by decide +kernel
theorem dL_law_906 : decode cL_law 906 = .ok (.iaload, 1) := by decide +kernel
theorem dL_law_907 : decode cL_law 907 = .ok (.invokevirtual 127, 3) := by decide +kernel
theorem dL_law_910 : decode cL_law 910 = .ok (.aload_n 2, 1) := by decide +kernel
theorem dL_law_911 : decode cL_law 911 = .ok (.aload_n 0, 1) := by decide +kernel
theorem dL_law_912 : decode cL_law 912 = .ok (.iload_n 3, 1) := by decide +kernel
theorem dL_law_913 : decode cL_law 913 = .ok (.iconst 1, 1) := by decide +kernel
theorem dL_law_914 : decode cL_law 914 = .ok (.iadd, 1) := by decide +kernel
theorem dL_law_915 : decode cL_law 915 = .ok (.iaload, 1) := by decide +kernel
theorem dL_law_916 : decode cL_law 916 = .ok (.invokevirtual 131, 3) := by decide +kernel
theorem dL_law_919 : decode cL_law 919 = .ok (.lcmp, 1) := by decide +kernel
theorem dL_law_920 : decode cL_law 920 = .ok (.ifCond .eq 111, 3) := by decide +kernel
theorem dL_law_923 : decode cL_law 923 = .ok (.iconst 0, 1) := by decide +kernel
theorem dL_law_924 : decode cL_law 924 = .ok (.ireturn, 1) := by decide +kernel
theorem dL_law_925 : decode cL_law 925 = .ok (.aload_n 1, 1) := by decide +kernel
theorem dL_law_926 : decode cL_law 926 = .ok (.aload_n 0, 1) := by decide +kernel
theorem dL_law_927 : decode cL_law 927 = .ok (.iload_n 3, 1) := by decide +kernel
theorem dL_law_928 : decode cL_law 928 = .ok (.iconst 1, 1) := by decide +kernel
theorem dL_law_929 : decode cL_law 929 = .ok (.iadd, 1) := by decide +kernel
theorem dL_law_930 : decode cL_law 930 = .ok (.iaload, 1) := by decide +kernel
theorem dL_law_931 : decode cL_law 931 = .ok (.invokevirtual 132, 3) := by decide +kernel
theorem dL_law_934 : decode cL_law 934 = .ok (.aload_n 2, 1) := by decide +kernel
theorem dL_law_935 : decode cL_law 935 = .ok (.aload_n 0, 1) := by decide +kernel
theorem dL_law_936 : decode cL_law 936 = .ok (.iload_n 3, 1) := by decide +kernel
theorem dL_law_937 : decode cL_law 937 = .ok (.iconst 1, 1) := by decide +kernel
theorem dL_law_938 : decode cL_law 938 = .ok (.iadd, 1) := by decide +kernel
theorem dL_law_939 : decode cL_law 939 = .ok (.iaload, 1) := by decide +kernel
theorem dL_law_940 : decode cL_law 940 = .ok (.invokevirtual 135, 3) := by decide +kernel
theorem dL_law_943 : decode cL_law 943 = .ok (.if_icmp .eq 88, 3) := by decide +kernel
theorem dL_law_946 : decode cL_law 946 = .ok (.iconst 0, 1) := by decide +kernel
theorem dL_law_947 : decode cL_law 947 = .ok (.ireturn, 1) := by decide +kernel
theorem dL_law_948 : decode cL_law 948 = .ok (.aload_n 1, 1) := by decide +kernel
theorem dL_law_949 : decode cL_law 949 = .ok (.aload_n 0, 1) := by decide +kernel
theorem dL_law_950 : decode cL_law 950 = .ok (.iload_n 3, 1) := by decide +kernel
theorem dL_law_951 : decode cL_law 951 = .ok (.iconst 1, 1) := by decide +kernel
theorem dL_law_952 : decode cL_law 952 = .ok (.iadd, 1) := by decide +kernel
theorem dL_law_953 : decode cL_law 953 = .ok (.iaload, 1) := by decide +kernel
theorem dL_law_954 : decode cL_law 954 = .ok (.invokevirtual 136, 3) := by decide +kernel
theorem dL_law_957 : decode cL_law 957 = .ok (.aload_n 2, 1) := by decide +kernel
theorem dL_law_958 : decode cL_law 958 = .ok (.aload_n 0, 1) := by decide +kernel
theorem dL_law_959 : decode cL_law 959 = .ok (.iload_n 3, 1) := by decide +kernel
theorem dL_law_960 : decode cL_law 960 = .ok (.iconst 1, 1) := by decide +kernel
theorem dL_law_961 : decode cL_law 961 = .ok (.iadd, 1) := by decide +kernel
theorem dL_law_962 : decode cL_law 962 = .ok (.iaload, 1) := by decide +kernel
theorem dL_law_963 : decode cL_law 963 = .ok (.invokevirtual 139, 3) := by decide +kernel
theorem dL_law_966 : decode cL_law 966 = .ok (.if_icmp .eq 65, 3) := by decide +kernel
theorem dL_law_969 : decode cL_law 969 = .ok (.iconst 0, 1) := by decide +kernel
theorem dL_law_970 : decode cL_law 970 = .ok (.ireturn, 1) := by decide +kernel
theorem dL_law_971 : decode cL_law 971 = .ok (.aload_n 1, 1) := by decide +kernel
theorem dL_law_972 : decode cL_law 972 = .ok (.aload_n 0, 1) := by decide +kernel
theorem dL_law_973 : decode cL_law 973 = .ok (.iload_n 3, 1) := by decide +kernel
theorem dL_law_974 : decode cL_law 974 = .ok (.iconst 1, 1) := by decide +kernel
theorem dL_law_975 : decode cL_law 975 = .ok (.iadd, 1) := by decide +kernel
theorem dL_law_976 : decode cL_law 976 = .ok (.iaload, 1) := by decide +kernel
theorem dL_law_977 : decode cL_law 977 = .ok (.invokevirtual 140, 3) := by decide +kernel
theorem dL_law_980 : decode cL_law 980 = .ok (.aload_n 2, 1) := by decide +kernel
theorem dL_law_981 : decode cL_law 981 = .ok (.aload_n 0, 1) := by decide +kernel
theorem dL_law_982 : decode cL_law 982 = .ok (.iload_n 3, 1) := by decide +kernel
theorem dL_law_983 : decode cL_law 983 = .ok (.iconst 1, 1) := by decide +kernel
theorem dL_law_984 : decode cL_law 984 = .ok (.iadd, 1) := by decide +kernel
theorem dL_law_985 : decode cL_law 985 = .ok (.iaload, 1) := by decide +kernel
theorem dL_law_986 : decode cL_law 986 = .ok (.invokevirtual 143, 3) := by decide +kernel
theorem dL_law_989 : decode cL_law 989 = .ok (.if_icmp .eq 42, 3) := by decide +kernel
theorem dL_law_992 : decode cL_law 992 = .ok (.iconst 0, 1) := by decide +kernel
theorem dL_law_993 : decode cL_law 993 = .ok (.ireturn, 1) := by decide +kernel
theorem dL_law_994 : decode cL_law 994 = .ok (.aload_n 1, 1) := by decide +kernel
theorem dL_law_995 : decode cL_law 995 = .ok (.aload_n 0, 1) := by decide +kernel
theorem dL_law_996 : decode cL_law 996 = .ok (.iload_n 3, 1) := by decide +kernel
theorem dL_law_997 : decode cL_law 997 = .ok (.iconst 1, 1) := by decide +kernel
theorem dL_law_998 : decode cL_law 998 = .ok (.iadd, 1) := by decide +kernel
theorem dL_law_999 : decode cL_law 999 = .ok (.iaload, 1) := by decide +kernel
theorem dL_law_1000 : decode cL_law 1000 = .ok (.invokevirtual 144, 3) := by decide +kernel
theorem dL_law_1003 : decode cL_law 1003 = .ok (.aload_n 2, 1) := by decide +kernel
theorem dL_law_1004 : decode cL_law 1004 = .ok (.aload_n 0, 1) := by decide +kernel
theorem dL_law_1005 : decode cL_law 1005 = .ok (.iload_n 3, 1) := by decide +kernel
theorem dL_law_1006 : decode cL_law 1006 = .ok (.iconst 1, 1) := by decide +kernel
theorem dL_law_1007 : decode cL_law 1007 = .ok (.iadd, 1) := by decide +kernel
theorem dL_law_1008 : decode cL_law 1008 = .ok (.iaload, 1) := by decide +kernel
theorem dL_law_1009 : decode cL_law 1009 = .ok (.invokevirtual 147, 3) := by decide +kernel
theorem dL_law_1012 : decode cL_law 1012 = .ok (.if_icmp .eq 19, 3) := by decide +kernel
theorem dL_law_1015 : decode cL_law 1015 = .ok (.iconst 0, 1) := by decide +kernel
theorem dL_law_1016 : decode cL_law 1016 = .ok (.ireturn, 1) := by decide +kernel
theorem dL_law_1017 : decode cL_law 1017 = .ok (.aload_n 1, 1) := by decide +kernel
theorem dL_law_1018 : decode cL_law 1018 = .ok (.invokevirtual 148, 3) := by decide +kernel
theorem dL_law_1021 : decode cL_law 1021 = .ok (.aload_n 2, 1) := by decide +kernel
theorem dL_law_1022 : decode cL_law 1022 = .ok (.invokevirtual 152, 3) := by decide +kernel
theorem dL_law_1025 : decode cL_law 1025 = .ok (.lcmp, 1) := by decide +kernel
theorem dL_law_1026 : decode cL_law 1026 = .ok (.ifCond .eq 5, 3) := by decide +kernel
theorem dL_law_1029 : decode cL_law 1029 = .ok (.iconst 0, 1) := by decide +kernel
theorem dL_law_1030 : decode cL_law 1030 = .ok (.ireturn, 1) := by decide +kernel
theorem dL_law_1031 : decode cL_law 1031 = .ok (.iinc 3 6, 3) := by decide +kernel
theorem dL_law_1034 : decode cL_law 1034 = .ok (.goto (-1016), 3) := by decide +kernel
theorem dL_law_1037 : decode cL_law 1037 = .ok (.iconst 1, 1) := by decide +kernel
theorem dL_law_1038 : decode cL_law 1038 = .ok (.ireturn, 1) := by decide +kernel
abbrev vwCl : List vw_C := [(RX1, TX1, 9), (RX2, TX2, 2), (RX3, TX3, 10), (RX7, TX7, 6), (RX8, TX8, 8), (RX9, TX9, 28)]
