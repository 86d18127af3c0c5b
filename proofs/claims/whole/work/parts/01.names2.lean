theorem dX9_in_10 : decode cX9_in 10 = .ok (.ifCond .gt 7, 3) := by decide +kernel
theorem dX9_in_13 : decode cX9_in 13 = .ok (.iconst 1, 1) := by decide +kernel
theorem dX9_in_14 : decode cX9_in 14 = .ok (.goto 4, 3) := by decide +kernel
theorem dX9_in_17 : decode cX9_in 17 = .ok (.iconst 0, 1) := by decide +kernel
theorem dX9_in_18 : decode cX9_in 18 = .ok (.ireturn, 1) := by decide +kernel
theorem dX9_bad_0 : decode cX9_bad 0 = .ok (.aload_n 0, 1) := by decide +kernel
theorem dX9_bad_1 : decode cX9_bad 1 = .ok (.getfield 20, 3) := by decide +kernel
theorem dX9_bad_4 : decode cX9_bad 4 = .ok (.iconst 0, 1) := by decide +kernel
theorem dX9_bad_5 : decode cX9_bad 5 = .ok (.dup2, 1) := by decide +kernel
theorem dX9_bad_6 : decode cX9_bad 6 = .ok (.iaload, 1) := by decide +kernel
theorem dX9_bad_7 : decode cX9_bad 7 = .ok (.iconst 1, 1) := by decide +kernel
theorem dX9_bad_8 : decode cX9_bad 8 = .ok (.iadd, 1) := by decide +kernel
theorem dX9_bad_9 : decode cX9_bad 9 = .ok (.iastore, 1) := by decide +kernel
theorem dX9_bad_10 : decode cX9_bad 10 = .ok (.iload_n 1, 1) := by decide +kernel
theorem dX9_bad_11 : decode cX9_bad 11 = .ok (.ireturn, 1) := by decide +kernel
theorem dX9_no_0 : decode cX9_no 0 = .ok (.aload_n 0, 1) := by decide +kernel
theorem dX9_no_1 : decode cX9_no 1 = .ok (.getfield 20, 3) := by decide +kernel
theorem dX9_no_4 : decode cX9_no 4 = .ok (.iconst 1, 1) := by decide +kernel
theorem dX9_no_5 : decode cX9_no 5 = .ok (.dup2, 1) := by decide +kernel
theorem dX9_no_6 : decode cX9_no 6 = .ok (.iaload, 1) := by decide +kernel
theorem dX9_no_7 : decode cX9_no 7 = .ok (.iconst 1, 1) := by decide +kernel
theorem dX9_no_8 : decode cX9_no 8 = .ok (.iadd, 1) := by decide +kernel
theorem dX9_no_9 : decode cX9_no 9 = .ok (.iastore, 1) := by decide +kernel
theorem dX9_no_10 : decode cX9_no 10 = .ok (.iload_n 1, 1) := by decide +kernel
theorem dX9_no_11 : decode cX9_no 11 = .ok (.ireturn, 1) := by decide +kernel
theorem dX9_full_0 : decode cX9_full 0 = .ok (.aload_n 0, 1) := by decide +kernel
theorem dX9_full_1 : decode cX9_full 1 = .ok (.getfield 20, 3) := by decide +kernel
theorem dX9_full_4 : decode cX9_full 4 = .ok (.iconst 2, 1) := by decide +kernel
theorem dX9_full_5 : decode cX9_full 5 = .ok (.dup2, 1) := by decide +kernel
theorem dX9_full_6 : decode cX9_full 6 = .ok (.iaload, 1) := by decide +kernel
theorem dX9_full_7 : decode cX9_full 7 = .ok (.iconst 1, 1) := by decide +kernel
theorem dX9_full_8 : decode cX9_full 8 = .ok (.iadd, 1) := by decide +kernel
theorem dX9_full_9 : decode cX9_full 9 = .ok (.iastore, 1) := by decide +kernel
theorem dX9_full_10 : decode cX9_full 10 = .ok (.bipush (-4), 2) := by decide +kernel
theorem dX9_full_12 : decode cX9_full 12 = .ok (.ireturn, 1) := by decide +kernel
theorem dX9_bits_0 : decode cX9_bits 0 = .ok (.iconst 0, 1) := by decide +kernel
theorem dX9_bits_1 : decode cX9_bits 1 = .ok (.istore_n 1, 1) := by decide +kernel
theorem dX9_bits_2 : decode cX9_bits 2 = .ok (.iload_n 0, 1) := by decide +kernel
theorem dX9_bits_3 : decode cX9_bits 3 = .ok (.istore_n 2, 1) := by decide +kernel
theorem dX9_bits_4 : decode cX9_bits 4 = .ok (.iload_n 2, 1) := by decide +kernel
theorem dX9_bits_5 : decode cX9_bits 5 = .ok (.ifCond .le 16, 3) := by decide +kernel
theorem dX9_bits_8 : decode cX9_bits 8 = .ok (.iload_n 1, 1) := by decide +kernel
theorem dX9_bits_9 : decode cX9_bits 9 = .ok (.iload_n 2, 1) := by decide +kernel
theorem dX9_bits_10 : decode cX9_bits 10 = .ok (.iconst 1, 1) := by decide +kernel
theorem dX9_bits_11 : decode cX9_bits 11 = .ok (.iand, 1) := by decide +kernel
theorem dX9_bits_12 : decode cX9_bits 12 = .ok (.iadd, 1) := by decide +kernel
theorem dX9_bits_13 : decode cX9_bits 13 = .ok (.istore_n 1, 1) := by decide +kernel
theorem dX9_bits_14 : decode cX9_bits 14 = .ok (.iload_n 2, 1) := by decide +kernel
theorem dX9_bits_15 : decode cX9_bits 15 = .ok (.iconst 1, 1) := by decide +kernel
theorem dX9_bits_16 : decode cX9_bits 16 = .ok (.ishr, 1) := by decide +kernel
theorem dX9_bits_17 : decode cX9_bits 17 = .ok (.istore_n 2, 1) := by decide +kernel
theorem dX9_bits_18 : decode cX9_bits 18 = .ok (.goto (-14), 3) := by decide +kernel
theorem dX9_bits_21 : decode cX9_bits 21 = .ok (.iload_n 1, 1) := by decide +kernel
theorem dX9_bits_22 : decode cX9_bits 22 = .ok (.ireturn, 1) := by decide +kernel
theorem dX9_has_0 : decode cX9_has 0 = .ok (.iload_n 0, 1) := by decide +kernel
theorem dX9_has_1 : decode cX9_has 1 = .ok (.iload_n 1, 1) := by decide +kernel
theorem dX9_has_2 : decode cX9_has 2 = .ok (.ishr, 1) := by decide +kernel
theorem dX9_has_3 : decode cX9_has 3 = .ok (.iconst 1, 1) := by decide +kernel
theorem dX9_has_4 : decode cX9_has 4 = .ok (.iand, 1) := by decide +kernel
theorem dX9_has_5 : decode cX9_has 5 = .ok (.iconst 1, 1) := by decide +kernel
theorem dX9_has_6 : decode cX9_has 6 = .ok (.if_icmp .ne 7, 3) := by decide +kernel
theorem dX9_has_9 : decode cX9_has 9 = .ok (.iconst 1, 1) := by decide +kernel
theorem dX9_has_10 : decode cX9_has 10 = .ok (.goto 4, 3) := by decide +kernel
theorem dX9_has_13 : decode cX9_has 13 = .ok (.iconst 0, 1) := by decide +kernel
theorem dX9_has_14 : decode cX9_has 14 = .ok (.ireturn, 1) := by decide +kernel
theorem dX9_begin_0 : decode cX9_begin 0 = .ok (.iconst 0, 1) := by decide +kernel
theorem dX9_begin_1 : decode cX9_begin 1 = .ok (.istore_n 3, 1) := by decide +kernel
theorem dX9_begin_2 : decode cX9_begin 2 = .ok (.iload_n 3, 1) := by decide +kernel
theorem dX9_begin_3 : decode cX9_begin 3 = .ok (.bipush 90, 2) := by decide +kernel
theorem dX9_begin_5 : decode cX9_begin 5 = .ok (.if_icmp .ge 13, 3) := by decide +kernel
theorem dX9_begin_8 : decode cX9_begin 8 = .ok (.aload_n 0, 1) := by decide +kernel
theorem dX9_begin_9 : decode cX9_begin 9 = .ok (.iload_n 3, 1) := by decide +kernel
theorem dX9_begin_10 : decode cX9_begin 10 = .ok (.iconst 0, 1) := by decide +kernel
theorem dX9_begin_11 : decode cX9_begin 11 = .ok (.iastore, 1) := by decide +kernel
theorem dX9_begin_12 : decode cX9_begin 12 = .ok (.iinc 3 1, 3) := by decide +kernel
theorem dX9_begin_15 : decode cX9_begin 15 = .ok (.goto (-13), 3) := by decide +kernel
theorem dX9_begin_18 : decode cX9_begin 18 = .ok (.aload_n 0, 1) := by decide +kernel
theorem dX9_begin_19 : decode cX9_begin 19 = .ok (.bipush 30, 2) := by decide +kernel
theorem dX9_begin_21 : decode cX9_begin 21 = .ok (.iload_n 1, 1) := by decide +kernel
theorem dX9_begin_22 : decode cX9_begin 22 = .ok (.iastore, 1) := by decide +kernel
theorem dX9_begin_23 : decode cX9_begin 23 = .ok (.aload_n 0, 1) := by decide +kernel
theorem dX9_begin_24 : decode cX9_begin 24 = .ok (.bipush 31, 2) := by decide +kernel
theorem dX9_begin_26 : decode cX9_begin 26 = .ok (.iload_n 2, 1) := by decide +kernel
theorem dX9_begin_27 : decode cX9_begin 27 = .ok (.iastore, 1) := by decide +kernel
theorem dX9_begin_28 : decode cX9_begin 28 = .ok (.aload_n 0, 1) := by decide +kernel
theorem dX9_begin_29 : decode cX9_begin 29 = .ok (.bipush 12, 2) := by decide +kernel
theorem dX9_begin_31 : decode cX9_begin 31 = .ok (.iconst 1, 1) := by decide +kernel
theorem dX9_begin_32 : decode cX9_begin 32 = .ok (.iastore, 1) := by decide +kernel
theorem dX9_begin_33 : decode cX9_begin 33 = .ok (.aload_n 0, 1) := by decide +kernel
theorem dX9_begin_34 : decode cX9_begin 34 = .ok (.bipush 13, 2) := by decide +kernel
theorem dX9_begin_36 : decode cX9_begin 36 = .ok (.iconst 1, 1) := by decide +kernel
theorem dX9_begin_37 : decode cX9_begin 37 = .ok (.iastore, 1) := by decide +kernel
theorem dX9_begin_38 : decode cX9_begin 38 = .ok (.aload_n 0, 1) := by decide +kernel
theorem dX9_begin_39 : decode cX9_begin 39 = .ok (.bipush 17, 2) := by decide +kernel
theorem dX9_begin_41 : decode cX9_begin 41 = .ok (.iconst (-1), 1) := by decide +kernel
theorem dX9_begin_42 : decode cX9_begin 42 = .ok (.iastore, 1) := by decide +kernel
theorem dX9_begin_43 : decode cX9_begin 43 = .ok (.return_, 1) := by decide +kernel
theorem dX9_many_0 : decode cX9_many 0 = .ok (.aload_n 0, 1) := by decide +kernel
theorem dX9_many_1 : decode cX9_many 1 = .ok (.getfield 7, 3) := by decide +kernel
theorem dX9_many_4 : decode cX9_many 4 = .ok (.iconst 0, 1) := by decide +kernel
theorem dX9_many_5 : decode cX9_many 5 = .ok (.iaload, 1) := by decide +kernel
theorem dX9_many_6 : decode cX9_many 6 = .ok (.ireturn, 1) := by decide +kernel
set_option maxRecDepth 20000 in
theorem ggX9_isPoint_X9_many : GoodIn wsX9_isPoint wsX9_many := goodIn_r _ [5, 6, 10, 11, 12, 13, 14, 15, 16, 17, 18, 19, 20, 21, 22, 23, 24, 25, 26, 27, 28, 29, 30, 31, 32, 33, 34, 35, 36, 37] (by decide +kernel) (by decide +kernel)
set_option maxRecDepth 20000 in
theorem gX9_isPoint_X9_many : GoodIn wsX9_isPoint (wsV RX9 70 RX9 yX9_many wsX9_many) := goodIn_app (goodIn_of _ (by decide +kernel)) ggX9_isPoint_X9_many
set_option maxRecDepth 20000 in
theorem ggX9_isPoint_X9_in : GoodIn wsX9_isPoint wsX9_in := goodIn_r _ [9] (by decide +kernel) (by decide +kernel)
set_option maxRecDepth 20000 in
theorem gX9_isPoint_X9_in : GoodIn wsX9_isPoint (va_wsS RX9 74 yX9_in wsX9_in) := goodIn_app (goodIn_of _ (by decide +kernel)) ggX9_isPoint_X9_in
theorem dX9_isPoint_0 : decode cX9_isPoint 0 = .ok (.iload_n 1, 1) := by decide +kernel
theorem dX9_isPoint_1 : decode cX9_isPoint 1 = .ok (.i2l, 1) := by decide +kernel
theorem dX9_isPoint_2 : decode cX9_isPoint 2 = .ok (.lconst 0, 1) := by decide +kernel
theorem dX9_isPoint_3 : decode cX9_isPoint 3 = .ok (.aload_n 0, 1) := by decide +kernel
theorem dX9_isPoint_4 : decode cX9_isPoint 4 = .ok (.invokevirtual 70, 3) := by decide +kernel
theorem dX9_isPoint_7 : decode cX9_isPoint 7 = .ok (.iconst 1, 1) := by decide +kernel
theorem dX9_isPoint_8 : decode cX9_isPoint 8 = .ok (.isub, 1) := by decide +kernel
theorem dX9_isPoint_9 : decode cX9_isPoint 9 = .ok (.i2l, 1) := by decide +kernel
theorem dX9_isPoint_10 : decode cX9_isPoint 10 = .ok (.invokestatic 74, 3) := by decide +kernel
theorem dX9_isPoint_13 : decode cX9_isPoint 13 = .ok (.ireturn, 1) := by decide +kernel
set_option maxRecDepth 20000 in
theorem ggX9_isCounsel_X9_in : GoodIn wsX9_isCounsel wsX9_in := goodIn_r _ [4] (by decide +kernel) (by decide +kernel)
set_option maxRecDepth 20000 in
theorem gX9_isCounsel_X9_in : GoodIn wsX9_isCounsel (va_wsS RX9 74 yX9_in wsX9_in) := goodIn_app (goodIn_of _ (by decide +kernel)) ggX9_isCounsel_X9_in
theorem dX9_isCounsel_0 : decode cX9_isCounsel 0 = .ok (.iload_n 0, 1) := by decide +kernel
theorem dX9_isCounsel_1 : decode cX9_isCounsel 1 = .ok (.i2l, 1) := by decide +kernel
theorem dX9_isCounsel_2 : decode cX9_isCounsel 2 = .ok (.lconst 0, 1) := by decide +kernel
theorem dX9_isCounsel_3 : decode cX9_isCounsel 3 = .ok (.lconst 1, 1) := by decide +kernel
theorem dX9_isCounsel_4 : decode cX9_isCounsel 4 = .ok (.invokestatic 74, 3) := by decide +kernel
theorem dX9_isCounsel_7 : decode cX9_isCounsel 7 = .ok (.ireturn, 1) := by decide +kernel
set_option maxRecDepth 20000 in
theorem ggX9_isKind_X9_in : GoodIn wsX9_isKind wsX9_in := goodIn_r _ [5] (by decide +kernel) (by decide +kernel)
set_option maxRecDepth 20000 in
theorem gX9_isKind_X9_in : GoodIn wsX9_isKind (va_wsS RX9 74 yX9_in wsX9_in) := goodIn_app (goodIn_of _ (by decide +kernel)) ggX9_isKind_X9_in
theorem dX9_isKind_0 : decode cX9_isKind 0 = .ok (.iload_n 0, 1) := by decide +kernel
theorem dX9_isKind_1 : decode cX9_isKind 1 = .ok (.i2l, 1) := by decide +kernel
theorem dX9_isKind_2 : decode cX9_isKind 2 = .ok (.lconst 0, 1) := by decide +kernel
theorem dX9_isKind_3 : decode cX9_isKind 3 = .ok (.ldc2_w 78, 3) := by decide +kernel
theorem dX9_isKind_6 : decode cX9_isKind 6 = .ok (.invokestatic 74, 3) := by decide +kernel
theorem dX9_isKind_9 : decode cX9_isKind 9 = .ok (.ireturn, 1) := by decide +kernel
set_option maxRecDepth 20000 in
theorem ggX9_suit_X9_isKind : GoodIn wsX9_suit wsX9_isKind := goodIn_r _ [5, 6, 7, 8, 4, 9] (by decide +kernel) (by decide +kernel)
set_option maxRecDepth 20000 in
theorem gX9_suit_X9_isKind : GoodIn wsX9_suit (va_wsS RX9 80 yX9_isKind wsX9_isKind) := goodIn_app (goodIn_of _ (by decide +kernel)) ggX9_suit_X9_isKind
set_option maxRecDepth 20000 in
theorem ggX9_suit_X9_bad : GoodIn wsX9_suit wsX9_bad := goodIn_r _ [13, 14, 22, 23, 24, 25, 26, 27, 28, 29, 30, 31, 32, 33, 34, 35, 36, 37, 38, 39, 40, 41, 42, 43, 44, 45, 46, 47, 48, 49] (by decide +kernel) (by decide +kernel)
set_option maxRecDepth 20000 in
theorem gX9_suit_X9_bad : GoodIn wsX9_suit (wsV RX9 84 RX9 yX9_bad wsX9_bad) := goodIn_app (goodIn_of _ (by decide +kernel)) ggX9_suit_X9_bad
set_option maxRecDepth 20000 in
theorem ggX9_suit_X9_many : GoodIn wsX9_suit wsX9_many := goodIn_r _ [18, 1, 22, 23, 24, 25, 26, 27, 28, 29, 30, 31, 32, 33, 34, 35, 36, 37, 38, 39, 40, 41, 42, 43, 44, 45, 46, 47, 48, 49] (by decide +kernel) (by decide +kernel)
set_option maxRecDepth 20000 in
theorem gX9_suit_X9_many : GoodIn wsX9_suit (wsV RX9 70 RX9 yX9_many wsX9_many) := goodIn_app (goodIn_of _ (by decide +kernel)) ggX9_suit_X9_many
set_option maxRecDepth 20000 in
theorem ggX9_suit_X9_begin : GoodIn wsX9_suit wsX9_begin := goodIn_r _ [21] (by decide +kernel) (by decide +kernel)
set_option maxRecDepth 20000 in
theorem gX9_suit_X9_begin : GoodIn wsX9_suit (va_wsS RX9 66 yX9_begin wsX9_begin) := goodIn_app (goodIn_of _ (by decide +kernel)) ggX9_suit_X9_begin
theorem dX9_suit_0 : decode cX9_suit 0 = .ok (.iload_n 1, 1) := by decide +kernel
theorem dX9_suit_1 : decode cX9_suit 1 = .ok (.invokestatic 80, 3) := by decide +kernel
theorem dX9_suit_4 : decode cX9_suit 4 = .ok (.ifCond .eq 10, 3) := by decide +kernel
theorem dX9_suit_7 : decode cX9_suit 7 = .ok (.iload_n 2, 1) := by decide +kernel
theorem dX9_suit_8 : decode cX9_suit 8 = .ok (.invokestatic 80, 3) := by decide +kernel
theorem dX9_suit_11 : decode cX9_suit 11 = .ok (.ifCond .ne 10, 3) := by decide +kernel
theorem dX9_suit_14 : decode cX9_suit 14 = .ok (.aload_n 0, 1) := by decide +kernel
theorem dX9_suit_15 : decode cX9_suit 15 = .ok (.bipush (-2), 2) := by decide +kernel
theorem dX9_suit_17 : decode cX9_suit 17 = .ok (.invokevirtual 84, 3) := by decide +kernel
theorem dX9_suit_20 : decode cX9_suit 20 = .ok (.ireturn, 1) := by decide +kernel
theorem dX9_suit_21 : decode cX9_suit 21 = .ok (.aload_n 0, 1) := by decide +kernel
theorem dX9_suit_22 : decode cX9_suit 22 = .ok (.invokevirtual 70, 3) := by decide +kernel
theorem dX9_suit_25 : decode cX9_suit 25 = .ok (.istore_n 3, 1) := by decide +kernel
theorem dX9_suit_26 : decode cX9_suit 26 = .ok (.aload_n 0, 1) := by decide +kernel
theorem dX9_suit_27 : decode cX9_suit 27 = .ok (.getfield 7, 3) := by decide +kernel
theorem dX9_suit_30 : decode cX9_suit 30 = .ok (.iload_n 1, 1) := by decide +kernel
theorem dX9_suit_31 : decode cX9_suit 31 = .ok (.iload_n 2, 1) := by decide +kernel
theorem dX9_suit_32 : decode cX9_suit 32 = .ok (.invokestatic 66, 3) := by decide +kernel
theorem dX9_suit_35 : decode cX9_suit 35 = .ok (.iload_n 3, 1) := by decide +kernel
theorem dX9_suit_36 : decode cX9_suit 36 = .ok (.ireturn, 1) := by decide +kernel
set_option maxRecDepth 20000 in
theorem ggX9_bows_X9_isCounsel : GoodIn wsX9_bows wsX9_isCounsel := goodIn_r _ [6, 7, 8, 5, 9] (by decide +kernel) (by decide +kernel)
set_option maxRecDepth 20000 in
theorem gX9_bows_X9_isCounsel : GoodIn wsX9_bows (va_wsS RX9 88 yX9_isCounsel wsX9_isCounsel) := goodIn_app (goodIn_of _ (by decide +kernel)) ggX9_bows_X9_isCounsel
set_option maxRecDepth 20000 in
theorem ggX9_bows_X9_in : GoodIn wsX9_bows wsX9_in := goodIn_r _ [9] (by decide +kernel) (by decide +kernel)
set_option maxRecDepth 20000 in
theorem gX9_bows_X9_in : GoodIn wsX9_bows (va_wsS RX9 74 yX9_in wsX9_in) := goodIn_app (goodIn_of _ (by decide +kernel)) ggX9_bows_X9_in
set_option maxRecDepth 20000 in
theorem ggX9_bows_X9_bad : GoodIn wsX9_bows wsX9_bad := goodIn_r _ [13, 14, 15, 16, 17, 18, 19, 20, 21, 22, 23, 24, 25, 26, 27, 28, 29, 30, 31, 32, 33, 34, 35, 36, 37, 38, 39, 40, 41, 42] (by decide +kernel) (by decide +kernel)
set_option maxRecDepth 20000 in
theorem gX9_bows_X9_bad : GoodIn wsX9_bows (wsV RX9 84 RX9 yX9_bad wsX9_bad) := goodIn_app (goodIn_of _ (by decide +kernel)) ggX9_bows_X9_bad
theorem dX9_bows_0 : decode cX9_bows 0 = .ok (.iload_n 1, 1) := by decide +kernel
theorem dX9_bows_1 : decode cX9_bows 1 = .ok (.invokestatic 88, 3) := by decide +kernel
theorem dX9_bows_4 : decode cX9_bows 4 = .ok (.ifCond .eq 15, 3) := by decide +kernel
theorem dX9_bows_7 : decode cX9_bows 7 = .ok (.iload_n 2, 1) := by decide +kernel
theorem dX9_bows_8 : decode cX9_bows 8 = .ok (.i2l, 1) := by decide +kernel
theorem dX9_bows_9 : decode cX9_bows 9 = .ok (.lconst 0, 1) := by decide +kernel
theorem dX9_bows_10 : decode cX9_bows 10 = .ok (.ldc2_w 91, 3) := by decide +kernel
theorem dX9_bows_13 : decode cX9_bows 13 = .ok (.invokestatic 74, 3) := by decide +kernel
theorem dX9_bows_16 : decode cX9_bows 16 = .ok (.ifCond .ne 10, 3) := by decide +kernel
theorem dX9_bows_19 : decode cX9_bows 19 = .ok (.aload_n 0, 1) := by decide +kernel
theorem dX9_bows_20 : decode cX9_bows 20 = .ok (.bipush (-2), 2) := by decide +kernel
theorem dX9_bows_22 : decode cX9_bows 22 = .ok (.invokevirtual 84, 3) := by decide +kernel
theorem dX9_bows_25 : decode cX9_bows 25 = .ok (.ireturn, 1) := by decide +kernel
theorem dX9_bows_26 : decode cX9_bows 26 = .ok (.aload_n 0, 1) := by decide +kernel
theorem dX9_bows_27 : decode cX9_bows 27 = .ok (.getfield 7, 3) := by decide +kernel
theorem dX9_bows_30 : decode cX9_bows 30 = .ok (.bipush 12, 2) := by decide +kernel
theorem dX9_bows_32 : decode cX9_bows 32 = .ok (.iload_n 1, 1) := by decide +kernel
theorem dX9_bows_33 : decode cX9_bows 33 = .ok (.iadd, 1) := by decide +kernel
theorem dX9_bows_34 : decode cX9_bows 34 = .ok (.iaload, 1) := by decide +kernel
theorem dX9_bows_35 : decode cX9_bows 35 = .ok (.istore_n 3, 1) := by decide +kernel
theorem dX9_bows_36 : decode cX9_bows 36 = .ok (.aload_n 0, 1) := by decide +kernel
theorem dX9_bows_37 : decode cX9_bows 37 = .ok (.getfield 7, 3) := by decide +kernel
theorem dX9_bows_40 : decode cX9_bows 40 = .ok (.bipush 12, 2) := by decide +kernel
theorem dX9_bows_42 : decode cX9_bows 42 = .ok (.iload_n 1, 1) := by decide +kernel
theorem dX9_bows_43 : decode cX9_bows 43 = .ok (.iadd, 1) := by decide +kernel
theorem dX9_bows_44 : decode cX9_bows 44 = .ok (.iload_n 2, 1) := by decide +kernel
theorem dX9_bows_45 : decode cX9_bows 45 = .ok (.iastore, 1) := by decide +kernel
theorem dX9_bows_46 : decode cX9_bows 46 = .ok (.aload_n 0, 1) := by decide +kernel
theorem dX9_bows_47 : decode cX9_bows 47 = .ok (.getfield 7, 3) := by decide +kernel
theorem dX9_bows_50 : decode cX9_bows 50 = .ok (.iconst 4, 1) := by decide +kernel
theorem dX9_bows_51 : decode cX9_bows 51 = .ok (.iconst 0, 1) := by decide +kernel
theorem dX9_bows_52 : decode cX9_bows 52 = .ok (.iastore, 1) := by decide +kernel
theorem dX9_bows_53 : decode cX9_bows 53 = .ok (.iload_n 3, 1) := by decide +kernel
theorem dX9_bows_54 : decode cX9_bows 54 = .ok (.ireturn, 1) := by decide +kernel
theorem dX9_layPoint_0 : decode cX9_layPoint 0 = .ok (.aload_n 0, 1) := by decide +kernel
theorem dX9_layPoint_1 : decode cX9_layPoint 1 = .ok (.iconst 0, 1) := by decide +kernel
theorem dX9_layPoint_2 : decode cX9_layPoint 2 = .ok (.iaload, 1) := by decide +kernel
theorem dX9_layPoint_3 : decode cX9_layPoint 3 = .ok (.istore 4, 2) := by decide +kernel
theorem dX9_layPoint_5 : decode cX9_layPoint 5 = .ok (.aload_n 0, 1) := by decide +kernel
theorem dX9_layPoint_6 : decode cX9_layPoint 6 = .ok (.bipush 18, 2) := by decide +kernel
theorem dX9_layPoint_8 : decode cX9_layPoint 8 = .ok (.iload 4, 2) := by decide +kernel
theorem dX9_layPoint_10 : decode cX9_layPoint 10 = .ok (.iadd, 1) := by decide +kernel
theorem dX9_layPoint_11 : decode cX9_layPoint 11 = .ok (.iload_n 1, 1) := by decide +kernel
theorem dX9_layPoint_12 : decode cX9_layPoint 12 = .ok (.iastore, 1) := by decide +kernel
theorem dX9_layPoint_13 : decode cX9_layPoint 13 = .ok (.aload_n 0, 1) := by decide +kernel
theorem dX9_layPoint_14 : decode cX9_layPoint 14 = .ok (.bipush 24, 2) := by decide +kernel
theorem dX9_layPoint_16 : decode cX9_layPoint 16 = .ok (.iload 4, 2) := by decide +kernel
theorem dX9_layPoint_18 : decode cX9_layPoint 18 = .ok (.iadd, 1) := by decide +kernel
theorem dX9_layPoint_19 : decode cX9_layPoint 19 = .ok (.iload_n 2, 1) := by decide +kernel
theorem dX9_layPoint_20 : decode cX9_layPoint 20 = .ok (.iastore, 1) := by decide +kernel
theorem dX9_layPoint_21 : decode cX9_layPoint 21 = .ok (.aload_n 0, 1) := by decide +kernel
theorem dX9_layPoint_22 : decode cX9_layPoint 22 = .ok (.bipush 6, 2) := by decide +kernel
theorem dX9_layPoint_24 : decode cX9_layPoint 24 = .ok (.iload 4, 2) := by decide +kernel
theorem dX9_layPoint_26 : decode cX9_layPoint 26 = .ok (.iadd, 1) := by decide +kernel
theorem dX9_layPoint_27 : decode cX9_layPoint 27 = .ok (.iload_n 3, 1) := by decide +kernel
theorem dX9_layPoint_28 : decode cX9_layPoint 28 = .ok (.iastore, 1) := by decide +kernel
theorem dX9_layPoint_29 : decode cX9_layPoint 29 = .ok (.aload_n 0, 1) := by decide +kernel
theorem dX9_layPoint_30 : decode cX9_layPoint 30 = .ok (.iconst 0, 1) := by decide +kernel
theorem dX9_layPoint_31 : decode cX9_layPoint 31 = .ok (.dup2, 1) := by decide +kernel
theorem dX9_layPoint_32 : decode cX9_layPoint 32 = .ok (.iaload, 1) := by decide +kernel
theorem dX9_layPoint_33 : decode cX9_layPoint 33 = .ok (.iconst 1, 1) := by decide +kernel
theorem dX9_layPoint_34 : decode cX9_layPoint 34 = .ok (.iadd, 1) := by decide +kernel
theorem dX9_layPoint_35 : decode cX9_layPoint 35 = .ok (.iastore, 1) := by decide +kernel
theorem dX9_layPoint_36 : decode cX9_layPoint 36 = .ok (.return_, 1) := by decide +kernel
set_option maxRecDepth 20000 in
theorem ggX9_point_X9_isKind : GoodIn wsX9_point wsX9_isKind := goodIn_r _ [7, 8, 9, 10, 6, 11] (by decide +kernel) (by decide +kernel)
set_option maxRecDepth 20000 in
theorem gX9_point_X9_isKind : GoodIn wsX9_point (va_wsS RX9 80 yX9_isKind wsX9_isKind) := goodIn_app (goodIn_of _ (by decide +kernel)) ggX9_point_X9_isKind
set_option maxRecDepth 20000 in
theorem ggX9_point_X9_in : GoodIn wsX9_point wsX9_in := goodIn_r _ [11] (by decide +kernel) (by decide +kernel)
set_option maxRecDepth 20000 in
theorem gX9_point_X9_in : GoodIn wsX9_point (va_wsS RX9 74 yX9_in wsX9_in) := goodIn_app (goodIn_of _ (by decide +kernel)) ggX9_point_X9_in
set_option maxRecDepth 20000 in
theorem ggX9_point_X9_bad : GoodIn wsX9_point wsX9_bad := goodIn_r _ [15, 16, 28, 29, 30, 31, 32, 33, 34, 35, 36, 37, 38, 39, 40, 41, 42, 43, 44, 45, 46, 47, 48, 49, 50, 51, 52, 53, 54, 55] (by decide +kernel) (by decide +kernel)
set_option maxRecDepth 20000 in
theorem gX9_point_X9_bad : GoodIn wsX9_point (wsV RX9 84 RX9 yX9_bad wsX9_bad) := goodIn_app (goodIn_of _ (by decide +kernel)) ggX9_point_X9_bad
set_option maxRecDepth 20000 in
theorem ggX9_point_X9_many : GoodIn wsX9_point wsX9_many := goodIn_r _ [20, 3, 28, 29, 30, 31, 32, 33, 34, 35, 36, 37, 38, 39, 40, 41, 42, 43, 44, 45, 46, 47, 48, 49, 50, 51, 52, 53, 54, 55] (by decide +kernel) (by decide +kernel)
set_option maxRecDepth 20000 in
theorem gX9_point_X9_many : GoodIn wsX9_point (wsV RX9 70 RX9 yX9_many wsX9_many) := goodIn_app (goodIn_of _ (by decide +kernel)) ggX9_point_X9_many
set_option maxRecDepth 20000 in
theorem ggX9_point_X9_full : GoodIn wsX9_point wsX9_full := goodIn_r _ [24, 16, 28, 29, 30, 31, 32, 33, 34, 35, 36, 37, 38, 39, 40, 41, 42, 43, 44, 45, 46, 47, 48, 49, 50, 51, 52, 53, 54, 55] (by decide +kernel) (by decide +kernel)
set_option maxRecDepth 20000 in
theorem gX9_point_X9_full : GoodIn wsX9_point (wsV RX9 95 RX9 yX9_full wsX9_full) := goodIn_app (goodIn_of _ (by decide +kernel)) ggX9_point_X9_full
set_option maxRecDepth 20000 in
theorem ggX9_point_X9_layPoint : GoodIn wsX9_point wsX9_layPoint := goodIn_r _ [27] (by decide +kernel) (by decide +kernel)
set_option maxRecDepth 20000 in
theorem gX9_point_X9_layPoint : GoodIn wsX9_point (va_wsS RX9 98 yX9_layPoint wsX9_layPoint) := goodIn_app (goodIn_of _ (by decide +kernel)) ggX9_point_X9_layPoint
theorem dX9_point_0 : decode cX9_point 0 = .ok (.iload_n 1, 1) := by decide +kernel
theorem dX9_point_1 : decode cX9_point 1 = .ok (.invokestatic 80, 3) := by decide +kernel
theorem dX9_point_4 : decode cX9_point 4 = .ok (.ifCond .eq 27, 3) := by decide +kernel
theorem dX9_point_7 : decode cX9_point 7 = .ok (.iload_n 2, 1) := by decide +kernel
theorem dX9_point_8 : decode cX9_point 8 = .ok (.i2l, 1) := by decide +kernel
theorem dX9_point_9 : decode cX9_point 9 = .ok (.lconst 1, 1) := by decide +kernel
theorem dX9_point_10 : decode cX9_point 10 = .ok (.ldc2_w 93, 3) := by decide +kernel
theorem dX9_point_13 : decode cX9_point 13 = .ok (.invokestatic 74, 3) := by decide +kernel
theorem dX9_point_16 : decode cX9_point 16 = .ok (.ifCond .eq 15, 3) := by decide +kernel
theorem dX9_point_19 : decode cX9_point 19 = .ok (.iload_n 3, 1) := by decide +kernel
theorem dX9_point_20 : decode cX9_point 20 = .ok (.i2l, 1) := by decide +kernel
theorem dX9_point_21 : decode cX9_point 21 = .ok (.lconst 0, 1) := by decide +kernel
theorem dX9_point_22 : decode cX9_point 22 = .ok (.ldc2_w 91, 3) := by decide +kernel
theorem dX9_point_25 : decode cX9_point 25 = .ok (.invokestatic 74, 3) := by decide +kernel
theorem dX9_point_28 : decode cX9_point 28 = .ok (.ifCond .ne 10, 3) := by decide +kernel
theorem dX9_point_31 : decode cX9_point 31 = .ok (.aload_n 0, 1) := by decide +kernel
theorem dX9_point_32 : decode cX9_point 32 = .ok (.bipush (-2), 2) := by decide +kernel
theorem dX9_point_34 : decode cX9_point 34 = .ok (.invokevirtual 84, 3) := by decide +kernel
theorem dX9_point_37 : decode cX9_point 37 = .ok (.ireturn, 1) := by decide +kernel
theorem dX9_point_38 : decode cX9_point 38 = .ok (.aload_n 0, 1) := by decide +kernel
theorem dX9_point_39 : decode cX9_point 39 = .ok (.invokevirtual 70, 3) := by decide +kernel
theorem dX9_point_42 : decode cX9_point 42 = .ok (.bipush 6, 2) := by decide +kernel
theorem dX9_point_44 : decode cX9_point 44 = .ok (.if_icmp .ne 8, 3) := by decide +kernel
theorem dX9_point_47 : decode cX9_point 47 = .ok (.aload_n 0, 1) := by decide +kernel
theorem dX9_point_48 : decode cX9_point 48 = .ok (.invokevirtual 95, 3) := by decide +kernel
theorem dX9_point_51 : decode cX9_point 51 = .ok (.ireturn, 1) := by decide +kernel
theorem dX9_point_52 : decode cX9_point 52 = .ok (.aload_n 0, 1) := by decide +kernel
theorem dX9_point_53 : decode cX9_point 53 = .ok (.getfield 7, 3) := by decide +kernel
theorem dX9_point_56 : decode cX9_point 56 = .ok (.iload_n 1, 1) := by decide +kernel
theorem dX9_point_57 : decode cX9_point 57 = .ok (.iload_n 2, 1) := by decide +kernel
theorem dX9_point_58 : decode cX9_point 58 = .ok (.iload_n 3, 1) := by decide +kernel
theorem dX9_point_59 : decode cX9_point 59 = .ok (.invokestatic 98, 3) := by decide +kernel
theorem dX9_point_62 : decode cX9_point 62 = .ok (.aload_n 0, 1) := by decide +kernel
theorem dX9_point_63 : decode cX9_point 63 = .ok (.getfield 7, 3) := by decide +kernel
theorem dX9_point_66 : decode cX9_point 66 = .ok (.iconst 4, 1) := by decide +kernel
theorem dX9_point_67 : decode cX9_point 67 = .ok (.iconst 0, 1) := by decide +kernel
theorem dX9_point_68 : decode cX9_point 68 = .ok (.iastore, 1) := by decide +kernel
theorem dX9_point_69 : decode cX9_point 69 = .ok (.aload_n 0, 1) := by decide +kernel
theorem dX9_point_70 : decode cX9_point 70 = .ok (.invokevirtual 70, 3) := by decide +kernel
theorem dX9_point_73 : decode cX9_point 73 = .ok (.iconst 1, 1) := by decide +kernel
theorem dX9_point_74 : decode cX9_point 74 = .ok (.isub, 1) := by decide +kernel
theorem dX9_point_75 : decode cX9_point 75 = .ok (.ireturn, 1) := by decide +kernel
theorem dX9_movesAs_0 : decode cX9_movesAs 0 = .ok (.iload_n 1, 1) := by decide +kernel
theorem dX9_movesAs_1 : decode cX9_movesAs 1 = .ok (.iconst 1, 1) := by decide +kernel
theorem dX9_movesAs_2 : decode cX9_movesAs 2 = .ok (.iadd, 1) := by decide +kernel
theorem dX9_movesAs_3 : decode cX9_movesAs 3 = .ok (.iconst 2, 1) := by decide +kernel
theorem dX9_movesAs_4 : decode cX9_movesAs 4 = .ok (.idiv, 1) := by decide +kernel
theorem dX9_movesAs_5 : decode cX9_movesAs 5 = .ok (.istore 4, 2) := by decide +kernel
theorem dX9_movesAs_7 : decode cX9_movesAs 7 = .ok (.iload_n 2, 1) := by decide +kernel
theorem dX9_movesAs_8 : decode cX9_movesAs 8 = .ok (.ifCond .ge 9, 3) := by decide +kernel
theorem dX9_movesAs_11 : decode cX9_movesAs 11 = .ok (.iconst 2, 1) := by decide +kernel
theorem dX9_movesAs_12 : decode cX9_movesAs 12 = .ok (.iload_n 1, 1) := by decide +kernel
theorem dX9_movesAs_13 : decode cX9_movesAs 13 = .ok (.imul, 1) := by decide +kernel
theorem dX9_movesAs_14 : decode cX9_movesAs 14 = .ok (.goto 4, 3) := by decide +kernel
theorem dX9_movesAs_17 : decode cX9_movesAs 17 = .ok (.iload_n 1, 1) := by decide +kernel
theorem dX9_movesAs_18 : decode cX9_movesAs 18 = .ok (.istore 5, 2) := by decide +kernel
theorem dX9_movesAs_20 : decode cX9_movesAs 20 = .ok (.iload_n 0, 1) := by decide +kernel
theorem dX9_movesAs_21 : decode cX9_movesAs 21 = .ok (.tableswitch 64 1 5 #[35, 38, 41, 46, 51], 35) := by decide +kernel
theorem dX9_movesAs_56 : decode cX9_movesAs 56 = .ok (.iload 4, 2) := by decide +kernel
theorem dX9_movesAs_58 : decode cX9_movesAs 58 = .ok (.ireturn, 1) := by decide +kernel
theorem dX9_movesAs_59 : decode cX9_movesAs 59 = .ok (.iload 5, 2) := by decide +kernel
theorem dX9_movesAs_61 : decode cX9_movesAs 61 = .ok (.ireturn, 1) := by decide +kernel
theorem dX9_movesAs_62 : decode cX9_movesAs 62 = .ok (.iload 4, 2) := by decide +kernel
theorem dX9_movesAs_64 : decode cX9_movesAs 64 = .ok (.iload_n 3, 1) := by decide +kernel
theorem dX9_movesAs_65 : decode cX9_movesAs 65 = .ok (.iadd, 1) := by decide +kernel
theorem dX9_movesAs_66 : decode cX9_movesAs 66 = .ok (.ireturn, 1) := by decide +kernel
theorem dX9_movesAs_67 : decode cX9_movesAs 67 = .ok (.iload 5, 2) := by decide +kernel
theorem dX9_movesAs_69 : decode cX9_movesAs 69 = .ok (.iconst 2, 1) := by decide +kernel
theorem dX9_movesAs_70 : decode cX9_movesAs 70 = .ok (.iadd, 1) := by decide +kernel
theorem dX9_movesAs_71 : decode cX9_movesAs 71 = .ok (.ireturn, 1) := by decide +kernel
theorem dX9_movesAs_72 : decode cX9_movesAs 72 = .ok (.iload_n 3, 1) := by decide +kernel
theorem dX9_movesAs_73 : decode cX9_movesAs 73 = .ok (.iconst 2, 1) := by decide +kernel
theorem dX9_movesAs_74 : decode cX9_movesAs 74 = .ok (.irem, 1) := by decide +kernel
theorem dX9_movesAs_75 : decode cX9_movesAs 75 = .ok (.iconst 1, 1) := by decide +kernel
theorem dX9_movesAs_76 : decode cX9_movesAs 76 = .ok (.if_icmp .ne 7, 3) := by decide +kernel
theorem dX9_movesAs_79 : decode cX9_movesAs 79 = .ok (.iconst 0, 1) := by decide +kernel
theorem dX9_movesAs_80 : decode cX9_movesAs 80 = .ok (.goto 4, 3) := by decide +kernel
theorem dX9_movesAs_83 : decode cX9_movesAs 83 = .ok (.iload_n 1, 1) := by decide +kernel
theorem dX9_movesAs_84 : decode cX9_movesAs 84 = .ok (.ireturn, 1) := by decide +kernel
theorem dX9_movesAs_85 : decode cX9_movesAs 85 = .ok (.iload_n 1, 1) := by decide +kernel
theorem dX9_movesAs_86 : decode cX9_movesAs 86 = .ok (.ireturn, 1) := by decide +kernel
theorem dX9_countsAs_0 : decode cX9_countsAs 0 = .ok (.iload_n 1, 1) := by decide +kernel
theorem dX9_countsAs_1 : decode cX9_countsAs 1 = .ok (.iconst 1, 1) := by decide +kernel
theorem dX9_countsAs_2 : decode cX9_countsAs 2 = .ok (.if_icmp .le 9, 3) := by decide +kernel
theorem dX9_countsAs_5 : decode cX9_countsAs 5 = .ok (.iload_n 1, 1) := by decide +kernel
theorem dX9_countsAs_6 : decode cX9_countsAs 6 = .ok (.iconst 1, 1) := by decide +kernel
theorem dX9_countsAs_7 : decode cX9_countsAs 7 = .ok (.isub, 1) := by decide +kernel
theorem dX9_countsAs_8 : decode cX9_countsAs 8 = .ok (.goto 4, 3) := by decide +kernel
theorem dX9_countsAs_11 : decode cX9_countsAs 11 = .ok (.iconst 0, 1) := by decide +kernel
theorem dX9_countsAs_12 : decode cX9_countsAs 12 = .ok (.istore_n 3, 1) := by decide +kernel
theorem dX9_countsAs_13 : decode cX9_countsAs 13 = .ok (.iload_n 0, 1) := by decide +kernel
theorem dX9_countsAs_14 : decode cX9_countsAs 14 = .ok (.tableswitch 75 1 5 #[34, 38, 40, 55, 69], 34) := by decide +kernel
theorem dX9_countsAs_48 : decode cX9_countsAs 48 = .ok (.iload_n 1, 1) := by decide +kernel
theorem dX9_countsAs_49 : decode cX9_countsAs 49 = .ok (.iconst 2, 1) := by decide +kernel
theorem dX9_countsAs_50 : decode cX9_countsAs 50 = .ok (.iadd, 1) := by decide +kernel
theorem dX9_countsAs_51 : decode cX9_countsAs 51 = .ok (.ireturn, 1) := by decide +kernel
theorem dX9_countsAs_52 : decode cX9_countsAs 52 = .ok (.iload_n 3, 1) := by decide +kernel
theorem dX9_countsAs_53 : decode cX9_countsAs 53 = .ok (.ireturn, 1) := by decide +kernel
theorem dX9_countsAs_54 : decode cX9_countsAs 54 = .ok (.iload_n 2, 1) := by decide +kernel
theorem dX9_countsAs_55 : decode cX9_countsAs 55 = .ok (.ifCond .ne 9, 3) := by decide +kernel
theorem dX9_countsAs_58 : decode cX9_countsAs 58 = .ok (.iload_n 1, 1) := by decide +kernel
theorem dX9_countsAs_59 : decode cX9_countsAs 59 = .ok (.iconst 2, 1) := by decide +kernel
theorem dX9_countsAs_60 : decode cX9_countsAs 60 = .ok (.iadd, 1) := by decide +kernel
theorem dX9_countsAs_61 : decode cX9_countsAs 61 = .ok (.goto 7, 3) := by decide +kernel
theorem dX9_countsAs_64 : decode cX9_countsAs 64 = .ok (.iload_n 1, 1) := by decide +kernel
theorem dX9_countsAs_65 : decode cX9_countsAs 65 = .ok (.ineg, 1) := by decide +kernel
theorem dX9_countsAs_66 : decode cX9_countsAs 66 = .ok (.iconst 2, 1) := by decide +kernel
theorem dX9_countsAs_67 : decode cX9_countsAs 67 = .ok (.isub, 1) := by decide +kernel
theorem dX9_countsAs_68 : decode cX9_countsAs 68 = .ok (.ireturn, 1) := by decide +kernel
theorem dX9_countsAs_69 : decode cX9_countsAs 69 = .ok (.iload_n 1, 1) := by decide +kernel
theorem dX9_countsAs_70 : decode cX9_countsAs 70 = .ok (.iconst 2, 1) := by decide +kernel
theorem dX9_countsAs_71 : decode cX9_countsAs 71 = .ok (.irem, 1) := by decide +kernel
theorem dX9_countsAs_72 : decode cX9_countsAs 72 = .ok (.ifCond .ne 9, 3) := by decide +kernel
theorem dX9_countsAs_75 : decode cX9_countsAs 75 = .ok (.iload_n 3, 1) := by decide +kernel
theorem dX9_countsAs_76 : decode cX9_countsAs 76 = .ok (.iconst 3, 1) := by decide +kernel
theorem dX9_countsAs_77 : decode cX9_countsAs 77 = .ok (.iadd, 1) := by decide +kernel
theorem dX9_countsAs_78 : decode cX9_countsAs 78 = .ok (.goto 4, 3) := by decide +kernel
theorem dX9_countsAs_81 : decode cX9_countsAs 81 = .ok (.iload_n 3, 1) := by decide +kernel
theorem dX9_countsAs_82 : decode cX9_countsAs 82 = .ok (.ireturn, 1) := by decide +kernel
theorem dX9_countsAs_83 : decode cX9_countsAs 83 = .ok (.iload_n 1, 1) := by decide +kernel
theorem dX9_countsAs_84 : decode cX9_countsAs 84 = .ok (.iconst 2, 1) := by decide +kernel
theorem dX9_countsAs_85 : decode cX9_countsAs 85 = .ok (.iadd, 1) := by decide +kernel
theorem dX9_countsAs_86 : decode cX9_countsAs 86 = .ok (.iconst 2, 1) := by decide +kernel
theorem dX9_countsAs_87 : decode cX9_countsAs 87 = .ok (.idiv, 1) := by decide +kernel
theorem dX9_countsAs_88 : decode cX9_countsAs 88 = .ok (.ireturn, 1) := by decide +kernel
theorem dX9_countsAs_89 : decode cX9_countsAs 89 = .ok (.iload_n 1, 1) := by decide +kernel
theorem dX9_countsAs_90 : decode cX9_countsAs 90 = .ok (.ireturn, 1) := by decide +kernel
theorem dX9_chairOf_0 : decode cX9_chairOf 0 = .ok (.iload_n 0, 1) := by decide +kernel
theorem dX9_chairOf_1 : decode cX9_chairOf 1 = .ok (.iload_n 1, 1) := by decide +kernel
theorem dX9_chairOf_2 : decode cX9_chairOf 2 = .ok (.if_icmp .ne 7, 3) := by decide +kernel
theorem dX9_chairOf_5 : decode cX9_chairOf 5 = .ok (.iconst 0, 1) := by decide +kernel
theorem dX9_chairOf_6 : decode cX9_chairOf 6 = .ok (.goto 4, 3) := by decide +kernel
theorem dX9_chairOf_9 : decode cX9_chairOf 9 = .ok (.iconst 1, 1) := by decide +kernel
theorem dX9_chairOf_10 : decode cX9_chairOf 10 = .ok (.ireturn, 1) := by decide +kernel
set_option maxRecDepth 20000 in
theorem ggX9_countsBy_X9_chairOf : GoodIn wsX9_countsBy wsX9_chairOf := goodIn_r _ [5] (by decide +kernel) (by decide +kernel)
set_option maxRecDepth 20000 in
theorem gX9_countsBy_X9_chairOf : GoodIn wsX9_countsBy (va_wsS RX9 102 yX9_chairOf wsX9_chairOf) := goodIn_app (goodIn_of _ (by decide +kernel)) ggX9_countsBy_X9_chairOf
set_option maxRecDepth 20000 in
theorem ggX9_countsBy_X9_movesAs : GoodIn wsX9_countsBy wsX9_movesAs := goodIn_r _ [8] (by decide +kernel) (by decide +kernel)
set_option maxRecDepth 20000 in
theorem gX9_countsBy_X9_movesAs : GoodIn wsX9_countsBy (va_wsS RX9 106 yX9_movesAs wsX9_movesAs) := goodIn_app (goodIn_of _ (by decide +kernel)) ggX9_countsBy_X9_movesAs
set_option maxRecDepth 20000 in
theorem ggX9_countsBy_X9_countsAs : GoodIn wsX9_countsBy wsX9_countsAs := goodIn_r _ [11] (by decide +kernel) (by decide +kernel)
set_option maxRecDepth 20000 in
theorem gX9_countsBy_X9_countsAs : GoodIn wsX9_countsBy (va_wsS RX9 110 yX9_countsAs wsX9_countsAs) := goodIn_app (goodIn_of _ (by decide +kernel)) ggX9_countsBy_X9_countsAs
theorem dX9_countsBy_0 : decode cX9_countsBy 0 = .ok (.iload 4, 2) := by decide +kernel
theorem dX9_countsBy_2 : decode cX9_countsBy 2 = .ok (.iconst 2, 1) := by decide +kernel
theorem dX9_countsBy_3 : decode cX9_countsBy 3 = .ok (.irem, 1) := by decide +kernel
theorem dX9_countsBy_4 : decode cX9_countsBy 4 = .ok (.istore 5, 2) := by decide +kernel
theorem dX9_countsBy_6 : decode cX9_countsBy 6 = .ok (.iload_n 2, 1) := by decide +kernel
theorem dX9_countsBy_7 : decode cX9_countsBy 7 = .ok (.iload 5, 2) := by decide +kernel
theorem dX9_countsBy_9 : decode cX9_countsBy 9 = .ok (.invokestatic 102, 3) := by decide +kernel
theorem dX9_countsBy_12 : decode cX9_countsBy 12 = .ok (.istore 6, 2) := by decide +kernel
theorem dX9_countsBy_14 : decode cX9_countsBy 14 = .ok (.aload_n 0, 1) := by decide +kernel
theorem dX9_countsBy_15 : decode cX9_countsBy 15 = .ok (.getfield 7, 3) := by decide +kernel
theorem dX9_countsBy_18 : decode cX9_countsBy 18 = .ok (.bipush 18, 2) := by decide +kernel
theorem dX9_countsBy_20 : decode cX9_countsBy 20 = .ok (.iload_n 1, 1) := by decide +kernel
theorem dX9_countsBy_21 : decode cX9_countsBy 21 = .ok (.iadd, 1) := by decide +kernel
theorem dX9_countsBy_22 : decode cX9_countsBy 22 = .ok (.iaload, 1) := by decide +kernel
theorem dX9_countsBy_23 : decode cX9_countsBy 23 = .ok (.aload_n 0, 1) := by decide +kernel
theorem dX9_countsBy_24 : decode cX9_countsBy 24 = .ok (.getfield 7, 3) := by decide +kernel
theorem dX9_countsBy_27 : decode cX9_countsBy 27 = .ok (.bipush 24, 2) := by decide +kernel
theorem dX9_countsBy_29 : decode cX9_countsBy 29 = .ok (.iload_n 1, 1) := by decide +kernel
theorem dX9_countsBy_30 : decode cX9_countsBy 30 = .ok (.iadd, 1) := by decide +kernel
theorem dX9_countsBy_31 : decode cX9_countsBy 31 = .ok (.iaload, 1) := by decide +kernel
theorem dX9_countsBy_32 : decode cX9_countsBy 32 = .ok (.iload 6, 2) := by decide +kernel
theorem dX9_countsBy_34 : decode cX9_countsBy 34 = .ok (.ifCond .ne 7, 3) := by decide +kernel
theorem dX9_countsBy_37 : decode cX9_countsBy 37 = .ok (.iload_n 3, 1) := by decide +kernel
theorem dX9_countsBy_38 : decode cX9_countsBy 38 = .ok (.goto 5, 3) := by decide +kernel
theorem dX9_countsBy_41 : decode cX9_countsBy 41 = .ok (.iload_n 3, 1) := by decide +kernel
theorem dX9_countsBy_42 : decode cX9_countsBy 42 = .ok (.ineg, 1) := by decide +kernel
theorem dX9_countsBy_43 : decode cX9_countsBy 43 = .ok (.iload 4, 2) := by decide +kernel
theorem dX9_countsBy_45 : decode cX9_countsBy 45 = .ok (.invokestatic 106, 3) := by decide +kernel
theorem dX9_countsBy_48 : decode cX9_countsBy 48 = .ok (.istore 7, 2) := by decide +kernel
theorem dX9_countsBy_50 : decode cX9_countsBy 50 = .ok (.aload_n 0, 1) := by decide +kernel
theorem dX9_countsBy_51 : decode cX9_countsBy 51 = .ok (.getfield 7, 3) := by decide +kernel
theorem dX9_countsBy_54 : decode cX9_countsBy 54 = .ok (.bipush 30, 2) := by decide +kernel
theorem dX9_countsBy_56 : decode cX9_countsBy 56 = .ok (.iload 5, 2) := by decide +kernel
theorem dX9_countsBy_58 : decode cX9_countsBy 58 = .ok (.iadd, 1) := by decide +kernel
theorem dX9_countsBy_59 : decode cX9_countsBy 59 = .ok (.iaload, 1) := by decide +kernel
theorem dX9_countsBy_60 : decode cX9_countsBy 60 = .ok (.iload 7, 2) := by decide +kernel
theorem dX9_countsBy_62 : decode cX9_countsBy 62 = .ok (.iload 6, 2) := by decide +kernel
theorem dX9_countsBy_64 : decode cX9_countsBy 64 = .ok (.invokestatic 110, 3) := by decide +kernel
theorem dX9_countsBy_67 : decode cX9_countsBy 67 = .ok (.ireturn, 1) := by decide +kernel
set_option maxRecDepth 20000 in
theorem ggX9_meritBy_X9_countsBy : GoodIn wsX9_meritBy wsX9_countsBy := goodIn_r _ [5, 6, 7, 8, 4, 9, 10, 11, 12, 13, 14, 15, 16, 17, 18, 19, 20, 21, 22, 23, 24, 25, 26, 27, 28, 29, 30, 31, 32, 33, 34, 35, 36, 37, 38, 39, 40, 41, 42, 43] (by decide +kernel) (by decide +kernel)
set_option maxRecDepth 20000 in
theorem gX9_meritBy_X9_countsBy : GoodIn wsX9_meritBy (wsV RX9 114 RX9 yX9_countsBy wsX9_countsBy) := goodIn_app (goodIn_of _ (by decide +kernel)) ggX9_meritBy_X9_countsBy
set_option maxRecDepth 20000 in
theorem ggX9_meritBy_X9_chairOf : GoodIn wsX9_meritBy wsX9_chairOf := goodIn_r _ [9] (by decide +kernel) (by decide +kernel)
set_option maxRecDepth 20000 in
theorem gX9_meritBy_X9_chairOf : GoodIn wsX9_meritBy (va_wsS RX9 102 yX9_chairOf wsX9_chairOf) := goodIn_app (goodIn_of _ (by decide +kernel)) ggX9_meritBy_X9_chairOf
theorem dX9_meritBy_0 : decode cX9_meritBy 0 = .ok (.aload_n 0, 1) := by decide +kernel
theorem dX9_meritBy_1 : decode cX9_meritBy 1 = .ok (.iload_n 1, 1) := by decide +kernel
theorem dX9_meritBy_2 : decode cX9_meritBy 2 = .ok (.iload_n 2, 1) := by decide +kernel
theorem dX9_meritBy_3 : decode cX9_meritBy 3 = .ok (.iload_n 3, 1) := by decide +kernel
theorem dX9_meritBy_4 : decode cX9_meritBy 4 = .ok (.iload 4, 2) := by decide +kernel
theorem dX9_meritBy_6 : decode cX9_meritBy 6 = .ok (.invokevirtual 114, 3) := by decide +kernel
theorem dX9_meritBy_9 : decode cX9_meritBy 9 = .ok (.istore 5, 2) := by decide +kernel
theorem dX9_meritBy_11 : decode cX9_meritBy 11 = .ok (.iload_n 2, 1) := by decide +kernel
theorem dX9_meritBy_12 : decode cX9_meritBy 12 = .ok (.iload 4, 2) := by decide +kernel
theorem dX9_meritBy_14 : decode cX9_meritBy 14 = .ok (.iconst 2, 1) := by decide +kernel
theorem dX9_meritBy_15 : decode cX9_meritBy 15 = .ok (.irem, 1) := by decide +kernel
theorem dX9_meritBy_16 : decode cX9_meritBy 16 = .ok (.invokestatic 102, 3) := by decide +kernel
theorem dX9_meritBy_19 : decode cX9_meritBy 19 = .ok (.ifCond .ne 10, 3) := by decide +kernel
theorem dX9_meritBy_22 : decode cX9_meritBy 22 = .ok (.iload_n 3, 1) := by decide +kernel
theorem dX9_meritBy_23 : decode cX9_meritBy 23 = .ok (.iload 5, 2) := by decide +kernel
theorem dX9_meritBy_25 : decode cX9_meritBy 25 = .ok (.iadd, 1) := by decide +kernel
theorem dX9_meritBy_26 : decode cX9_meritBy 26 = .ok (.goto 7, 3) := by decide +kernel
theorem dX9_meritBy_29 : decode cX9_meritBy 29 = .ok (.iload_n 3, 1) := by decide +kernel
theorem dX9_meritBy_30 : decode cX9_meritBy 30 = .ok (.iload 5, 2) := by decide +kernel
theorem dX9_meritBy_32 : decode cX9_meritBy 32 = .ok (.isub, 1) := by decide +kernel
theorem dX9_meritBy_33 : decode cX9_meritBy 33 = .ok (.istore 6, 2) := by decide +kernel
theorem dX9_meritBy_35 : decode cX9_meritBy 35 = .ok (.iload 6, 2) := by decide +kernel
theorem dX9_meritBy_37 : decode cX9_meritBy 37 = .ok (.bipush 99, 2) := by decide +kernel
theorem dX9_meritBy_39 : decode cX9_meritBy 39 = .ok (.if_icmp .le 8, 3) := by decide +kernel
theorem dX9_meritBy_42 : decode cX9_meritBy 42 = .ok (.bipush 99, 2) := by decide +kernel
theorem dX9_meritBy_44 : decode cX9_meritBy 44 = .ok (.goto 17, 3) := by decide +kernel
theorem dX9_meritBy_47 : decode cX9_meritBy 47 = .ok (.iload 6, 2) := by decide +kernel
theorem dX9_meritBy_49 : decode cX9_meritBy 49 = .ok (.bipush (-99), 2) := by decide +kernel
theorem dX9_meritBy_51 : decode cX9_meritBy 51 = .ok (.if_icmp .ge 8, 3) := by decide +kernel
theorem dX9_meritBy_54 : decode cX9_meritBy 54 = .ok (.bipush (-99), 2) := by decide +kernel
theorem dX9_meritBy_56 : decode cX9_meritBy 56 = .ok (.goto 5, 3) := by decide +kernel
theorem dX9_meritBy_59 : decode cX9_meritBy 59 = .ok (.iload 6, 2) := by decide +kernel
theorem dX9_meritBy_61 : decode cX9_meritBy 61 = .ok (.ireturn, 1) := by decide +kernel
theorem dX9_save_0 : decode cX9_save 0 = .ok (.aload_n 0, 1) := by decide +kernel
theorem dX9_save_1 : decode cX9_save 1 = .ok (.getfield 7, 3) := by decide +kernel
theorem dX9_save_4 : decode cX9_save 4 = .ok (.iconst 4, 1) := by decide +kernel
theorem dX9_save_5 : decode cX9_save 5 = .ok (.iaload, 1) := by decide +kernel
theorem dX9_save_6 : decode cX9_save 6 = .ok (.bipush 8, 2) := by decide +kernel
theorem dX9_save_8 : decode cX9_save 8 = .ok (.if_icmp .ne 43, 3) := by decide +kernel
theorem dX9_save_11 : decode cX9_save 11 = .ok (.iconst 0, 1) := by decide +kernel
theorem dX9_save_12 : decode cX9_save 12 = .ok (.istore_n 1, 1) := by decide +kernel
theorem dX9_save_13 : decode cX9_save 13 = .ok (.iload_n 1, 1) := by decide +kernel
theorem dX9_save_14 : decode cX9_save 14 = .ok (.bipush 91, 2) := by decide +kernel
theorem dX9_save_16 : decode cX9_save 16 = .ok (.if_icmp .ge 27, 3) := by decide +kernel
theorem dX9_save_19 : decode cX9_save 19 = .ok (.aload_n 0, 1) := by decide +kernel
theorem dX9_save_20 : decode cX9_save 20 = .ok (.getfield 7, 3) := by decide +kernel
theorem dX9_save_23 : decode cX9_save 23 = .ok (.bipush 90, 2) := by decide +kernel
theorem dX9_save_25 : decode cX9_save 25 = .ok (.iload_n 1, 1) := by decide +kernel
theorem dX9_save_26 : decode cX9_save 26 = .ok (.iadd, 1) := by decide +kernel
theorem dX9_save_27 : decode cX9_save 27 = .ok (.aload_n 0, 1) := by decide +kernel
theorem dX9_save_28 : decode cX9_save 28 = .ok (.getfield 7, 3) := by decide +kernel
theorem dX9_save_31 : decode cX9_save 31 = .ok (.bipush 103, 2) := by decide +kernel
theorem dX9_save_33 : decode cX9_save 33 = .ok (.iload_n 1, 1) := by decide +kernel
theorem dX9_save_34 : decode cX9_save 34 = .ok (.iadd, 1) := by decide +kernel
theorem dX9_save_35 : decode cX9_save 35 = .ok (.iaload, 1) := by decide +kernel
theorem dX9_save_36 : decode cX9_save 36 = .ok (.iastore, 1) := by decide +kernel
theorem dX9_save_37 : decode cX9_save 37 = .ok (.iinc 1 1, 3) := by decide +kernel
theorem dX9_save_40 : decode cX9_save 40 = .ok (.goto (-27), 3) := by decide +kernel
theorem dX9_save_43 : decode cX9_save 43 = .ok (.aload_n 0, 1) := by decide +kernel
theorem dX9_save_44 : decode cX9_save 44 = .ok (.getfield 7, 3) := by decide +kernel
theorem dX9_save_47 : decode cX9_save 47 = .ok (.iconst 4, 1) := by decide +kernel
theorem dX9_save_48 : decode cX9_save 48 = .ok (.bipush 7, 2) := by decide +kernel
theorem dX9_save_50 : decode cX9_save 50 = .ok (.iastore, 1) := by decide +kernel
theorem dX9_save_51 : decode cX9_save 51 = .ok (.iconst 0, 1) := by decide +kernel
theorem dX9_save_52 : decode cX9_save 52 = .ok (.istore_n 1, 1) := by decide +kernel
theorem dX9_save_53 : decode cX9_save 53 = .ok (.iload_n 1, 1) := by decide +kernel
theorem dX9_save_54 : decode cX9_save 54 = .ok (.bipush 13, 2) := by decide +kernel
theorem dX9_save_56 : decode cX9_save 56 = .ok (.if_icmp .ge 36, 3) := by decide +kernel
theorem dX9_save_59 : decode cX9_save 59 = .ok (.aload_n 0, 1) := by decide +kernel
theorem dX9_save_60 : decode cX9_save 60 = .ok (.getfield 7, 3) := by decide +kernel
theorem dX9_save_63 : decode cX9_save 63 = .ok (.bipush 90, 2) := by decide +kernel
theorem dX9_save_65 : decode cX9_save 65 = .ok (.bipush 13, 2) := by decide +kernel
theorem dX9_save_67 : decode cX9_save 67 = .ok (.aload_n 0, 1) := by decide +kernel
theorem dX9_save_68 : decode cX9_save 68 = .ok (.getfield 7, 3) := by decide +kernel
theorem dX9_save_71 : decode cX9_save 71 = .ok (.iconst 4, 1) := by decide +kernel
theorem dX9_save_72 : decode cX9_save 72 = .ok (.iaload, 1) := by decide +kernel
theorem dX9_save_73 : decode cX9_save 73 = .ok (.imul, 1) := by decide +kernel
theorem dX9_save_74 : decode cX9_save 74 = .ok (.iadd, 1) := by decide +kernel
theorem dX9_save_75 : decode cX9_save 75 = .ok (.iload_n 1, 1) := by decide +kernel
theorem dX9_save_76 : decode cX9_save 76 = .ok (.iadd, 1) := by decide +kernel
theorem dX9_save_77 : decode cX9_save 77 = .ok (.aload_n 0, 1) := by decide +kernel
theorem dX9_save_78 : decode cX9_save 78 = .ok (.getfield 7, 3) := by decide +kernel
theorem dX9_save_81 : decode cX9_save 81 = .ok (.iconst 5, 1) := by decide +kernel
theorem dX9_save_82 : decode cX9_save 82 = .ok (.iload_n 1, 1) := by decide +kernel
theorem dX9_save_83 : decode cX9_save 83 = .ok (.iadd, 1) := by decide +kernel
theorem dX9_save_84 : decode cX9_save 84 = .ok (.iaload, 1) := by decide +kernel
theorem dX9_save_85 : decode cX9_save 85 = .ok (.iastore, 1) := by decide +kernel
theorem dX9_save_86 : decode cX9_save 86 = .ok (.iinc 1 1, 3) := by decide +kernel
theorem dX9_save_89 : decode cX9_save 89 = .ok (.goto (-36), 3) := by decide +kernel
theorem dX9_save_92 : decode cX9_save 92 = .ok (.aload_n 0, 1) := by decide +kernel
theorem dX9_save_93 : decode cX9_save 93 = .ok (.getfield 7, 3) := by decide +kernel
theorem dX9_save_96 : decode cX9_save 96 = .ok (.iconst 4, 1) := by decide +kernel
theorem dX9_save_97 : decode cX9_save 97 = .ok (.dup2, 1) := by decide +kernel
theorem dX9_save_98 : decode cX9_save 98 = .ok (.iaload, 1) := by decide +kernel
theorem dX9_save_99 : decode cX9_save 99 = .ok (.iconst 1, 1) := by decide +kernel
theorem dX9_save_100 : decode cX9_save 100 = .ok (.iadd, 1) := by decide +kernel
theorem dX9_save_101 : decode cX9_save 101 = .ok (.iastore, 1) := by decide +kernel
theorem dX9_save_102 : decode cX9_save 102 = .ok (.return_, 1) := by decide +kernel
set_option maxRecDepth 20000 in
theorem ggX9_says_X9_isPoint : GoodIn wsX9_says wsX9_isPoint := goodIn_r _ [6, 7, 8, 9, 5, 10, 1, 11, 12, 13, 47, 48, 49, 50, 51, 52, 53, 54, 55, 56, 57, 58, 59, 60, 61, 62, 63, 64, 65, 66, 67, 68, 69, 70, 71, 72, 73, 74] (by decide +kernel) (by decide +kernel)
set_option maxRecDepth 20000 in
theorem gX9_says_X9_isPoint : GoodIn wsX9_says (wsV RX9 117 RX9 yX9_isPoint wsX9_isPoint) := goodIn_app (goodIn_of _ (by decide +kernel)) ggX9_says_X9_isPoint
set_option maxRecDepth 20000 in
theorem ggX9_says_X9_bad : GoodIn wsX9_says wsX9_bad := goodIn_r _ [17, 18, 47, 48, 49, 50, 51, 52, 53, 54, 55, 56, 57, 58, 59, 60, 61, 62, 63, 64, 65, 66, 67, 68, 69, 70, 71, 72, 73, 74] (by decide +kernel) (by decide +kernel)
set_option maxRecDepth 20000 in
theorem gX9_says_X9_bad : GoodIn wsX9_says (wsV RX9 84 RX9 yX9_bad wsX9_bad) := goodIn_app (goodIn_of _ (by decide +kernel)) ggX9_says_X9_bad
set_option maxRecDepth 20000 in
theorem ggX9_says_X9_has : GoodIn wsX9_says wsX9_has := goodIn_r _ [21] (by decide +kernel) (by decide +kernel)
set_option maxRecDepth 20000 in
theorem gX9_says_X9_has : GoodIn wsX9_says (va_wsS RX9 120 yX9_has wsX9_has) := goodIn_app (goodIn_of _ (by decide +kernel)) ggX9_says_X9_has
set_option maxRecDepth 20000 in
theorem ggX9_says_X9_no : GoodIn wsX9_says wsX9_no := goodIn_r _ [25, 18, 47, 48, 49, 50, 51, 52, 53, 54, 55, 56, 57, 58, 59, 60, 61, 62, 63, 64, 65, 66, 67, 68, 69, 70, 71, 72, 73, 74] (by decide +kernel) (by decide +kernel)
set_option maxRecDepth 20000 in
theorem gX9_says_X9_no : GoodIn wsX9_says (wsV RX9 124 RX9 yX9_no wsX9_no) := goodIn_app (goodIn_of _ (by decide +kernel)) ggX9_says_X9_no
set_option maxRecDepth 20000 in
theorem ggX9_says_X9_save : GoodIn wsX9_says wsX9_save := goodIn_r _ [29, 1, 47, 48, 49, 50, 51, 52, 53, 54, 55, 56, 57, 58, 59, 60, 61, 62, 63, 64, 65, 66, 67, 68, 69, 70, 71, 72, 73, 74] (by decide +kernel) (by decide +kernel)
set_option maxRecDepth 20000 in
theorem gX9_says_X9_save : GoodIn wsX9_says (wsV RX9 127 RX9 yX9_save wsX9_save) := goodIn_app (goodIn_of _ (by decide +kernel)) ggX9_says_X9_save
set_option maxRecDepth 20000 in
theorem ggX9_says_X9_meritBy : GoodIn wsX9_says wsX9_meritBy := goodIn_r _ [33, 34, 35, 36, 5, 37, 1, 38, 39, 40, 41, 42, 43, 44, 45, 46, 47, 48, 49, 50, 51, 52, 53, 54, 55, 56, 57, 58, 59, 60, 61, 62, 63, 64, 65, 66, 67, 68, 69, 70, 71, 72, 73, 74] (by decide +kernel) (by decide +kernel)
set_option maxRecDepth 20000 in
theorem gX9_says_X9_meritBy : GoodIn wsX9_says (wsV RX9 130 RX9 yX9_meritBy wsX9_meritBy) := goodIn_app (goodIn_of _ (by decide +kernel)) ggX9_says_X9_meritBy
theorem dX9_says_0 : decode cX9_says 0 = .ok (.aload_n 0, 1) := by decide +kernel
theorem dX9_says_1 : decode cX9_says 1 = .ok (.iload_n 1, 1) := by decide +kernel
theorem dX9_says_2 : decode cX9_says 2 = .ok (.invokevirtual 117, 3) := by decide +kernel
theorem dX9_says_5 : decode cX9_says 5 = .ok (.ifCond .ne 11, 3) := by decide +kernel
theorem dX9_says_8 : decode cX9_says 8 = .ok (.aload_n 0, 1) := by decide +kernel
theorem dX9_says_9 : decode cX9_says 9 = .ok (.sipush (-1000), 3) := by decide +kernel
theorem dX9_says_12 : decode cX9_says 12 = .ok (.invokevirtual 84, 3) := by decide +kernel
theorem dX9_says_15 : decode cX9_says 15 = .ok (.ireturn, 1) := by decide +kernel
theorem dX9_says_16 : decode cX9_says 16 = .ok (.aload_n 0, 1) := by decide +kernel
theorem dX9_says_17 : decode cX9_says 17 = .ok (.getfield 7, 3) := by decide +kernel
theorem dX9_says_20 : decode cX9_says 20 = .ok (.iconst 5, 1) := by decide +kernel
theorem dX9_says_21 : decode cX9_says 21 = .ok (.iaload, 1) := by decide +kernel
theorem dX9_says_22 : decode cX9_says 22 = .ok (.iload_n 1, 1) := by decide +kernel
theorem dX9_says_23 : decode cX9_says 23 = .ok (.invokestatic 120, 3) := by decide +kernel
theorem dX9_says_26 : decode cX9_says 26 = .ok (.ifCond .eq 11, 3) := by decide +kernel
theorem dX9_says_29 : decode cX9_says 29 = .ok (.aload_n 0, 1) := by decide +kernel
theorem dX9_says_30 : decode cX9_says 30 = .ok (.sipush (-1001), 3) := by decide +kernel
theorem dX9_says_33 : decode cX9_says 33 = .ok (.invokevirtual 124, 3) := by decide +kernel
theorem dX9_says_36 : decode cX9_says 36 = .ok (.ireturn, 1) := by decide +kernel
theorem dX9_says_37 : decode cX9_says 37 = .ok (.aload_n 0, 1) := by decide +kernel
theorem dX9_says_38 : decode cX9_says 38 = .ok (.invokevirtual 127, 3) := by decide +kernel
theorem dX9_says_41 : decode cX9_says 41 = .ok (.aload_n 0, 1) := by decide +kernel
theorem dX9_says_42 : decode cX9_says 42 = .ok (.getfield 7, 3) := by decide +kernel
theorem dX9_says_45 : decode cX9_says 45 = .ok (.bipush 15, 2) := by decide +kernel
theorem dX9_says_47 : decode cX9_says 47 = .ok (.aload_n 0, 1) := by decide +kernel
theorem dX9_says_48 : decode cX9_says 48 = .ok (.iload_n 1, 1) := by decide +kernel
theorem dX9_says_49 : decode cX9_says 49 = .ok (.aload_n 0, 1) := by decide +kernel
theorem dX9_says_50 : decode cX9_says 50 = .ok (.getfield 7, 3) := by decide +kernel
theorem dX9_says_53 : decode cX9_says 53 = .ok (.bipush 14, 2) := by decide +kernel
theorem dX9_says_55 : decode cX9_says 55 = .ok (.iaload, 1) := by decide +kernel
theorem dX9_says_56 : decode cX9_says 56 = .ok (.aload_n 0, 1) := by decide +kernel
theorem dX9_says_57 : decode cX9_says 57 = .ok (.getfield 7, 3) := by decide +kernel
theorem dX9_says_60 : decode cX9_says 60 = .ok (.bipush 15, 2) := by decide +kernel
theorem dX9_says_62 : decode cX9_says 62 = .ok (.iaload, 1) := by decide +kernel
theorem dX9_says_63 : decode cX9_says 63 = .ok (.aload_n 0, 1) := by decide +kernel
theorem dX9_says_64 : decode cX9_says 64 = .ok (.getfield 7, 3) := by decide +kernel
theorem dX9_says_67 : decode cX9_says 67 = .ok (.bipush 16, 2) := by decide +kernel
theorem dX9_says_69 : decode cX9_says 69 = .ok (.iaload, 1) := by decide +kernel
theorem dX9_says_70 : decode cX9_says 70 = .ok (.invokevirtual 130, 3) := by decide +kernel
theorem dX9_says_73 : decode cX9_says 73 = .ok (.iastore, 1) := by decide +kernel
theorem dX9_says_74 : decode cX9_says 74 = .ok (.aload_n 0, 1) := by decide +kernel
theorem dX9_says_75 : decode cX9_says 75 = .ok (.getfield 7, 3) := by decide +kernel
theorem dX9_says_78 : decode cX9_says 78 = .ok (.iconst 5, 1) := by decide +kernel
theorem dX9_says_79 : decode cX9_says 79 = .ok (.dup2, 1) := by decide +kernel
theorem dX9_says_80 : decode cX9_says 80 = .ok (.iaload, 1) := by decide +kernel
theorem dX9_says_81 : decode cX9_says 81 = .ok (.iconst 1, 1) := by decide +kernel
theorem dX9_says_82 : decode cX9_says 82 = .ok (.iload_n 1, 1) := by decide +kernel
theorem dX9_says_83 : decode cX9_says 83 = .ok (.ishl, 1) := by decide +kernel
theorem dX9_says_84 : decode cX9_says 84 = .ok (.ior, 1) := by decide +kernel
theorem dX9_says_85 : decode cX9_says 85 = .ok (.iastore, 1) := by decide +kernel
theorem dX9_says_86 : decode cX9_says 86 = .ok (.aload_n 0, 1) := by decide +kernel
theorem dX9_says_87 : decode cX9_says 87 = .ok (.getfield 7, 3) := by decide +kernel
theorem dX9_says_90 : decode cX9_says 90 = .ok (.bipush 16, 2) := by decide +kernel
theorem dX9_says_92 : decode cX9_says 92 = .ok (.dup2, 1) := by decide +kernel
theorem dX9_says_93 : decode cX9_says 93 = .ok (.iaload, 1) := by decide +kernel
theorem dX9_says_94 : decode cX9_says 94 = .ok (.iconst 1, 1) := by decide +kernel
theorem dX9_says_95 : decode cX9_says 95 = .ok (.iadd, 1) := by decide +kernel
theorem dX9_says_96 : decode cX9_says 96 = .ok (.iastore, 1) := by decide +kernel
theorem dX9_says_97 : decode cX9_says 97 = .ok (.aload_n 0, 1) := by decide +kernel
theorem dX9_says_98 : decode cX9_says 98 = .ok (.getfield 7, 3) := by decide +kernel
theorem dX9_says_101 : decode cX9_says 101 = .ok (.bipush 17, 2) := by decide +kernel
theorem dX9_says_103 : decode cX9_says 103 = .ok (.iload_n 1, 1) := by decide +kernel
theorem dX9_says_104 : decode cX9_says 104 = .ok (.iastore, 1) := by decide +kernel
theorem dX9_says_105 : decode cX9_says 105 = .ok (.aload_n 0, 1) := by decide +kernel
theorem dX9_says_106 : decode cX9_says 106 = .ok (.getfield 7, 3) := by decide +kernel
theorem dX9_says_109 : decode cX9_says 109 = .ok (.bipush 15, 2) := by decide +kernel
theorem dX9_says_111 : decode cX9_says 111 = .ok (.iaload, 1) := by decide +kernel
theorem dX9_says_112 : decode cX9_says 112 = .ok (.ireturn, 1) := by decide +kernel
theorem dX9_may_0 : decode cX9_may 0 = .ok (.aload_n 0, 1) := by decide +kernel
theorem dX9_may_1 : decode cX9_may 1 = .ok (.getfield 7, 3) := by decide +kernel
theorem dX9_may_4 : decode cX9_may 4 = .ok (.bipush 17, 2) := by decide +kernel
theorem dX9_may_6 : decode cX9_may 6 = .ok (.iaload, 1) := by decide +kernel
theorem dX9_may_7 : decode cX9_may 7 = .ok (.istore_n 1, 1) := by decide +kernel
theorem dX9_may_8 : decode cX9_may 8 = .ok (.iload_n 1, 1) := by decide +kernel
theorem dX9_may_9 : decode cX9_may 9 = .ok (.iconst (-1), 1) := by decide +kernel
theorem dX9_may_10 : decode cX9_may 10 = .ok (.if_icmp .eq 39, 3) := by decide +kernel
theorem dX9_may_13 : decode cX9_may 13 = .ok (.aload_n 0, 1) := by decide +kernel
theorem dX9_may_14 : decode cX9_may 14 = .ok (.getfield 7, 3) := by decide +kernel
theorem dX9_may_17 : decode cX9_may 17 = .ok (.bipush 6, 2) := by decide +kernel
theorem dX9_may_19 : decode cX9_may 19 = .ok (.iload_n 1, 1) := by decide +kernel
theorem dX9_may_20 : decode cX9_may 20 = .ok (.iadd, 1) := by decide +kernel
theorem dX9_may_21 : decode cX9_may 21 = .ok (.iaload, 1) := by decide +kernel
theorem dX9_may_22 : decode cX9_may 22 = .ok (.ifCond .le 27, 3) := by decide +kernel
theorem dX9_may_25 : decode cX9_may 25 = .ok (.aload_n 0, 1) := by decide +kernel
theorem dX9_may_26 : decode cX9_may 26 = .ok (.getfield 7, 3) := by decide +kernel
theorem dX9_may_29 : decode cX9_may 29 = .ok (.bipush 12, 2) := by decide +kernel
theorem dX9_may_31 : decode cX9_may 31 = .ok (.aload_n 0, 1) := by decide +kernel
theorem dX9_may_32 : decode cX9_may 32 = .ok (.getfield 7, 3) := by decide +kernel
theorem dX9_may_35 : decode cX9_may 35 = .ok (.bipush 16, 2) := by decide +kernel
theorem dX9_may_37 : decode cX9_may 37 = .ok (.iaload, 1) := by decide +kernel
theorem dX9_may_38 : decode cX9_may 38 = .ok (.iconst 2, 1) := by decide +kernel
theorem dX9_may_39 : decode cX9_may 39 = .ok (.irem, 1) := by decide +kernel
theorem dX9_may_40 : decode cX9_may 40 = .ok (.iadd, 1) := by decide +kernel
theorem dX9_may_41 : decode cX9_may 41 = .ok (.iaload, 1) := by decide +kernel
theorem dX9_may_42 : decode cX9_may 42 = .ok (.ifCond .le 7, 3) := by decide +kernel
theorem dX9_may_45 : decode cX9_may 45 = .ok (.iconst 1, 1) := by decide +kernel
theorem dX9_may_46 : decode cX9_may 46 = .ok (.goto 4, 3) := by decide +kernel
theorem dX9_may_49 : decode cX9_may 49 = .ok (.iconst 0, 1) := by decide +kernel
theorem dX9_may_50 : decode cX9_may 50 = .ok (.ireturn, 1) := by decide +kernel
set_option maxRecDepth 20000 in
theorem ggX9_objects_X9_may : GoodIn wsX9_objects wsX9_may := goodIn_r _ [6, 1, 16, 17, 18, 19, 20, 21, 22, 23, 24, 25, 26, 27, 28, 29, 30, 31, 32, 33, 34, 35, 36, 37, 38, 39, 40, 41, 42, 43] (by decide +kernel) (by decide +kernel)
set_option maxRecDepth 20000 in
theorem gX9_objects_X9_may : GoodIn wsX9_objects (wsV RX9 133 RX9 yX9_may wsX9_may) := goodIn_app (goodIn_of _ (by decide +kernel)) ggX9_objects_X9_may
set_option maxRecDepth 20000 in
theorem ggX9_objects_X9_no : GoodIn wsX9_objects wsX9_no := goodIn_r _ [10, 11, 16, 17, 18, 19, 20, 21, 22, 23, 24, 25, 26, 27, 28, 29, 30, 31, 32, 33, 34, 35, 36, 37, 38, 39, 40, 41, 42, 43] (by decide +kernel) (by decide +kernel)
set_option maxRecDepth 20000 in
theorem gX9_objects_X9_no : GoodIn wsX9_objects (wsV RX9 124 RX9 yX9_no wsX9_no) := goodIn_app (goodIn_of _ (by decide +kernel)) ggX9_objects_X9_no
set_option maxRecDepth 20000 in
theorem ggX9_objects_X9_save : GoodIn wsX9_objects wsX9_save := goodIn_r _ [15, 1, 16, 17, 18, 19, 20, 21, 22, 23, 24, 25, 26, 27, 28, 29, 30, 31, 32, 33, 34, 35, 36, 37, 38, 39, 40, 41, 42, 43] (by decide +kernel) (by decide +kernel)
set_option maxRecDepth 20000 in
theorem gX9_objects_X9_save : GoodIn wsX9_objects (wsV RX9 127 RX9 yX9_save wsX9_save) := goodIn_app (goodIn_of _ (by decide +kernel)) ggX9_objects_X9_save
theorem dX9_objects_0 : decode cX9_objects 0 = .ok (.aload_n 0, 1) := by decide +kernel
theorem dX9_objects_1 : decode cX9_objects 1 = .ok (.invokevirtual 133, 3) := by decide +kernel
theorem dX9_objects_4 : decode cX9_objects 4 = .ok (.ifCond .ne 10, 3) := by decide +kernel
theorem dX9_objects_7 : decode cX9_objects 7 = .ok (.aload_n 0, 1) := by decide +kernel
theorem dX9_objects_8 : decode cX9_objects 8 = .ok (.bipush (-3), 2) := by decide +kernel
theorem dX9_objects_10 : decode cX9_objects 10 = .ok (.invokevirtual 124, 3) := by decide +kernel
theorem dX9_objects_13 : decode cX9_objects 13 = .ok (.ireturn, 1) := by decide +kernel
theorem dX9_objects_14 : decode cX9_objects 14 = .ok (.aload_n 0, 1) := by decide +kernel
theorem dX9_objects_15 : decode cX9_objects 15 = .ok (.invokevirtual 127, 3) := by decide +kernel
theorem dX9_objects_18 : decode cX9_objects 18 = .ok (.aload_n 0, 1) := by decide +kernel
theorem dX9_objects_19 : decode cX9_objects 19 = .ok (.getfield 7, 3) := by decide +kernel
theorem dX9_objects_22 : decode cX9_objects 22 = .ok (.bipush 12, 2) := by decide +kernel
theorem dX9_objects_24 : decode cX9_objects 24 = .ok (.aload_n 0, 1) := by decide +kernel
theorem dX9_objects_25 : decode cX9_objects 25 = .ok (.getfield 7, 3) := by decide +kernel
theorem dX9_objects_28 : decode cX9_objects 28 = .ok (.bipush 16, 2) := by decide +kernel
theorem dX9_objects_30 : decode cX9_objects 30 = .ok (.iaload, 1) := by decide +kernel
theorem dX9_objects_31 : decode cX9_objects 31 = .ok (.iconst 2, 1) := by decide +kernel
theorem dX9_objects_32 : decode cX9_objects 32 = .ok (.irem, 1) := by decide +kernel
theorem dX9_objects_33 : decode cX9_objects 33 = .ok (.iadd, 1) := by decide +kernel
theorem dX9_objects_34 : decode cX9_objects 34 = .ok (.dup2, 1) := by decide +kernel
theorem dX9_objects_35 : decode cX9_objects 35 = .ok (.iaload, 1) := by decide +kernel
theorem dX9_objects_36 : decode cX9_objects 36 = .ok (.iconst 1, 1) := by decide +kernel
theorem dX9_objects_37 : decode cX9_objects 37 = .ok (.isub, 1) := by decide +kernel
theorem dX9_objects_38 : decode cX9_objects 38 = .ok (.iastore, 1) := by decide +kernel
theorem dX9_objects_39 : decode cX9_objects 39 = .ok (.aload_n 0, 1) := by decide +kernel
theorem dX9_objects_40 : decode cX9_objects 40 = .ok (.getfield 7, 3) := by decide +kernel
theorem dX9_objects_43 : decode cX9_objects 43 = .ok (.bipush 6, 2) := by decide +kernel
theorem dX9_objects_45 : decode cX9_objects 45 = .ok (.aload_n 0, 1) := by decide +kernel
theorem dX9_objects_46 : decode cX9_objects 46 = .ok (.getfield 7, 3) := by decide +kernel
theorem dX9_objects_49 : decode cX9_objects 49 = .ok (.bipush 17, 2) := by decide +kernel
theorem dX9_objects_51 : decode cX9_objects 51 = .ok (.iaload, 1) := by decide +kernel
theorem dX9_objects_52 : decode cX9_objects 52 = .ok (.iadd, 1) := by decide +kernel
theorem dX9_objects_53 : decode cX9_objects 53 = .ok (.dup2, 1) := by decide +kernel
theorem dX9_objects_54 : decode cX9_objects 54 = .ok (.iaload, 1) := by decide +kernel
theorem dX9_objects_55 : decode cX9_objects 55 = .ok (.iconst 1, 1) := by decide +kernel
theorem dX9_objects_56 : decode cX9_objects 56 = .ok (.isub, 1) := by decide +kernel
theorem dX9_objects_57 : decode cX9_objects 57 = .ok (.iastore, 1) := by decide +kernel
theorem dX9_objects_58 : decode cX9_objects 58 = .ok (.aload_n 0, 1) := by decide +kernel
theorem dX9_objects_59 : decode cX9_objects 59 = .ok (.getfield 7, 3) := by decide +kernel
theorem dX9_objects_62 : decode cX9_objects 62 = .ok (.bipush 14, 2) := by decide +kernel
theorem dX9_objects_64 : decode cX9_objects 64 = .ok (.iconst 1, 1) := by decide +kernel
theorem dX9_objects_65 : decode cX9_objects 65 = .ok (.aload_n 0, 1) := by decide +kernel
theorem dX9_objects_66 : decode cX9_objects 66 = .ok (.getfield 7, 3) := by decide +kernel
theorem dX9_objects_69 : decode cX9_objects 69 = .ok (.bipush 14, 2) := by decide +kernel
theorem dX9_objects_71 : decode cX9_objects 71 = .ok (.iaload, 1) := by decide +kernel
theorem dX9_objects_72 : decode cX9_objects 72 = .ok (.isub, 1) := by decide +kernel
theorem dX9_objects_73 : decode cX9_objects 73 = .ok (.iastore, 1) := by decide +kernel
theorem dX9_objects_74 : decode cX9_objects 74 = .ok (.aload_n 0, 1) := by decide +kernel
theorem dX9_objects_75 : decode cX9_objects 75 = .ok (.getfield 7, 3) := by decide +kernel
theorem dX9_objects_78 : decode cX9_objects 78 = .ok (.bipush 17, 2) := by decide +kernel
theorem dX9_objects_80 : decode cX9_objects 80 = .ok (.iconst (-1), 1) := by decide +kernel
theorem dX9_objects_81 : decode cX9_objects 81 = .ok (.iastore, 1) := by decide +kernel
theorem dX9_objects_82 : decode cX9_objects 82 = .ok (.aload_n 0, 1) := by decide +kernel
theorem dX9_objects_83 : decode cX9_objects 83 = .ok (.getfield 7, 3) := by decide +kernel
theorem dX9_objects_86 : decode cX9_objects 86 = .ok (.bipush 14, 2) := by decide +kernel
theorem dX9_objects_88 : decode cX9_objects 88 = .ok (.iaload, 1) := by decide +kernel
theorem dX9_objects_89 : decode cX9_objects 89 = .ok (.ireturn, 1) := by decide +kernel
set_option maxRecDepth 20000 in
theorem ggX9_undo_X9_no : GoodIn wsX9_undo wsX9_no := goodIn_r _ [6, 7, 8, 9, 10, 11, 12, 13, 14, 15, 16, 17, 18, 19, 20, 21, 22, 23, 24, 25, 26, 27, 28, 29, 30, 31, 32, 33, 34, 35] (by decide +kernel) (by decide +kernel)
set_option maxRecDepth 20000 in
theorem gX9_undo_X9_no : GoodIn wsX9_undo (wsV RX9 124 RX9 yX9_no wsX9_no) := goodIn_app (goodIn_of _ (by decide +kernel)) ggX9_undo_X9_no
theorem dX9_undo_0 : decode cX9_undo 0 = .ok (.aload_n 0, 1) := by decide +kernel
theorem dX9_undo_1 : decode cX9_undo 1 = .ok (.getfield 7, 3) := by decide +kernel
theorem dX9_undo_4 : decode cX9_undo 4 = .ok (.iconst 4, 1) := by decide +kernel
theorem dX9_undo_5 : decode cX9_undo 5 = .ok (.iaload, 1) := by decide +kernel
theorem dX9_undo_6 : decode cX9_undo 6 = .ok (.ifCond .ne 10, 3) := by decide +kernel
theorem dX9_undo_9 : decode cX9_undo 9 = .ok (.aload_n 0, 1) := by decide +kernel
theorem dX9_undo_10 : decode cX9_undo 10 = .ok (.bipush (-3), 2) := by decide +kernel
theorem dX9_undo_12 : decode cX9_undo 12 = .ok (.invokevirtual 124, 3) := by decide +kernel
theorem dX9_undo_15 : decode cX9_undo 15 = .ok (.ireturn, 1) := by decide +kernel
theorem dX9_undo_16 : decode cX9_undo 16 = .ok (.aload_n 0, 1) := by decide +kernel
theorem dX9_undo_17 : decode cX9_undo 17 = .ok (.getfield 7, 3) := by decide +kernel
theorem dX9_undo_20 : decode cX9_undo 20 = .ok (.iconst 4, 1) := by decide +kernel
theorem dX9_undo_21 : decode cX9_undo 21 = .ok (.dup2, 1) := by decide +kernel
theorem dX9_undo_22 : decode cX9_undo 22 = .ok (.iaload, 1) := by decide +kernel
theorem dX9_undo_23 : decode cX9_undo 23 = .ok (.iconst 1, 1) := by decide +kernel
theorem dX9_undo_24 : decode cX9_undo 24 = .ok (.isub, 1) := by decide +kernel
theorem dX9_undo_25 : decode cX9_undo 25 = .ok (.iastore, 1) := by decide +kernel
theorem dX9_undo_26 : decode cX9_undo 26 = .ok (.iconst 0, 1) := by decide +kernel
theorem dX9_undo_27 : decode cX9_undo 27 = .ok (.istore_n 1, 1) := by decide +kernel
theorem dX9_undo_28 : decode cX9_undo 28 = .ok (.iload_n 1, 1) := by decide +kernel
theorem dX9_undo_29 : decode cX9_undo 29 = .ok (.bipush 13, 2) := by decide +kernel
theorem dX9_undo_31 : decode cX9_undo 31 = .ok (.if_icmp .ge 36, 3) := by decide +kernel
theorem dX9_undo_34 : decode cX9_undo 34 = .ok (.aload_n 0, 1) := by decide +kernel
theorem dX9_undo_35 : decode cX9_undo 35 = .ok (.getfield 7, 3) := by decide +kernel
theorem dX9_undo_38 : decode cX9_undo 38 = .ok (.iconst 5, 1) := by decide +kernel
theorem dX9_undo_39 : decode cX9_undo 39 = .ok (.iload_n 1, 1) := by decide +kernel
theorem dX9_undo_40 : decode cX9_undo 40 = .ok (.iadd, 1) := by decide +kernel
theorem dX9_undo_41 : decode cX9_undo 41 = .ok (.aload_n 0, 1) := by decide +kernel
theorem dX9_undo_42 : decode cX9_undo 42 = .ok (.getfield 7, 3) := by decide +kernel
theorem dX9_undo_45 : decode cX9_undo 45 = .ok (.bipush 90, 2) := by decide +kernel
theorem dX9_undo_47 : decode cX9_undo 47 = .ok (.bipush 13, 2) := by decide +kernel
theorem dX9_undo_49 : decode cX9_undo 49 = .ok (.aload_n 0, 1) := by decide +kernel
theorem dX9_undo_50 : decode cX9_undo 50 = .ok (.getfield 7, 3) := by decide +kernel
theorem dX9_undo_53 : decode cX9_undo 53 = .ok (.iconst 4, 1) := by decide +kernel
theorem dX9_undo_54 : decode cX9_undo 54 = .ok (.iaload, 1) := by decide +kernel
theorem dX9_undo_55 : decode cX9_undo 55 = .ok (.imul, 1) := by decide +kernel
theorem dX9_undo_56 : decode cX9_undo 56 = .ok (.iadd, 1) := by decide +kernel
theorem dX9_undo_57 : decode cX9_undo 57 = .ok (.iload_n 1, 1) := by decide +kernel
theorem dX9_undo_58 : decode cX9_undo 58 = .ok (.iadd, 1) := by decide +kernel
theorem dX9_undo_59 : decode cX9_undo 59 = .ok (.iaload, 1) := by decide +kernel
theorem dX9_undo_60 : decode cX9_undo 60 = .ok (.iastore, 1) := by decide +kernel
theorem dX9_undo_61 : decode cX9_undo 61 = .ok (.iinc 1 1, 3) := by decide +kernel
theorem dX9_undo_64 : decode cX9_undo 64 = .ok (.goto (-36), 3) := by decide +kernel
theorem dX9_undo_67 : decode cX9_undo 67 = .ok (.aload_n 0, 1) := by decide +kernel
theorem dX9_undo_68 : decode cX9_undo 68 = .ok (.getfield 7, 3) := by decide +kernel
theorem dX9_undo_71 : decode cX9_undo 71 = .ok (.bipush 16, 2) := by decide +kernel
theorem dX9_undo_73 : decode cX9_undo 73 = .ok (.iaload, 1) := by decide +kernel
theorem dX9_undo_74 : decode cX9_undo 74 = .ok (.ireturn, 1) := by decide +kernel
set_option maxRecDepth 20000 in
theorem ggX9_open_X9_many : GoodIn wsX9_open wsX9_many := goodIn_r _ [6, 1, 7, 8, 9, 10, 11, 12, 13, 14, 15, 16, 17, 18, 19, 20, 21, 22, 23, 24, 25, 26, 27, 28, 29, 30, 31, 32, 33, 34] (by decide +kernel) (by decide +kernel)
set_option maxRecDepth 20000 in
theorem gX9_open_X9_many : GoodIn wsX9_open (wsV RX9 70 RX9 yX9_many wsX9_many) := goodIn_app (goodIn_of _ (by decide +kernel)) ggX9_open_X9_many
theorem dX9_open_0 : decode cX9_open 0 = .ok (.iconst 1, 1) := by decide +kernel
theorem dX9_open_1 : decode cX9_open 1 = .ok (.aload_n 0, 1) := by decide +kernel
theorem dX9_open_2 : decode cX9_open 2 = .ok (.invokevirtual 70, 3) := by decide +kernel
theorem dX9_open_5 : decode cX9_open 5 = .ok (.ishl, 1) := by decide +kernel
theorem dX9_open_6 : decode cX9_open 6 = .ok (.iconst 1, 1) := by decide +kernel
theorem dX9_open_7 : decode cX9_open 7 = .ok (.isub, 1) := by decide +kernel
theorem dX9_open_8 : decode cX9_open 8 = .ok (.aload_n 0, 1) := by decide +kernel
theorem dX9_open_9 : decode cX9_open 9 = .ok (.getfield 7, 3) := by decide +kernel
theorem dX9_open_12 : decode cX9_open 12 = .ok (.iconst 5, 1) := by decide +kernel
theorem dX9_open_13 : decode cX9_open 13 = .ok (.iaload, 1) := by decide +kernel
theorem dX9_open_14 : decode cX9_open 14 = .ok (.iconst (-1), 1) := by decide +kernel
theorem dX9_open_15 : decode cX9_open 15 = .ok (.ixor, 1) := by decide +kernel
theorem dX9_open_16 : decode cX9_open 16 = .ok (.iand, 1) := by decide +kernel
theorem dX9_open_17 : decode cX9_open 17 = .ok (.ireturn, 1) := by decide +kernel
set_option maxRecDepth 20000 in
theorem ggX9_toldNow_X9_may : GoodIn wsX9_toldNow wsX9_may := goodIn_r _ [6, 1, 15, 16, 17, 18, 19, 20, 21, 22, 23, 24, 25, 26, 27, 28, 29, 30, 31, 32, 33, 34, 35, 36, 37, 38, 39, 40, 41, 42] (by decide +kernel) (by decide +kernel)
set_option maxRecDepth 20000 in
theorem gX9_toldNow_X9_may : GoodIn wsX9_toldNow (wsV RX9 133 RX9 yX9_may wsX9_may) := goodIn_app (goodIn_of _ (by decide +kernel)) ggX9_toldNow_X9_may
set_option maxRecDepth 20000 in
theorem ggX9_toldNow_X9_open : GoodIn wsX9_toldNow wsX9_open := goodIn_r _ [10, 1, 11, 12, 13, 5, 14, 15, 16, 17, 18, 19, 20, 21, 22, 23, 24, 25, 26, 27, 28, 29, 30, 31, 32, 33, 34, 35, 36, 37, 38, 39, 40, 41, 42] (by decide +kernel) (by decide +kernel)
set_option maxRecDepth 20000 in
theorem gX9_toldNow_X9_open : GoodIn wsX9_toldNow (wsV RX9 137 RX9 yX9_open wsX9_open) := goodIn_app (goodIn_of _ (by decide +kernel)) ggX9_toldNow_X9_open
theorem dX9_toldNow_0 : decode cX9_toldNow 0 = .ok (.iload_n 1, 1) := by decide +kernel
theorem dX9_toldNow_1 : decode cX9_toldNow 1 = .ok (.tableswitch 82 0 4 #[35, 43, 51, 59, 69], 35) := by decide +kernel
theorem dX9_toldNow_36 : decode cX9_toldNow 36 = .ok (.aload_n 0, 1) := by decide +kernel
theorem dX9_toldNow_37 : decode cX9_toldNow 37 = .ok (.getfield 7, 3) := by decide +kernel
theorem dX9_toldNow_40 : decode cX9_toldNow 40 = .ok (.bipush 15, 2) := by decide +kernel
theorem dX9_toldNow_42 : decode cX9_toldNow 42 = .ok (.iaload, 1) := by decide +kernel
theorem dX9_toldNow_43 : decode cX9_toldNow 43 = .ok (.ireturn, 1) := by decide +kernel
theorem dX9_toldNow_44 : decode cX9_toldNow 44 = .ok (.aload_n 0, 1) := by decide +kernel
theorem dX9_toldNow_45 : decode cX9_toldNow 45 = .ok (.getfield 7, 3) := by decide +kernel
theorem dX9_toldNow_48 : decode cX9_toldNow 48 = .ok (.bipush 14, 2) := by decide +kernel
theorem dX9_toldNow_50 : decode cX9_toldNow 50 = .ok (.iaload, 1) := by decide +kernel
theorem dX9_toldNow_51 : decode cX9_toldNow 51 = .ok (.ireturn, 1) := by decide +kernel
theorem dX9_toldNow_52 : decode cX9_toldNow 52 = .ok (.aload_n 0, 1) := by decide +kernel
theorem dX9_toldNow_53 : decode cX9_toldNow 53 = .ok (.getfield 7, 3) := by decide +kernel
theorem dX9_toldNow_56 : decode cX9_toldNow 56 = .ok (.bipush 16, 2) := by decide +kernel
theorem dX9_toldNow_58 : decode cX9_toldNow 58 = .ok (.iaload, 1) := by decide +kernel
theorem dX9_toldNow_59 : decode cX9_toldNow 59 = .ok (.ireturn, 1) := by decide +kernel
theorem dX9_toldNow_60 : decode cX9_toldNow 60 = .ok (.aload_n 0, 1) := by decide +kernel
theorem dX9_toldNow_61 : decode cX9_toldNow 61 = .ok (.getfield 7, 3) := by decide +kernel
theorem dX9_toldNow_64 : decode cX9_toldNow 64 = .ok (.bipush 16, 2) := by decide +kernel
theorem dX9_toldNow_66 : decode cX9_toldNow 66 = .ok (.iaload, 1) := by decide +kernel
theorem dX9_toldNow_67 : decode cX9_toldNow 67 = .ok (.iconst 2, 1) := by decide +kernel
theorem dX9_toldNow_68 : decode cX9_toldNow 68 = .ok (.irem, 1) := by decide +kernel
theorem dX9_toldNow_69 : decode cX9_toldNow 69 = .ok (.ireturn, 1) := by decide +kernel
theorem dX9_toldNow_70 : decode cX9_toldNow 70 = .ok (.aload_n 0, 1) := by decide +kernel
theorem dX9_toldNow_71 : decode cX9_toldNow 71 = .ok (.invokevirtual 133, 3) := by decide +kernel
theorem dX9_toldNow_74 : decode cX9_toldNow 74 = .ok (.ifCond .eq 7, 3) := by decide +kernel
theorem dX9_toldNow_77 : decode cX9_toldNow 77 = .ok (.iconst 1, 1) := by decide +kernel
theorem dX9_toldNow_78 : decode cX9_toldNow 78 = .ok (.goto 4, 3) := by decide +kernel
theorem dX9_toldNow_81 : decode cX9_toldNow 81 = .ok (.iconst 0, 1) := by decide +kernel
theorem dX9_toldNow_82 : decode cX9_toldNow 82 = .ok (.ireturn, 1) := by decide +kernel
theorem dX9_toldNow_83 : decode cX9_toldNow 83 = .ok (.aload_n 0, 1) := by decide +kernel
theorem dX9_toldNow_84 : decode cX9_toldNow 84 = .ok (.invokevirtual 137, 3) := by decide +kernel
theorem dX9_toldNow_87 : decode cX9_toldNow 87 = .ok (.ifCond .eq 7, 3) := by decide +kernel
theorem dX9_toldNow_90 : decode cX9_toldNow 90 = .ok (.iconst (-1), 1) := by decide +kernel
theorem dX9_toldNow_91 : decode cX9_toldNow 91 = .ok (.goto 18, 3) := by decide +kernel
theorem dX9_toldNow_94 : decode cX9_toldNow 94 = .ok (.aload_n 0, 1) := by decide +kernel
theorem dX9_toldNow_95 : decode cX9_toldNow 95 = .ok (.getfield 7, 3) := by decide +kernel
theorem dX9_toldNow_98 : decode cX9_toldNow 98 = .ok (.bipush 15, 2) := by decide +kernel
theorem dX9_toldNow_100 : decode cX9_toldNow 100 = .ok (.iaload, 1) := by decide +kernel
theorem dX9_toldNow_101 : decode cX9_toldNow 101 = .ok (.ifCond .le 7, 3) := by decide +kernel
theorem dX9_toldNow_104 : decode cX9_toldNow 104 = .ok (.iconst 0, 1) := by decide +kernel
theorem dX9_toldNow_105 : decode cX9_toldNow 105 = .ok (.goto 4, 3) := by decide +kernel
theorem dX9_toldNow_108 : decode cX9_toldNow 108 = .ok (.iconst 1, 1) := by decide +kernel
theorem dX9_toldNow_109 : decode cX9_toldNow 109 = .ok (.ireturn, 1) := by decide +kernel
set_option maxRecDepth 20000 in
theorem ggX9_now_X9_in : GoodIn wsX9_now wsX9_in := goodIn_r _ [5] (by decide +kernel) (by decide +kernel)
set_option maxRecDepth 20000 in
theorem gX9_now_X9_in : GoodIn wsX9_now (va_wsS RX9 74 yX9_in wsX9_in) := goodIn_app (goodIn_of _ (by decide +kernel)) ggX9_now_X9_in
set_option maxRecDepth 20000 in
theorem ggX9_now_X9_toldNow : GoodIn wsX9_now wsX9_toldNow := goodIn_r _ [9, 10, 11, 12, 13, 4, 14, 15, 16, 17, 18, 19, 20, 21, 22, 28, 29, 30, 31, 32, 33, 34, 35, 36, 37, 38, 39, 40, 41, 42, 43, 44, 45, 46, 47, 48, 49, 50, 51, 52, 53, 54, 55] (by decide +kernel) (by decide +kernel)
set_option maxRecDepth 20000 in
theorem gX9_now_X9_toldNow : GoodIn wsX9_now (wsV RX9 140 RX9 yX9_toldNow wsX9_toldNow) := goodIn_app (goodIn_of _ (by decide +kernel)) ggX9_now_X9_toldNow
set_option maxRecDepth 20000 in
theorem ggX9_now_X9_bad : GoodIn wsX9_now wsX9_bad := goodIn_r _ [26, 27, 28, 29, 30, 31, 32, 33, 34, 35, 36, 37, 38, 39, 40, 41, 42, 43, 44, 45, 46, 47, 48, 49, 50, 51, 52, 53, 54, 55] (by decide +kernel) (by decide +kernel)
set_option maxRecDepth 20000 in
theorem gX9_now_X9_bad : GoodIn wsX9_now (wsV RX9 84 RX9 yX9_bad wsX9_bad) := goodIn_app (goodIn_of _ (by decide +kernel)) ggX9_now_X9_bad
theorem dX9_now_0 : decode cX9_now 0 = .ok (.iload_n 1, 1) := by decide +kernel
theorem dX9_now_1 : decode cX9_now 1 = .ok (.i2l, 1) := by decide +kernel
theorem dX9_now_2 : decode cX9_now 2 = .ok (.lconst 0, 1) := by decide +kernel
theorem dX9_now_3 : decode cX9_now 3 = .ok (.ldc2_w 78, 3) := by decide +kernel
theorem dX9_now_6 : decode cX9_now 6 = .ok (.invokestatic 74, 3) := by decide +kernel
theorem dX9_now_9 : decode cX9_now 9 = .ok (.ifCond .eq 11, 3) := by decide +kernel
theorem dX9_now_12 : decode cX9_now 12 = .ok (.aload_n 0, 1) := by decide +kernel
theorem dX9_now_13 : decode cX9_now 13 = .ok (.iload_n 1, 1) := by decide +kernel
theorem dX9_now_14 : decode cX9_now 14 = .ok (.invokevirtual 140, 3) := by decide +kernel
theorem dX9_now_17 : decode cX9_now 17 = .ok (.goto 10, 3) := by decide +kernel
theorem dX9_now_20 : decode cX9_now 20 = .ok (.aload_n 0, 1) := by decide +kernel
theorem dX9_now_21 : decode cX9_now 21 = .ok (.sipush (-1000), 3) := by decide +kernel
theorem dX9_now_24 : decode cX9_now 24 = .ok (.invokevirtual 84, 3) := by decide +kernel
theorem dX9_now_27 : decode cX9_now 27 = .ok (.ireturn, 1) := by decide +kernel
set_option maxRecDepth 20000 in
theorem ggX9_of_X9_isPoint : GoodIn wsX9_of wsX9_isPoint := goodIn_r _ [7, 8, 9, 10, 6, 11, 2, 12, 13, 14, 20, 21, 22, 23, 24, 25, 26, 27, 28, 29, 30, 31, 32, 33, 34, 35, 36, 37, 38, 39, 40, 41, 42, 43, 44, 45, 46, 47] (by decide +kernel) (by decide +kernel)
set_option maxRecDepth 20000 in
theorem gX9_of_X9_isPoint : GoodIn wsX9_of (wsV RX9 117 RX9 yX9_isPoint wsX9_isPoint) := goodIn_app (goodIn_of _ (by decide +kernel)) ggX9_of_X9_isPoint
set_option maxRecDepth 20000 in
theorem ggX9_of_X9_in : GoodIn wsX9_of wsX9_in := goodIn_r _ [14] (by decide +kernel) (by decide +kernel)
set_option maxRecDepth 20000 in
theorem gX9_of_X9_in : GoodIn wsX9_of (va_wsS RX9 74 yX9_in wsX9_in) := goodIn_app (goodIn_of _ (by decide +kernel)) ggX9_of_X9_in
set_option maxRecDepth 20000 in
theorem ggX9_of_X9_bad : GoodIn wsX9_of wsX9_bad := goodIn_r _ [18, 19, 20, 21, 22, 23, 24, 25, 26, 27, 28, 29, 30, 31, 32, 33, 34, 35, 36, 37, 38, 39, 40, 41, 42, 43, 44, 45, 46, 47] (by decide +kernel) (by decide +kernel)
set_option maxRecDepth 20000 in
theorem gX9_of_X9_bad : GoodIn wsX9_of (wsV RX9 84 RX9 yX9_bad wsX9_bad) := goodIn_app (goodIn_of _ (by decide +kernel)) ggX9_of_X9_bad
theorem dX9_of_0 : decode cX9_of 0 = .ok (.aload_n 0, 1) := by decide +kernel
theorem dX9_of_1 : decode cX9_of 1 = .ok (.iload_n 1, 1) := by decide +kernel
theorem dX9_of_2 : decode cX9_of 2 = .ok (.invokevirtual 117, 3) := by decide +kernel
theorem dX9_of_5 : decode cX9_of 5 = .ok (.ifCond .eq 15, 3) := by decide +kernel
theorem dX9_of_8 : decode cX9_of 8 = .ok (.iload_n 2, 1) := by decide +kernel
theorem dX9_of_9 : decode cX9_of 9 = .ok (.i2l, 1) := by decide +kernel
theorem dX9_of_10 : decode cX9_of 10 = .ok (.lconst 0, 1) := by decide +kernel
theorem dX9_of_11 : decode cX9_of 11 = .ok (.ldc2_w 91, 3) := by decide +kernel
theorem dX9_of_14 : decode cX9_of 14 = .ok (.invokestatic 74, 3) := by decide +kernel
theorem dX9_of_17 : decode cX9_of 17 = .ok (.ifCond .ne 10, 3) := by decide +kernel
theorem dX9_of_20 : decode cX9_of 20 = .ok (.aload_n 0, 1) := by decide +kernel
theorem dX9_of_21 : decode cX9_of 21 = .ok (.bipush (-2), 2) := by decide +kernel
theorem dX9_of_23 : decode cX9_of 23 = .ok (.invokevirtual 84, 3) := by decide +kernel
theorem dX9_of_26 : decode cX9_of 26 = .ok (.ireturn, 1) := by decide +kernel
theorem dX9_of_27 : decode cX9_of 27 = .ok (.iload_n 2, 1) := by decide +kernel
theorem dX9_of_28 : decode cX9_of 28 = .ok (.iconst 3, 1) := by decide +kernel
theorem dX9_of_29 : decode cX9_of 29 = .ok (.if_icmp .ne 16, 3) := by decide +kernel
theorem dX9_of_32 : decode cX9_of 32 = .ok (.aload_n 0, 1) := by decide +kernel
theorem dX9_of_33 : decode cX9_of 33 = .ok (.getfield 7, 3) := by decide +kernel
theorem dX9_of_36 : decode cX9_of 36 = .ok (.iconst 5, 1) := by decide +kernel
theorem dX9_of_37 : decode cX9_of 37 = .ok (.iaload, 1) := by decide +kernel
theorem dX9_of_38 : decode cX9_of 38 = .ok (.iload_n 1, 1) := by decide +kernel
theorem dX9_of_39 : decode cX9_of 39 = .ok (.ishr, 1) := by decide +kernel
theorem dX9_of_40 : decode cX9_of 40 = .ok (.iconst 1, 1) := by decide +kernel
theorem dX9_of_41 : decode cX9_of 41 = .ok (.iand, 1) := by decide +kernel
theorem dX9_of_42 : decode cX9_of 42 = .ok (.goto 31, 3) := by decide +kernel
theorem dX9_of_45 : decode cX9_of 45 = .ok (.aload_n 0, 1) := by decide +kernel
theorem dX9_of_46 : decode cX9_of 46 = .ok (.getfield 7, 3) := by decide +kernel
theorem dX9_of_49 : decode cX9_of 49 = .ok (.iload_n 2, 1) := by decide +kernel
theorem dX9_of_50 : decode cX9_of 50 = .ok (.ifCond .ne 8, 3) := by decide +kernel
theorem dX9_of_53 : decode cX9_of 53 = .ok (.bipush 18, 2) := by decide +kernel
theorem dX9_of_55 : decode cX9_of 55 = .ok (.goto 15, 3) := by decide +kernel
theorem dX9_of_58 : decode cX9_of 58 = .ok (.iload_n 2, 1) := by decide +kernel
theorem dX9_of_59 : decode cX9_of 59 = .ok (.iconst 1, 1) := by decide +kernel
theorem dX9_of_60 : decode cX9_of 60 = .ok (.if_icmp .ne 8, 3) := by decide +kernel
theorem dX9_of_63 : decode cX9_of 63 = .ok (.bipush 24, 2) := by decide +kernel
theorem dX9_of_65 : decode cX9_of 65 = .ok (.goto 5, 3) := by decide +kernel
theorem dX9_of_68 : decode cX9_of 68 = .ok (.bipush 6, 2) := by decide +kernel
theorem dX9_of_70 : decode cX9_of 70 = .ok (.iload_n 1, 1) := by decide +kernel
theorem dX9_of_71 : decode cX9_of 71 = .ok (.iadd, 1) := by decide +kernel
theorem dX9_of_72 : decode cX9_of 72 = .ok (.iaload, 1) := by decide +kernel
theorem dX9_of_73 : decode cX9_of 73 = .ok (.ireturn, 1) := by decide +kernel
set_option maxRecDepth 20000 in
theorem ggX9_about_X9_isCounsel : GoodIn wsX9_about wsX9_isCounsel := goodIn_r _ [6, 7, 8, 5, 9] (by decide +kernel) (by decide +kernel)
set_option maxRecDepth 20000 in
theorem gX9_about_X9_isCounsel : GoodIn wsX9_about (va_wsS RX9 88 yX9_isCounsel wsX9_isCounsel) := goodIn_app (goodIn_of _ (by decide +kernel)) ggX9_about_X9_isCounsel
set_option maxRecDepth 20000 in
theorem ggX9_about_X9_in : GoodIn wsX9_about wsX9_in := goodIn_r _ [9] (by decide +kernel) (by decide +kernel)
set_option maxRecDepth 20000 in
theorem gX9_about_X9_in : GoodIn wsX9_about (va_wsS RX9 74 yX9_in wsX9_in) := goodIn_app (goodIn_of _ (by decide +kernel)) ggX9_about_X9_in
set_option maxRecDepth 20000 in
theorem ggX9_about_X9_bad : GoodIn wsX9_about wsX9_bad := goodIn_r _ [13, 14, 18, 19, 20, 21, 22, 23, 24, 25, 26, 27, 28, 29, 30, 31, 32, 33, 34, 35, 36, 37, 38, 39, 40, 41, 42, 43, 44, 45] (by decide +kernel) (by decide +kernel)
set_option maxRecDepth 20000 in
theorem gX9_about_X9_bad : GoodIn wsX9_about (wsV RX9 84 RX9 yX9_bad wsX9_bad) := goodIn_app (goodIn_of _ (by decide +kernel)) ggX9_about_X9_bad
set_option maxRecDepth 20000 in
theorem ggX9_about_X9_chairOf : GoodIn wsX9_about wsX9_chairOf := goodIn_r _ [17] (by decide +kernel) (by decide +kernel)
set_option maxRecDepth 20000 in
theorem gX9_about_X9_chairOf : GoodIn wsX9_about (va_wsS RX9 102 yX9_chairOf wsX9_chairOf) := goodIn_app (goodIn_of _ (by decide +kernel)) ggX9_about_X9_chairOf
theorem dX9_about_0 : decode cX9_about 0 = .ok (.iload_n 1, 1) := by decide +kernel
theorem dX9_about_1 : decode cX9_about 1 = .ok (.invokestatic 88, 3) := by decide +kernel
theorem dX9_about_4 : decode cX9_about 4 = .ok (.ifCond .eq 15, 3) := by decide +kernel
theorem dX9_about_7 : decode cX9_about 7 = .ok (.iload_n 2, 1) := by decide +kernel
theorem dX9_about_8 : decode cX9_about 8 = .ok (.i2l, 1) := by decide +kernel
theorem dX9_about_9 : decode cX9_about 9 = .ok (.lconst 0, 1) := by decide +kernel
theorem dX9_about_10 : decode cX9_about 10 = .ok (.ldc2_w 143, 3) := by decide +kernel
theorem dX9_about_13 : decode cX9_about 13 = .ok (.invokestatic 74, 3) := by decide +kernel
theorem dX9_about_16 : decode cX9_about 16 = .ok (.ifCond .ne 10, 3) := by decide +kernel
theorem dX9_about_19 : decode cX9_about 19 = .ok (.aload_n 0, 1) := by decide +kernel
theorem dX9_about_20 : decode cX9_about 20 = .ok (.bipush (-2), 2) := by decide +kernel
theorem dX9_about_22 : decode cX9_about 22 = .ok (.invokevirtual 84, 3) := by decide +kernel
theorem dX9_about_25 : decode cX9_about 25 = .ok (.ireturn, 1) := by decide +kernel
theorem dX9_about_26 : decode cX9_about 26 = .ok (.iload_n 2, 1) := by decide +kernel
theorem dX9_about_27 : decode cX9_about 27 = .ok (.ifCond .ne 15, 3) := by decide +kernel
theorem dX9_about_30 : decode cX9_about 30 = .ok (.aload_n 0, 1) := by decide +kernel
theorem dX9_about_31 : decode cX9_about 31 = .ok (.getfield 7, 3) := by decide +kernel
theorem dX9_about_34 : decode cX9_about 34 = .ok (.bipush 30, 2) := by decide +kernel
theorem dX9_about_36 : decode cX9_about 36 = .ok (.iload_n 1, 1) := by decide +kernel
theorem dX9_about_37 : decode cX9_about 37 = .ok (.iadd, 1) := by decide +kernel
theorem dX9_about_38 : decode cX9_about 38 = .ok (.iaload, 1) := by decide +kernel
theorem dX9_about_39 : decode cX9_about 39 = .ok (.goto 31, 3) := by decide +kernel
theorem dX9_about_42 : decode cX9_about 42 = .ok (.iload_n 2, 1) := by decide +kernel
theorem dX9_about_43 : decode cX9_about 43 = .ok (.iconst 1, 1) := by decide +kernel
theorem dX9_about_44 : decode cX9_about 44 = .ok (.if_icmp .ne 15, 3) := by decide +kernel
theorem dX9_about_47 : decode cX9_about 47 = .ok (.aload_n 0, 1) := by decide +kernel
theorem dX9_about_48 : decode cX9_about 48 = .ok (.getfield 7, 3) := by decide +kernel
theorem dX9_about_51 : decode cX9_about 51 = .ok (.bipush 12, 2) := by decide +kernel
theorem dX9_about_53 : decode cX9_about 53 = .ok (.iload_n 1, 1) := by decide +kernel
theorem dX9_about_54 : decode cX9_about 54 = .ok (.iadd, 1) := by decide +kernel
theorem dX9_about_55 : decode cX9_about 55 = .ok (.iaload, 1) := by decide +kernel
theorem dX9_about_56 : decode cX9_about 56 = .ok (.goto 14, 3) := by decide +kernel
theorem dX9_about_59 : decode cX9_about 59 = .ok (.aload_n 0, 1) := by decide +kernel
theorem dX9_about_60 : decode cX9_about 60 = .ok (.getfield 7, 3) := by decide +kernel
theorem dX9_about_63 : decode cX9_about 63 = .ok (.bipush 14, 2) := by decide +kernel
theorem dX9_about_65 : decode cX9_about 65 = .ok (.iaload, 1) := by decide +kernel
theorem dX9_about_66 : decode cX9_about 66 = .ok (.iload_n 1, 1) := by decide +kernel
theorem dX9_about_67 : decode cX9_about 67 = .ok (.invokestatic 102, 3) := by decide +kernel
theorem dX9_about_70 : decode cX9_about 70 = .ok (.ireturn, 1) := by decide +kernel
set_option maxRecDepth 20000 in
theorem ggX9_moves_X9_isPoint : GoodIn wsX9_moves wsX9_isPoint := goodIn_r _ [6, 7, 8, 9, 5, 10, 1, 11, 12, 13, 39, 40, 41, 42, 43, 44, 45, 46, 47, 48, 49, 50, 51, 52, 53, 54, 55, 56, 57, 58, 59, 60, 61, 62, 63, 64, 65, 66] (by decide +kernel) (by decide +kernel)
set_option maxRecDepth 20000 in
theorem gX9_moves_X9_isPoint : GoodIn wsX9_moves (wsV RX9 117 RX9 yX9_isPoint wsX9_isPoint) := goodIn_app (goodIn_of _ (by decide +kernel)) ggX9_moves_X9_isPoint
set_option maxRecDepth 20000 in
theorem ggX9_moves_X9_bad : GoodIn wsX9_moves wsX9_bad := goodIn_r _ [17, 18, 39, 40, 41, 42, 43, 44, 45, 46, 47, 48, 49, 50, 51, 52, 53, 54, 55, 56, 57, 58, 59, 60, 61, 62, 63, 64, 65, 66] (by decide +kernel) (by decide +kernel)
set_option maxRecDepth 20000 in
theorem gX9_moves_X9_bad : GoodIn wsX9_moves (wsV RX9 84 RX9 yX9_bad wsX9_bad) := goodIn_app (goodIn_of _ (by decide +kernel)) ggX9_moves_X9_bad
set_option maxRecDepth 20000 in
theorem ggX9_moves_X9_has : GoodIn wsX9_moves wsX9_has := goodIn_r _ [21] (by decide +kernel) (by decide +kernel)
set_option maxRecDepth 20000 in
theorem gX9_moves_X9_has : GoodIn wsX9_moves (va_wsS RX9 120 yX9_has wsX9_has) := goodIn_app (goodIn_of _ (by decide +kernel)) ggX9_moves_X9_has
set_option maxRecDepth 20000 in
theorem ggX9_moves_X9_no : GoodIn wsX9_moves wsX9_no := goodIn_r _ [25, 18, 39, 40, 41, 42, 43, 44, 45, 46, 47, 48, 49, 50, 51, 52, 53, 54, 55, 56, 57, 58, 59, 60, 61, 62, 63, 64, 65, 66] (by decide +kernel) (by decide +kernel)
set_option maxRecDepth 20000 in
theorem gX9_moves_X9_no : GoodIn wsX9_moves (wsV RX9 124 RX9 yX9_no wsX9_no) := goodIn_app (goodIn_of _ (by decide +kernel)) ggX9_moves_X9_no
set_option maxRecDepth 20000 in
theorem ggX9_moves_X9_countsBy : GoodIn wsX9_moves wsX9_countsBy := goodIn_r _ [29, 1, 30, 31, 5, 32, 33, 34, 35, 36, 37, 38, 39, 40, 41, 42, 43, 44, 45, 46, 47, 48, 49, 50, 51, 52, 53, 54, 55, 56, 57, 58, 59, 60, 61, 62, 63, 64, 65, 66] (by decide +kernel) (by decide +kernel)
set_option maxRecDepth 20000 in
theorem gX9_moves_X9_countsBy : GoodIn wsX9_moves (wsV RX9 114 RX9 yX9_countsBy wsX9_countsBy) := goodIn_app (goodIn_of _ (by decide +kernel)) ggX9_moves_X9_countsBy
theorem dX9_moves_0 : decode cX9_moves 0 = .ok (.aload_n 0, 1) := by decide +kernel
theorem dX9_moves_1 : decode cX9_moves 1 = .ok (.iload_n 1, 1) := by decide +kernel
theorem dX9_moves_2 : decode cX9_moves 2 = .ok (.invokevirtual 117, 3) := by decide +kernel
theorem dX9_moves_5 : decode cX9_moves 5 = .ok (.ifCond .ne 11, 3) := by decide +kernel
theorem dX9_moves_8 : decode cX9_moves 8 = .ok (.aload_n 0, 1) := by decide +kernel
theorem dX9_moves_9 : decode cX9_moves 9 = .ok (.sipush (-1000), 3) := by decide +kernel
theorem dX9_moves_12 : decode cX9_moves 12 = .ok (.invokevirtual 84, 3) := by decide +kernel
theorem dX9_moves_15 : decode cX9_moves 15 = .ok (.ireturn, 1) := by decide +kernel
theorem dX9_moves_16 : decode cX9_moves 16 = .ok (.aload_n 0, 1) := by decide +kernel
theorem dX9_moves_17 : decode cX9_moves 17 = .ok (.getfield 7, 3) := by decide +kernel
theorem dX9_moves_20 : decode cX9_moves 20 = .ok (.iconst 5, 1) := by decide +kernel
theorem dX9_moves_21 : decode cX9_moves 21 = .ok (.iaload, 1) := by decide +kernel
theorem dX9_moves_22 : decode cX9_moves 22 = .ok (.iload_n 1, 1) := by decide +kernel
theorem dX9_moves_23 : decode cX9_moves 23 = .ok (.invokestatic 120, 3) := by decide +kernel
theorem dX9_moves_26 : decode cX9_moves 26 = .ok (.ifCond .eq 13, 3) := by decide +kernel
theorem dX9_moves_29 : decode cX9_moves 29 = .ok (.aload_n 0, 1) := by decide +kernel
theorem dX9_moves_30 : decode cX9_moves 30 = .ok (.sipush (-1001), 3) := by decide +kernel
theorem dX9_moves_33 : decode cX9_moves 33 = .ok (.invokevirtual 124, 3) := by decide +kernel
theorem dX9_moves_36 : decode cX9_moves 36 = .ok (.goto 29, 3) := by decide +kernel
theorem dX9_moves_39 : decode cX9_moves 39 = .ok (.aload_n 0, 1) := by decide +kernel
theorem dX9_moves_40 : decode cX9_moves 40 = .ok (.iload_n 1, 1) := by decide +kernel
theorem dX9_moves_41 : decode cX9_moves 41 = .ok (.aload_n 0, 1) := by decide +kernel
theorem dX9_moves_42 : decode cX9_moves 42 = .ok (.getfield 7, 3) := by decide +kernel
theorem dX9_moves_45 : decode cX9_moves 45 = .ok (.bipush 14, 2) := by decide +kernel
theorem dX9_moves_47 : decode cX9_moves 47 = .ok (.iaload, 1) := by decide +kernel
theorem dX9_moves_48 : decode cX9_moves 48 = .ok (.aload_n 0, 1) := by decide +kernel
theorem dX9_moves_49 : decode cX9_moves 49 = .ok (.getfield 7, 3) := by decide +kernel
theorem dX9_moves_52 : decode cX9_moves 52 = .ok (.bipush 15, 2) := by decide +kernel
theorem dX9_moves_54 : decode cX9_moves 54 = .ok (.iaload, 1) := by decide +kernel
theorem dX9_moves_55 : decode cX9_moves 55 = .ok (.aload_n 0, 1) := by decide +kernel
theorem dX9_moves_56 : decode cX9_moves 56 = .ok (.getfield 7, 3) := by decide +kernel
theorem dX9_moves_59 : decode cX9_moves 59 = .ok (.bipush 16, 2) := by decide +kernel
theorem dX9_moves_61 : decode cX9_moves 61 = .ok (.iaload, 1) := by decide +kernel
theorem dX9_moves_62 : decode cX9_moves 62 = .ok (.invokevirtual 114, 3) := by decide +kernel
theorem dX9_moves_65 : decode cX9_moves 65 = .ok (.ireturn, 1) := by decide +kernel
theorem dX9_worstOf_0 : decode cX9_worstOf 0 = .ok (.iload_n 0, 1) := by decide +kernel
theorem dX9_worstOf_1 : decode cX9_worstOf 1 = .ok (.ifCond .ne 8, 3) := by decide +kernel
theorem dX9_worstOf_4 : decode cX9_worstOf 4 = .ok (.ldc 145, 2) := by decide +kernel
theorem dX9_worstOf_6 : decode cX9_worstOf 6 = .ok (.goto 5, 3) := by decide +kernel
theorem dX9_worstOf_9 : decode cX9_worstOf 9 = .ok (.ldc 146, 2) := by decide +kernel
theorem dX9_worstOf_11 : decode cX9_worstOf 11 = .ok (.ireturn, 1) := by decide +kernel
set_option maxRecDepth 20000 in
theorem ggX9_layLevel_X9_openLevel : GoodIn wsX9_layLevel wsX9_openLevel := goodIn_r _ [11, 12, 13, 4, 14, 15, 10, 16, 17, 18, 19, 20, 21, 22, 23, 24, 25, 26, 27, 28, 29, 30, 31, 32, 33, 34, 35, 36, 37, 38, 39, 40, 41, 42, 43, 44, 45, 46] (by decide +kernel) (by decide +kernel)
set_option maxRecDepth 20000 in
theorem gX9_layLevel_X9_openLevel : GoodIn wsX9_layLevel (wsV RX9 147 RX9 yX9_openLevel wsX9_openLevel) := goodIn_app (goodIn_of _ (by decide +kernel)) ggX9_layLevel_X9_openLevel
theorem dX9_layLevel_0 : decode cX9_layLevel 0 = .ok (.aload_n 0, 1) := by decide +kernel
theorem dX9_layLevel_1 : decode cX9_layLevel 1 = .ok (.getfield 27, 3) := by decide +kernel
theorem dX9_layLevel_4 : decode cX9_layLevel 4 = .ok (.iload_n 1, 1) := by decide +kernel
theorem dX9_layLevel_5 : decode cX9_layLevel 5 = .ok (.aload_n 0, 1) := by decide +kernel
theorem dX9_layLevel_6 : decode cX9_layLevel 6 = .ok (.getfield 27, 3) := by decide +kernel
theorem dX9_layLevel_9 : decode cX9_layLevel 9 = .ok (.iload_n 2, 1) := by decide +kernel
theorem dX9_layLevel_10 : decode cX9_layLevel 10 = .ok (.iaload, 1) := by decide +kernel
theorem dX9_layLevel_11 : decode cX9_layLevel 11 = .ok (.iastore, 1) := by decide +kernel
theorem dX9_layLevel_12 : decode cX9_layLevel 12 = .ok (.aload_n 0, 1) := by decide +kernel
theorem dX9_layLevel_13 : decode cX9_layLevel 13 = .ok (.getfield 30, 3) := by decide +kernel
theorem dX9_layLevel_16 : decode cX9_layLevel 16 = .ok (.iload_n 1, 1) := by decide +kernel
theorem dX9_layLevel_17 : decode cX9_layLevel 17 = .ok (.aload_n 0, 1) := by decide +kernel
theorem dX9_layLevel_18 : decode cX9_layLevel 18 = .ok (.getfield 30, 3) := by decide +kernel
theorem dX9_layLevel_21 : decode cX9_layLevel 21 = .ok (.iload_n 2, 1) := by decide +kernel
theorem dX9_layLevel_22 : decode cX9_layLevel 22 = .ok (.iaload, 1) := by decide +kernel
theorem dX9_layLevel_23 : decode cX9_layLevel 23 = .ok (.iastore, 1) := by decide +kernel
theorem dX9_layLevel_24 : decode cX9_layLevel 24 = .ok (.aload_n 0, 1) := by decide +kernel
theorem dX9_layLevel_25 : decode cX9_layLevel 25 = .ok (.getfield 33, 3) := by decide +kernel
theorem dX9_layLevel_28 : decode cX9_layLevel 28 = .ok (.iload_n 1, 1) := by decide +kernel
theorem dX9_layLevel_29 : decode cX9_layLevel 29 = .ok (.aload_n 0, 1) := by decide +kernel
theorem dX9_layLevel_30 : decode cX9_layLevel 30 = .ok (.getfield 33, 3) := by decide +kernel
theorem dX9_layLevel_33 : decode cX9_layLevel 33 = .ok (.iload_n 2, 1) := by decide +kernel
theorem dX9_layLevel_34 : decode cX9_layLevel 34 = .ok (.iaload, 1) := by decide +kernel
theorem dX9_layLevel_35 : decode cX9_layLevel 35 = .ok (.iastore, 1) := by decide +kernel
theorem dX9_layLevel_36 : decode cX9_layLevel 36 = .ok (.aload_n 0, 1) := by decide +kernel
theorem dX9_layLevel_37 : decode cX9_layLevel 37 = .ok (.getfield 36, 3) := by decide +kernel
theorem dX9_layLevel_40 : decode cX9_layLevel 40 = .ok (.iload_n 1, 1) := by decide +kernel
theorem dX9_layLevel_41 : decode cX9_layLevel 41 = .ok (.aload_n 0, 1) := by decide +kernel
theorem dX9_layLevel_42 : decode cX9_layLevel 42 = .ok (.getfield 36, 3) := by decide +kernel
theorem dX9_layLevel_45 : decode cX9_layLevel 45 = .ok (.iload_n 2, 1) := by decide +kernel
theorem dX9_layLevel_46 : decode cX9_layLevel 46 = .ok (.iaload, 1) := by decide +kernel
theorem dX9_layLevel_47 : decode cX9_layLevel 47 = .ok (.iastore, 1) := by decide +kernel
theorem dX9_layLevel_48 : decode cX9_layLevel 48 = .ok (.aload_n 0, 1) := by decide +kernel
theorem dX9_layLevel_49 : decode cX9_layLevel 49 = .ok (.getfield 39, 3) := by decide +kernel
theorem dX9_layLevel_52 : decode cX9_layLevel 52 = .ok (.iconst 2, 1) := by decide +kernel
theorem dX9_layLevel_53 : decode cX9_layLevel 53 = .ok (.iload_n 1, 1) := by decide +kernel
theorem dX9_layLevel_54 : decode cX9_layLevel 54 = .ok (.imul, 1) := by decide +kernel
theorem dX9_layLevel_55 : decode cX9_layLevel 55 = .ok (.aload_n 0, 1) := by decide +kernel
theorem dX9_layLevel_56 : decode cX9_layLevel 56 = .ok (.getfield 39, 3) := by decide +kernel
theorem dX9_layLevel_59 : decode cX9_layLevel 59 = .ok (.iconst 2, 1) := by decide +kernel
theorem dX9_layLevel_60 : decode cX9_layLevel 60 = .ok (.iload_n 2, 1) := by decide +kernel
theorem dX9_layLevel_61 : decode cX9_layLevel 61 = .ok (.imul, 1) := by decide +kernel
theorem dX9_layLevel_62 : decode cX9_layLevel 62 = .ok (.iaload, 1) := by decide +kernel
theorem dX9_layLevel_63 : decode cX9_layLevel 63 = .ok (.iastore, 1) := by decide +kernel
theorem dX9_layLevel_64 : decode cX9_layLevel 64 = .ok (.aload_n 0, 1) := by decide +kernel
theorem dX9_layLevel_65 : decode cX9_layLevel 65 = .ok (.getfield 39, 3) := by decide +kernel
theorem dX9_layLevel_68 : decode cX9_layLevel 68 = .ok (.iconst 2, 1) := by decide +kernel
theorem dX9_layLevel_69 : decode cX9_layLevel 69 = .ok (.iload_n 1, 1) := by decide +kernel
theorem dX9_layLevel_70 : decode cX9_layLevel 70 = .ok (.imul, 1) := by decide +kernel
theorem dX9_layLevel_71 : decode cX9_layLevel 71 = .ok (.iconst 1, 1) := by decide +kernel
theorem dX9_layLevel_72 : decode cX9_layLevel 72 = .ok (.iadd, 1) := by decide +kernel
theorem dX9_layLevel_73 : decode cX9_layLevel 73 = .ok (.aload_n 0, 1) := by decide +kernel
theorem dX9_layLevel_74 : decode cX9_layLevel 74 = .ok (.getfield 39, 3) := by decide +kernel
theorem dX9_layLevel_77 : decode cX9_layLevel 77 = .ok (.iconst 2, 1) := by decide +kernel
theorem dX9_layLevel_78 : decode cX9_layLevel 78 = .ok (.iload_n 2, 1) := by decide +kernel
theorem dX9_layLevel_79 : decode cX9_layLevel 79 = .ok (.imul, 1) := by decide +kernel
theorem dX9_layLevel_80 : decode cX9_layLevel 80 = .ok (.iconst 1, 1) := by decide +kernel
theorem dX9_layLevel_81 : decode cX9_layLevel 81 = .ok (.iadd, 1) := by decide +kernel
theorem dX9_layLevel_82 : decode cX9_layLevel 82 = .ok (.iaload, 1) := by decide +kernel
theorem dX9_layLevel_83 : decode cX9_layLevel 83 = .ok (.iastore, 1) := by decide +kernel
theorem dX9_layLevel_84 : decode cX9_layLevel 84 = .ok (.aload_n 0, 1) := by decide +kernel
theorem dX9_layLevel_85 : decode cX9_layLevel 85 = .ok (.getfield 42, 3) := by decide +kernel
theorem dX9_layLevel_88 : decode cX9_layLevel 88 = .ok (.iload_n 1, 1) := by decide +kernel
theorem dX9_layLevel_89 : decode cX9_layLevel 89 = .ok (.aload_n 0, 1) := by decide +kernel
theorem dX9_layLevel_90 : decode cX9_layLevel 90 = .ok (.getfield 42, 3) := by decide +kernel
theorem dX9_layLevel_93 : decode cX9_layLevel 93 = .ok (.iload_n 2, 1) := by decide +kernel
theorem dX9_layLevel_94 : decode cX9_layLevel 94 = .ok (.iaload, 1) := by decide +kernel
theorem dX9_layLevel_95 : decode cX9_layLevel 95 = .ok (.iastore, 1) := by decide +kernel
theorem dX9_layLevel_96 : decode cX9_layLevel 96 = .ok (.aload_n 0, 1) := by decide +kernel
theorem dX9_layLevel_97 : decode cX9_layLevel 97 = .ok (.iload_n 1, 1) := by decide +kernel
theorem dX9_layLevel_98 : decode cX9_layLevel 98 = .ok (.invokevirtual 147, 3) := by decide +kernel
theorem dX9_layLevel_101 : decode cX9_layLevel 101 = .ok (.return_, 1) := by decide +kernel
set_option maxRecDepth 20000 in
theorem ggX9_openLevel_X9_worstOf : GoodIn wsX9_openLevel wsX9_worstOf := goodIn_r _ [7, 8, 9] (by decide +kernel) (by decide +kernel)
set_option maxRecDepth 20000 in
theorem gX9_openLevel_X9_worstOf : GoodIn wsX9_openLevel (va_wsS RX9 151 yX9_worstOf wsX9_worstOf) := goodIn_app (goodIn_of _ (by decide +kernel)) ggX9_openLevel_X9_worstOf
theorem dX9_openLevel_0 : decode cX9_openLevel 0 = .ok (.aload_n 0, 1) := by decide +kernel
theorem dX9_openLevel_1 : decode cX9_openLevel 1 = .ok (.getfield 45, 3) := by decide +kernel
theorem dX9_openLevel_4 : decode cX9_openLevel 4 = .ok (.iload_n 1, 1) := by decide +kernel
theorem dX9_openLevel_5 : decode cX9_openLevel 5 = .ok (.iconst (-1), 1) := by decide +kernel
theorem dX9_openLevel_6 : decode cX9_openLevel 6 = .ok (.iastore, 1) := by decide +kernel
theorem dX9_openLevel_7 : decode cX9_openLevel 7 = .ok (.aload_n 0, 1) := by decide +kernel
theorem dX9_openLevel_8 : decode cX9_openLevel 8 = .ok (.getfield 48, 3) := by decide +kernel
theorem dX9_openLevel_11 : decode cX9_openLevel 11 = .ok (.iload_n 1, 1) := by decide +kernel
theorem dX9_openLevel_12 : decode cX9_openLevel 12 = .ok (.aload_n 0, 1) := by decide +kernel
theorem dX9_openLevel_13 : decode cX9_openLevel 13 = .ok (.getfield 36, 3) := by decide +kernel
theorem dX9_openLevel_16 : decode cX9_openLevel 16 = .ok (.iload_n 1, 1) := by decide +kernel
theorem dX9_openLevel_17 : decode cX9_openLevel 17 = .ok (.iaload, 1) := by decide +kernel
theorem dX9_openLevel_18 : decode cX9_openLevel 18 = .ok (.iconst 2, 1) := by decide +kernel
theorem dX9_openLevel_19 : decode cX9_openLevel 19 = .ok (.irem, 1) := by decide +kernel
theorem dX9_openLevel_20 : decode cX9_openLevel 20 = .ok (.invokestatic 151, 3) := by decide +kernel
theorem dX9_openLevel_23 : decode cX9_openLevel 23 = .ok (.iastore, 1) := by decide +kernel
theorem dX9_openLevel_24 : decode cX9_openLevel 24 = .ok (.return_, 1) := by decide +kernel
theorem dX9_mayAt_0 : decode cX9_mayAt 0 = .ok (.aload_n 0, 1) := by decide +kernel
theorem dX9_mayAt_1 : decode cX9_mayAt 1 = .ok (.getfield 42, 3) := by decide +kernel
theorem dX9_mayAt_4 : decode cX9_mayAt 4 = .ok (.iload_n 1, 1) := by decide +kernel
theorem dX9_mayAt_5 : decode cX9_mayAt 5 = .ok (.iaload, 1) := by decide +kernel
theorem dX9_mayAt_6 : decode cX9_mayAt 6 = .ok (.istore_n 2, 1) := by decide +kernel
theorem dX9_mayAt_7 : decode cX9_mayAt 7 = .ok (.iload_n 2, 1) := by decide +kernel
theorem dX9_mayAt_8 : decode cX9_mayAt 8 = .ok (.iconst (-1), 1) := by decide +kernel
theorem dX9_mayAt_9 : decode cX9_mayAt 9 = .ok (.if_icmp .eq 39, 3) := by decide +kernel
theorem dX9_mayAt_12 : decode cX9_mayAt 12 = .ok (.aload_n 0, 1) := by decide +kernel
theorem dX9_mayAt_13 : decode cX9_mayAt 13 = .ok (.getfield 7, 3) := by decide +kernel
theorem dX9_mayAt_16 : decode cX9_mayAt 16 = .ok (.bipush 6, 2) := by decide +kernel
theorem dX9_mayAt_18 : decode cX9_mayAt 18 = .ok (.iload_n 2, 1) := by decide +kernel
theorem dX9_mayAt_19 : decode cX9_mayAt 19 = .ok (.iadd, 1) := by decide +kernel
theorem dX9_mayAt_20 : decode cX9_mayAt 20 = .ok (.iaload, 1) := by decide +kernel
theorem dX9_mayAt_21 : decode cX9_mayAt 21 = .ok (.ifCond .le 27, 3) := by decide +kernel
theorem dX9_mayAt_24 : decode cX9_mayAt 24 = .ok (.aload_n 0, 1) := by decide +kernel
theorem dX9_mayAt_25 : decode cX9_mayAt 25 = .ok (.getfield 39, 3) := by decide +kernel
theorem dX9_mayAt_28 : decode cX9_mayAt 28 = .ok (.iconst 2, 1) := by decide +kernel
theorem dX9_mayAt_29 : decode cX9_mayAt 29 = .ok (.iload_n 1, 1) := by decide +kernel
theorem dX9_mayAt_30 : decode cX9_mayAt 30 = .ok (.imul, 1) := by decide +kernel
theorem dX9_mayAt_31 : decode cX9_mayAt 31 = .ok (.aload_n 0, 1) := by decide +kernel
theorem dX9_mayAt_32 : decode cX9_mayAt 32 = .ok (.getfield 36, 3) := by decide +kernel
theorem dX9_mayAt_35 : decode cX9_mayAt 35 = .ok (.iload_n 1, 1) := by decide +kernel
theorem dX9_mayAt_36 : decode cX9_mayAt 36 = .ok (.iaload, 1) := by decide +kernel
theorem dX9_mayAt_37 : decode cX9_mayAt 37 = .ok (.iconst 2, 1) := by decide +kernel
theorem dX9_mayAt_38 : decode cX9_mayAt 38 = .ok (.irem, 1) := by decide +kernel
theorem dX9_mayAt_39 : decode cX9_mayAt 39 = .ok (.iadd, 1) := by decide +kernel
theorem dX9_mayAt_40 : decode cX9_mayAt 40 = .ok (.iaload, 1) := by decide +kernel
theorem dX9_mayAt_41 : decode cX9_mayAt 41 = .ok (.ifCond .le 7, 3) := by decide +kernel
theorem dX9_mayAt_44 : decode cX9_mayAt 44 = .ok (.iconst 1, 1) := by decide +kernel
theorem dX9_mayAt_45 : decode cX9_mayAt 45 = .ok (.goto 4, 3) := by decide +kernel
theorem dX9_mayAt_48 : decode cX9_mayAt 48 = .ok (.iconst 0, 1) := by decide +kernel
theorem dX9_mayAt_49 : decode cX9_mayAt 49 = .ok (.ireturn, 1) := by decide +kernel
set_option maxRecDepth 20000 in
theorem ggX9_layFirst_X9_openLevel : GoodIn wsX9_layFirst wsX9_openLevel := goodIn_r _ [12, 13, 14, 5, 15, 16, 11, 17, 18, 19, 20, 21, 22, 23, 24, 25, 26, 27, 28, 29, 30, 31, 32, 33, 34, 35, 36, 37, 38, 39, 40, 41, 42, 43, 44, 45, 46, 47] (by decide +kernel) (by decide +kernel)
set_option maxRecDepth 20000 in
theorem gX9_layFirst_X9_openLevel : GoodIn wsX9_layFirst (wsV RX9 147 RX9 yX9_openLevel wsX9_openLevel) := goodIn_app (goodIn_of _ (by decide +kernel)) ggX9_layFirst_X9_openLevel
theorem dX9_layFirst_0 : decode cX9_layFirst 0 = .ok (.aload_n 0, 1) := by decide +kernel
theorem dX9_layFirst_1 : decode cX9_layFirst 1 = .ok (.getfield 27, 3) := by decide +kernel
theorem dX9_layFirst_4 : decode cX9_layFirst 4 = .ok (.iconst 0, 1) := by decide +kernel
theorem dX9_layFirst_5 : decode cX9_layFirst 5 = .ok (.aload_n 0, 1) := by decide +kernel
theorem dX9_layFirst_6 : decode cX9_layFirst 6 = .ok (.getfield 7, 3) := by decide +kernel
theorem dX9_layFirst_9 : decode cX9_layFirst 9 = .ok (.iconst 5, 1) := by decide +kernel
theorem dX9_layFirst_10 : decode cX9_layFirst 10 = .ok (.iaload, 1) := by decide +kernel
theorem dX9_layFirst_11 : decode cX9_layFirst 11 = .ok (.iastore, 1) := by decide +kernel
theorem dX9_layFirst_12 : decode cX9_layFirst 12 = .ok (.aload_n 0, 1) := by decide +kernel
theorem dX9_layFirst_13 : decode cX9_layFirst 13 = .ok (.getfield 30, 3) := by decide +kernel
theorem dX9_layFirst_16 : decode cX9_layFirst 16 = .ok (.iconst 0, 1) := by decide +kernel
theorem dX9_layFirst_17 : decode cX9_layFirst 17 = .ok (.iload_n 1, 1) := by decide +kernel
theorem dX9_layFirst_18 : decode cX9_layFirst 18 = .ok (.ifCond .eq 15, 3) := by decide +kernel
theorem dX9_layFirst_21 : decode cX9_layFirst 21 = .ok (.iconst 1, 1) := by decide +kernel
theorem dX9_layFirst_22 : decode cX9_layFirst 22 = .ok (.aload_n 0, 1) := by decide +kernel
theorem dX9_layFirst_23 : decode cX9_layFirst 23 = .ok (.getfield 7, 3) := by decide +kernel
theorem dX9_layFirst_26 : decode cX9_layFirst 26 = .ok (.bipush 14, 2) := by decide +kernel
theorem dX9_layFirst_28 : decode cX9_layFirst 28 = .ok (.iaload, 1) := by decide +kernel
theorem dX9_layFirst_29 : decode cX9_layFirst 29 = .ok (.isub, 1) := by decide +kernel
theorem dX9_layFirst_30 : decode cX9_layFirst 30 = .ok (.goto 10, 3) := by decide +kernel
theorem dX9_layFirst_33 : decode cX9_layFirst 33 = .ok (.aload_n 0, 1) := by decide +kernel
theorem dX9_layFirst_34 : decode cX9_layFirst 34 = .ok (.getfield 7, 3) := by decide +kernel
theorem dX9_layFirst_37 : decode cX9_layFirst 37 = .ok (.bipush 14, 2) := by decide +kernel
theorem dX9_layFirst_39 : decode cX9_layFirst 39 = .ok (.iaload, 1) := by decide +kernel
theorem dX9_layFirst_40 : decode cX9_layFirst 40 = .ok (.iastore, 1) := by decide +kernel
theorem dX9_layFirst_41 : decode cX9_layFirst 41 = .ok (.aload_n 0, 1) := by decide +kernel
theorem dX9_layFirst_42 : decode cX9_layFirst 42 = .ok (.getfield 33, 3) := by decide +kernel
theorem dX9_layFirst_45 : decode cX9_layFirst 45 = .ok (.iconst 0, 1) := by decide +kernel
theorem dX9_layFirst_46 : decode cX9_layFirst 46 = .ok (.aload_n 0, 1) := by decide +kernel
theorem dX9_layFirst_47 : decode cX9_layFirst 47 = .ok (.getfield 7, 3) := by decide +kernel
theorem dX9_layFirst_50 : decode cX9_layFirst 50 = .ok (.bipush 15, 2) := by decide +kernel
theorem dX9_layFirst_52 : decode cX9_layFirst 52 = .ok (.iaload, 1) := by decide +kernel
theorem dX9_layFirst_53 : decode cX9_layFirst 53 = .ok (.iastore, 1) := by decide +kernel
theorem dX9_layFirst_54 : decode cX9_layFirst 54 = .ok (.aload_n 0, 1) := by decide +kernel
theorem dX9_layFirst_55 : decode cX9_layFirst 55 = .ok (.getfield 36, 3) := by decide +kernel
theorem dX9_layFirst_58 : decode cX9_layFirst 58 = .ok (.iconst 0, 1) := by decide +kernel
theorem dX9_layFirst_59 : decode cX9_layFirst 59 = .ok (.aload_n 0, 1) := by decide +kernel
theorem dX9_layFirst_60 : decode cX9_layFirst 60 = .ok (.getfield 7, 3) := by decide +kernel
theorem dX9_layFirst_63 : decode cX9_layFirst 63 = .ok (.bipush 16, 2) := by decide +kernel
theorem dX9_layFirst_65 : decode cX9_layFirst 65 = .ok (.iaload, 1) := by decide +kernel
theorem dX9_layFirst_66 : decode cX9_layFirst 66 = .ok (.iastore, 1) := by decide +kernel
theorem dX9_layFirst_67 : decode cX9_layFirst 67 = .ok (.aload_n 0, 1) := by decide +kernel
theorem dX9_layFirst_68 : decode cX9_layFirst 68 = .ok (.getfield 39, 3) := by decide +kernel
theorem dX9_layFirst_71 : decode cX9_layFirst 71 = .ok (.iconst 0, 1) := by decide +kernel
theorem dX9_layFirst_72 : decode cX9_layFirst 72 = .ok (.aload_n 0, 1) := by decide +kernel
theorem dX9_layFirst_73 : decode cX9_layFirst 73 = .ok (.getfield 7, 3) := by decide +kernel
theorem dX9_layFirst_76 : decode cX9_layFirst 76 = .ok (.bipush 12, 2) := by decide +kernel
theorem dX9_layFirst_78 : decode cX9_layFirst 78 = .ok (.iaload, 1) := by decide +kernel
theorem dX9_layFirst_79 : decode cX9_layFirst 79 = .ok (.iastore, 1) := by decide +kernel
theorem dX9_layFirst_80 : decode cX9_layFirst 80 = .ok (.aload_n 0, 1) := by decide +kernel
theorem dX9_layFirst_81 : decode cX9_layFirst 81 = .ok (.getfield 39, 3) := by decide +kernel
theorem dX9_layFirst_84 : decode cX9_layFirst 84 = .ok (.iconst 1, 1) := by decide +kernel
theorem dX9_layFirst_85 : decode cX9_layFirst 85 = .ok (.aload_n 0, 1) := by decide +kernel
theorem dX9_layFirst_86 : decode cX9_layFirst 86 = .ok (.getfield 7, 3) := by decide +kernel
theorem dX9_layFirst_89 : decode cX9_layFirst 89 = .ok (.bipush 13, 2) := by decide +kernel
theorem dX9_layFirst_91 : decode cX9_layFirst 91 = .ok (.iaload, 1) := by decide +kernel
theorem dX9_layFirst_92 : decode cX9_layFirst 92 = .ok (.iastore, 1) := by decide +kernel
theorem dX9_layFirst_93 : decode cX9_layFirst 93 = .ok (.aload_n 0, 1) := by decide +kernel
theorem dX9_layFirst_94 : decode cX9_layFirst 94 = .ok (.getfield 39, 3) := by decide +kernel
theorem dX9_layFirst_97 : decode cX9_layFirst 97 = .ok (.aload_n 0, 1) := by decide +kernel
theorem dX9_layFirst_98 : decode cX9_layFirst 98 = .ok (.getfield 36, 3) := by decide +kernel
theorem dX9_layFirst_101 : decode cX9_layFirst 101 = .ok (.iconst 0, 1) := by decide +kernel
theorem dX9_layFirst_102 : decode cX9_layFirst 102 = .ok (.iaload, 1) := by decide +kernel
theorem dX9_layFirst_103 : decode cX9_layFirst 103 = .ok (.iconst 2, 1) := by decide +kernel
theorem dX9_layFirst_104 : decode cX9_layFirst 104 = .ok (.irem, 1) := by decide +kernel
theorem dX9_layFirst_105 : decode cX9_layFirst 105 = .ok (.dup2, 1) := by decide +kernel
theorem dX9_layFirst_106 : decode cX9_layFirst 106 = .ok (.iaload, 1) := by decide +kernel
theorem dX9_layFirst_107 : decode cX9_layFirst 107 = .ok (.iload_n 1, 1) := by decide +kernel
theorem dX9_layFirst_108 : decode cX9_layFirst 108 = .ok (.ifCond .eq 7, 3) := by decide +kernel
theorem dX9_layFirst_111 : decode cX9_layFirst 111 = .ok (.iconst 1, 1) := by decide +kernel
theorem dX9_layFirst_112 : decode cX9_layFirst 112 = .ok (.goto 4, 3) := by decide +kernel
theorem dX9_layFirst_115 : decode cX9_layFirst 115 = .ok (.iconst 0, 1) := by decide +kernel
theorem dX9_layFirst_116 : decode cX9_layFirst 116 = .ok (.isub, 1) := by decide +kernel
theorem dX9_layFirst_117 : decode cX9_layFirst 117 = .ok (.iastore, 1) := by decide +kernel
theorem dX9_layFirst_118 : decode cX9_layFirst 118 = .ok (.aload_n 0, 1) := by decide +kernel
theorem dX9_layFirst_119 : decode cX9_layFirst 119 = .ok (.getfield 42, 3) := by decide +kernel
theorem dX9_layFirst_122 : decode cX9_layFirst 122 = .ok (.iconst 0, 1) := by decide +kernel
theorem dX9_layFirst_123 : decode cX9_layFirst 123 = .ok (.iconst (-1), 1) := by decide +kernel
theorem dX9_layFirst_124 : decode cX9_layFirst 124 = .ok (.iastore, 1) := by decide +kernel
theorem dX9_layFirst_125 : decode cX9_layFirst 125 = .ok (.aload_n 0, 1) := by decide +kernel
theorem dX9_layFirst_126 : decode cX9_layFirst 126 = .ok (.iconst 0, 1) := by decide +kernel
theorem dX9_layFirst_127 : decode cX9_layFirst 127 = .ok (.invokevirtual 147, 3) := by decide +kernel
theorem dX9_layFirst_130 : decode cX9_layFirst 130 = .ok (.return_, 1) := by decide +kernel
set_option maxRecDepth 20000 in
theorem ggX9_choosesAt_X9_mayAt : GoodIn wsX9_choosesAt wsX9_mayAt := goodIn_r _ [12, 2, 13, 3, 4, 52, 53, 54, 55, 56, 57, 58, 59, 60, 61, 62, 63, 64, 65, 66, 67, 68, 69, 70, 71, 72, 73, 74, 75, 76, 77, 78, 79] (by decide +kernel) (by decide +kernel)
set_option maxRecDepth 20000 in
theorem gX9_choosesAt_X9_mayAt : GoodIn wsX9_choosesAt (wsV RX9 154 RX9 yX9_mayAt wsX9_mayAt) := goodIn_app (goodIn_of _ (by decide +kernel)) ggX9_choosesAt_X9_mayAt
set_option maxRecDepth 20000 in
theorem ggX9_choosesAt_X9_layLevel : GoodIn wsX9_choosesAt wsX9_layLevel := goodIn_r _ [17, 6, 5, 7, 4, 3, 2, 18, 19, 20, 11, 21, 1, 22, 23, 24, 25, 26, 27, 52, 53, 54, 55, 56, 57, 58, 59, 60, 61, 62, 63, 64, 65, 66, 67, 68, 69, 70, 71, 72, 73, 74, 75, 76, 77, 78, 79] (by decide +kernel) (by decide +kernel)
set_option maxRecDepth 20000 in
theorem gX9_choosesAt_X9_layLevel : GoodIn wsX9_choosesAt (wsV RX9 157 RX9 yX9_layLevel wsX9_layLevel) := goodIn_app (goodIn_of _ (by decide +kernel)) ggX9_choosesAt_X9_layLevel
set_option maxRecDepth 20000 in
theorem ggX9_choosesAt_X9_many : GoodIn wsX9_choosesAt wsX9_many := goodIn_r _ [31, 13, 52, 53, 54, 55, 56, 57, 58, 59, 60, 61, 62, 63, 64, 65, 66, 67, 68, 69, 70, 71, 72, 73, 74, 75, 76, 77, 78, 79] (by decide +kernel) (by decide +kernel)
set_option maxRecDepth 20000 in
theorem gX9_choosesAt_X9_many : GoodIn wsX9_choosesAt (wsV RX9 70 RX9 yX9_many wsX9_many) := goodIn_app (goodIn_of _ (by decide +kernel)) ggX9_choosesAt_X9_many
set_option maxRecDepth 20000 in
theorem ggX9_choosesAt_X9_has : GoodIn wsX9_choosesAt wsX9_has := goodIn_r _ [34] (by decide +kernel) (by decide +kernel)
set_option maxRecDepth 20000 in
theorem gX9_choosesAt_X9_has : GoodIn wsX9_choosesAt (va_wsS RX9 120 yX9_has wsX9_has) := goodIn_app (goodIn_of _ (by decide +kernel)) ggX9_choosesAt_X9_has
set_option maxRecDepth 20000 in
theorem ggX9_choosesAt_X9_meritBy : GoodIn wsX9_choosesAt wsX9_meritBy := goodIn_r _ [38, 39, 40, 41, 11, 42, 13, 43, 44, 45, 46, 47, 48, 49, 50, 51, 52, 53, 54, 55, 56, 57, 58, 59, 60, 61, 62, 63, 64, 65, 66, 67, 68, 69, 70, 71, 72, 73, 74, 75, 76, 77, 78, 79] (by decide +kernel) (by decide +kernel)
set_option maxRecDepth 20000 in
theorem gX9_choosesAt_X9_meritBy : GoodIn wsX9_choosesAt (wsV RX9 130 RX9 yX9_meritBy wsX9_meritBy) := goodIn_app (goodIn_of _ (by decide +kernel)) ggX9_choosesAt_X9_meritBy
set_option maxRecDepth 20000 in
theorem ggX9_choosesAt_X9_openLevel : GoodIn wsX9_choosesAt wsX9_openLevel := goodIn_r _ [21, 1, 22, 4, 23, 24, 11, 25, 26, 27, 52, 53, 54, 55, 56, 57, 58, 59, 60, 61, 62, 63, 64, 65, 66, 67, 68, 69, 70, 71, 72, 73, 74, 75, 76, 77, 78, 79] (by decide +kernel) (by decide +kernel)
set_option maxRecDepth 20000 in
theorem gX9_choosesAt_X9_openLevel : GoodIn wsX9_choosesAt (wsV RX9 147 RX9 yX9_openLevel wsX9_openLevel) := goodIn_app (goodIn_of _ (by decide +kernel)) ggX9_choosesAt_X9_openLevel
theorem dX9_choosesAt_0 : decode cX9_choosesAt 0 = .ok (.aload_n 0, 1) := by decide +kernel
theorem dX9_choosesAt_1 : decode cX9_choosesAt 1 = .ok (.getfield 45, 3) := by decide +kernel
theorem dX9_choosesAt_4 : decode cX9_choosesAt 4 = .ok (.iload_n 1, 1) := by decide +kernel
theorem dX9_choosesAt_5 : decode cX9_choosesAt 5 = .ok (.iaload, 1) := by decide +kernel
theorem dX9_choosesAt_6 : decode cX9_choosesAt 6 = .ok (.iconst 1, 1) := by decide +kernel
theorem dX9_choosesAt_7 : decode cX9_choosesAt 7 = .ok (.iadd, 1) := by decide +kernel
theorem dX9_choosesAt_8 : decode cX9_choosesAt 8 = .ok (.istore_n 2, 1) := by decide +kernel
theorem dX9_choosesAt_9 : decode cX9_choosesAt 9 = .ok (.aload_n 0, 1) := by decide +kernel
theorem dX9_choosesAt_10 : decode cX9_choosesAt 10 = .ok (.iload_n 1, 1) := by decide +kernel
theorem dX9_choosesAt_11 : decode cX9_choosesAt 11 = .ok (.invokevirtual 154, 3) := by decide +kernel
theorem dX9_choosesAt_14 : decode cX9_choosesAt 14 = .ok (.ifCond .eq 80, 3) := by decide +kernel
theorem dX9_choosesAt_17 : decode cX9_choosesAt 17 = .ok (.iload_n 2, 1) := by decide +kernel
theorem dX9_choosesAt_18 : decode cX9_choosesAt 18 = .ok (.iconst 1, 1) := by decide +kernel
theorem dX9_choosesAt_19 : decode cX9_choosesAt 19 = .ok (.if_icmp .le 5, 3) := by decide +kernel
theorem dX9_choosesAt_22 : decode cX9_choosesAt 22 = .ok (.iconst 0, 1) := by decide +kernel
theorem dX9_choosesAt_23 : decode cX9_choosesAt 23 = .ok (.ireturn, 1) := by decide +kernel
theorem dX9_choosesAt_24 : decode cX9_choosesAt 24 = .ok (.aload_n 0, 1) := by decide +kernel
theorem dX9_choosesAt_25 : decode cX9_choosesAt 25 = .ok (.iload_n 1, 1) := by decide +kernel
theorem dX9_choosesAt_26 : decode cX9_choosesAt 26 = .ok (.iconst 1, 1) := by decide +kernel
theorem dX9_choosesAt_27 : decode cX9_choosesAt 27 = .ok (.iadd, 1) := by decide +kernel
theorem dX9_choosesAt_28 : decode cX9_choosesAt 28 = .ok (.iload_n 1, 1) := by decide +kernel
theorem dX9_choosesAt_29 : decode cX9_choosesAt 29 = .ok (.invokevirtual 157, 3) := by decide +kernel
theorem dX9_choosesAt_32 : decode cX9_choosesAt 32 = .ok (.aload_n 0, 1) := by decide +kernel
theorem dX9_choosesAt_33 : decode cX9_choosesAt 33 = .ok (.getfield 42, 3) := by decide +kernel
theorem dX9_choosesAt_36 : decode cX9_choosesAt 36 = .ok (.iload_n 1, 1) := by decide +kernel
theorem dX9_choosesAt_37 : decode cX9_choosesAt 37 = .ok (.iconst 1, 1) := by decide +kernel
theorem dX9_choosesAt_38 : decode cX9_choosesAt 38 = .ok (.iadd, 1) := by decide +kernel
theorem dX9_choosesAt_39 : decode cX9_choosesAt 39 = .ok (.iconst (-1), 1) := by decide +kernel
theorem dX9_choosesAt_40 : decode cX9_choosesAt 40 = .ok (.iastore, 1) := by decide +kernel
theorem dX9_choosesAt_41 : decode cX9_choosesAt 41 = .ok (.iload_n 2, 1) := by decide +kernel
theorem dX9_choosesAt_42 : decode cX9_choosesAt 42 = .ok (.iconst 1, 1) := by decide +kernel
theorem dX9_choosesAt_43 : decode cX9_choosesAt 43 = .ok (.if_icmp .ne 42, 3) := by decide +kernel
theorem dX9_choosesAt_46 : decode cX9_choosesAt 46 = .ok (.aload_n 0, 1) := by decide +kernel
theorem dX9_choosesAt_47 : decode cX9_choosesAt 47 = .ok (.getfield 39, 3) := by decide +kernel
theorem dX9_choosesAt_50 : decode cX9_choosesAt 50 = .ok (.iconst 2, 1) := by decide +kernel
theorem dX9_choosesAt_51 : decode cX9_choosesAt 51 = .ok (.iload_n 1, 1) := by decide +kernel
theorem dX9_choosesAt_52 : decode cX9_choosesAt 52 = .ok (.imul, 1) := by decide +kernel
theorem dX9_choosesAt_53 : decode cX9_choosesAt 53 = .ok (.iconst 2, 1) := by decide +kernel
theorem dX9_choosesAt_54 : decode cX9_choosesAt 54 = .ok (.iadd, 1) := by decide +kernel
theorem dX9_choosesAt_55 : decode cX9_choosesAt 55 = .ok (.aload_n 0, 1) := by decide +kernel
theorem dX9_choosesAt_56 : decode cX9_choosesAt 56 = .ok (.getfield 36, 3) := by decide +kernel
theorem dX9_choosesAt_59 : decode cX9_choosesAt 59 = .ok (.iload_n 1, 1) := by decide +kernel
theorem dX9_choosesAt_60 : decode cX9_choosesAt 60 = .ok (.iaload, 1) := by decide +kernel
theorem dX9_choosesAt_61 : decode cX9_choosesAt 61 = .ok (.iconst 2, 1) := by decide +kernel
theorem dX9_choosesAt_62 : decode cX9_choosesAt 62 = .ok (.irem, 1) := by decide +kernel
theorem dX9_choosesAt_63 : decode cX9_choosesAt 63 = .ok (.iadd, 1) := by decide +kernel
theorem dX9_choosesAt_64 : decode cX9_choosesAt 64 = .ok (.dup2, 1) := by decide +kernel
theorem dX9_choosesAt_65 : decode cX9_choosesAt 65 = .ok (.iaload, 1) := by decide +kernel
theorem dX9_choosesAt_66 : decode cX9_choosesAt 66 = .ok (.iconst 1, 1) := by decide +kernel
theorem dX9_choosesAt_67 : decode cX9_choosesAt 67 = .ok (.isub, 1) := by decide +kernel
theorem dX9_choosesAt_68 : decode cX9_choosesAt 68 = .ok (.iastore, 1) := by decide +kernel
theorem dX9_choosesAt_69 : decode cX9_choosesAt 69 = .ok (.aload_n 0, 1) := by decide +kernel
theorem dX9_choosesAt_70 : decode cX9_choosesAt 70 = .ok (.getfield 30, 3) := by decide +kernel
theorem dX9_choosesAt_73 : decode cX9_choosesAt 73 = .ok (.iload_n 1, 1) := by decide +kernel
theorem dX9_choosesAt_74 : decode cX9_choosesAt 74 = .ok (.iconst 1, 1) := by decide +kernel
theorem dX9_choosesAt_75 : decode cX9_choosesAt 75 = .ok (.iadd, 1) := by decide +kernel
theorem dX9_choosesAt_76 : decode cX9_choosesAt 76 = .ok (.iconst 1, 1) := by decide +kernel
theorem dX9_choosesAt_77 : decode cX9_choosesAt 77 = .ok (.aload_n 0, 1) := by decide +kernel
theorem dX9_choosesAt_78 : decode cX9_choosesAt 78 = .ok (.getfield 30, 3) := by decide +kernel
theorem dX9_choosesAt_81 : decode cX9_choosesAt 81 = .ok (.iload_n 1, 1) := by decide +kernel
theorem dX9_choosesAt_82 : decode cX9_choosesAt 82 = .ok (.iaload, 1) := by decide +kernel
theorem dX9_choosesAt_83 : decode cX9_choosesAt 83 = .ok (.isub, 1) := by decide +kernel
theorem dX9_choosesAt_84 : decode cX9_choosesAt 84 = .ok (.iastore, 1) := by decide +kernel
theorem dX9_choosesAt_85 : decode cX9_choosesAt 85 = .ok (.aload_n 0, 1) := by decide +kernel
theorem dX9_choosesAt_86 : decode cX9_choosesAt 86 = .ok (.getfield 45, 3) := by decide +kernel
theorem dX9_choosesAt_89 : decode cX9_choosesAt 89 = .ok (.iload_n 1, 1) := by decide +kernel
theorem dX9_choosesAt_90 : decode cX9_choosesAt 90 = .ok (.iload_n 2, 1) := by decide +kernel
theorem dX9_choosesAt_91 : decode cX9_choosesAt 91 = .ok (.iastore, 1) := by decide +kernel
theorem dX9_choosesAt_92 : decode cX9_choosesAt 92 = .ok (.iconst 1, 1) := by decide +kernel
theorem dX9_choosesAt_93 : decode cX9_choosesAt 93 = .ok (.ireturn, 1) := by decide +kernel
theorem dX9_choosesAt_94 : decode cX9_choosesAt 94 = .ok (.iload_n 2, 1) := by decide +kernel
theorem dX9_choosesAt_95 : decode cX9_choosesAt 95 = .ok (.aload_n 0, 1) := by decide +kernel
theorem dX9_choosesAt_96 : decode cX9_choosesAt 96 = .ok (.invokevirtual 70, 3) := by decide +kernel
theorem dX9_choosesAt_99 : decode cX9_choosesAt 99 = .ok (.if_icmp .ge 22, 3) := by decide +kernel
theorem dX9_choosesAt_102 : decode cX9_choosesAt 102 = .ok (.aload_n 0, 1) := by decide +kernel
theorem dX9_choosesAt_103 : decode cX9_choosesAt 103 = .ok (.getfield 27, 3) := by decide +kernel
theorem dX9_choosesAt_106 : decode cX9_choosesAt 106 = .ok (.iload_n 1, 1) := by decide +kernel
theorem dX9_choosesAt_107 : decode cX9_choosesAt 107 = .ok (.iaload, 1) := by decide +kernel
theorem dX9_choosesAt_108 : decode cX9_choosesAt 108 = .ok (.iload_n 2, 1) := by decide +kernel
theorem dX9_choosesAt_109 : decode cX9_choosesAt 109 = .ok (.invokestatic 120, 3) := by decide +kernel
theorem dX9_choosesAt_112 : decode cX9_choosesAt 112 = .ok (.ifCond .eq 9, 3) := by decide +kernel
theorem dX9_choosesAt_115 : decode cX9_choosesAt 115 = .ok (.iinc 2 1, 3) := by decide +kernel
theorem dX9_choosesAt_118 : decode cX9_choosesAt 118 = .ok (.goto (-24), 3) := by decide +kernel
theorem dX9_choosesAt_121 : decode cX9_choosesAt 121 = .ok (.iload_n 2, 1) := by decide +kernel
theorem dX9_choosesAt_122 : decode cX9_choosesAt 122 = .ok (.aload_n 0, 1) := by decide +kernel
theorem dX9_choosesAt_123 : decode cX9_choosesAt 123 = .ok (.invokevirtual 70, 3) := by decide +kernel
theorem dX9_choosesAt_126 : decode cX9_choosesAt 126 = .ok (.if_icmp .lt 5, 3) := by decide +kernel
theorem dX9_choosesAt_129 : decode cX9_choosesAt 129 = .ok (.iconst 0, 1) := by decide +kernel
theorem dX9_choosesAt_130 : decode cX9_choosesAt 130 = .ok (.ireturn, 1) := by decide +kernel
theorem dX9_choosesAt_131 : decode cX9_choosesAt 131 = .ok (.aload_n 0, 1) := by decide +kernel
theorem dX9_choosesAt_132 : decode cX9_choosesAt 132 = .ok (.iload_n 1, 1) := by decide +kernel
theorem dX9_choosesAt_133 : decode cX9_choosesAt 133 = .ok (.iconst 1, 1) := by decide +kernel
theorem dX9_choosesAt_134 : decode cX9_choosesAt 134 = .ok (.iadd, 1) := by decide +kernel
theorem dX9_choosesAt_135 : decode cX9_choosesAt 135 = .ok (.iload_n 1, 1) := by decide +kernel
theorem dX9_choosesAt_136 : decode cX9_choosesAt 136 = .ok (.invokevirtual 157, 3) := by decide +kernel
theorem dX9_choosesAt_139 : decode cX9_choosesAt 139 = .ok (.aload_n 0, 1) := by decide +kernel
theorem dX9_choosesAt_140 : decode cX9_choosesAt 140 = .ok (.getfield 27, 3) := by decide +kernel
theorem dX9_choosesAt_143 : decode cX9_choosesAt 143 = .ok (.iload_n 1, 1) := by decide +kernel
theorem dX9_choosesAt_144 : decode cX9_choosesAt 144 = .ok (.iconst 1, 1) := by decide +kernel
theorem dX9_choosesAt_145 : decode cX9_choosesAt 145 = .ok (.iadd, 1) := by decide +kernel
theorem dX9_choosesAt_146 : decode cX9_choosesAt 146 = .ok (.dup2, 1) := by decide +kernel
theorem dX9_choosesAt_147 : decode cX9_choosesAt 147 = .ok (.iaload, 1) := by decide +kernel
theorem dX9_choosesAt_148 : decode cX9_choosesAt 148 = .ok (.iconst 1, 1) := by decide +kernel
theorem dX9_choosesAt_149 : decode cX9_choosesAt 149 = .ok (.iload_n 2, 1) := by decide +kernel
theorem dX9_choosesAt_150 : decode cX9_choosesAt 150 = .ok (.ishl, 1) := by decide +kernel
theorem dX9_choosesAt_151 : decode cX9_choosesAt 151 = .ok (.ior, 1) := by decide +kernel
theorem dX9_choosesAt_152 : decode cX9_choosesAt 152 = .ok (.iastore, 1) := by decide +kernel
theorem dX9_choosesAt_153 : decode cX9_choosesAt 153 = .ok (.aload_n 0, 1) := by decide +kernel
theorem dX9_choosesAt_154 : decode cX9_choosesAt 154 = .ok (.getfield 33, 3) := by decide +kernel
theorem dX9_choosesAt_157 : decode cX9_choosesAt 157 = .ok (.iload_n 1, 1) := by decide +kernel
theorem dX9_choosesAt_158 : decode cX9_choosesAt 158 = .ok (.iconst 1, 1) := by decide +kernel
theorem dX9_choosesAt_159 : decode cX9_choosesAt 159 = .ok (.iadd, 1) := by decide +kernel
theorem dX9_choosesAt_160 : decode cX9_choosesAt 160 = .ok (.aload_n 0, 1) := by decide +kernel
theorem dX9_choosesAt_161 : decode cX9_choosesAt 161 = .ok (.iload_n 2, 1) := by decide +kernel
theorem dX9_choosesAt_162 : decode cX9_choosesAt 162 = .ok (.aload_n 0, 1) := by decide +kernel
theorem dX9_choosesAt_163 : decode cX9_choosesAt 163 = .ok (.getfield 30, 3) := by decide +kernel
theorem dX9_choosesAt_166 : decode cX9_choosesAt 166 = .ok (.iload_n 1, 1) := by decide +kernel
theorem dX9_choosesAt_167 : decode cX9_choosesAt 167 = .ok (.iaload, 1) := by decide +kernel
theorem dX9_choosesAt_168 : decode cX9_choosesAt 168 = .ok (.aload_n 0, 1) := by decide +kernel
theorem dX9_choosesAt_169 : decode cX9_choosesAt 169 = .ok (.getfield 33, 3) := by decide +kernel
theorem dX9_choosesAt_172 : decode cX9_choosesAt 172 = .ok (.iload_n 1, 1) := by decide +kernel
theorem dX9_choosesAt_173 : decode cX9_choosesAt 173 = .ok (.iaload, 1) := by decide +kernel
theorem dX9_choosesAt_174 : decode cX9_choosesAt 174 = .ok (.aload_n 0, 1) := by decide +kernel
theorem dX9_choosesAt_175 : decode cX9_choosesAt 175 = .ok (.getfield 36, 3) := by decide +kernel
theorem dX9_choosesAt_178 : decode cX9_choosesAt 178 = .ok (.iload_n 1, 1) := by decide +kernel
theorem dX9_choosesAt_179 : decode cX9_choosesAt 179 = .ok (.iaload, 1) := by decide +kernel
theorem dX9_choosesAt_180 : decode cX9_choosesAt 180 = .ok (.invokevirtual 130, 3) := by decide +kernel
theorem dX9_choosesAt_183 : decode cX9_choosesAt 183 = .ok (.iastore, 1) := by decide +kernel
theorem dX9_choosesAt_184 : decode cX9_choosesAt 184 = .ok (.aload_n 0, 1) := by decide +kernel
theorem dX9_choosesAt_185 : decode cX9_choosesAt 185 = .ok (.getfield 36, 3) := by decide +kernel
theorem dX9_choosesAt_188 : decode cX9_choosesAt 188 = .ok (.iload_n 1, 1) := by decide +kernel
theorem dX9_choosesAt_189 : decode cX9_choosesAt 189 = .ok (.iconst 1, 1) := by decide +kernel
theorem dX9_choosesAt_190 : decode cX9_choosesAt 190 = .ok (.iadd, 1) := by decide +kernel
theorem dX9_choosesAt_191 : decode cX9_choosesAt 191 = .ok (.aload_n 0, 1) := by decide +kernel
theorem dX9_choosesAt_192 : decode cX9_choosesAt 192 = .ok (.getfield 36, 3) := by decide +kernel
theorem dX9_choosesAt_195 : decode cX9_choosesAt 195 = .ok (.iload_n 1, 1) := by decide +kernel
theorem dX9_choosesAt_196 : decode cX9_choosesAt 196 = .ok (.iaload, 1) := by decide +kernel
theorem dX9_choosesAt_197 : decode cX9_choosesAt 197 = .ok (.iconst 1, 1) := by decide +kernel
theorem dX9_choosesAt_198 : decode cX9_choosesAt 198 = .ok (.iadd, 1) := by decide +kernel
theorem dX9_choosesAt_199 : decode cX9_choosesAt 199 = .ok (.iastore, 1) := by decide +kernel
theorem dX9_choosesAt_200 : decode cX9_choosesAt 200 = .ok (.aload_n 0, 1) := by decide +kernel
theorem dX9_choosesAt_201 : decode cX9_choosesAt 201 = .ok (.getfield 42, 3) := by decide +kernel
theorem dX9_choosesAt_204 : decode cX9_choosesAt 204 = .ok (.iload_n 1, 1) := by decide +kernel
theorem dX9_choosesAt_205 : decode cX9_choosesAt 205 = .ok (.iconst 1, 1) := by decide +kernel
theorem dX9_choosesAt_206 : decode cX9_choosesAt 206 = .ok (.iadd, 1) := by decide +kernel
theorem dX9_choosesAt_207 : decode cX9_choosesAt 207 = .ok (.iload_n 2, 1) := by decide +kernel
theorem dX9_choosesAt_208 : decode cX9_choosesAt 208 = .ok (.iastore, 1) := by decide +kernel
theorem dX9_choosesAt_209 : decode cX9_choosesAt 209 = .ok (.aload_n 0, 1) := by decide +kernel
theorem dX9_choosesAt_210 : decode cX9_choosesAt 210 = .ok (.iload_n 1, 1) := by decide +kernel
theorem dX9_choosesAt_211 : decode cX9_choosesAt 211 = .ok (.iconst 1, 1) := by decide +kernel
theorem dX9_choosesAt_212 : decode cX9_choosesAt 212 = .ok (.iadd, 1) := by decide +kernel
theorem dX9_choosesAt_213 : decode cX9_choosesAt 213 = .ok (.invokevirtual 147, 3) := by decide +kernel
theorem dX9_choosesAt_216 : decode cX9_choosesAt 216 = .ok (.aload_n 0, 1) := by decide +kernel
theorem dX9_choosesAt_217 : decode cX9_choosesAt 217 = .ok (.getfield 45, 3) := by decide +kernel
theorem dX9_choosesAt_220 : decode cX9_choosesAt 220 = .ok (.iload_n 1, 1) := by decide +kernel
theorem dX9_choosesAt_221 : decode cX9_choosesAt 221 = .ok (.iload_n 2, 1) := by decide +kernel
theorem dX9_choosesAt_222 : decode cX9_choosesAt 222 = .ok (.iastore, 1) := by decide +kernel
theorem dX9_choosesAt_223 : decode cX9_choosesAt 223 = .ok (.iconst 1, 1) := by decide +kernel
theorem dX9_choosesAt_224 : decode cX9_choosesAt 224 = .ok (.ireturn, 1) := by decide +kernel
set_option maxRecDepth 20000 in
theorem ggX9_isEnd_X9_many : GoodIn wsX9_isEnd wsX9_many := goodIn_r _ [6, 7, 15, 16, 17, 18, 19, 20, 21, 22, 23, 24, 25, 26, 27, 28, 29, 30, 31, 32, 33, 34, 35, 36, 37, 38, 39, 40, 41, 42] (by decide +kernel) (by decide +kernel)
set_option maxRecDepth 20000 in
theorem gX9_isEnd_X9_many : GoodIn wsX9_isEnd (wsV RX9 70 RX9 yX9_many wsX9_many) := goodIn_app (goodIn_of _ (by decide +kernel)) ggX9_isEnd_X9_many
set_option maxRecDepth 20000 in
theorem ggX9_isEnd_X9_mayAt : GoodIn wsX9_isEnd wsX9_mayAt := goodIn_r _ [11, 12, 7, 13, 14, 15, 16, 17, 18, 19, 20, 21, 22, 23, 24, 25, 26, 27, 28, 29, 30, 31, 32, 33, 34, 35, 36, 37, 38, 39, 40, 41, 42] (by decide +kernel) (by decide +kernel)
set_option maxRecDepth 20000 in
theorem gX9_isEnd_X9_mayAt : GoodIn wsX9_isEnd (wsV RX9 154 RX9 yX9_mayAt wsX9_mayAt) := goodIn_app (goodIn_of _ (by decide +kernel)) ggX9_isEnd_X9_mayAt
theorem dX9_isEnd_0 : decode cX9_isEnd 0 = .ok (.aload_n 0, 1) := by decide +kernel
theorem dX9_isEnd_1 : decode cX9_isEnd 1 = .ok (.getfield 27, 3) := by decide +kernel
theorem dX9_isEnd_4 : decode cX9_isEnd 4 = .ok (.iload_n 1, 1) := by decide +kernel
theorem dX9_isEnd_5 : decode cX9_isEnd 5 = .ok (.iaload, 1) := by decide +kernel
theorem dX9_isEnd_6 : decode cX9_isEnd 6 = .ok (.iconst 1, 1) := by decide +kernel
theorem dX9_isEnd_7 : decode cX9_isEnd 7 = .ok (.aload_n 0, 1) := by decide +kernel
theorem dX9_isEnd_8 : decode cX9_isEnd 8 = .ok (.invokevirtual 70, 3) := by decide +kernel
theorem dX9_isEnd_11 : decode cX9_isEnd 11 = .ok (.ishl, 1) := by decide +kernel
theorem dX9_isEnd_12 : decode cX9_isEnd 12 = .ok (.iconst 1, 1) := by decide +kernel
theorem dX9_isEnd_13 : decode cX9_isEnd 13 = .ok (.isub, 1) := by decide +kernel
theorem dX9_isEnd_14 : decode cX9_isEnd 14 = .ok (.if_icmp .ne 15, 3) := by decide +kernel
theorem dX9_isEnd_17 : decode cX9_isEnd 17 = .ok (.aload_n 0, 1) := by decide +kernel
theorem dX9_isEnd_18 : decode cX9_isEnd 18 = .ok (.iload_n 1, 1) := by decide +kernel
theorem dX9_isEnd_19 : decode cX9_isEnd 19 = .ok (.invokevirtual 154, 3) := by decide +kernel
theorem dX9_isEnd_22 : decode cX9_isEnd 22 = .ok (.ifCond .ne 7, 3) := by decide +kernel
theorem dX9_isEnd_25 : decode cX9_isEnd 25 = .ok (.iconst 1, 1) := by decide +kernel
theorem dX9_isEnd_26 : decode cX9_isEnd 26 = .ok (.goto 4, 3) := by decide +kernel
theorem dX9_isEnd_29 : decode cX9_isEnd 29 = .ok (.iconst 0, 1) := by decide +kernel
theorem dX9_isEnd_30 : decode cX9_isEnd 30 = .ok (.ireturn, 1) := by decide +kernel
set_option maxRecDepth 20000 in
theorem ggX9_solve_X9_isEnd : GoodIn wsX9_solve wsX9_isEnd := goodIn_r _ [11, 12, 13, 14, 15, 10, 16, 17, 18, 19, 20, 21, 22, 23, 5, 61, 62, 63, 64, 65, 66, 67, 68, 69, 70, 71, 72, 73, 74, 75, 76, 77, 78, 79, 80, 81, 82, 83, 84, 85, 86, 87, 88] (by decide +kernel) (by decide +kernel)
set_option maxRecDepth 20000 in
theorem gX9_solve_X9_isEnd : GoodIn wsX9_solve (wsV RX9 165 RX9 yX9_isEnd wsX9_isEnd) := goodIn_app (goodIn_of _ (by decide +kernel)) ggX9_solve_X9_isEnd
set_option maxRecDepth 20000 in
theorem ggX9_solve_X9_choosesAt : GoodIn wsX9_solve wsX9_choosesAt := goodIn_r _ [27, 6, 22, 23, 5, 2, 12, 3, 18, 19, 20, 10, 21, 17, 28, 29, 30, 31, 32, 33, 34, 35, 4, 36, 37, 38, 39, 40, 13, 14, 15, 16, 41, 42, 43, 44, 45, 46, 47, 48, 49, 50, 51, 52, 53, 54, 55, 56, 57, 58, 59, 60, 61, 62, 63, 64, 65, 66, 67, 68, 69, 70, 71, 72, 73, 74, 75, 76, 77, 78, 79, 80, 81, 82, 83, 84, 85, 86, 87, 88] (by decide +kernel) (by decide +kernel)
set_option maxRecDepth 20000 in
theorem gX9_solve_X9_choosesAt : GoodIn wsX9_solve (wsV RX9 168 RX9 yX9_choosesAt wsX9_choosesAt) := goodIn_app (goodIn_of _ (by decide +kernel)) ggX9_solve_X9_choosesAt
theorem dX9_solve_0 : decode cX9_solve 0 = .ok (.iconst 0, 1) := by decide +kernel
theorem dX9_solve_1 : decode cX9_solve 1 = .ok (.istore_n 1, 1) := by decide +kernel
theorem dX9_solve_2 : decode cX9_solve 2 = .ok (.aload_n 0, 1) := by decide +kernel
theorem dX9_solve_3 : decode cX9_solve 3 = .ok (.iconst (-1), 1) := by decide +kernel
theorem dX9_solve_4 : decode cX9_solve 4 = .ok (.putfield 161, 3) := by decide +kernel
theorem dX9_solve_7 : decode cX9_solve 7 = .ok (.aload_n 0, 1) := by decide +kernel
theorem dX9_solve_8 : decode cX9_solve 8 = .ok (.iconst 0, 1) := by decide +kernel
theorem dX9_solve_9 : decode cX9_solve 9 = .ok (.invokevirtual 165, 3) := by decide +kernel
theorem dX9_solve_12 : decode cX9_solve 12 = .ok (.ifCond .eq 29, 3) := by decide +kernel
theorem dX9_solve_15 : decode cX9_solve 15 = .ok (.aload_n 0, 1) := by decide +kernel
theorem dX9_solve_16 : decode cX9_solve 16 = .ok (.getfield 30, 3) := by decide +kernel
theorem dX9_solve_19 : decode cX9_solve 19 = .ok (.iconst 0, 1) := by decide +kernel
theorem dX9_solve_20 : decode cX9_solve 20 = .ok (.iaload, 1) := by decide +kernel
theorem dX9_solve_21 : decode cX9_solve 21 = .ok (.ifCond .ne 12, 3) := by decide +kernel
theorem dX9_solve_24 : decode cX9_solve 24 = .ok (.aload_n 0, 1) := by decide +kernel
theorem dX9_solve_25 : decode cX9_solve 25 = .ok (.getfield 33, 3) := by decide +kernel
theorem dX9_solve_28 : decode cX9_solve 28 = .ok (.iconst 0, 1) := by decide +kernel
theorem dX9_solve_29 : decode cX9_solve 29 = .ok (.iaload, 1) := by decide +kernel
theorem dX9_solve_30 : decode cX9_solve 30 = .ok (.goto 10, 3) := by decide +kernel
theorem dX9_solve_33 : decode cX9_solve 33 = .ok (.aload_n 0, 1) := by decide +kernel
theorem dX9_solve_34 : decode cX9_solve 34 = .ok (.getfield 33, 3) := by decide +kernel
theorem dX9_solve_37 : decode cX9_solve 37 = .ok (.iconst 0, 1) := by decide +kernel
theorem dX9_solve_38 : decode cX9_solve 38 = .ok (.iaload, 1) := by decide +kernel
theorem dX9_solve_39 : decode cX9_solve 39 = .ok (.ineg, 1) := by decide +kernel
theorem dX9_solve_40 : decode cX9_solve 40 = .ok (.ireturn, 1) := by decide +kernel
theorem dX9_solve_41 : decode cX9_solve 41 = .ok (.iload_n 1, 1) := by decide +kernel
theorem dX9_solve_42 : decode cX9_solve 42 = .ok (.ifCond .lt 169, 3) := by decide +kernel
theorem dX9_solve_45 : decode cX9_solve 45 = .ok (.aload_n 0, 1) := by decide +kernel
theorem dX9_solve_46 : decode cX9_solve 46 = .ok (.iload_n 1, 1) := by decide +kernel
theorem dX9_solve_47 : decode cX9_solve 47 = .ok (.invokevirtual 165, 3) := by decide +kernel
theorem dX9_solve_50 : decode cX9_solve 50 = .ok (.istore_n 2, 1) := by decide +kernel
theorem dX9_solve_51 : decode cX9_solve 51 = .ok (.iload_n 2, 1) := by decide +kernel
theorem dX9_solve_52 : decode cX9_solve 52 = .ok (.ifCond .ne 17, 3) := by decide +kernel
theorem dX9_solve_55 : decode cX9_solve 55 = .ok (.aload_n 0, 1) := by decide +kernel
theorem dX9_solve_56 : decode cX9_solve 56 = .ok (.iload_n 1, 1) := by decide +kernel
theorem dX9_solve_57 : decode cX9_solve 57 = .ok (.invokevirtual 168, 3) := by decide +kernel
theorem dX9_solve_60 : decode cX9_solve 60 = .ok (.ifCond .eq 9, 3) := by decide +kernel
theorem dX9_solve_63 : decode cX9_solve 63 = .ok (.iinc 1 1, 3) := by decide +kernel
theorem dX9_solve_66 : decode cX9_solve 66 = .ok (.goto 142, 3) := by decide +kernel
theorem dX9_solve_69 : decode cX9_solve 69 = .ok (.iload_n 2, 1) := by decide +kernel
theorem dX9_solve_70 : decode cX9_solve 70 = .ok (.ifCond .ne 12, 3) := by decide +kernel
theorem dX9_solve_73 : decode cX9_solve 73 = .ok (.aload_n 0, 1) := by decide +kernel
theorem dX9_solve_74 : decode cX9_solve 74 = .ok (.getfield 48, 3) := by decide +kernel
theorem dX9_solve_77 : decode cX9_solve 77 = .ok (.iload_n 1, 1) := by decide +kernel
theorem dX9_solve_78 : decode cX9_solve 78 = .ok (.iaload, 1) := by decide +kernel
theorem dX9_solve_79 : decode cX9_solve 79 = .ok (.goto 28, 3) := by decide +kernel
theorem dX9_solve_82 : decode cX9_solve 82 = .ok (.aload_n 0, 1) := by decide +kernel
theorem dX9_solve_83 : decode cX9_solve 83 = .ok (.getfield 30, 3) := by decide +kernel
theorem dX9_solve_86 : decode cX9_solve 86 = .ok (.iload_n 1, 1) := by decide +kernel
theorem dX9_solve_87 : decode cX9_solve 87 = .ok (.iaload, 1) := by decide +kernel
theorem dX9_solve_88 : decode cX9_solve 88 = .ok (.ifCond .ne 12, 3) := by decide +kernel
theorem dX9_solve_91 : decode cX9_solve 91 = .ok (.aload_n 0, 1) := by decide +kernel
theorem dX9_solve_92 : decode cX9_solve 92 = .ok (.getfield 33, 3) := by decide +kernel
theorem dX9_solve_95 : decode cX9_solve 95 = .ok (.iload_n 1, 1) := by decide +kernel
theorem dX9_solve_96 : decode cX9_solve 96 = .ok (.iaload, 1) := by decide +kernel
theorem dX9_solve_97 : decode cX9_solve 97 = .ok (.goto 10, 3) := by decide +kernel
theorem dX9_solve_100 : decode cX9_solve 100 = .ok (.aload_n 0, 1) := by decide +kernel
theorem dX9_solve_101 : decode cX9_solve 101 = .ok (.getfield 33, 3) := by decide +kernel
theorem dX9_solve_104 : decode cX9_solve 104 = .ok (.iload_n 1, 1) := by decide +kernel
theorem dX9_solve_105 : decode cX9_solve 105 = .ok (.iaload, 1) := by decide +kernel
theorem dX9_solve_106 : decode cX9_solve 106 = .ok (.ineg, 1) := by decide +kernel
theorem dX9_solve_107 : decode cX9_solve 107 = .ok (.istore_n 3, 1) := by decide +kernel
theorem dX9_solve_108 : decode cX9_solve 108 = .ok (.iinc 1 (-1), 3) := by decide +kernel
theorem dX9_solve_111 : decode cX9_solve 111 = .ok (.iload_n 1, 1) := by decide +kernel
theorem dX9_solve_112 : decode cX9_solve 112 = .ok (.ifCond .lt 96, 3) := by decide +kernel
theorem dX9_solve_115 : decode cX9_solve 115 = .ok (.aload_n 0, 1) := by decide +kernel
theorem dX9_solve_116 : decode cX9_solve 116 = .ok (.getfield 36, 3) := by decide +kernel
theorem dX9_solve_119 : decode cX9_solve 119 = .ok (.iload_n 1, 1) := by decide +kernel
theorem dX9_solve_120 : decode cX9_solve 120 = .ok (.iaload, 1) := by decide +kernel
theorem dX9_solve_121 : decode cX9_solve 121 = .ok (.iconst 2, 1) := by decide +kernel
theorem dX9_solve_122 : decode cX9_solve 122 = .ok (.irem, 1) := by decide +kernel
theorem dX9_solve_123 : decode cX9_solve 123 = .ok (.ifCond .ne 21, 3) := by decide +kernel
theorem dX9_solve_126 : decode cX9_solve 126 = .ok (.iload_n 3, 1) := by decide +kernel
theorem dX9_solve_127 : decode cX9_solve 127 = .ok (.aload_n 0, 1) := by decide +kernel
theorem dX9_solve_128 : decode cX9_solve 128 = .ok (.getfield 48, 3) := by decide +kernel
theorem dX9_solve_131 : decode cX9_solve 131 = .ok (.iload_n 1, 1) := by decide +kernel
theorem dX9_solve_132 : decode cX9_solve 132 = .ok (.iaload, 1) := by decide +kernel
theorem dX9_solve_133 : decode cX9_solve 133 = .ok (.if_icmp .le 7, 3) := by decide +kernel
theorem dX9_solve_136 : decode cX9_solve 136 = .ok (.iconst 1, 1) := by decide +kernel
theorem dX9_solve_137 : decode cX9_solve 137 = .ok (.goto 22, 3) := by decide +kernel
theorem dX9_solve_140 : decode cX9_solve 140 = .ok (.iconst 0, 1) := by decide +kernel
theorem dX9_solve_141 : decode cX9_solve 141 = .ok (.goto 18, 3) := by decide +kernel
theorem dX9_solve_144 : decode cX9_solve 144 = .ok (.iload_n 3, 1) := by decide +kernel
theorem dX9_solve_145 : decode cX9_solve 145 = .ok (.aload_n 0, 1) := by decide +kernel
theorem dX9_solve_146 : decode cX9_solve 146 = .ok (.getfield 48, 3) := by decide +kernel
theorem dX9_solve_149 : decode cX9_solve 149 = .ok (.iload_n 1, 1) := by decide +kernel
theorem dX9_solve_150 : decode cX9_solve 150 = .ok (.iaload, 1) := by decide +kernel
theorem dX9_solve_151 : decode cX9_solve 151 = .ok (.if_icmp .ge 7, 3) := by decide +kernel
theorem dX9_solve_154 : decode cX9_solve 154 = .ok (.iconst 1, 1) := by decide +kernel
theorem dX9_solve_155 : decode cX9_solve 155 = .ok (.goto 4, 3) := by decide +kernel
theorem dX9_solve_158 : decode cX9_solve 158 = .ok (.iconst 0, 1) := by decide +kernel
theorem dX9_solve_159 : decode cX9_solve 159 = .ok (.istore 4, 2) := by decide +kernel
theorem dX9_solve_161 : decode cX9_solve 161 = .ok (.aload_n 0, 1) := by decide +kernel
theorem dX9_solve_162 : decode cX9_solve 162 = .ok (.getfield 48, 3) := by decide +kernel
theorem dX9_solve_165 : decode cX9_solve 165 = .ok (.iload_n 1, 1) := by decide +kernel
theorem dX9_solve_166 : decode cX9_solve 166 = .ok (.iload 4, 2) := by decide +kernel
theorem dX9_solve_168 : decode cX9_solve 168 = .ok (.ifCond .eq 7, 3) := by decide +kernel
theorem dX9_solve_171 : decode cX9_solve 171 = .ok (.iload_n 3, 1) := by decide +kernel
theorem dX9_solve_172 : decode cX9_solve 172 = .ok (.goto 9, 3) := by decide +kernel
theorem dX9_solve_175 : decode cX9_solve 175 = .ok (.aload_n 0, 1) := by decide +kernel
theorem dX9_solve_176 : decode cX9_solve 176 = .ok (.getfield 48, 3) := by decide +kernel
theorem dX9_solve_179 : decode cX9_solve 179 = .ok (.iload_n 1, 1) := by decide +kernel
theorem dX9_solve_180 : decode cX9_solve 180 = .ok (.iaload, 1) := by decide +kernel
theorem dX9_solve_181 : decode cX9_solve 181 = .ok (.iastore, 1) := by decide +kernel
theorem dX9_solve_182 : decode cX9_solve 182 = .ok (.aload_n 0, 1) := by decide +kernel
theorem dX9_solve_183 : decode cX9_solve 183 = .ok (.iload 4, 2) := by decide +kernel
theorem dX9_solve_185 : decode cX9_solve 185 = .ok (.ifCond .eq 16, 3) := by decide +kernel
theorem dX9_solve_188 : decode cX9_solve 188 = .ok (.iload_n 1, 1) := by decide +kernel
theorem dX9_solve_189 : decode cX9_solve 189 = .ok (.ifCond .ne 12, 3) := by decide +kernel
theorem dX9_solve_192 : decode cX9_solve 192 = .ok (.aload_n 0, 1) := by decide +kernel
theorem dX9_solve_193 : decode cX9_solve 193 = .ok (.getfield 45, 3) := by decide +kernel
theorem dX9_solve_196 : decode cX9_solve 196 = .ok (.iconst 0, 1) := by decide +kernel
theorem dX9_solve_197 : decode cX9_solve 197 = .ok (.iaload, 1) := by decide +kernel
theorem dX9_solve_198 : decode cX9_solve 198 = .ok (.goto 7, 3) := by decide +kernel
theorem dX9_solve_201 : decode cX9_solve 201 = .ok (.aload_n 0, 1) := by decide +kernel
theorem dX9_solve_202 : decode cX9_solve 202 = .ok (.getfield 161, 3) := by decide +kernel
theorem dX9_solve_205 : decode cX9_solve 205 = .ok (.putfield 161, 3) := by decide +kernel
theorem dX9_solve_208 : decode cX9_solve 208 = .ok (.goto (-167), 3) := by decide +kernel
theorem dX9_solve_211 : decode cX9_solve 211 = .ok (.aload_n 0, 1) := by decide +kernel
theorem dX9_solve_212 : decode cX9_solve 212 = .ok (.getfield 48, 3) := by decide +kernel
theorem dX9_solve_215 : decode cX9_solve 215 = .ok (.iconst 0, 1) := by decide +kernel
theorem dX9_solve_216 : decode cX9_solve 216 = .ok (.iaload, 1) := by decide +kernel
theorem dX9_solve_217 : decode cX9_solve 217 = .ok (.ireturn, 1) := by decide +kernel
set_option maxRecDepth 20000 in
theorem ggX9_solveBy_X9_layFirst : GoodIn wsX9_solveBy wsX9_layFirst := goodIn_r _ [5, 6, 7, 8, 9, 10, 11, 12, 13, 14, 15, 4, 16, 17, 18, 19, 20, 21, 22, 23, 69, 70, 71, 72, 73, 74, 75, 76, 77, 78, 79, 80, 81, 82, 83, 84, 85, 86, 87, 88, 89, 90, 91, 92, 93, 94, 95, 96] (by decide +kernel) (by decide +kernel)
set_option maxRecDepth 20000 in
theorem gX9_solveBy_X9_layFirst : GoodIn wsX9_solveBy (wsV RX9 171 RX9 yX9_layFirst wsX9_layFirst) := goodIn_app (goodIn_of _ (by decide +kernel)) ggX9_solveBy_X9_layFirst
set_option maxRecDepth 20000 in
theorem ggX9_solveBy_X9_solve : GoodIn wsX9_solveBy wsX9_solve := goodIn_r _ [27, 28, 8, 9, 18, 10, 17, 29, 30, 31, 4, 32, 6, 33, 34, 35, 36, 7, 37, 38, 39, 40, 12, 11, 41, 42, 43, 44, 45, 46, 47, 48, 13, 14, 15, 16, 19, 20, 21, 22, 23, 49, 50, 51, 52, 53, 54, 55, 56, 57, 58, 59, 60, 61, 62, 63, 64, 65, 66, 67, 68, 69, 70, 71, 72, 73, 74, 75, 76, 77, 78, 79, 80, 81, 82, 83, 84, 85, 86, 87, 88, 89, 90, 91, 92, 93, 94, 95, 96] (by decide +kernel) (by decide +kernel)
set_option maxRecDepth 20000 in
theorem gX9_solveBy_X9_solve : GoodIn wsX9_solveBy (wsV RX9 175 RX9 yX9_solve wsX9_solve) := goodIn_app (goodIn_of _ (by decide +kernel)) ggX9_solveBy_X9_solve
theorem dX9_solveBy_0 : decode cX9_solveBy 0 = .ok (.aload_n 0, 1) := by decide +kernel
theorem dX9_solveBy_1 : decode cX9_solveBy 1 = .ok (.iload_n 1, 1) := by decide +kernel
theorem dX9_solveBy_2 : decode cX9_solveBy 2 = .ok (.invokevirtual 171, 3) := by decide +kernel
theorem dX9_solveBy_5 : decode cX9_solveBy 5 = .ok (.aload_n 0, 1) := by decide +kernel
theorem dX9_solveBy_6 : decode cX9_solveBy 6 = .ok (.invokevirtual 175, 3) := by decide +kernel
theorem dX9_solveBy_9 : decode cX9_solveBy 9 = .ok (.ireturn, 1) := by decide +kernel
set_option maxRecDepth 20000 in
theorem ggX9_isBetterObjected_X9_solveBy : GoodIn wsX9_isBetterObjected wsX9_solveBy := goodIn_r _ [6, 7, 8, 9, 5, 10, 11, 1, 12, 13, 14, 15, 16, 17, 18, 19, 20, 21, 22, 23, 24, 25, 26, 27, 28, 29, 30, 31, 32, 33, 34, 35, 36, 37, 38, 39, 40, 41, 42, 43, 44, 45, 46, 47, 48, 49, 50, 51, 52, 53, 54, 55, 56, 57, 58, 59, 60, 61, 62, 63, 64, 65, 66, 67, 68, 69, 70, 71, 72, 73, 74, 75, 76, 77, 78, 79, 80, 81, 82, 83, 84, 85, 86, 87, 88, 89, 90, 91, 92, 93, 94, 95, 96, 97, 98, 99, 100] (by decide +kernel) (by decide +kernel)
set_option maxRecDepth 20000 in
theorem gX9_isBetterObjected_X9_solveBy : GoodIn wsX9_isBetterObjected (wsV RX9 178 RX9 yX9_solveBy wsX9_solveBy) := goodIn_app (goodIn_of _ (by decide +kernel)) ggX9_isBetterObjected_X9_solveBy
theorem dX9_isBetterObjected_0 : decode cX9_isBetterObjected 0 = .ok (.aload_n 0, 1) := by decide +kernel
theorem dX9_isBetterObjected_1 : decode cX9_isBetterObjected 1 = .ok (.iconst 0, 1) := by decide +kernel
theorem dX9_isBetterObjected_2 : decode cX9_isBetterObjected 2 = .ok (.invokevirtual 178, 3) := by decide +kernel
theorem dX9_isBetterObjected_5 : decode cX9_isBetterObjected 5 = .ok (.istore_n 1, 1) := by decide +kernel
theorem dX9_isBetterObjected_6 : decode cX9_isBetterObjected 6 = .ok (.aload_n 0, 1) := by decide +kernel
theorem dX9_isBetterObjected_7 : decode cX9_isBetterObjected 7 = .ok (.iconst 1, 1) := by decide +kernel
theorem dX9_isBetterObjected_8 : decode cX9_isBetterObjected 8 = .ok (.invokevirtual 178, 3) := by decide +kernel
theorem dX9_isBetterObjected_11 : decode cX9_isBetterObjected 11 = .ok (.istore_n 2, 1) := by decide +kernel
theorem dX9_isBetterObjected_12 : decode cX9_isBetterObjected 12 = .ok (.aload_n 0, 1) := by decide +kernel
theorem dX9_isBetterObjected_13 : decode cX9_isBetterObjected 13 = .ok (.getfield 7, 3) := by decide +kernel
theorem dX9_isBetterObjected_16 : decode cX9_isBetterObjected 16 = .ok (.bipush 16, 2) := by decide +kernel
theorem dX9_isBetterObjected_18 : decode cX9_isBetterObjected 18 = .ok (.iaload, 1) := by decide +kernel
theorem dX9_isBetterObjected_19 : decode cX9_isBetterObjected 19 = .ok (.iconst 2, 1) := by decide +kernel
theorem dX9_isBetterObjected_20 : decode cX9_isBetterObjected 20 = .ok (.irem, 1) := by decide +kernel
theorem dX9_isBetterObjected_21 : decode cX9_isBetterObjected 21 = .ok (.ifCond .ne 16, 3) := by decide +kernel
theorem dX9_isBetterObjected_24 : decode cX9_isBetterObjected 24 = .ok (.iload_n 2, 1) := by decide +kernel
theorem dX9_isBetterObjected_25 : decode cX9_isBetterObjected 25 = .ok (.iload_n 1, 1) := by decide +kernel
theorem dX9_isBetterObjected_26 : decode cX9_isBetterObjected 26 = .ok (.if_icmp .le 7, 3) := by decide +kernel
theorem dX9_isBetterObjected_29 : decode cX9_isBetterObjected 29 = .ok (.iconst 1, 1) := by decide +kernel
theorem dX9_isBetterObjected_30 : decode cX9_isBetterObjected 30 = .ok (.goto 17, 3) := by decide +kernel
theorem dX9_isBetterObjected_33 : decode cX9_isBetterObjected 33 = .ok (.iconst 0, 1) := by decide +kernel
theorem dX9_isBetterObjected_34 : decode cX9_isBetterObjected 34 = .ok (.goto 13, 3) := by decide +kernel
theorem dX9_isBetterObjected_37 : decode cX9_isBetterObjected 37 = .ok (.iload_n 2, 1) := by decide +kernel
theorem dX9_isBetterObjected_38 : decode cX9_isBetterObjected 38 = .ok (.iload_n 1, 1) := by decide +kernel
theorem dX9_isBetterObjected_39 : decode cX9_isBetterObjected 39 = .ok (.if_icmp .ge 7, 3) := by decide +kernel
theorem dX9_isBetterObjected_42 : decode cX9_isBetterObjected 42 = .ok (.iconst 1, 1) := by decide +kernel
theorem dX9_isBetterObjected_43 : decode cX9_isBetterObjected 43 = .ok (.goto 4, 3) := by decide +kernel
theorem dX9_isBetterObjected_46 : decode cX9_isBetterObjected 46 = .ok (.iconst 0, 1) := by decide +kernel
theorem dX9_isBetterObjected_47 : decode cX9_isBetterObjected 47 = .ok (.ireturn, 1) := by decide +kernel
set_option maxRecDepth 20000 in
theorem ggX9_playIs_X9_solveBy : GoodIn wsX9_playIs wsX9_solveBy := goodIn_r _ [6, 7, 8, 9, 5, 10, 11, 1, 12, 13, 14, 15, 16, 17, 18, 19, 20, 21, 22, 23, 24, 25, 26, 27, 28, 29, 30, 31, 32, 33, 34, 35, 36, 37, 38, 39, 40, 41, 42, 43, 44, 45, 46, 47, 48, 49, 50, 51, 52, 53, 54, 55, 56, 57, 58, 59, 60, 61, 62, 63, 64, 65, 66, 67, 68, 69, 70, 71, 72, 77, 78, 79, 80, 81, 82, 83, 84, 85, 86, 87, 88, 89, 90, 91, 92, 93, 94, 95, 96, 97, 98, 99, 100, 101, 102, 103, 104] (by decide +kernel) (by decide +kernel)
set_option maxRecDepth 20000 in
theorem gX9_playIs_X9_solveBy : GoodIn wsX9_playIs (wsV RX9 178 RX9 yX9_solveBy wsX9_solveBy) := goodIn_app (goodIn_of _ (by decide +kernel)) ggX9_playIs_X9_solveBy
set_option maxRecDepth 20000 in
theorem ggX9_playIs_X9_may : GoodIn wsX9_playIs wsX9_may := goodIn_r _ [76, 1, 77, 78, 79, 80, 81, 82, 83, 84, 85, 86, 87, 88, 89, 90, 91, 92, 93, 94, 95, 96, 97, 98, 99, 100, 101, 102, 103, 104] (by decide +kernel) (by decide +kernel)
set_option maxRecDepth 20000 in
theorem gX9_playIs_X9_may : GoodIn wsX9_playIs (wsV RX9 133 RX9 yX9_may wsX9_may) := goodIn_app (goodIn_of _ (by decide +kernel)) ggX9_playIs_X9_may
theorem dX9_playIs_0 : decode cX9_playIs 0 = .ok (.aload_n 0, 1) := by decide +kernel
theorem dX9_playIs_1 : decode cX9_playIs 1 = .ok (.iconst 0, 1) := by decide +kernel
theorem dX9_playIs_2 : decode cX9_playIs 2 = .ok (.invokevirtual 178, 3) := by decide +kernel
theorem dX9_playIs_5 : decode cX9_playIs 5 = .ok (.istore_n 1, 1) := by decide +kernel
theorem dX9_playIs_6 : decode cX9_playIs 6 = .ok (.aload_n 0, 1) := by decide +kernel
theorem dX9_playIs_7 : decode cX9_playIs 7 = .ok (.invokevirtual 133, 3) := by decide +kernel
theorem dX9_playIs_10 : decode cX9_playIs 10 = .ok (.ifCond .eq 11, 3) := by decide +kernel
theorem dX9_playIs_13 : decode cX9_playIs 13 = .ok (.aload_n 0, 1) := by decide +kernel
theorem dX9_playIs_14 : decode cX9_playIs 14 = .ok (.iconst 1, 1) := by decide +kernel
theorem dX9_playIs_15 : decode cX9_playIs 15 = .ok (.invokevirtual 178, 3) := by decide +kernel
theorem dX9_playIs_18 : decode cX9_playIs 18 = .ok (.goto 4, 3) := by decide +kernel
theorem dX9_playIs_21 : decode cX9_playIs 21 = .ok (.iload_n 1, 1) := by decide +kernel
theorem dX9_playIs_22 : decode cX9_playIs 22 = .ok (.istore_n 2, 1) := by decide +kernel
theorem dX9_playIs_23 : decode cX9_playIs 23 = .ok (.aload_n 0, 1) := by decide +kernel
theorem dX9_playIs_24 : decode cX9_playIs 24 = .ok (.getfield 7, 3) := by decide +kernel
theorem dX9_playIs_27 : decode cX9_playIs 27 = .ok (.bipush 16, 2) := by decide +kernel
theorem dX9_playIs_29 : decode cX9_playIs 29 = .ok (.iaload, 1) := by decide +kernel
theorem dX9_playIs_30 : decode cX9_playIs 30 = .ok (.iconst 2, 1) := by decide +kernel
theorem dX9_playIs_31 : decode cX9_playIs 31 = .ok (.irem, 1) := by decide +kernel
theorem dX9_playIs_32 : decode cX9_playIs 32 = .ok (.ifCond .ne 16, 3) := by decide +kernel
theorem dX9_playIs_35 : decode cX9_playIs 35 = .ok (.iload_n 2, 1) := by decide +kernel
theorem dX9_playIs_36 : decode cX9_playIs 36 = .ok (.iload_n 1, 1) := by decide +kernel
theorem dX9_playIs_37 : decode cX9_playIs 37 = .ok (.if_icmp .le 7, 3) := by decide +kernel
theorem dX9_playIs_40 : decode cX9_playIs 40 = .ok (.iconst 1, 1) := by decide +kernel
theorem dX9_playIs_41 : decode cX9_playIs 41 = .ok (.goto 17, 3) := by decide +kernel
theorem dX9_playIs_44 : decode cX9_playIs 44 = .ok (.iconst 0, 1) := by decide +kernel
theorem dX9_playIs_45 : decode cX9_playIs 45 = .ok (.goto 13, 3) := by decide +kernel
theorem dX9_playIs_48 : decode cX9_playIs 48 = .ok (.iload_n 2, 1) := by decide +kernel
theorem dX9_playIs_49 : decode cX9_playIs 49 = .ok (.iload_n 1, 1) := by decide +kernel
theorem dX9_playIs_50 : decode cX9_playIs 50 = .ok (.if_icmp .ge 7, 3) := by decide +kernel
theorem dX9_playIs_53 : decode cX9_playIs 53 = .ok (.iconst 1, 1) := by decide +kernel
theorem dX9_playIs_54 : decode cX9_playIs 54 = .ok (.goto 4, 3) := by decide +kernel
theorem dX9_playIs_57 : decode cX9_playIs 57 = .ok (.iconst 0, 1) := by decide +kernel
theorem dX9_playIs_58 : decode cX9_playIs 58 = .ok (.istore_n 3, 1) := by decide +kernel
theorem dX9_playIs_59 : decode cX9_playIs 59 = .ok (.iload_n 3, 1) := by decide +kernel
theorem dX9_playIs_60 : decode cX9_playIs 60 = .ok (.ifCond .eq 7, 3) := by decide +kernel
theorem dX9_playIs_63 : decode cX9_playIs 63 = .ok (.iload_n 2, 1) := by decide +kernel
theorem dX9_playIs_64 : decode cX9_playIs 64 = .ok (.goto 4, 3) := by decide +kernel
theorem dX9_playIs_67 : decode cX9_playIs 67 = .ok (.iload_n 1, 1) := by decide +kernel
theorem dX9_playIs_68 : decode cX9_playIs 68 = .ok (.ireturn, 1) := by decide +kernel
set_option maxRecDepth 20000 in
theorem ggX9_play_X9_in : GoodIn wsX9_play wsX9_in := goodIn_r _ [6] (by decide +kernel) (by decide +kernel)
set_option maxRecDepth 20000 in
theorem gX9_play_X9_in : GoodIn wsX9_play (va_wsS RX9 74 yX9_in wsX9_in) := goodIn_app (goodIn_of _ (by decide +kernel)) ggX9_play_X9_in
set_option maxRecDepth 20000 in
theorem ggX9_play_X9_bad : GoodIn wsX9_play wsX9_bad := goodIn_r _ [10, 11, 94, 95, 96, 97, 98, 99, 100, 101, 102, 103, 104, 105, 106, 107, 108, 109, 110, 111, 112, 113, 114, 115, 116, 117, 118, 119, 120, 121] (by decide +kernel) (by decide +kernel)
set_option maxRecDepth 20000 in
theorem gX9_play_X9_bad : GoodIn wsX9_play (wsV RX9 84 RX9 yX9_bad wsX9_bad) := goodIn_app (goodIn_of _ (by decide +kernel)) ggX9_play_X9_bad
set_option maxRecDepth 20000 in
theorem ggX9_play_X9_playIs : GoodIn wsX9_play wsX9_playIs := goodIn_r _ [15, 16, 17, 18, 19, 5, 20, 21, 22, 23, 24, 25, 26, 27, 28, 29, 30, 31, 32, 33, 34, 35, 36, 37, 38, 39, 40, 41, 42, 43, 44, 45, 2, 46, 47, 48, 49, 50, 51, 52, 53, 54, 55, 56, 57, 58, 59, 60, 61, 62, 63, 64, 65, 66, 67, 68, 69, 70, 71, 72, 73, 74, 75, 76, 77, 78, 79, 80, 81, 82, 83, 84, 85, 86, 87, 88, 89, 94, 95, 96, 97, 98, 99, 100, 101, 102, 103, 104, 105, 106, 107, 108, 109, 110, 111, 112, 113, 114, 115, 116, 117, 118, 119, 120, 121] (by decide +kernel) (by decide +kernel)
set_option maxRecDepth 20000 in
theorem gX9_play_X9_playIs : GoodIn wsX9_play (wsV RX9 182 RX9 yX9_playIs wsX9_playIs) := goodIn_app (goodIn_of _ (by decide +kernel)) ggX9_play_X9_playIs
set_option maxRecDepth 20000 in
theorem ggX9_play_X9_may : GoodIn wsX9_play wsX9_may := goodIn_r _ [89, 16, 94, 95, 96, 97, 98, 99, 100, 101, 102, 103, 104, 105, 106, 107, 108, 109, 110, 111, 112, 113, 114, 115, 116, 117, 118, 119, 120, 121] (by decide +kernel) (by decide +kernel)
set_option maxRecDepth 20000 in
theorem gX9_play_X9_may : GoodIn wsX9_play (wsV RX9 133 RX9 yX9_may wsX9_may) := goodIn_app (goodIn_of _ (by decide +kernel)) ggX9_play_X9_may
set_option maxRecDepth 20000 in
theorem ggX9_play_X9_isBetterObjected : GoodIn wsX9_play wsX9_isBetterObjected := goodIn_r _ [93, 16, 17, 18, 19, 5, 20, 21, 22, 23, 24, 25, 26, 27, 28, 29, 30, 31, 32, 33, 34, 35, 36, 37, 38, 39, 40, 41, 42, 43, 44, 45, 2, 46, 47, 48, 49, 50, 51, 52, 53, 54, 55, 56, 57, 58, 59, 60, 61, 62, 63, 64, 65, 66, 67, 68, 69, 70, 71, 72, 73, 74, 75, 76, 77, 78, 79, 80, 81, 82, 83, 84, 85, 94, 95, 96, 97, 98, 99, 100, 101, 102, 103, 104, 105, 106, 107, 108, 109, 110, 111, 112, 113, 114, 115, 116, 117, 118, 119, 120, 121] (by decide +kernel) (by decide +kernel)
set_option maxRecDepth 20000 in
theorem gX9_play_X9_isBetterObjected : GoodIn wsX9_play (wsV RX9 185 RX9 yX9_isBetterObjected wsX9_isBetterObjected) := goodIn_app (goodIn_of _ (by decide +kernel)) ggX9_play_X9_isBetterObjected
set_option maxRecDepth 20000 in
theorem ggX9_play_X9_solveBy : GoodIn wsX9_play wsX9_solveBy := goodIn_r _ [20, 21, 22, 23, 5, 24, 25, 16, 26, 27, 28, 29, 30, 31, 32, 33, 34, 35, 36, 37, 38, 39, 40, 41, 42, 43, 44, 45, 2, 46, 47, 48, 49, 50, 51, 52, 53, 54, 55, 56, 57, 58, 59, 60, 61, 62, 63, 64, 65, 66, 67, 68, 69, 70, 71, 72, 73, 74, 75, 76, 77, 78, 79, 80, 81, 82, 83, 84, 85, 94, 95, 96, 97, 98, 99, 100, 101, 102, 103, 104, 105, 106, 107, 108, 109, 110, 111, 112, 113, 114, 115, 116, 117, 118, 119, 120, 121] (by decide +kernel) (by decide +kernel)
set_option maxRecDepth 20000 in
theorem gX9_play_X9_solveBy : GoodIn wsX9_play (wsV RX9 178 RX9 yX9_solveBy wsX9_solveBy) := goodIn_app (goodIn_of _ (by decide +kernel)) ggX9_play_X9_solveBy
theorem dX9_play_0 : decode cX9_play 0 = .ok (.iload_n 1, 1) := by decide +kernel
theorem dX9_play_1 : decode cX9_play 1 = .ok (.i2l, 1) := by decide +kernel
theorem dX9_play_2 : decode cX9_play 2 = .ok (.lconst 0, 1) := by decide +kernel
theorem dX9_play_3 : decode cX9_play 3 = .ok (.ldc2_w 143, 3) := by decide +kernel
theorem dX9_play_6 : decode cX9_play 6 = .ok (.invokestatic 74, 3) := by decide +kernel
theorem dX9_play_9 : decode cX9_play 9 = .ok (.ifCond .ne 11, 3) := by decide +kernel
theorem dX9_play_12 : decode cX9_play 12 = .ok (.aload_n 0, 1) := by decide +kernel
theorem dX9_play_13 : decode cX9_play 13 = .ok (.sipush (-1000), 3) := by decide +kernel
theorem dX9_play_16 : decode cX9_play 16 = .ok (.invokevirtual 84, 3) := by decide +kernel
theorem dX9_play_19 : decode cX9_play 19 = .ok (.ireturn, 1) := by decide +kernel
theorem dX9_play_20 : decode cX9_play 20 = .ok (.iload_n 1, 1) := by decide +kernel
theorem dX9_play_21 : decode cX9_play 21 = .ok (.ifCond .ne 8, 3) := by decide +kernel
theorem dX9_play_24 : decode cX9_play 24 = .ok (.aload_n 0, 1) := by decide +kernel
theorem dX9_play_25 : decode cX9_play 25 = .ok (.invokevirtual 182, 3) := by decide +kernel
theorem dX9_play_28 : decode cX9_play 28 = .ok (.ireturn, 1) := by decide +kernel
theorem dX9_play_29 : decode cX9_play 29 = .ok (.iload_n 1, 1) := by decide +kernel
theorem dX9_play_30 : decode cX9_play 30 = .ok (.iconst 1, 1) := by decide +kernel
theorem dX9_play_31 : decode cX9_play 31 = .ok (.if_icmp .ne 27, 3) := by decide +kernel
theorem dX9_play_34 : decode cX9_play 34 = .ok (.aload_n 0, 1) := by decide +kernel
theorem dX9_play_35 : decode cX9_play 35 = .ok (.invokevirtual 133, 3) := by decide +kernel
theorem dX9_play_38 : decode cX9_play 38 = .ok (.ifCond .ne 7, 3) := by decide +kernel
theorem dX9_play_41 : decode cX9_play 41 = .ok (.iconst (-1), 1) := by decide +kernel
theorem dX9_play_42 : decode cX9_play 42 = .ok (.goto 15, 3) := by decide +kernel
theorem dX9_play_45 : decode cX9_play 45 = .ok (.aload_n 0, 1) := by decide +kernel
theorem dX9_play_46 : decode cX9_play 46 = .ok (.invokevirtual 185, 3) := by decide +kernel
theorem dX9_play_49 : decode cX9_play 49 = .ok (.ifCond .eq 7, 3) := by decide +kernel
theorem dX9_play_52 : decode cX9_play 52 = .ok (.iconst 1, 1) := by decide +kernel
theorem dX9_play_53 : decode cX9_play 53 = .ok (.goto 4, 3) := by decide +kernel
theorem dX9_play_56 : decode cX9_play 56 = .ok (.iconst 0, 1) := by decide +kernel
theorem dX9_play_57 : decode cX9_play 57 = .ok (.ireturn, 1) := by decide +kernel
theorem dX9_play_58 : decode cX9_play 58 = .ok (.aload_n 0, 1) := by decide +kernel
theorem dX9_play_59 : decode cX9_play 59 = .ok (.iconst 0, 1) := by decide +kernel
theorem dX9_play_60 : decode cX9_play 60 = .ok (.invokevirtual 178, 3) := by decide +kernel
theorem dX9_play_63 : decode cX9_play 63 = .ok (.istore_n 2, 1) := by decide +kernel
theorem dX9_play_64 : decode cX9_play 64 = .ok (.aload_n 0, 1) := by decide +kernel
theorem dX9_play_65 : decode cX9_play 65 = .ok (.getfield 161, 3) := by decide +kernel
theorem dX9_play_68 : decode cX9_play 68 = .ok (.ireturn, 1) := by decide +kernel
theorem dX9_layNow_0 : decode cX9_layNow 0 = .ok (.aload_n 0, 1) := by decide +kernel
theorem dX9_layNow_1 : decode cX9_layNow 1 = .ok (.aload_n 0, 1) := by decide +kernel
theorem dX9_layNow_2 : decode cX9_layNow 2 = .ok (.getfield 7, 3) := by decide +kernel
theorem dX9_layNow_5 : decode cX9_layNow 5 = .ok (.bipush 14, 2) := by decide +kernel
theorem dX9_layNow_7 : decode cX9_layNow 7 = .ok (.iaload, 1) := by decide +kernel
theorem dX9_layNow_8 : decode cX9_layNow 8 = .ok (.putfield 188, 3) := by decide +kernel
theorem dX9_layNow_11 : decode cX9_layNow 11 = .ok (.aload_n 0, 1) := by decide +kernel
theorem dX9_layNow_12 : decode cX9_layNow 12 = .ok (.aload_n 0, 1) := by decide +kernel
theorem dX9_layNow_13 : decode cX9_layNow 13 = .ok (.getfield 7, 3) := by decide +kernel
theorem dX9_layNow_16 : decode cX9_layNow 16 = .ok (.bipush 15, 2) := by decide +kernel
theorem dX9_layNow_18 : decode cX9_layNow 18 = .ok (.iaload, 1) := by decide +kernel
theorem dX9_layNow_19 : decode cX9_layNow 19 = .ok (.putfield 191, 3) := by decide +kernel
theorem dX9_layNow_22 : decode cX9_layNow 22 = .ok (.aload_n 0, 1) := by decide +kernel
theorem dX9_layNow_23 : decode cX9_layNow 23 = .ok (.aload_n 0, 1) := by decide +kernel
theorem dX9_layNow_24 : decode cX9_layNow 24 = .ok (.getfield 7, 3) := by decide +kernel
theorem dX9_layNow_27 : decode cX9_layNow 27 = .ok (.bipush 16, 2) := by decide +kernel
theorem dX9_layNow_29 : decode cX9_layNow 29 = .ok (.iaload, 1) := by decide +kernel
theorem dX9_layNow_30 : decode cX9_layNow 30 = .ok (.putfield 194, 3) := by decide +kernel
theorem dX9_layNow_33 : decode cX9_layNow 33 = .ok (.aload_n 0, 1) := by decide +kernel
theorem dX9_layNow_34 : decode cX9_layNow 34 = .ok (.getfield 51, 3) := by decide +kernel
theorem dX9_layNow_37 : decode cX9_layNow 37 = .ok (.iconst 0, 1) := by decide +kernel
theorem dX9_layNow_38 : decode cX9_layNow 38 = .ok (.aload_n 0, 1) := by decide +kernel
theorem dX9_layNow_39 : decode cX9_layNow 39 = .ok (.getfield 7, 3) := by decide +kernel
theorem dX9_layNow_42 : decode cX9_layNow 42 = .ok (.bipush 12, 2) := by decide +kernel
theorem dX9_layNow_44 : decode cX9_layNow 44 = .ok (.iaload, 1) := by decide +kernel
theorem dX9_layNow_45 : decode cX9_layNow 45 = .ok (.iastore, 1) := by decide +kernel
theorem dX9_layNow_46 : decode cX9_layNow 46 = .ok (.aload_n 0, 1) := by decide +kernel
theorem dX9_layNow_47 : decode cX9_layNow 47 = .ok (.getfield 51, 3) := by decide +kernel
theorem dX9_layNow_50 : decode cX9_layNow 50 = .ok (.iconst 1, 1) := by decide +kernel
theorem dX9_layNow_51 : decode cX9_layNow 51 = .ok (.aload_n 0, 1) := by decide +kernel
theorem dX9_layNow_52 : decode cX9_layNow 52 = .ok (.getfield 7, 3) := by decide +kernel
theorem dX9_layNow_55 : decode cX9_layNow 55 = .ok (.bipush 13, 2) := by decide +kernel
theorem dX9_layNow_57 : decode cX9_layNow 57 = .ok (.iaload, 1) := by decide +kernel
theorem dX9_layNow_58 : decode cX9_layNow 58 = .ok (.iastore, 1) := by decide +kernel
theorem dX9_layNow_59 : decode cX9_layNow 59 = .ok (.return_, 1) := by decide +kernel
set_option maxRecDepth 20000 in
theorem ggX9_goSaying_X9_meritBy : GoodIn wsX9_goSaying wsX9_meritBy := goodIn_r _ [8, 9, 10, 11, 7, 12, 13, 14, 15, 16, 17, 18, 19, 20, 21, 22, 23, 24, 25, 26, 27, 28, 29, 30, 31, 32, 33, 34, 35, 36, 37, 38, 39, 40, 41, 42, 43, 44, 45, 46, 47, 48, 49, 50] (by decide +kernel) (by decide +kernel)
set_option maxRecDepth 20000 in
theorem gX9_goSaying_X9_meritBy : GoodIn wsX9_goSaying (wsV RX9 130 RX9 yX9_meritBy wsX9_meritBy) := goodIn_app (goodIn_of _ (by decide +kernel)) ggX9_goSaying_X9_meritBy
theorem dX9_goSaying_0 : decode cX9_goSaying 0 = .ok (.aload_n 0, 1) := by decide +kernel
theorem dX9_goSaying_1 : decode cX9_goSaying 1 = .ok (.aload_n 0, 1) := by decide +kernel
theorem dX9_goSaying_2 : decode cX9_goSaying 2 = .ok (.iload_n 1, 1) := by decide +kernel
theorem dX9_goSaying_3 : decode cX9_goSaying 3 = .ok (.aload_n 0, 1) := by decide +kernel
theorem dX9_goSaying_4 : decode cX9_goSaying 4 = .ok (.getfield 188, 3) := by decide +kernel
theorem dX9_goSaying_7 : decode cX9_goSaying 7 = .ok (.aload_n 0, 1) := by decide +kernel
theorem dX9_goSaying_8 : decode cX9_goSaying 8 = .ok (.getfield 191, 3) := by decide +kernel
theorem dX9_goSaying_11 : decode cX9_goSaying 11 = .ok (.aload_n 0, 1) := by decide +kernel
theorem dX9_goSaying_12 : decode cX9_goSaying 12 = .ok (.getfield 194, 3) := by decide +kernel
theorem dX9_goSaying_15 : decode cX9_goSaying 15 = .ok (.invokevirtual 130, 3) := by decide +kernel
theorem dX9_goSaying_18 : decode cX9_goSaying 18 = .ok (.putfield 191, 3) := by decide +kernel
theorem dX9_goSaying_21 : decode cX9_goSaying 21 = .ok (.aload_n 0, 1) := by decide +kernel
theorem dX9_goSaying_22 : decode cX9_goSaying 22 = .ok (.dup, 1) := by decide +kernel
theorem dX9_goSaying_23 : decode cX9_goSaying 23 = .ok (.getfield 194, 3) := by decide +kernel
theorem dX9_goSaying_26 : decode cX9_goSaying 26 = .ok (.iconst 1, 1) := by decide +kernel
theorem dX9_goSaying_27 : decode cX9_goSaying 27 = .ok (.iadd, 1) := by decide +kernel
theorem dX9_goSaying_28 : decode cX9_goSaying 28 = .ok (.putfield 194, 3) := by decide +kernel
theorem dX9_goSaying_31 : decode cX9_goSaying 31 = .ok (.return_, 1) := by decide +kernel
theorem dX9_mayTo_0 : decode cX9_mayTo 0 = .ok (.aload_n 0, 1) := by decide +kernel
theorem dX9_mayTo_1 : decode cX9_mayTo 1 = .ok (.getfield 7, 3) := by decide +kernel
theorem dX9_mayTo_4 : decode cX9_mayTo 4 = .ok (.bipush 6, 2) := by decide +kernel
theorem dX9_mayTo_6 : decode cX9_mayTo 6 = .ok (.iload_n 1, 1) := by decide +kernel
theorem dX9_mayTo_7 : decode cX9_mayTo 7 = .ok (.iadd, 1) := by decide +kernel
theorem dX9_mayTo_8 : decode cX9_mayTo 8 = .ok (.iaload, 1) := by decide +kernel
theorem dX9_mayTo_9 : decode cX9_mayTo 9 = .ok (.ifCond .le 21, 3) := by decide +kernel
theorem dX9_mayTo_12 : decode cX9_mayTo 12 = .ok (.aload_n 0, 1) := by decide +kernel
theorem dX9_mayTo_13 : decode cX9_mayTo 13 = .ok (.getfield 51, 3) := by decide +kernel
theorem dX9_mayTo_16 : decode cX9_mayTo 16 = .ok (.aload_n 0, 1) := by decide +kernel
theorem dX9_mayTo_17 : decode cX9_mayTo 17 = .ok (.getfield 194, 3) := by decide +kernel
theorem dX9_mayTo_20 : decode cX9_mayTo 20 = .ok (.iconst 2, 1) := by decide +kernel
theorem dX9_mayTo_21 : decode cX9_mayTo 21 = .ok (.irem, 1) := by decide +kernel
theorem dX9_mayTo_22 : decode cX9_mayTo 22 = .ok (.iaload, 1) := by decide +kernel
theorem dX9_mayTo_23 : decode cX9_mayTo 23 = .ok (.ifCond .le 7, 3) := by decide +kernel
theorem dX9_mayTo_26 : decode cX9_mayTo 26 = .ok (.iconst 1, 1) := by decide +kernel
theorem dX9_mayTo_27 : decode cX9_mayTo 27 = .ok (.goto 4, 3) := by decide +kernel
theorem dX9_mayTo_30 : decode cX9_mayTo 30 = .ok (.iconst 0, 1) := by decide +kernel
theorem dX9_mayTo_31 : decode cX9_mayTo 31 = .ok (.ireturn, 1) := by decide +kernel
theorem dX9_goObjecting_0 : decode cX9_goObjecting 0 = .ok (.aload_n 0, 1) := by decide +kernel
theorem dX9_goObjecting_1 : decode cX9_goObjecting 1 = .ok (.getfield 51, 3) := by decide +kernel
theorem dX9_goObjecting_4 : decode cX9_goObjecting 4 = .ok (.aload_n 0, 1) := by decide +kernel
theorem dX9_goObjecting_5 : decode cX9_goObjecting 5 = .ok (.getfield 194, 3) := by decide +kernel
theorem dX9_goObjecting_8 : decode cX9_goObjecting 8 = .ok (.iconst 2, 1) := by decide +kernel
theorem dX9_goObjecting_9 : decode cX9_goObjecting 9 = .ok (.irem, 1) := by decide +kernel
theorem dX9_goObjecting_10 : decode cX9_goObjecting 10 = .ok (.dup2, 1) := by decide +kernel
theorem dX9_goObjecting_11 : decode cX9_goObjecting 11 = .ok (.iaload, 1) := by decide +kernel
theorem dX9_goObjecting_12 : decode cX9_goObjecting 12 = .ok (.iconst 1, 1) := by decide +kernel
theorem dX9_goObjecting_13 : decode cX9_goObjecting 13 = .ok (.isub, 1) := by decide +kernel
theorem dX9_goObjecting_14 : decode cX9_goObjecting 14 = .ok (.iastore, 1) := by decide +kernel
theorem dX9_goObjecting_15 : decode cX9_goObjecting 15 = .ok (.aload_n 0, 1) := by decide +kernel
theorem dX9_goObjecting_16 : decode cX9_goObjecting 16 = .ok (.iconst 1, 1) := by decide +kernel
theorem dX9_goObjecting_17 : decode cX9_goObjecting 17 = .ok (.aload_n 0, 1) := by decide +kernel
theorem dX9_goObjecting_18 : decode cX9_goObjecting 18 = .ok (.getfield 188, 3) := by decide +kernel
theorem dX9_goObjecting_21 : decode cX9_goObjecting 21 = .ok (.isub, 1) := by decide +kernel
theorem dX9_goObjecting_22 : decode cX9_goObjecting 22 = .ok (.putfield 188, 3) := by decide +kernel
theorem dX9_goObjecting_25 : decode cX9_goObjecting 25 = .ok (.return_, 1) := by decide +kernel
set_option maxRecDepth 20000 in
theorem ggX9_proof_X9_in : GoodIn wsX9_proof wsX9_in := goodIn_r _ [6] (by decide +kernel) (by decide +kernel)
set_option maxRecDepth 20000 in
theorem gX9_proof_X9_in : GoodIn wsX9_proof (va_wsS RX9 74 yX9_in wsX9_in) := goodIn_app (goodIn_of _ (by decide +kernel)) ggX9_proof_X9_in
set_option maxRecDepth 20000 in
theorem ggX9_proof_X9_bad : GoodIn wsX9_proof wsX9_bad := goodIn_r _ [10, 11, 50, 51, 52, 53, 54, 55, 56, 57, 58, 59, 60, 61, 62, 63, 64, 65, 66, 67, 68, 69, 70, 71, 72, 73, 74, 75, 76, 77] (by decide +kernel) (by decide +kernel)
set_option maxRecDepth 20000 in
theorem gX9_proof_X9_bad : GoodIn wsX9_proof (wsV RX9 84 RX9 yX9_bad wsX9_bad) := goodIn_app (goodIn_of _ (by decide +kernel)) ggX9_proof_X9_bad
set_option maxRecDepth 20000 in
theorem ggX9_proof_X9_many : GoodIn wsX9_proof wsX9_many := goodIn_r _ [15, 1, 50, 51, 52, 53, 54, 55, 56, 57, 58, 59, 60, 61, 62, 63, 64, 65, 66, 67, 68, 69, 70, 71, 72, 73, 74, 75, 76, 77] (by decide +kernel) (by decide +kernel)
set_option maxRecDepth 20000 in
theorem gX9_proof_X9_many : GoodIn wsX9_proof (wsV RX9 70 RX9 yX9_many wsX9_many) := goodIn_app (goodIn_of _ (by decide +kernel)) ggX9_proof_X9_many
set_option maxRecDepth 20000 in
theorem ggX9_proof_X9_bits : GoodIn wsX9_proof wsX9_bits := goodIn_r _ [18] (by decide +kernel) (by decide +kernel)
set_option maxRecDepth 20000 in
theorem gX9_proof_X9_bits : GoodIn wsX9_proof (va_wsS RX9 197 yX9_bits wsX9_bits) := goodIn_app (goodIn_of _ (by decide +kernel)) ggX9_proof_X9_bits
set_option maxRecDepth 20000 in
theorem ggX9_proof_X9_layNow : GoodIn wsX9_proof wsX9_layNow := goodIn_r _ [22, 1, 23, 2, 24, 25, 50, 51, 52, 53, 54, 55, 56, 57, 58, 59, 60, 61, 62, 63, 64, 65, 66, 67, 68, 69, 70, 71, 72, 73, 74, 75, 76, 77] (by decide +kernel) (by decide +kernel)
set_option maxRecDepth 20000 in
theorem gX9_proof_X9_layNow : GoodIn wsX9_proof (wsV RX9 200 RX9 yX9_layNow wsX9_layNow) := goodIn_app (goodIn_of _ (by decide +kernel)) ggX9_proof_X9_layNow
set_option maxRecDepth 20000 in
theorem ggX9_proof_X9_has : GoodIn wsX9_proof wsX9_has := goodIn_r _ [28] (by decide +kernel) (by decide +kernel)
set_option maxRecDepth 20000 in
theorem gX9_proof_X9_has : GoodIn wsX9_proof (va_wsS RX9 120 yX9_has wsX9_has) := goodIn_app (goodIn_of _ (by decide +kernel)) ggX9_proof_X9_has
set_option maxRecDepth 20000 in
theorem ggX9_proof_X9_goSaying : GoodIn wsX9_proof wsX9_goSaying := goodIn_r _ [32, 23, 2, 24, 33, 34, 35, 5, 36, 37, 38, 39, 40, 1, 41, 42, 43, 44, 45, 46, 47, 48, 49, 50, 51, 52, 53, 54, 55, 56, 57, 58, 59, 60, 61, 62, 63, 64, 65, 66, 67, 68, 69, 70, 71, 72, 73, 74, 75, 76, 77] (by decide +kernel) (by decide +kernel)
set_option maxRecDepth 20000 in
theorem gX9_proof_X9_goSaying : GoodIn wsX9_proof (wsV RX9 203 RX9 yX9_goSaying wsX9_goSaying) := goodIn_app (goodIn_of _ (by decide +kernel)) ggX9_proof_X9_goSaying
theorem dX9_proof_0 : decode cX9_proof 0 = .ok (.iload_n 1, 1) := by decide +kernel
theorem dX9_proof_1 : decode cX9_proof 1 = .ok (.i2l, 1) := by decide +kernel
theorem dX9_proof_2 : decode cX9_proof 2 = .ok (.lconst 0, 1) := by decide +kernel
theorem dX9_proof_3 : decode cX9_proof 3 = .ok (.lconst 1, 1) := by decide +kernel
theorem dX9_proof_4 : decode cX9_proof 4 = .ok (.invokestatic 74, 3) := by decide +kernel
theorem dX9_proof_7 : decode cX9_proof 7 = .ok (.ifCond .ne 10, 3) := by decide +kernel
theorem dX9_proof_10 : decode cX9_proof 10 = .ok (.aload_n 0, 1) := by decide +kernel
theorem dX9_proof_11 : decode cX9_proof 11 = .ok (.bipush (-2), 2) := by decide +kernel
theorem dX9_proof_13 : decode cX9_proof 13 = .ok (.invokevirtual 84, 3) := by decide +kernel
theorem dX9_proof_16 : decode cX9_proof 16 = .ok (.ireturn, 1) := by decide +kernel
theorem dX9_proof_17 : decode cX9_proof 17 = .ok (.iconst (-1), 1) := by decide +kernel
theorem dX9_proof_18 : decode cX9_proof 18 = .ok (.istore_n 2, 1) := by decide +kernel
theorem dX9_proof_19 : decode cX9_proof 19 = .ok (.iconst 0, 1) := by decide +kernel
theorem dX9_proof_20 : decode cX9_proof 20 = .ok (.istore_n 3, 1) := by decide +kernel
theorem dX9_proof_21 : decode cX9_proof 21 = .ok (.iload_n 3, 1) := by decide +kernel
theorem dX9_proof_22 : decode cX9_proof 22 = .ok (.iconst 1, 1) := by decide +kernel
theorem dX9_proof_23 : decode cX9_proof 23 = .ok (.aload_n 0, 1) := by decide +kernel
theorem dX9_proof_24 : decode cX9_proof 24 = .ok (.invokevirtual 70, 3) := by decide +kernel
theorem dX9_proof_27 : decode cX9_proof 27 = .ok (.ishl, 1) := by decide +kernel
theorem dX9_proof_28 : decode cX9_proof 28 = .ok (.if_icmp .ge 114, 3) := by decide +kernel
theorem dX9_proof_31 : decode cX9_proof 31 = .ok (.iload_n 2, 1) := by decide +kernel
theorem dX9_proof_32 : decode cX9_proof 32 = .ok (.iconst (-1), 1) := by decide +kernel
theorem dX9_proof_33 : decode cX9_proof 33 = .ok (.if_icmp .eq 14, 3) := by decide +kernel
theorem dX9_proof_36 : decode cX9_proof 36 = .ok (.iload_n 3, 1) := by decide +kernel
theorem dX9_proof_37 : decode cX9_proof 37 = .ok (.invokestatic 197, 3) := by decide +kernel
theorem dX9_proof_40 : decode cX9_proof 40 = .ok (.iload_n 2, 1) := by decide +kernel
theorem dX9_proof_41 : decode cX9_proof 41 = .ok (.invokestatic 197, 3) := by decide +kernel
theorem dX9_proof_44 : decode cX9_proof 44 = .ok (.if_icmp .ge 7, 3) := by decide +kernel
theorem dX9_proof_47 : decode cX9_proof 47 = .ok (.iconst 1, 1) := by decide +kernel
theorem dX9_proof_48 : decode cX9_proof 48 = .ok (.goto 4, 3) := by decide +kernel
theorem dX9_proof_51 : decode cX9_proof 51 = .ok (.iconst 0, 1) := by decide +kernel
theorem dX9_proof_52 : decode cX9_proof 52 = .ok (.istore 4, 2) := by decide +kernel
theorem dX9_proof_54 : decode cX9_proof 54 = .ok (.iload_n 3, 1) := by decide +kernel
theorem dX9_proof_55 : decode cX9_proof 55 = .ok (.aload_n 0, 1) := by decide +kernel
theorem dX9_proof_56 : decode cX9_proof 56 = .ok (.getfield 7, 3) := by decide +kernel
theorem dX9_proof_59 : decode cX9_proof 59 = .ok (.iconst 5, 1) := by decide +kernel
theorem dX9_proof_60 : decode cX9_proof 60 = .ok (.iaload, 1) := by decide +kernel
theorem dX9_proof_61 : decode cX9_proof 61 = .ok (.iand, 1) := by decide +kernel
theorem dX9_proof_62 : decode cX9_proof 62 = .ok (.ifCond .ne 74, 3) := by decide +kernel
theorem dX9_proof_65 : decode cX9_proof 65 = .ok (.iload 4, 2) := by decide +kernel
theorem dX9_proof_67 : decode cX9_proof 67 = .ok (.ifCond .eq 69, 3) := by decide +kernel
theorem dX9_proof_70 : decode cX9_proof 70 = .ok (.aload_n 0, 1) := by decide +kernel
theorem dX9_proof_71 : decode cX9_proof 71 = .ok (.invokevirtual 200, 3) := by decide +kernel
theorem dX9_proof_74 : decode cX9_proof 74 = .ok (.iconst 0, 1) := by decide +kernel
theorem dX9_proof_75 : decode cX9_proof 75 = .ok (.istore 5, 2) := by decide +kernel
theorem dX9_proof_77 : decode cX9_proof 77 = .ok (.iload 5, 2) := by decide +kernel
theorem dX9_proof_79 : decode cX9_proof 79 = .ok (.aload_n 0, 1) := by decide +kernel
theorem dX9_proof_80 : decode cX9_proof 80 = .ok (.invokevirtual 70, 3) := by decide +kernel
theorem dX9_proof_83 : decode cX9_proof 83 = .ok (.if_icmp .ge 24, 3) := by decide +kernel
theorem dX9_proof_86 : decode cX9_proof 86 = .ok (.iload_n 3, 1) := by decide +kernel
theorem dX9_proof_87 : decode cX9_proof 87 = .ok (.iload 5, 2) := by decide +kernel
theorem dX9_proof_89 : decode cX9_proof 89 = .ok (.invokestatic 120, 3) := by decide +kernel
theorem dX9_proof_92 : decode cX9_proof 92 = .ok (.ifCond .eq 9, 3) := by decide +kernel
theorem dX9_proof_95 : decode cX9_proof 95 = .ok (.aload_n 0, 1) := by decide +kernel
theorem dX9_proof_96 : decode cX9_proof 96 = .ok (.iload 5, 2) := by decide +kernel
theorem dX9_proof_98 : decode cX9_proof 98 = .ok (.invokevirtual 203, 3) := by decide +kernel
theorem dX9_proof_101 : decode cX9_proof 101 = .ok (.iinc 5 1, 3) := by decide +kernel
theorem dX9_proof_104 : decode cX9_proof 104 = .ok (.goto (-27), 3) := by decide +kernel
theorem dX9_proof_107 : decode cX9_proof 107 = .ok (.iload_n 1, 1) := by decide +kernel
theorem dX9_proof_108 : decode cX9_proof 108 = .ok (.ifCond .ne 10, 3) := by decide +kernel
theorem dX9_proof_111 : decode cX9_proof 111 = .ok (.aload_n 0, 1) := by decide +kernel
theorem dX9_proof_112 : decode cX9_proof 112 = .ok (.getfield 191, 3) := by decide +kernel
theorem dX9_proof_115 : decode cX9_proof 115 = .ok (.ifCond .gt 15, 3) := by decide +kernel
theorem dX9_proof_118 : decode cX9_proof 118 = .ok (.iload_n 1, 1) := by decide +kernel
theorem dX9_proof_119 : decode cX9_proof 119 = .ok (.iconst 1, 1) := by decide +kernel
theorem dX9_proof_120 : decode cX9_proof 120 = .ok (.if_icmp .ne 14, 3) := by decide +kernel
theorem dX9_proof_123 : decode cX9_proof 123 = .ok (.aload_n 0, 1) := by decide +kernel
theorem dX9_proof_124 : decode cX9_proof 124 = .ok (.getfield 191, 3) := by decide +kernel
theorem dX9_proof_127 : decode cX9_proof 127 = .ok (.ifCond .ge 7, 3) := by decide +kernel
theorem dX9_proof_130 : decode cX9_proof 130 = .ok (.iload_n 3, 1) := by decide +kernel
theorem dX9_proof_131 : decode cX9_proof 131 = .ok (.goto 4, 3) := by decide +kernel
theorem dX9_proof_134 : decode cX9_proof 134 = .ok (.iload_n 2, 1) := by decide +kernel
theorem dX9_proof_135 : decode cX9_proof 135 = .ok (.istore_n 2, 1) := by decide +kernel
theorem dX9_proof_136 : decode cX9_proof 136 = .ok (.iinc 3 1, 3) := by decide +kernel
theorem dX9_proof_139 : decode cX9_proof 139 = .ok (.goto (-118), 3) := by decide +kernel
theorem dX9_proof_142 : decode cX9_proof 142 = .ok (.iload_n 2, 1) := by decide +kernel
theorem dX9_proof_143 : decode cX9_proof 143 = .ok (.ireturn, 1) := by decide +kernel
set_option maxRecDepth 20000 in
theorem ggX9_ends_X9_in : GoodIn wsX9_ends wsX9_in := goodIn_r _ [7] (by decide +kernel) (by decide +kernel)
set_option maxRecDepth 20000 in
theorem gX9_ends_X9_in : GoodIn wsX9_ends (va_wsS RX9 74 yX9_in wsX9_in) := goodIn_app (goodIn_of _ (by decide +kernel)) ggX9_ends_X9_in
set_option maxRecDepth 20000 in
theorem ggX9_ends_X9_bad : GoodIn wsX9_ends wsX9_bad := goodIn_r _ [11, 12, 17, 18, 19, 20, 21, 22, 23, 24, 25, 26, 27, 28, 29, 30, 31, 32, 33, 34, 35, 36, 37, 38, 39, 40, 41, 42, 43, 44] (by decide +kernel) (by decide +kernel)
set_option maxRecDepth 20000 in
theorem gX9_ends_X9_bad : GoodIn wsX9_ends (wsV RX9 84 RX9 yX9_bad wsX9_bad) := goodIn_app (goodIn_of _ (by decide +kernel)) ggX9_ends_X9_bad
set_option maxRecDepth 20000 in
theorem ggX9_ends_X9_full : GoodIn wsX9_ends wsX9_full := goodIn_r _ [16, 12, 17, 18, 19, 20, 21, 22, 23, 24, 25, 26, 27, 28, 29, 30, 31, 32, 33, 34, 35, 36, 37, 38, 39, 40, 41, 42, 43, 44] (by decide +kernel) (by decide +kernel)
set_option maxRecDepth 20000 in
theorem gX9_ends_X9_full : GoodIn wsX9_ends (wsV RX9 95 RX9 yX9_full wsX9_full) := goodIn_app (goodIn_of _ (by decide +kernel)) ggX9_ends_X9_full
theorem dX9_ends_0 : decode cX9_ends 0 = .ok (.iload_n 1, 1) := by decide +kernel
theorem dX9_ends_1 : decode cX9_ends 1 = .ok (.i2l, 1) := by decide +kernel
theorem dX9_ends_2 : decode cX9_ends 2 = .ok (.ldc2_w 206, 3) := by decide +kernel
theorem dX9_ends_5 : decode cX9_ends 5 = .ok (.ldc2_w 208, 3) := by decide +kernel
theorem dX9_ends_8 : decode cX9_ends 8 = .ok (.invokestatic 74, 3) := by decide +kernel
theorem dX9_ends_11 : decode cX9_ends 11 = .ok (.ifCond .ne 10, 3) := by decide +kernel
theorem dX9_ends_14 : decode cX9_ends 14 = .ok (.aload_n 0, 1) := by decide +kernel
theorem dX9_ends_15 : decode cX9_ends 15 = .ok (.bipush (-2), 2) := by decide +kernel
theorem dX9_ends_17 : decode cX9_ends 17 = .ok (.invokevirtual 84, 3) := by decide +kernel
theorem dX9_ends_20 : decode cX9_ends 20 = .ok (.ireturn, 1) := by decide +kernel
theorem dX9_ends_21 : decode cX9_ends 21 = .ok (.aload_n 0, 1) := by decide +kernel
theorem dX9_ends_22 : decode cX9_ends 22 = .ok (.getfield 7, 3) := by decide +kernel
theorem dX9_ends_25 : decode cX9_ends 25 = .ok (.iconst 1, 1) := by decide +kernel
theorem dX9_ends_26 : decode cX9_ends 26 = .ok (.iaload, 1) := by decide +kernel
theorem dX9_ends_27 : decode cX9_ends 27 = .ok (.iconst 4, 1) := by decide +kernel
theorem dX9_ends_28 : decode cX9_ends 28 = .ok (.if_icmp .ne 8, 3) := by decide +kernel
theorem dX9_ends_31 : decode cX9_ends 31 = .ok (.aload_n 0, 1) := by decide +kernel
theorem dX9_ends_32 : decode cX9_ends 32 = .ok (.invokevirtual 95, 3) := by decide +kernel
theorem dX9_ends_35 : decode cX9_ends 35 = .ok (.ireturn, 1) := by decide +kernel
theorem dX9_ends_36 : decode cX9_ends 36 = .ok (.aload_n 0, 1) := by decide +kernel
theorem dX9_ends_37 : decode cX9_ends 37 = .ok (.getfield 7, 3) := by decide +kernel
theorem dX9_ends_40 : decode cX9_ends 40 = .ok (.bipush 32, 2) := by decide +kernel
theorem dX9_ends_42 : decode cX9_ends 42 = .ok (.aload_n 0, 1) := by decide +kernel
theorem dX9_ends_43 : decode cX9_ends 43 = .ok (.getfield 7, 3) := by decide +kernel
theorem dX9_ends_46 : decode cX9_ends 46 = .ok (.iconst 1, 1) := by decide +kernel
theorem dX9_ends_47 : decode cX9_ends 47 = .ok (.iaload, 1) := by decide +kernel
theorem dX9_ends_48 : decode cX9_ends 48 = .ok (.iadd, 1) := by decide +kernel
theorem dX9_ends_49 : decode cX9_ends 49 = .ok (.iload_n 1, 1) := by decide +kernel
theorem dX9_ends_50 : decode cX9_ends 50 = .ok (.iastore, 1) := by decide +kernel
theorem dX9_ends_51 : decode cX9_ends 51 = .ok (.aload_n 0, 1) := by decide +kernel
theorem dX9_ends_52 : decode cX9_ends 52 = .ok (.getfield 7, 3) := by decide +kernel
theorem dX9_ends_55 : decode cX9_ends 55 = .ok (.iconst 1, 1) := by decide +kernel
theorem dX9_ends_56 : decode cX9_ends 56 = .ok (.dup2, 1) := by decide +kernel
theorem dX9_ends_57 : decode cX9_ends 57 = .ok (.iaload, 1) := by decide +kernel
theorem dX9_ends_58 : decode cX9_ends 58 = .ok (.iconst 1, 1) := by decide +kernel
theorem dX9_ends_59 : decode cX9_ends 59 = .ok (.iadd, 1) := by decide +kernel
theorem dX9_ends_60 : decode cX9_ends 60 = .ok (.iastore, 1) := by decide +kernel
theorem dX9_ends_61 : decode cX9_ends 61 = .ok (.aload_n 0, 1) := by decide +kernel
theorem dX9_ends_62 : decode cX9_ends 62 = .ok (.getfield 7, 3) := by decide +kernel
theorem dX9_ends_65 : decode cX9_ends 65 = .ok (.iconst 1, 1) := by decide +kernel
theorem dX9_ends_66 : decode cX9_ends 66 = .ok (.iaload, 1) := by decide +kernel
theorem dX9_ends_67 : decode cX9_ends 67 = .ok (.ireturn, 1) := by decide +kernel
set_option maxRecDepth 20000 in
theorem ggX9_goesAll_X9_layNow : GoodIn wsX9_goesAll wsX9_layNow := goodIn_r _ [6, 1, 7, 8, 9, 10, 47, 48, 49, 50, 51, 52, 53, 54, 55, 56, 57, 58, 59, 60, 61, 62, 63, 64, 65, 66, 67, 68, 69, 70, 71, 72, 73, 74] (by decide +kernel) (by decide +kernel)
set_option maxRecDepth 20000 in
theorem gX9_goesAll_X9_layNow : GoodIn wsX9_goesAll (wsV RX9 200 RX9 yX9_layNow wsX9_layNow) := goodIn_app (goodIn_of _ (by decide +kernel)) ggX9_goesAll_X9_layNow
set_option maxRecDepth 20000 in
theorem ggX9_goesAll_X9_many : GoodIn wsX9_goesAll wsX9_many := goodIn_r _ [14, 1, 47, 48, 49, 50, 51, 52, 53, 54, 55, 56, 57, 58, 59, 60, 61, 62, 63, 64, 65, 66, 67, 68, 69, 70, 71, 72, 73, 74] (by decide +kernel) (by decide +kernel)
set_option maxRecDepth 20000 in
theorem gX9_goesAll_X9_many : GoodIn wsX9_goesAll (wsV RX9 70 RX9 yX9_many wsX9_many) := goodIn_app (goodIn_of _ (by decide +kernel)) ggX9_goesAll_X9_many
set_option maxRecDepth 20000 in
theorem ggX9_goesAll_X9_has : GoodIn wsX9_goesAll wsX9_has := goodIn_r _ [17] (by decide +kernel) (by decide +kernel)
set_option maxRecDepth 20000 in
theorem gX9_goesAll_X9_has : GoodIn wsX9_goesAll (va_wsS RX9 120 yX9_has wsX9_has) := goodIn_app (goodIn_of _ (by decide +kernel)) ggX9_goesAll_X9_has
set_option maxRecDepth 20000 in
theorem ggX9_goesAll_X9_goSaying : GoodIn wsX9_goesAll wsX9_goSaying := goodIn_r _ [21, 7, 8, 9, 22, 23, 24, 5, 25, 26, 27, 28, 29, 1, 30, 31, 32, 33, 34, 35, 36, 37, 38, 47, 48, 49, 50, 51, 52, 53, 54, 55, 56, 57, 58, 59, 60, 61, 62, 63, 64, 65, 66, 67, 68, 69, 70, 71, 72, 73, 74] (by decide +kernel) (by decide +kernel)
set_option maxRecDepth 20000 in
theorem gX9_goesAll_X9_goSaying : GoodIn wsX9_goesAll (wsV RX9 203 RX9 yX9_goSaying wsX9_goSaying) := goodIn_app (goodIn_of _ (by decide +kernel)) ggX9_goesAll_X9_goSaying
set_option maxRecDepth 20000 in
theorem ggX9_goesAll_X9_mayTo : GoodIn wsX9_goesAll wsX9_mayTo := goodIn_r _ [42, 1, 10, 9, 47, 48, 49, 50, 51, 52, 53, 54, 55, 56, 57, 58, 59, 60, 61, 62, 63, 64, 65, 66, 67, 68, 69, 70, 71, 72, 73, 74] (by decide +kernel) (by decide +kernel)
set_option maxRecDepth 20000 in
theorem gX9_goesAll_X9_mayTo : GoodIn wsX9_goesAll (wsV RX9 210 RX9 yX9_mayTo wsX9_mayTo) := goodIn_app (goodIn_of _ (by decide +kernel)) ggX9_goesAll_X9_mayTo
set_option maxRecDepth 20000 in
theorem ggX9_goesAll_X9_goObjecting : GoodIn wsX9_goesAll wsX9_goObjecting := goodIn_r _ [46, 10, 9, 7, 47, 48, 49, 50, 51, 52, 53, 54, 55, 56, 57, 58, 59, 60, 61, 62, 63, 64, 65, 66, 67, 68, 69, 70, 71, 72, 73, 74] (by decide +kernel) (by decide +kernel)
set_option maxRecDepth 20000 in
theorem gX9_goesAll_X9_goObjecting : GoodIn wsX9_goesAll (wsV RX9 213 RX9 yX9_goObjecting wsX9_goObjecting) := goodIn_app (goodIn_of _ (by decide +kernel)) ggX9_goesAll_X9_goObjecting
theorem dX9_goesAll_0 : decode cX9_goesAll 0 = .ok (.iconst 1, 1) := by decide +kernel
theorem dX9_goesAll_1 : decode cX9_goesAll 1 = .ok (.istore_n 2, 1) := by decide +kernel
theorem dX9_goesAll_2 : decode cX9_goesAll 2 = .ok (.aload_n 0, 1) := by decide +kernel
theorem dX9_goesAll_3 : decode cX9_goesAll 3 = .ok (.invokevirtual 200, 3) := by decide +kernel
theorem dX9_goesAll_6 : decode cX9_goesAll 6 = .ok (.iconst 0, 1) := by decide +kernel
theorem dX9_goesAll_7 : decode cX9_goesAll 7 = .ok (.istore_n 3, 1) := by decide +kernel
theorem dX9_goesAll_8 : decode cX9_goesAll 8 = .ok (.iload_n 3, 1) := by decide +kernel
theorem dX9_goesAll_9 : decode cX9_goesAll 9 = .ok (.aload_n 0, 1) := by decide +kernel
theorem dX9_goesAll_10 : decode cX9_goesAll 10 = .ok (.invokevirtual 70, 3) := by decide +kernel
theorem dX9_goesAll_13 : decode cX9_goesAll 13 = .ok (.if_icmp .ge 69, 3) := by decide +kernel
theorem dX9_goesAll_16 : decode cX9_goesAll 16 = .ok (.iload_n 2, 1) := by decide +kernel
theorem dX9_goesAll_17 : decode cX9_goesAll 17 = .ok (.ifCond .eq 65, 3) := by decide +kernel
theorem dX9_goesAll_20 : decode cX9_goesAll 20 = .ok (.aload_n 0, 1) := by decide +kernel
theorem dX9_goesAll_21 : decode cX9_goesAll 21 = .ok (.getfield 7, 3) := by decide +kernel
theorem dX9_goesAll_24 : decode cX9_goesAll 24 = .ok (.iconst 5, 1) := by decide +kernel
theorem dX9_goesAll_25 : decode cX9_goesAll 25 = .ok (.iaload, 1) := by decide +kernel
theorem dX9_goesAll_26 : decode cX9_goesAll 26 = .ok (.iload_n 3, 1) := by decide +kernel
theorem dX9_goesAll_27 : decode cX9_goesAll 27 = .ok (.invokestatic 120, 3) := by decide +kernel
theorem dX9_goesAll_30 : decode cX9_goesAll 30 = .ok (.ifCond .ne 46, 3) := by decide +kernel
theorem dX9_goesAll_33 : decode cX9_goesAll 33 = .ok (.aload_n 0, 1) := by decide +kernel
theorem dX9_goesAll_34 : decode cX9_goesAll 34 = .ok (.iload_n 3, 1) := by decide +kernel
theorem dX9_goesAll_35 : decode cX9_goesAll 35 = .ok (.invokevirtual 203, 3) := by decide +kernel
theorem dX9_goesAll_38 : decode cX9_goesAll 38 = .ok (.iload_n 1, 1) := by decide +kernel
theorem dX9_goesAll_39 : decode cX9_goesAll 39 = .ok (.iload_n 3, 1) := by decide +kernel
theorem dX9_goesAll_40 : decode cX9_goesAll 40 = .ok (.invokestatic 120, 3) := by decide +kernel
theorem dX9_goesAll_43 : decode cX9_goesAll 43 = .ok (.ifCond .eq 11, 3) := by decide +kernel
theorem dX9_goesAll_46 : decode cX9_goesAll 46 = .ok (.aload_n 0, 1) := by decide +kernel
theorem dX9_goesAll_47 : decode cX9_goesAll 47 = .ok (.iload_n 3, 1) := by decide +kernel
theorem dX9_goesAll_48 : decode cX9_goesAll 48 = .ok (.invokevirtual 210, 3) := by decide +kernel
theorem dX9_goesAll_51 : decode cX9_goesAll 51 = .ok (.ifCond .eq 7, 3) := by decide +kernel
theorem dX9_goesAll_54 : decode cX9_goesAll 54 = .ok (.iconst 1, 1) := by decide +kernel
theorem dX9_goesAll_55 : decode cX9_goesAll 55 = .ok (.goto 4, 3) := by decide +kernel
theorem dX9_goesAll_58 : decode cX9_goesAll 58 = .ok (.iconst 0, 1) := by decide +kernel
theorem dX9_goesAll_59 : decode cX9_goesAll 59 = .ok (.istore_n 2, 1) := by decide +kernel
theorem dX9_goesAll_60 : decode cX9_goesAll 60 = .ok (.iload_n 2, 1) := by decide +kernel
theorem dX9_goesAll_61 : decode cX9_goesAll 61 = .ok (.ifCond .eq 15, 3) := by decide +kernel
theorem dX9_goesAll_64 : decode cX9_goesAll 64 = .ok (.iload_n 1, 1) := by decide +kernel
theorem dX9_goesAll_65 : decode cX9_goesAll 65 = .ok (.iload_n 3, 1) := by decide +kernel
theorem dX9_goesAll_66 : decode cX9_goesAll 66 = .ok (.invokestatic 120, 3) := by decide +kernel
theorem dX9_goesAll_69 : decode cX9_goesAll 69 = .ok (.ifCond .eq 7, 3) := by decide +kernel
theorem dX9_goesAll_72 : decode cX9_goesAll 72 = .ok (.aload_n 0, 1) := by decide +kernel
theorem dX9_goesAll_73 : decode cX9_goesAll 73 = .ok (.invokevirtual 213, 3) := by decide +kernel
theorem dX9_goesAll_76 : decode cX9_goesAll 76 = .ok (.iinc 3 1, 3) := by decide +kernel
theorem dX9_goesAll_79 : decode cX9_goesAll 79 = .ok (.goto (-71), 3) := by decide +kernel
theorem dX9_goesAll_82 : decode cX9_goesAll 82 = .ok (.iload_n 2, 1) := by decide +kernel
theorem dX9_goesAll_83 : decode cX9_goesAll 83 = .ok (.ireturn, 1) := by decide +kernel
set_option maxRecDepth 20000 in
theorem ggX9_bowed_X9_in : GoodIn wsX9_bowed wsX9_in := goodIn_r _ [7] (by decide +kernel) (by decide +kernel)
set_option maxRecDepth 20000 in
theorem gX9_bowed_X9_in : GoodIn wsX9_bowed (va_wsS RX9 74 yX9_in wsX9_in) := goodIn_app (goodIn_of _ (by decide +kernel)) ggX9_bowed_X9_in
set_option maxRecDepth 20000 in
theorem ggX9_bowed_X9_bad : GoodIn wsX9_bowed wsX9_bad := goodIn_r _ [11, 12, 64, 65, 66, 67, 68, 69, 70, 71, 72, 73, 74, 75, 76, 77, 78, 79, 80, 81, 82, 83, 84, 85, 86, 87, 88, 89, 90, 91] (by decide +kernel) (by decide +kernel)
set_option maxRecDepth 20000 in
theorem gX9_bowed_X9_bad : GoodIn wsX9_bowed (wsV RX9 84 RX9 yX9_bad wsX9_bad) := goodIn_app (goodIn_of _ (by decide +kernel)) ggX9_bowed_X9_bad
set_option maxRecDepth 20000 in
theorem ggX9_bowed_X9_open : GoodIn wsX9_bowed wsX9_open := goodIn_r _ [16, 2, 17, 18, 19, 6, 20, 64, 65, 66, 67, 68, 69, 70, 71, 72, 73, 74, 75, 76, 77, 78, 79, 80, 81, 82, 83, 84, 85, 86, 87, 88, 89, 90, 91] (by decide +kernel) (by decide +kernel)
set_option maxRecDepth 20000 in
theorem gX9_bowed_X9_open : GoodIn wsX9_bowed (wsV RX9 137 RX9 yX9_open wsX9_open) := goodIn_app (goodIn_of _ (by decide +kernel)) ggX9_bowed_X9_open
set_option maxRecDepth 20000 in
theorem ggX9_bowed_X9_many : GoodIn wsX9_bowed wsX9_many := goodIn_r _ [20, 2, 64, 65, 66, 67, 68, 69, 70, 71, 72, 73, 74, 75, 76, 77, 78, 79, 80, 81, 82, 83, 84, 85, 86, 87, 88, 89, 90, 91] (by decide +kernel) (by decide +kernel)
set_option maxRecDepth 20000 in
theorem gX9_bowed_X9_many : GoodIn wsX9_bowed (wsV RX9 70 RX9 yX9_many wsX9_many) := goodIn_app (goodIn_of _ (by decide +kernel)) ggX9_bowed_X9_many
set_option maxRecDepth 20000 in
theorem ggX9_bowed_X9_goesAll : GoodIn wsX9_bowed wsX9_goesAll := goodIn_r _ [24, 2, 25, 26, 27, 6, 28, 29, 3, 30, 31, 17, 18, 19, 20, 32, 33, 34, 35, 36, 37, 38, 39, 40, 41, 42, 43, 44, 45, 46, 47, 48, 49, 50, 51, 52, 53, 54, 55, 56, 57, 58, 59, 60, 61, 62, 63, 64, 65, 66, 67, 68, 69, 70, 71, 72, 73, 74, 75, 76, 77, 78, 79, 80, 81, 82, 83, 84, 85, 86, 87, 88, 89, 90, 91] (by decide +kernel) (by decide +kernel)
set_option maxRecDepth 20000 in
theorem gX9_bowed_X9_goesAll : GoodIn wsX9_bowed (wsV RX9 216 RX9 yX9_goesAll wsX9_goesAll) := goodIn_app (goodIn_of _ (by decide +kernel)) ggX9_bowed_X9_goesAll
theorem dX9_bowed_0 : decode cX9_bowed 0 = .ok (.iload_n 1, 1) := by decide +kernel
theorem dX9_bowed_1 : decode cX9_bowed 1 = .ok (.i2l, 1) := by decide +kernel
theorem dX9_bowed_2 : decode cX9_bowed 2 = .ok (.lconst 0, 1) := by decide +kernel
theorem dX9_bowed_3 : decode cX9_bowed 3 = .ok (.ldc2_w 143, 3) := by decide +kernel
theorem dX9_bowed_6 : decode cX9_bowed 6 = .ok (.invokestatic 74, 3) := by decide +kernel
theorem dX9_bowed_9 : decode cX9_bowed 9 = .ok (.ifCond .ne 10, 3) := by decide +kernel
theorem dX9_bowed_12 : decode cX9_bowed 12 = .ok (.aload_n 0, 1) := by decide +kernel
theorem dX9_bowed_13 : decode cX9_bowed 13 = .ok (.bipush (-2), 2) := by decide +kernel
theorem dX9_bowed_15 : decode cX9_bowed 15 = .ok (.invokevirtual 84, 3) := by decide +kernel
theorem dX9_bowed_18 : decode cX9_bowed 18 = .ok (.ireturn, 1) := by decide +kernel
theorem dX9_bowed_19 : decode cX9_bowed 19 = .ok (.iconst 0, 1) := by decide +kernel
theorem dX9_bowed_20 : decode cX9_bowed 20 = .ok (.istore_n 2, 1) := by decide +kernel
theorem dX9_bowed_21 : decode cX9_bowed 21 = .ok (.aload_n 0, 1) := by decide +kernel
theorem dX9_bowed_22 : decode cX9_bowed 22 = .ok (.invokevirtual 137, 3) := by decide +kernel
theorem dX9_bowed_25 : decode cX9_bowed 25 = .ok (.istore_n 3, 1) := by decide +kernel
theorem dX9_bowed_26 : decode cX9_bowed 26 = .ok (.iconst 0, 1) := by decide +kernel
theorem dX9_bowed_27 : decode cX9_bowed 27 = .ok (.istore 4, 2) := by decide +kernel
theorem dX9_bowed_29 : decode cX9_bowed 29 = .ok (.iconst 0, 1) := by decide +kernel
theorem dX9_bowed_30 : decode cX9_bowed 30 = .ok (.istore 5, 2) := by decide +kernel
theorem dX9_bowed_32 : decode cX9_bowed 32 = .ok (.iload 5, 2) := by decide +kernel
theorem dX9_bowed_34 : decode cX9_bowed 34 = .ok (.iconst 1, 1) := by decide +kernel
theorem dX9_bowed_35 : decode cX9_bowed 35 = .ok (.aload_n 0, 1) := by decide +kernel
theorem dX9_bowed_36 : decode cX9_bowed 36 = .ok (.invokevirtual 70, 3) := by decide +kernel
theorem dX9_bowed_39 : decode cX9_bowed 39 = .ok (.ishl, 1) := by decide +kernel
theorem dX9_bowed_40 : decode cX9_bowed 40 = .ok (.if_icmp .ge 129, 3) := by decide +kernel
theorem dX9_bowed_43 : decode cX9_bowed 43 = .ok (.iload 5, 2) := by decide +kernel
theorem dX9_bowed_45 : decode cX9_bowed 45 = .ok (.aload_n 0, 1) := by decide +kernel
theorem dX9_bowed_46 : decode cX9_bowed 46 = .ok (.getfield 7, 3) := by decide +kernel
theorem dX9_bowed_49 : decode cX9_bowed 49 = .ok (.iconst 5, 1) := by decide +kernel
theorem dX9_bowed_50 : decode cX9_bowed 50 = .ok (.iaload, 1) := by decide +kernel
theorem dX9_bowed_51 : decode cX9_bowed 51 = .ok (.iand, 1) := by decide +kernel
theorem dX9_bowed_52 : decode cX9_bowed 52 = .ok (.ifCond .ne 16, 3) := by decide +kernel
theorem dX9_bowed_55 : decode cX9_bowed 55 = .ok (.aload_n 0, 1) := by decide +kernel
theorem dX9_bowed_56 : decode cX9_bowed 56 = .ok (.iload 5, 2) := by decide +kernel
theorem dX9_bowed_58 : decode cX9_bowed 58 = .ok (.invokevirtual 216, 3) := by decide +kernel
theorem dX9_bowed_61 : decode cX9_bowed 61 = .ok (.ifCond .eq 7, 3) := by decide +kernel
theorem dX9_bowed_64 : decode cX9_bowed 64 = .ok (.iconst 1, 1) := by decide +kernel
theorem dX9_bowed_65 : decode cX9_bowed 65 = .ok (.goto 4, 3) := by decide +kernel
theorem dX9_bowed_68 : decode cX9_bowed 68 = .ok (.iconst 0, 1) := by decide +kernel
theorem dX9_bowed_69 : decode cX9_bowed 69 = .ok (.istore 6, 2) := by decide +kernel
theorem dX9_bowed_71 : decode cX9_bowed 71 = .ok (.iconst 0, 1) := by decide +kernel
theorem dX9_bowed_72 : decode cX9_bowed 72 = .ok (.istore 7, 2) := by decide +kernel
theorem dX9_bowed_74 : decode cX9_bowed 74 = .ok (.iload 7, 2) := by decide +kernel
theorem dX9_bowed_76 : decode cX9_bowed 76 = .ok (.aload_n 0, 1) := by decide +kernel
theorem dX9_bowed_77 : decode cX9_bowed 77 = .ok (.getfield 7, 3) := by decide +kernel
theorem dX9_bowed_80 : decode cX9_bowed 80 = .ok (.iconst 1, 1) := by decide +kernel
theorem dX9_bowed_81 : decode cX9_bowed 81 = .ok (.iaload, 1) := by decide +kernel
theorem dX9_bowed_82 : decode cX9_bowed 82 = .ok (.if_icmp .ge 38, 3) := by decide +kernel
theorem dX9_bowed_85 : decode cX9_bowed 85 = .ok (.iload 6, 2) := by decide +kernel
theorem dX9_bowed_87 : decode cX9_bowed 87 = .ok (.ifCond .eq 33, 3) := by decide +kernel
theorem dX9_bowed_90 : decode cX9_bowed 90 = .ok (.aload_n 0, 1) := by decide +kernel
theorem dX9_bowed_91 : decode cX9_bowed 91 = .ok (.getfield 191, 3) := by decide +kernel
theorem dX9_bowed_94 : decode cX9_bowed 94 = .ok (.aload_n 0, 1) := by decide +kernel
theorem dX9_bowed_95 : decode cX9_bowed 95 = .ok (.getfield 7, 3) := by decide +kernel
theorem dX9_bowed_98 : decode cX9_bowed 98 = .ok (.bipush 32, 2) := by decide +kernel
theorem dX9_bowed_100 : decode cX9_bowed 100 = .ok (.iload 7, 2) := by decide +kernel
theorem dX9_bowed_102 : decode cX9_bowed 102 = .ok (.iadd, 1) := by decide +kernel
theorem dX9_bowed_103 : decode cX9_bowed 103 = .ok (.iaload, 1) := by decide +kernel
theorem dX9_bowed_104 : decode cX9_bowed 104 = .ok (.if_icmp .ne 7, 3) := by decide +kernel
theorem dX9_bowed_107 : decode cX9_bowed 107 = .ok (.iconst 1, 1) := by decide +kernel
theorem dX9_bowed_108 : decode cX9_bowed 108 = .ok (.goto 4, 3) := by decide +kernel
theorem dX9_bowed_111 : decode cX9_bowed 111 = .ok (.iconst 0, 1) := by decide +kernel
theorem dX9_bowed_112 : decode cX9_bowed 112 = .ok (.istore 6, 2) := by decide +kernel
theorem dX9_bowed_114 : decode cX9_bowed 114 = .ok (.iinc 7 1, 3) := by decide +kernel
theorem dX9_bowed_117 : decode cX9_bowed 117 = .ok (.goto (-43), 3) := by decide +kernel
theorem dX9_bowed_120 : decode cX9_bowed 120 = .ok (.iload_n 2, 1) := by decide +kernel
theorem dX9_bowed_121 : decode cX9_bowed 121 = .ok (.iload 6, 2) := by decide +kernel
theorem dX9_bowed_123 : decode cX9_bowed 123 = .ok (.ifCond .eq 7, 3) := by decide +kernel
theorem dX9_bowed_126 : decode cX9_bowed 126 = .ok (.iconst 1, 1) := by decide +kernel
theorem dX9_bowed_127 : decode cX9_bowed 127 = .ok (.goto 4, 3) := by decide +kernel
theorem dX9_bowed_130 : decode cX9_bowed 130 = .ok (.iconst 0, 1) := by decide +kernel
theorem dX9_bowed_131 : decode cX9_bowed 131 = .ok (.iadd, 1) := by decide +kernel
theorem dX9_bowed_132 : decode cX9_bowed 132 = .ok (.istore_n 2, 1) := by decide +kernel
theorem dX9_bowed_133 : decode cX9_bowed 133 = .ok (.iload_n 3, 1) := by decide +kernel
theorem dX9_bowed_134 : decode cX9_bowed 134 = .ok (.iload 6, 2) := by decide +kernel
theorem dX9_bowed_136 : decode cX9_bowed 136 = .ok (.ifCond .eq 8, 3) := by decide +kernel
theorem dX9_bowed_139 : decode cX9_bowed 139 = .ok (.iload 5, 2) := by decide +kernel
theorem dX9_bowed_141 : decode cX9_bowed 141 = .ok (.goto 4, 3) := by decide +kernel
theorem dX9_bowed_144 : decode cX9_bowed 144 = .ok (.iload_n 3, 1) := by decide +kernel
theorem dX9_bowed_145 : decode cX9_bowed 145 = .ok (.iand, 1) := by decide +kernel
theorem dX9_bowed_146 : decode cX9_bowed 146 = .ok (.istore_n 3, 1) := by decide +kernel
theorem dX9_bowed_147 : decode cX9_bowed 147 = .ok (.iload 4, 2) := by decide +kernel
theorem dX9_bowed_149 : decode cX9_bowed 149 = .ok (.iload 6, 2) := by decide +kernel
theorem dX9_bowed_151 : decode cX9_bowed 151 = .ok (.ifCond .eq 8, 3) := by decide +kernel
theorem dX9_bowed_154 : decode cX9_bowed 154 = .ok (.iload 5, 2) := by decide +kernel
theorem dX9_bowed_156 : decode cX9_bowed 156 = .ok (.goto 4, 3) := by decide +kernel
theorem dX9_bowed_159 : decode cX9_bowed 159 = .ok (.iconst 0, 1) := by decide +kernel
theorem dX9_bowed_160 : decode cX9_bowed 160 = .ok (.ior, 1) := by decide +kernel
theorem dX9_bowed_161 : decode cX9_bowed 161 = .ok (.istore 4, 2) := by decide +kernel
theorem dX9_bowed_163 : decode cX9_bowed 163 = .ok (.iinc 5 1, 3) := by decide +kernel
theorem dX9_bowed_166 : decode cX9_bowed 166 = .ok (.goto (-134), 3) := by decide +kernel
theorem dX9_bowed_169 : decode cX9_bowed 169 = .ok (.iload_n 1, 1) := by decide +kernel
theorem dX9_bowed_170 : decode cX9_bowed 170 = .ok (.ifCond .ne 7, 3) := by decide +kernel
theorem dX9_bowed_173 : decode cX9_bowed 173 = .ok (.iload_n 2, 1) := by decide +kernel
theorem dX9_bowed_174 : decode cX9_bowed 174 = .ok (.goto 22, 3) := by decide +kernel
theorem dX9_bowed_177 : decode cX9_bowed 177 = .ok (.iload_n 1, 1) := by decide +kernel
theorem dX9_bowed_178 : decode cX9_bowed 178 = .ok (.iconst 2, 1) := by decide +kernel
theorem dX9_bowed_179 : decode cX9_bowed 179 = .ok (.if_icmp .ne 8, 3) := by decide +kernel
theorem dX9_bowed_182 : decode cX9_bowed 182 = .ok (.iload 4, 2) := by decide +kernel
theorem dX9_bowed_184 : decode cX9_bowed 184 = .ok (.goto 12, 3) := by decide +kernel
theorem dX9_bowed_187 : decode cX9_bowed 187 = .ok (.iload_n 2, 1) := by decide +kernel
theorem dX9_bowed_188 : decode cX9_bowed 188 = .ok (.ifCond .ne 7, 3) := by decide +kernel
theorem dX9_bowed_191 : decode cX9_bowed 191 = .ok (.iconst (-1), 1) := by decide +kernel
theorem dX9_bowed_192 : decode cX9_bowed 192 = .ok (.goto 4, 3) := by decide +kernel
theorem dX9_bowed_195 : decode cX9_bowed 195 = .ok (.iload_n 3, 1) := by decide +kernel
theorem dX9_bowed_196 : decode cX9_bowed 196 = .ok (.ireturn, 1) := by decide +kernel
set_option maxRecDepth 20000 in
theorem ggX9_note_X9_isPoint : GoodIn wsX9_note wsX9_isPoint := goodIn_r _ [10, 11, 12, 13, 9, 14, 5, 15, 16, 17, 27, 28, 29, 30, 31, 32, 33, 34, 35, 36, 37, 38, 39, 40, 41, 42, 43, 44, 45, 46, 47, 48, 49, 50, 51, 52, 53, 54] (by decide +kernel) (by decide +kernel)
set_option maxRecDepth 20000 in
theorem gX9_note_X9_isPoint : GoodIn wsX9_note (wsV RX9 117 RX9 yX9_isPoint wsX9_isPoint) := goodIn_app (goodIn_of _ (by decide +kernel)) ggX9_note_X9_isPoint
set_option maxRecDepth 20000 in
theorem ggX9_note_X9_in : GoodIn wsX9_note wsX9_in := goodIn_r _ [17] (by decide +kernel) (by decide +kernel)
set_option maxRecDepth 20000 in
theorem gX9_note_X9_in : GoodIn wsX9_note (va_wsS RX9 74 yX9_in wsX9_in) := goodIn_app (goodIn_of _ (by decide +kernel)) ggX9_note_X9_in
set_option maxRecDepth 20000 in
theorem ggX9_note_X9_bad : GoodIn wsX9_note wsX9_bad := goodIn_r _ [21, 22, 27, 28, 29, 30, 31, 32, 33, 34, 35, 36, 37, 38, 39, 40, 41, 42, 43, 44, 45, 46, 47, 48, 49, 50, 51, 52, 53, 54] (by decide +kernel) (by decide +kernel)
set_option maxRecDepth 20000 in
theorem gX9_note_X9_bad : GoodIn wsX9_note (wsV RX9 84 RX9 yX9_bad wsX9_bad) := goodIn_app (goodIn_of _ (by decide +kernel)) ggX9_note_X9_bad
set_option maxRecDepth 20000 in
theorem ggX9_note_X9_full : GoodIn wsX9_note wsX9_full := goodIn_r _ [26, 22, 27, 28, 29, 30, 31, 32, 33, 34, 35, 36, 37, 38, 39, 40, 41, 42, 43, 44, 45, 46, 47, 48, 49, 50, 51, 52, 53, 54] (by decide +kernel) (by decide +kernel)
set_option maxRecDepth 20000 in
theorem gX9_note_X9_full : GoodIn wsX9_note (wsV RX9 95 RX9 yX9_full wsX9_full) := goodIn_app (goodIn_of _ (by decide +kernel)) ggX9_note_X9_full
theorem dX9_note_0 : decode cX9_note 0 = .ok (.aload_n 0, 1) := by decide +kernel
theorem dX9_note_1 : decode cX9_note 1 = .ok (.iload_n 1, 1) := by decide +kernel
theorem dX9_note_2 : decode cX9_note 2 = .ok (.invokevirtual 117, 3) := by decide +kernel
theorem dX9_note_5 : decode cX9_note 5 = .ok (.ifCond .eq 55, 3) := by decide +kernel
theorem dX9_note_8 : decode cX9_note 8 = .ok (.iload_n 2, 1) := by decide +kernel
theorem dX9_note_9 : decode cX9_note 9 = .ok (.i2l, 1) := by decide +kernel
theorem dX9_note_10 : decode cX9_note 10 = .ok (.lconst 1, 1) := by decide +kernel
theorem dX9_note_11 : decode cX9_note 11 = .ok (.ldc2_w 93, 3) := by decide +kernel
theorem dX9_note_14 : decode cX9_note 14 = .ok (.invokestatic 74, 3) := by decide +kernel
theorem dX9_note_17 : decode cX9_note 17 = .ok (.ifCond .eq 43, 3) := by decide +kernel
theorem dX9_note_20 : decode cX9_note 20 = .ok (.iload_n 3, 1) := by decide +kernel
theorem dX9_note_21 : decode cX9_note 21 = .ok (.i2l, 1) := by decide +kernel
theorem dX9_note_22 : decode cX9_note 22 = .ok (.ldc2_w 206, 3) := by decide +kernel
theorem dX9_note_25 : decode cX9_note 25 = .ok (.ldc2_w 208, 3) := by decide +kernel
theorem dX9_note_28 : decode cX9_note 28 = .ok (.invokestatic 74, 3) := by decide +kernel
theorem dX9_note_31 : decode cX9_note 31 = .ok (.ifCond .eq 29, 3) := by decide +kernel
theorem dX9_note_34 : decode cX9_note 34 = .ok (.iload 4, 2) := by decide +kernel
theorem dX9_note_36 : decode cX9_note 36 = .ok (.i2l, 1) := by decide +kernel
theorem dX9_note_37 : decode cX9_note 37 = .ok (.lconst 0, 1) := by decide +kernel
theorem dX9_note_38 : decode cX9_note 38 = .ok (.ldc2_w 93, 3) := by decide +kernel
theorem dX9_note_41 : decode cX9_note 41 = .ok (.invokestatic 74, 3) := by decide +kernel
theorem dX9_note_44 : decode cX9_note 44 = .ok (.ifCond .eq 16, 3) := by decide +kernel
theorem dX9_note_47 : decode cX9_note 47 = .ok (.iload 5, 2) := by decide +kernel
theorem dX9_note_49 : decode cX9_note 49 = .ok (.i2l, 1) := by decide +kernel
theorem dX9_note_50 : decode cX9_note 50 = .ok (.lconst 0, 1) := by decide +kernel
theorem dX9_note_51 : decode cX9_note 51 = .ok (.ldc2_w 219, 3) := by decide +kernel
theorem dX9_note_54 : decode cX9_note 54 = .ok (.invokestatic 74, 3) := by decide +kernel
theorem dX9_note_57 : decode cX9_note 57 = .ok (.ifCond .ne 10, 3) := by decide +kernel
theorem dX9_note_60 : decode cX9_note 60 = .ok (.aload_n 0, 1) := by decide +kernel
theorem dX9_note_61 : decode cX9_note 61 = .ok (.bipush (-2), 2) := by decide +kernel
theorem dX9_note_63 : decode cX9_note 63 = .ok (.invokevirtual 84, 3) := by decide +kernel
theorem dX9_note_66 : decode cX9_note 66 = .ok (.ireturn, 1) := by decide +kernel
theorem dX9_note_67 : decode cX9_note 67 = .ok (.aload_n 0, 1) := by decide +kernel
theorem dX9_note_68 : decode cX9_note 68 = .ok (.getfield 7, 3) := by decide +kernel
theorem dX9_note_71 : decode cX9_note 71 = .ok (.iconst 2, 1) := by decide +kernel
theorem dX9_note_72 : decode cX9_note 72 = .ok (.iaload, 1) := by decide +kernel
theorem dX9_note_73 : decode cX9_note 73 = .ok (.bipush 6, 2) := by decide +kernel
theorem dX9_note_75 : decode cX9_note 75 = .ok (.if_icmp .ne 8, 3) := by decide +kernel
theorem dX9_note_78 : decode cX9_note 78 = .ok (.aload_n 0, 1) := by decide +kernel
theorem dX9_note_79 : decode cX9_note 79 = .ok (.invokevirtual 95, 3) := by decide +kernel
theorem dX9_note_82 : decode cX9_note 82 = .ok (.ireturn, 1) := by decide +kernel
theorem dX9_note_83 : decode cX9_note 83 = .ok (.bipush 36, 2) := by decide +kernel
theorem dX9_note_85 : decode cX9_note 85 = .ok (.iconst 5, 1) := by decide +kernel
theorem dX9_note_86 : decode cX9_note 86 = .ok (.aload_n 0, 1) := by decide +kernel
theorem dX9_note_87 : decode cX9_note 87 = .ok (.getfield 7, 3) := by decide +kernel
theorem dX9_note_90 : decode cX9_note 90 = .ok (.iconst 2, 1) := by decide +kernel
theorem dX9_note_91 : decode cX9_note 91 = .ok (.iaload, 1) := by decide +kernel
theorem dX9_note_92 : decode cX9_note 92 = .ok (.imul, 1) := by decide +kernel
theorem dX9_note_93 : decode cX9_note 93 = .ok (.iadd, 1) := by decide +kernel
theorem dX9_note_94 : decode cX9_note 94 = .ok (.istore 6, 2) := by decide +kernel
theorem dX9_note_96 : decode cX9_note 96 = .ok (.aload_n 0, 1) := by decide +kernel
theorem dX9_note_97 : decode cX9_note 97 = .ok (.getfield 7, 3) := by decide +kernel
theorem dX9_note_100 : decode cX9_note 100 = .ok (.iload 6, 2) := by decide +kernel
theorem dX9_note_102 : decode cX9_note 102 = .ok (.iload_n 1, 1) := by decide +kernel
theorem dX9_note_103 : decode cX9_note 103 = .ok (.iastore, 1) := by decide +kernel
theorem dX9_note_104 : decode cX9_note 104 = .ok (.aload_n 0, 1) := by decide +kernel
theorem dX9_note_105 : decode cX9_note 105 = .ok (.getfield 7, 3) := by decide +kernel
theorem dX9_note_108 : decode cX9_note 108 = .ok (.iload 6, 2) := by decide +kernel
theorem dX9_note_110 : decode cX9_note 110 = .ok (.iconst 1, 1) := by decide +kernel
theorem dX9_note_111 : decode cX9_note 111 = .ok (.iadd, 1) := by decide +kernel
theorem dX9_note_112 : decode cX9_note 112 = .ok (.iload_n 2, 1) := by decide +kernel
theorem dX9_note_113 : decode cX9_note 113 = .ok (.iastore, 1) := by decide +kernel
theorem dX9_note_114 : decode cX9_note 114 = .ok (.aload_n 0, 1) := by decide +kernel
theorem dX9_note_115 : decode cX9_note 115 = .ok (.getfield 7, 3) := by decide +kernel
theorem dX9_note_118 : decode cX9_note 118 = .ok (.iload 6, 2) := by decide +kernel
theorem dX9_note_120 : decode cX9_note 120 = .ok (.iconst 2, 1) := by decide +kernel
theorem dX9_note_121 : decode cX9_note 121 = .ok (.iadd, 1) := by decide +kernel
theorem dX9_note_122 : decode cX9_note 122 = .ok (.iload_n 3, 1) := by decide +kernel
theorem dX9_note_123 : decode cX9_note 123 = .ok (.iastore, 1) := by decide +kernel
theorem dX9_note_124 : decode cX9_note 124 = .ok (.aload_n 0, 1) := by decide +kernel
theorem dX9_note_125 : decode cX9_note 125 = .ok (.getfield 7, 3) := by decide +kernel
theorem dX9_note_128 : decode cX9_note 128 = .ok (.iload 6, 2) := by decide +kernel
theorem dX9_note_130 : decode cX9_note 130 = .ok (.iconst 3, 1) := by decide +kernel
theorem dX9_note_131 : decode cX9_note 131 = .ok (.iadd, 1) := by decide +kernel
theorem dX9_note_132 : decode cX9_note 132 = .ok (.iload 4, 2) := by decide +kernel
theorem dX9_note_134 : decode cX9_note 134 = .ok (.iastore, 1) := by decide +kernel
theorem dX9_note_135 : decode cX9_note 135 = .ok (.aload_n 0, 1) := by decide +kernel
theorem dX9_note_136 : decode cX9_note 136 = .ok (.getfield 7, 3) := by decide +kernel
theorem dX9_note_139 : decode cX9_note 139 = .ok (.iload 6, 2) := by decide +kernel
theorem dX9_note_141 : decode cX9_note 141 = .ok (.iconst 4, 1) := by decide +kernel
theorem dX9_note_142 : decode cX9_note 142 = .ok (.iadd, 1) := by decide +kernel
theorem dX9_note_143 : decode cX9_note 143 = .ok (.iload 5, 2) := by decide +kernel
theorem dX9_note_145 : decode cX9_note 145 = .ok (.iastore, 1) := by decide +kernel
theorem dX9_note_146 : decode cX9_note 146 = .ok (.aload_n 0, 1) := by decide +kernel
theorem dX9_note_147 : decode cX9_note 147 = .ok (.getfield 7, 3) := by decide +kernel
theorem dX9_note_150 : decode cX9_note 150 = .ok (.iconst 2, 1) := by decide +kernel
theorem dX9_note_151 : decode cX9_note 151 = .ok (.dup2, 1) := by decide +kernel
theorem dX9_note_152 : decode cX9_note 152 = .ok (.iaload, 1) := by decide +kernel
theorem dX9_note_153 : decode cX9_note 153 = .ok (.iconst 1, 1) := by decide +kernel
theorem dX9_note_154 : decode cX9_note 154 = .ok (.iadd, 1) := by decide +kernel
theorem dX9_note_155 : decode cX9_note 155 = .ok (.iastore, 1) := by decide +kernel
theorem dX9_note_156 : decode cX9_note 156 = .ok (.aload_n 0, 1) := by decide +kernel
theorem dX9_note_157 : decode cX9_note 157 = .ok (.getfield 7, 3) := by decide +kernel
theorem dX9_note_160 : decode cX9_note 160 = .ok (.iconst 2, 1) := by decide +kernel
theorem dX9_note_161 : decode cX9_note 161 = .ok (.iaload, 1) := by decide +kernel
theorem dX9_note_162 : decode cX9_note 162 = .ok (.ireturn, 1) := by decide +kernel
set_option maxRecDepth 20000 in
theorem ggX9_mark_X9_isCounsel : GoodIn wsX9_mark wsX9_isCounsel := goodIn_r _ [8, 9, 10, 7, 11] (by decide +kernel) (by decide +kernel)
set_option maxRecDepth 20000 in
theorem gX9_mark_X9_isCounsel : GoodIn wsX9_mark (va_wsS RX9 88 yX9_isCounsel wsX9_isCounsel) := goodIn_app (goodIn_of _ (by decide +kernel)) ggX9_mark_X9_isCounsel
set_option maxRecDepth 20000 in
theorem ggX9_mark_X9_in : GoodIn wsX9_mark wsX9_in := goodIn_r _ [11] (by decide +kernel) (by decide +kernel)
set_option maxRecDepth 20000 in
theorem gX9_mark_X9_in : GoodIn wsX9_mark (va_wsS RX9 74 yX9_in wsX9_in) := goodIn_app (goodIn_of _ (by decide +kernel)) ggX9_mark_X9_in
set_option maxRecDepth 20000 in
theorem ggX9_mark_X9_bad : GoodIn wsX9_mark wsX9_bad := goodIn_r _ [15, 16, 21, 22, 23, 24, 25, 26, 27, 28, 29, 30, 31, 32, 33, 34, 35, 36, 37, 38, 39, 40, 41, 42, 43, 44, 45, 46, 47, 48] (by decide +kernel) (by decide +kernel)
set_option maxRecDepth 20000 in
theorem gX9_mark_X9_bad : GoodIn wsX9_mark (wsV RX9 84 RX9 yX9_bad wsX9_bad) := goodIn_app (goodIn_of _ (by decide +kernel)) ggX9_mark_X9_bad
set_option maxRecDepth 20000 in
theorem ggX9_mark_X9_full : GoodIn wsX9_mark wsX9_full := goodIn_r _ [20, 16, 21, 22, 23, 24, 25, 26, 27, 28, 29, 30, 31, 32, 33, 34, 35, 36, 37, 38, 39, 40, 41, 42, 43, 44, 45, 46, 47, 48] (by decide +kernel) (by decide +kernel)
set_option maxRecDepth 20000 in
theorem gX9_mark_X9_full : GoodIn wsX9_mark (wsV RX9 95 RX9 yX9_full wsX9_full) := goodIn_app (goodIn_of _ (by decide +kernel)) ggX9_mark_X9_full
theorem dX9_mark_0 : decode cX9_mark 0 = .ok (.iload_n 1, 1) := by decide +kernel
theorem dX9_mark_1 : decode cX9_mark 1 = .ok (.invokestatic 88, 3) := by decide +kernel
theorem dX9_mark_4 : decode cX9_mark 4 = .ok (.ifCond .eq 40, 3) := by decide +kernel
theorem dX9_mark_7 : decode cX9_mark 7 = .ok (.iload_n 2, 1) := by decide +kernel
theorem dX9_mark_8 : decode cX9_mark 8 = .ok (.i2l, 1) := by decide +kernel
theorem dX9_mark_9 : decode cX9_mark 9 = .ok (.lconst 0, 1) := by decide +kernel
theorem dX9_mark_10 : decode cX9_mark 10 = .ok (.ldc2_w 219, 3) := by decide +kernel
theorem dX9_mark_13 : decode cX9_mark 13 = .ok (.invokestatic 74, 3) := by decide +kernel
theorem dX9_mark_16 : decode cX9_mark 16 = .ok (.ifCond .eq 28, 3) := by decide +kernel
theorem dX9_mark_19 : decode cX9_mark 19 = .ok (.iload_n 3, 1) := by decide +kernel
theorem dX9_mark_20 : decode cX9_mark 20 = .ok (.i2l, 1) := by decide +kernel
theorem dX9_mark_21 : decode cX9_mark 21 = .ok (.lconst 0, 1) := by decide +kernel
theorem dX9_mark_22 : decode cX9_mark 22 = .ok (.lconst 1, 1) := by decide +kernel
theorem dX9_mark_23 : decode cX9_mark 23 = .ok (.invokestatic 74, 3) := by decide +kernel
theorem dX9_mark_26 : decode cX9_mark 26 = .ok (.ifCond .eq 18, 3) := by decide +kernel
theorem dX9_mark_29 : decode cX9_mark 29 = .ok (.iload 4, 2) := by decide +kernel
theorem dX9_mark_31 : decode cX9_mark 31 = .ok (.i2l, 1) := by decide +kernel
theorem dX9_mark_32 : decode cX9_mark 32 = .ok (.ldc2_w 221, 3) := by decide +kernel
theorem dX9_mark_35 : decode cX9_mark 35 = .ok (.ldc2_w 223, 3) := by decide +kernel
theorem dX9_mark_38 : decode cX9_mark 38 = .ok (.invokestatic 74, 3) := by decide +kernel
theorem dX9_mark_41 : decode cX9_mark 41 = .ok (.ifCond .ne 10, 3) := by decide +kernel
theorem dX9_mark_44 : decode cX9_mark 44 = .ok (.aload_n 0, 1) := by decide +kernel
theorem dX9_mark_45 : decode cX9_mark 45 = .ok (.bipush (-2), 2) := by decide +kernel
theorem dX9_mark_47 : decode cX9_mark 47 = .ok (.invokevirtual 84, 3) := by decide +kernel
theorem dX9_mark_50 : decode cX9_mark 50 = .ok (.ireturn, 1) := by decide +kernel
theorem dX9_mark_51 : decode cX9_mark 51 = .ok (.aload_n 0, 1) := by decide +kernel
theorem dX9_mark_52 : decode cX9_mark 52 = .ok (.getfield 7, 3) := by decide +kernel
theorem dX9_mark_55 : decode cX9_mark 55 = .ok (.iconst 3, 1) := by decide +kernel
theorem dX9_mark_56 : decode cX9_mark 56 = .ok (.iaload, 1) := by decide +kernel
theorem dX9_mark_57 : decode cX9_mark 57 = .ok (.bipush 6, 2) := by decide +kernel
theorem dX9_mark_59 : decode cX9_mark 59 = .ok (.if_icmp .ne 8, 3) := by decide +kernel
theorem dX9_mark_62 : decode cX9_mark 62 = .ok (.aload_n 0, 1) := by decide +kernel
theorem dX9_mark_63 : decode cX9_mark 63 = .ok (.invokevirtual 95, 3) := by decide +kernel
theorem dX9_mark_66 : decode cX9_mark 66 = .ok (.ireturn, 1) := by decide +kernel
theorem dX9_mark_67 : decode cX9_mark 67 = .ok (.bipush 66, 2) := by decide +kernel
theorem dX9_mark_69 : decode cX9_mark 69 = .ok (.iconst 4, 1) := by decide +kernel
theorem dX9_mark_70 : decode cX9_mark 70 = .ok (.aload_n 0, 1) := by decide +kernel
theorem dX9_mark_71 : decode cX9_mark 71 = .ok (.getfield 7, 3) := by decide +kernel
theorem dX9_mark_74 : decode cX9_mark 74 = .ok (.iconst 3, 1) := by decide +kernel
theorem dX9_mark_75 : decode cX9_mark 75 = .ok (.iaload, 1) := by decide +kernel
theorem dX9_mark_76 : decode cX9_mark 76 = .ok (.imul, 1) := by decide +kernel
theorem dX9_mark_77 : decode cX9_mark 77 = .ok (.iadd, 1) := by decide +kernel
theorem dX9_mark_78 : decode cX9_mark 78 = .ok (.istore 5, 2) := by decide +kernel
theorem dX9_mark_80 : decode cX9_mark 80 = .ok (.aload_n 0, 1) := by decide +kernel
theorem dX9_mark_81 : decode cX9_mark 81 = .ok (.getfield 7, 3) := by decide +kernel
theorem dX9_mark_84 : decode cX9_mark 84 = .ok (.iload 5, 2) := by decide +kernel
theorem dX9_mark_86 : decode cX9_mark 86 = .ok (.iload_n 1, 1) := by decide +kernel
theorem dX9_mark_87 : decode cX9_mark 87 = .ok (.iastore, 1) := by decide +kernel
theorem dX9_mark_88 : decode cX9_mark 88 = .ok (.aload_n 0, 1) := by decide +kernel
theorem dX9_mark_89 : decode cX9_mark 89 = .ok (.getfield 7, 3) := by decide +kernel
theorem dX9_mark_92 : decode cX9_mark 92 = .ok (.iload 5, 2) := by decide +kernel
theorem dX9_mark_94 : decode cX9_mark 94 = .ok (.iconst 1, 1) := by decide +kernel
theorem dX9_mark_95 : decode cX9_mark 95 = .ok (.iadd, 1) := by decide +kernel
theorem dX9_mark_96 : decode cX9_mark 96 = .ok (.iload_n 2, 1) := by decide +kernel
theorem dX9_mark_97 : decode cX9_mark 97 = .ok (.iastore, 1) := by decide +kernel
theorem dX9_mark_98 : decode cX9_mark 98 = .ok (.aload_n 0, 1) := by decide +kernel
theorem dX9_mark_99 : decode cX9_mark 99 = .ok (.getfield 7, 3) := by decide +kernel
theorem dX9_mark_102 : decode cX9_mark 102 = .ok (.iload 5, 2) := by decide +kernel
theorem dX9_mark_104 : decode cX9_mark 104 = .ok (.iconst 2, 1) := by decide +kernel
theorem dX9_mark_105 : decode cX9_mark 105 = .ok (.iadd, 1) := by decide +kernel
theorem dX9_mark_106 : decode cX9_mark 106 = .ok (.iload_n 3, 1) := by decide +kernel
theorem dX9_mark_107 : decode cX9_mark 107 = .ok (.iastore, 1) := by decide +kernel
theorem dX9_mark_108 : decode cX9_mark 108 = .ok (.aload_n 0, 1) := by decide +kernel
theorem dX9_mark_109 : decode cX9_mark 109 = .ok (.getfield 7, 3) := by decide +kernel
theorem dX9_mark_112 : decode cX9_mark 112 = .ok (.iload 5, 2) := by decide +kernel
theorem dX9_mark_114 : decode cX9_mark 114 = .ok (.iconst 3, 1) := by decide +kernel
theorem dX9_mark_115 : decode cX9_mark 115 = .ok (.iadd, 1) := by decide +kernel
theorem dX9_mark_116 : decode cX9_mark 116 = .ok (.iload 4, 2) := by decide +kernel
theorem dX9_mark_118 : decode cX9_mark 118 = .ok (.iastore, 1) := by decide +kernel
theorem dX9_mark_119 : decode cX9_mark 119 = .ok (.aload_n 0, 1) := by decide +kernel
theorem dX9_mark_120 : decode cX9_mark 120 = .ok (.getfield 7, 3) := by decide +kernel
theorem dX9_mark_123 : decode cX9_mark 123 = .ok (.iconst 3, 1) := by decide +kernel
theorem dX9_mark_124 : decode cX9_mark 124 = .ok (.dup2, 1) := by decide +kernel
theorem dX9_mark_125 : decode cX9_mark 125 = .ok (.iaload, 1) := by decide +kernel
theorem dX9_mark_126 : decode cX9_mark 126 = .ok (.iconst 1, 1) := by decide +kernel
theorem dX9_mark_127 : decode cX9_mark 127 = .ok (.iadd, 1) := by decide +kernel
theorem dX9_mark_128 : decode cX9_mark 128 = .ok (.iastore, 1) := by decide +kernel
theorem dX9_mark_129 : decode cX9_mark 129 = .ok (.aload_n 0, 1) := by decide +kernel
theorem dX9_mark_130 : decode cX9_mark 130 = .ok (.getfield 7, 3) := by decide +kernel
theorem dX9_mark_133 : decode cX9_mark 133 = .ok (.iconst 3, 1) := by decide +kernel
theorem dX9_mark_134 : decode cX9_mark 134 = .ok (.iaload, 1) := by decide +kernel
theorem dX9_mark_135 : decode cX9_mark 135 = .ok (.ireturn, 1) := by decide +kernel
set_option maxRecDepth 20000 in
theorem ggX9_forget_X9_in : GoodIn wsX9_forget wsX9_in := goodIn_r _ [6] (by decide +kernel) (by decide +kernel)
set_option maxRecDepth 20000 in
theorem gX9_forget_X9_in : GoodIn wsX9_forget (va_wsS RX9 74 yX9_in wsX9_in) := goodIn_app (goodIn_of _ (by decide +kernel)) ggX9_forget_X9_in
set_option maxRecDepth 20000 in
theorem ggX9_forget_X9_bad : GoodIn wsX9_forget wsX9_bad := goodIn_r _ [10, 11, 12, 13, 14, 15, 16, 17, 18, 19, 20, 21, 22, 23, 24, 25, 26, 27, 28, 29, 30, 31, 32, 33, 34, 35, 36, 37, 38, 39] (by decide +kernel) (by decide +kernel)
set_option maxRecDepth 20000 in
theorem gX9_forget_X9_bad : GoodIn wsX9_forget (wsV RX9 84 RX9 yX9_bad wsX9_bad) := goodIn_app (goodIn_of _ (by decide +kernel)) ggX9_forget_X9_bad
theorem dX9_forget_0 : decode cX9_forget 0 = .ok (.iload_n 1, 1) := by decide +kernel
theorem dX9_forget_1 : decode cX9_forget 1 = .ok (.i2l, 1) := by decide +kernel
theorem dX9_forget_2 : decode cX9_forget 2 = .ok (.lconst 0, 1) := by decide +kernel
theorem dX9_forget_3 : decode cX9_forget 3 = .ok (.ldc2_w 143, 3) := by decide +kernel
theorem dX9_forget_6 : decode cX9_forget 6 = .ok (.invokestatic 74, 3) := by decide +kernel
theorem dX9_forget_9 : decode cX9_forget 9 = .ok (.ifCond .ne 10, 3) := by decide +kernel
theorem dX9_forget_12 : decode cX9_forget 12 = .ok (.aload_n 0, 1) := by decide +kernel
theorem dX9_forget_13 : decode cX9_forget 13 = .ok (.bipush (-2), 2) := by decide +kernel
theorem dX9_forget_15 : decode cX9_forget 15 = .ok (.invokevirtual 84, 3) := by decide +kernel
theorem dX9_forget_18 : decode cX9_forget 18 = .ok (.ireturn, 1) := by decide +kernel
theorem dX9_forget_19 : decode cX9_forget 19 = .ok (.aload_n 0, 1) := by decide +kernel
theorem dX9_forget_20 : decode cX9_forget 20 = .ok (.getfield 7, 3) := by decide +kernel
theorem dX9_forget_23 : decode cX9_forget 23 = .ok (.iconst 1, 1) := by decide +kernel
theorem dX9_forget_24 : decode cX9_forget 24 = .ok (.iload_n 1, 1) := by decide +kernel
theorem dX9_forget_25 : decode cX9_forget 25 = .ok (.iadd, 1) := by decide +kernel
theorem dX9_forget_26 : decode cX9_forget 26 = .ok (.iaload, 1) := by decide +kernel
theorem dX9_forget_27 : decode cX9_forget 27 = .ok (.istore_n 2, 1) := by decide +kernel
theorem dX9_forget_28 : decode cX9_forget 28 = .ok (.aload_n 0, 1) := by decide +kernel
theorem dX9_forget_29 : decode cX9_forget 29 = .ok (.getfield 7, 3) := by decide +kernel
theorem dX9_forget_32 : decode cX9_forget 32 = .ok (.iconst 1, 1) := by decide +kernel
theorem dX9_forget_33 : decode cX9_forget 33 = .ok (.iload_n 1, 1) := by decide +kernel
theorem dX9_forget_34 : decode cX9_forget 34 = .ok (.iadd, 1) := by decide +kernel
theorem dX9_forget_35 : decode cX9_forget 35 = .ok (.iconst 0, 1) := by decide +kernel
theorem dX9_forget_36 : decode cX9_forget 36 = .ok (.iastore, 1) := by decide +kernel
theorem dX9_forget_37 : decode cX9_forget 37 = .ok (.iload_n 2, 1) := by decide +kernel
theorem dX9_forget_38 : decode cX9_forget 38 = .ok (.ireturn, 1) := by decide +kernel
set_option maxRecDepth 20000 in
theorem ggX9_kindsOf_X9_movesAs : GoodIn wsX9_kindsOf wsX9_movesAs := goodIn_r _ [5] (by decide +kernel) (by decide +kernel)
set_option maxRecDepth 20000 in
theorem gX9_kindsOf_X9_movesAs : GoodIn wsX9_kindsOf (va_wsS RX9 106 yX9_movesAs wsX9_movesAs) := goodIn_app (goodIn_of _ (by decide +kernel)) ggX9_kindsOf_X9_movesAs
theorem dX9_kindsOf_0 : decode cX9_kindsOf 0 = .ok (.iconst 0, 1) := by decide +kernel
theorem dX9_kindsOf_1 : decode cX9_kindsOf 1 = .ok (.istore_n 2, 1) := by decide +kernel
theorem dX9_kindsOf_2 : decode cX9_kindsOf 2 = .ok (.iconst 0, 1) := by decide +kernel
theorem dX9_kindsOf_3 : decode cX9_kindsOf 3 = .ok (.istore_n 3, 1) := by decide +kernel
theorem dX9_kindsOf_4 : decode cX9_kindsOf 4 = .ok (.iload_n 3, 1) := by decide +kernel
theorem dX9_kindsOf_5 : decode cX9_kindsOf 5 = .ok (.bipush 6, 2) := by decide +kernel
theorem dX9_kindsOf_7 : decode cX9_kindsOf 7 = .ok (.if_icmp .ge 122, 3) := by decide +kernel
theorem dX9_kindsOf_10 : decode cX9_kindsOf 10 = .ok (.iconst 1, 1) := by decide +kernel
theorem dX9_kindsOf_11 : decode cX9_kindsOf 11 = .ok (.istore 4, 2) := by decide +kernel
theorem dX9_kindsOf_13 : decode cX9_kindsOf 13 = .ok (.iconst 0, 1) := by decide +kernel
theorem dX9_kindsOf_14 : decode cX9_kindsOf 14 = .ok (.istore 5, 2) := by decide +kernel
theorem dX9_kindsOf_16 : decode cX9_kindsOf 16 = .ok (.iload 5, 2) := by decide +kernel
theorem dX9_kindsOf_18 : decode cX9_kindsOf 18 = .ok (.aload_n 0, 1) := by decide +kernel
theorem dX9_kindsOf_19 : decode cX9_kindsOf 19 = .ok (.getfield 7, 3) := by decide +kernel
theorem dX9_kindsOf_22 : decode cX9_kindsOf 22 = .ok (.iconst 2, 1) := by decide +kernel
theorem dX9_kindsOf_23 : decode cX9_kindsOf 23 = .ok (.iaload, 1) := by decide +kernel
theorem dX9_kindsOf_24 : decode cX9_kindsOf 24 = .ok (.if_icmp .ge 84, 3) := by decide +kernel
theorem dX9_kindsOf_27 : decode cX9_kindsOf 27 = .ok (.bipush 36, 2) := by decide +kernel
theorem dX9_kindsOf_29 : decode cX9_kindsOf 29 = .ok (.iconst 5, 1) := by decide +kernel
theorem dX9_kindsOf_30 : decode cX9_kindsOf 30 = .ok (.iload 5, 2) := by decide +kernel
theorem dX9_kindsOf_32 : decode cX9_kindsOf 32 = .ok (.imul, 1) := by decide +kernel
theorem dX9_kindsOf_33 : decode cX9_kindsOf 33 = .ok (.iadd, 1) := by decide +kernel
theorem dX9_kindsOf_34 : decode cX9_kindsOf 34 = .ok (.istore 6, 2) := by decide +kernel
theorem dX9_kindsOf_36 : decode cX9_kindsOf 36 = .ok (.iload 4, 2) := by decide +kernel
theorem dX9_kindsOf_38 : decode cX9_kindsOf 38 = .ok (.ifCond .eq 61, 3) := by decide +kernel
theorem dX9_kindsOf_41 : decode cX9_kindsOf 41 = .ok (.aload_n 0, 1) := by decide +kernel
theorem dX9_kindsOf_42 : decode cX9_kindsOf 42 = .ok (.getfield 7, 3) := by decide +kernel
theorem dX9_kindsOf_45 : decode cX9_kindsOf 45 = .ok (.iload 6, 2) := by decide +kernel
theorem dX9_kindsOf_47 : decode cX9_kindsOf 47 = .ok (.iaload, 1) := by decide +kernel
theorem dX9_kindsOf_48 : decode cX9_kindsOf 48 = .ok (.iload_n 1, 1) := by decide +kernel
theorem dX9_kindsOf_49 : decode cX9_kindsOf 49 = .ok (.if_icmp .ne 46, 3) := by decide +kernel
theorem dX9_kindsOf_52 : decode cX9_kindsOf 52 = .ok (.iload_n 3, 1) := by decide +kernel
theorem dX9_kindsOf_53 : decode cX9_kindsOf 53 = .ok (.aload_n 0, 1) := by decide +kernel
theorem dX9_kindsOf_54 : decode cX9_kindsOf 54 = .ok (.getfield 7, 3) := by decide +kernel
theorem dX9_kindsOf_57 : decode cX9_kindsOf 57 = .ok (.iload 6, 2) := by decide +kernel
theorem dX9_kindsOf_59 : decode cX9_kindsOf 59 = .ok (.iconst 1, 1) := by decide +kernel
theorem dX9_kindsOf_60 : decode cX9_kindsOf 60 = .ok (.iadd, 1) := by decide +kernel
theorem dX9_kindsOf_61 : decode cX9_kindsOf 61 = .ok (.iaload, 1) := by decide +kernel
theorem dX9_kindsOf_62 : decode cX9_kindsOf 62 = .ok (.aload_n 0, 1) := by decide +kernel
theorem dX9_kindsOf_63 : decode cX9_kindsOf 63 = .ok (.getfield 7, 3) := by decide +kernel
theorem dX9_kindsOf_66 : decode cX9_kindsOf 66 = .ok (.iload 6, 2) := by decide +kernel
theorem dX9_kindsOf_68 : decode cX9_kindsOf 68 = .ok (.iconst 2, 1) := by decide +kernel
theorem dX9_kindsOf_69 : decode cX9_kindsOf 69 = .ok (.iadd, 1) := by decide +kernel
theorem dX9_kindsOf_70 : decode cX9_kindsOf 70 = .ok (.iaload, 1) := by decide +kernel
theorem dX9_kindsOf_71 : decode cX9_kindsOf 71 = .ok (.aload_n 0, 1) := by decide +kernel
theorem dX9_kindsOf_72 : decode cX9_kindsOf 72 = .ok (.getfield 7, 3) := by decide +kernel
theorem dX9_kindsOf_75 : decode cX9_kindsOf 75 = .ok (.iload 6, 2) := by decide +kernel
theorem dX9_kindsOf_77 : decode cX9_kindsOf 77 = .ok (.iconst 3, 1) := by decide +kernel
theorem dX9_kindsOf_78 : decode cX9_kindsOf 78 = .ok (.iadd, 1) := by decide +kernel
theorem dX9_kindsOf_79 : decode cX9_kindsOf 79 = .ok (.iaload, 1) := by decide +kernel
theorem dX9_kindsOf_80 : decode cX9_kindsOf 80 = .ok (.invokestatic 106, 3) := by decide +kernel
theorem dX9_kindsOf_83 : decode cX9_kindsOf 83 = .ok (.aload_n 0, 1) := by decide +kernel
theorem dX9_kindsOf_84 : decode cX9_kindsOf 84 = .ok (.getfield 7, 3) := by decide +kernel
theorem dX9_kindsOf_87 : decode cX9_kindsOf 87 = .ok (.iload 6, 2) := by decide +kernel
theorem dX9_kindsOf_89 : decode cX9_kindsOf 89 = .ok (.iconst 4, 1) := by decide +kernel
theorem dX9_kindsOf_90 : decode cX9_kindsOf 90 = .ok (.iadd, 1) := by decide +kernel
theorem dX9_kindsOf_91 : decode cX9_kindsOf 91 = .ok (.iaload, 1) := by decide +kernel
theorem dX9_kindsOf_92 : decode cX9_kindsOf 92 = .ok (.if_icmp .ne 7, 3) := by decide +kernel
theorem dX9_kindsOf_95 : decode cX9_kindsOf 95 = .ok (.iconst 1, 1) := by decide +kernel
theorem dX9_kindsOf_96 : decode cX9_kindsOf 96 = .ok (.goto 4, 3) := by decide +kernel
theorem dX9_kindsOf_99 : decode cX9_kindsOf 99 = .ok (.iconst 0, 1) := by decide +kernel
theorem dX9_kindsOf_100 : decode cX9_kindsOf 100 = .ok (.istore 4, 2) := by decide +kernel
theorem dX9_kindsOf_102 : decode cX9_kindsOf 102 = .ok (.iinc 5 1, 3) := by decide +kernel
theorem dX9_kindsOf_105 : decode cX9_kindsOf 105 = .ok (.goto (-89), 3) := by decide +kernel
theorem dX9_kindsOf_108 : decode cX9_kindsOf 108 = .ok (.iload_n 2, 1) := by decide +kernel
theorem dX9_kindsOf_109 : decode cX9_kindsOf 109 = .ok (.iload 4, 2) := by decide +kernel
theorem dX9_kindsOf_111 : decode cX9_kindsOf 111 = .ok (.ifCond .eq 9, 3) := by decide +kernel
theorem dX9_kindsOf_114 : decode cX9_kindsOf 114 = .ok (.iconst 1, 1) := by decide +kernel
theorem dX9_kindsOf_115 : decode cX9_kindsOf 115 = .ok (.iload_n 3, 1) := by decide +kernel
theorem dX9_kindsOf_116 : decode cX9_kindsOf 116 = .ok (.ishl, 1) := by decide +kernel
theorem dX9_kindsOf_117 : decode cX9_kindsOf 117 = .ok (.goto 4, 3) := by decide +kernel
theorem dX9_kindsOf_120 : decode cX9_kindsOf 120 = .ok (.iconst 0, 1) := by decide +kernel
theorem dX9_kindsOf_121 : decode cX9_kindsOf 121 = .ok (.ior, 1) := by decide +kernel
theorem dX9_kindsOf_122 : decode cX9_kindsOf 122 = .ok (.istore_n 2, 1) := by decide +kernel
theorem dX9_kindsOf_123 : decode cX9_kindsOf 123 = .ok (.iinc 3 1, 3) := by decide +kernel
theorem dX9_kindsOf_126 : decode cX9_kindsOf 126 = .ok (.goto (-122), 3) := by decide +kernel
theorem dX9_kindsOf_129 : decode cX9_kindsOf 129 = .ok (.iload_n 2, 1) := by decide +kernel
theorem dX9_kindsOf_130 : decode cX9_kindsOf 130 = .ok (.ireturn, 1) := by decide +kernel
set_option maxRecDepth 20000 in
theorem ggX9_kindsOfCounsel_X9_countsAs : GoodIn wsX9_kindsOfCounsel wsX9_countsAs := goodIn_r _ [5] (by decide +kernel) (by decide +kernel)
set_option maxRecDepth 20000 in
theorem gX9_kindsOfCounsel_X9_countsAs : GoodIn wsX9_kindsOfCounsel (va_wsS RX9 110 yX9_countsAs wsX9_countsAs) := goodIn_app (goodIn_of _ (by decide +kernel)) ggX9_kindsOfCounsel_X9_countsAs
theorem dX9_kindsOfCounsel_0 : decode cX9_kindsOfCounsel 0 = .ok (.iconst 0, 1) := by decide +kernel
theorem dX9_kindsOfCounsel_1 : decode cX9_kindsOfCounsel 1 = .ok (.istore_n 2, 1) := by decide +kernel
theorem dX9_kindsOfCounsel_2 : decode cX9_kindsOfCounsel 2 = .ok (.iconst 0, 1) := by decide +kernel
theorem dX9_kindsOfCounsel_3 : decode cX9_kindsOfCounsel 3 = .ok (.istore_n 3, 1) := by decide +kernel
theorem dX9_kindsOfCounsel_4 : decode cX9_kindsOfCounsel 4 = .ok (.iload_n 3, 1) := by decide +kernel
theorem dX9_kindsOfCounsel_5 : decode cX9_kindsOfCounsel 5 = .ok (.bipush 6, 2) := by decide +kernel
theorem dX9_kindsOfCounsel_7 : decode cX9_kindsOfCounsel 7 = .ok (.if_icmp .ge 113, 3) := by decide +kernel
theorem dX9_kindsOfCounsel_10 : decode cX9_kindsOfCounsel 10 = .ok (.iconst 1, 1) := by decide +kernel
theorem dX9_kindsOfCounsel_11 : decode cX9_kindsOfCounsel 11 = .ok (.istore 4, 2) := by decide +kernel
theorem dX9_kindsOfCounsel_13 : decode cX9_kindsOfCounsel 13 = .ok (.iconst 0, 1) := by decide +kernel
theorem dX9_kindsOfCounsel_14 : decode cX9_kindsOfCounsel 14 = .ok (.istore 5, 2) := by decide +kernel
theorem dX9_kindsOfCounsel_16 : decode cX9_kindsOfCounsel 16 = .ok (.iload 5, 2) := by decide +kernel
theorem dX9_kindsOfCounsel_18 : decode cX9_kindsOfCounsel 18 = .ok (.aload_n 0, 1) := by decide +kernel
theorem dX9_kindsOfCounsel_19 : decode cX9_kindsOfCounsel 19 = .ok (.getfield 7, 3) := by decide +kernel
theorem dX9_kindsOfCounsel_22 : decode cX9_kindsOfCounsel 22 = .ok (.iconst 3, 1) := by decide +kernel
theorem dX9_kindsOfCounsel_23 : decode cX9_kindsOfCounsel 23 = .ok (.iaload, 1) := by decide +kernel
theorem dX9_kindsOfCounsel_24 : decode cX9_kindsOfCounsel 24 = .ok (.if_icmp .ge 75, 3) := by decide +kernel
theorem dX9_kindsOfCounsel_27 : decode cX9_kindsOfCounsel 27 = .ok (.bipush 66, 2) := by decide +kernel
theorem dX9_kindsOfCounsel_29 : decode cX9_kindsOfCounsel 29 = .ok (.iconst 4, 1) := by decide +kernel
theorem dX9_kindsOfCounsel_30 : decode cX9_kindsOfCounsel 30 = .ok (.iload 5, 2) := by decide +kernel
theorem dX9_kindsOfCounsel_32 : decode cX9_kindsOfCounsel 32 = .ok (.imul, 1) := by decide +kernel
theorem dX9_kindsOfCounsel_33 : decode cX9_kindsOfCounsel 33 = .ok (.iadd, 1) := by decide +kernel
theorem dX9_kindsOfCounsel_34 : decode cX9_kindsOfCounsel 34 = .ok (.istore 6, 2) := by decide +kernel
theorem dX9_kindsOfCounsel_36 : decode cX9_kindsOfCounsel 36 = .ok (.iload 4, 2) := by decide +kernel
theorem dX9_kindsOfCounsel_38 : decode cX9_kindsOfCounsel 38 = .ok (.ifCond .eq 52, 3) := by decide +kernel
theorem dX9_kindsOfCounsel_41 : decode cX9_kindsOfCounsel 41 = .ok (.aload_n 0, 1) := by decide +kernel
theorem dX9_kindsOfCounsel_42 : decode cX9_kindsOfCounsel 42 = .ok (.getfield 7, 3) := by decide +kernel
theorem dX9_kindsOfCounsel_45 : decode cX9_kindsOfCounsel 45 = .ok (.iload 6, 2) := by decide +kernel
theorem dX9_kindsOfCounsel_47 : decode cX9_kindsOfCounsel 47 = .ok (.iaload, 1) := by decide +kernel
theorem dX9_kindsOfCounsel_48 : decode cX9_kindsOfCounsel 48 = .ok (.iload_n 1, 1) := by decide +kernel
theorem dX9_kindsOfCounsel_49 : decode cX9_kindsOfCounsel 49 = .ok (.if_icmp .ne 37, 3) := by decide +kernel
theorem dX9_kindsOfCounsel_52 : decode cX9_kindsOfCounsel 52 = .ok (.iload_n 3, 1) := by decide +kernel
theorem dX9_kindsOfCounsel_53 : decode cX9_kindsOfCounsel 53 = .ok (.aload_n 0, 1) := by decide +kernel
theorem dX9_kindsOfCounsel_54 : decode cX9_kindsOfCounsel 54 = .ok (.getfield 7, 3) := by decide +kernel
theorem dX9_kindsOfCounsel_57 : decode cX9_kindsOfCounsel 57 = .ok (.iload 6, 2) := by decide +kernel
theorem dX9_kindsOfCounsel_59 : decode cX9_kindsOfCounsel 59 = .ok (.iconst 1, 1) := by decide +kernel
theorem dX9_kindsOfCounsel_60 : decode cX9_kindsOfCounsel 60 = .ok (.iadd, 1) := by decide +kernel
theorem dX9_kindsOfCounsel_61 : decode cX9_kindsOfCounsel 61 = .ok (.iaload, 1) := by decide +kernel
theorem dX9_kindsOfCounsel_62 : decode cX9_kindsOfCounsel 62 = .ok (.aload_n 0, 1) := by decide +kernel
theorem dX9_kindsOfCounsel_63 : decode cX9_kindsOfCounsel 63 = .ok (.getfield 7, 3) := by decide +kernel
theorem dX9_kindsOfCounsel_66 : decode cX9_kindsOfCounsel 66 = .ok (.iload 6, 2) := by decide +kernel
theorem dX9_kindsOfCounsel_68 : decode cX9_kindsOfCounsel 68 = .ok (.iconst 2, 1) := by decide +kernel
theorem dX9_kindsOfCounsel_69 : decode cX9_kindsOfCounsel 69 = .ok (.iadd, 1) := by decide +kernel
theorem dX9_kindsOfCounsel_70 : decode cX9_kindsOfCounsel 70 = .ok (.iaload, 1) := by decide +kernel
theorem dX9_kindsOfCounsel_71 : decode cX9_kindsOfCounsel 71 = .ok (.invokestatic 110, 3) := by decide +kernel
theorem dX9_kindsOfCounsel_74 : decode cX9_kindsOfCounsel 74 = .ok (.aload_n 0, 1) := by decide +kernel
theorem dX9_kindsOfCounsel_75 : decode cX9_kindsOfCounsel 75 = .ok (.getfield 7, 3) := by decide +kernel
theorem dX9_kindsOfCounsel_78 : decode cX9_kindsOfCounsel 78 = .ok (.iload 6, 2) := by decide +kernel
theorem dX9_kindsOfCounsel_80 : decode cX9_kindsOfCounsel 80 = .ok (.iconst 3, 1) := by decide +kernel
theorem dX9_kindsOfCounsel_81 : decode cX9_kindsOfCounsel 81 = .ok (.iadd, 1) := by decide +kernel
theorem dX9_kindsOfCounsel_82 : decode cX9_kindsOfCounsel 82 = .ok (.iaload, 1) := by decide +kernel
theorem dX9_kindsOfCounsel_83 : decode cX9_kindsOfCounsel 83 = .ok (.if_icmp .ne 7, 3) := by decide +kernel
theorem dX9_kindsOfCounsel_86 : decode cX9_kindsOfCounsel 86 = .ok (.iconst 1, 1) := by decide +kernel
theorem dX9_kindsOfCounsel_87 : decode cX9_kindsOfCounsel 87 = .ok (.goto 4, 3) := by decide +kernel
theorem dX9_kindsOfCounsel_90 : decode cX9_kindsOfCounsel 90 = .ok (.iconst 0, 1) := by decide +kernel
theorem dX9_kindsOfCounsel_91 : decode cX9_kindsOfCounsel 91 = .ok (.istore 4, 2) := by decide +kernel
theorem dX9_kindsOfCounsel_93 : decode cX9_kindsOfCounsel 93 = .ok (.iinc 5 1, 3) := by decide +kernel
theorem dX9_kindsOfCounsel_96 : decode cX9_kindsOfCounsel 96 = .ok (.goto (-80), 3) := by decide +kernel
theorem dX9_kindsOfCounsel_99 : decode cX9_kindsOfCounsel 99 = .ok (.iload_n 2, 1) := by decide +kernel
theorem dX9_kindsOfCounsel_100 : decode cX9_kindsOfCounsel 100 = .ok (.iload 4, 2) := by decide +kernel
theorem dX9_kindsOfCounsel_102 : decode cX9_kindsOfCounsel 102 = .ok (.ifCond .eq 9, 3) := by decide +kernel
theorem dX9_kindsOfCounsel_105 : decode cX9_kindsOfCounsel 105 = .ok (.iconst 1, 1) := by decide +kernel
theorem dX9_kindsOfCounsel_106 : decode cX9_kindsOfCounsel 106 = .ok (.iload_n 3, 1) := by decide +kernel
theorem dX9_kindsOfCounsel_107 : decode cX9_kindsOfCounsel 107 = .ok (.ishl, 1) := by decide +kernel
theorem dX9_kindsOfCounsel_108 : decode cX9_kindsOfCounsel 108 = .ok (.goto 4, 3) := by decide +kernel
theorem dX9_kindsOfCounsel_111 : decode cX9_kindsOfCounsel 111 = .ok (.iconst 0, 1) := by decide +kernel
theorem dX9_kindsOfCounsel_112 : decode cX9_kindsOfCounsel 112 = .ok (.ior, 1) := by decide +kernel
theorem dX9_kindsOfCounsel_113 : decode cX9_kindsOfCounsel 113 = .ok (.istore_n 2, 1) := by decide +kernel
theorem dX9_kindsOfCounsel_114 : decode cX9_kindsOfCounsel 114 = .ok (.iinc 3 1, 3) := by decide +kernel
theorem dX9_kindsOfCounsel_117 : decode cX9_kindsOfCounsel 117 = .ok (.goto (-113), 3) := by decide +kernel
theorem dX9_kindsOfCounsel_120 : decode cX9_kindsOfCounsel 120 = .ok (.iload_n 2, 1) := by decide +kernel
theorem dX9_kindsOfCounsel_121 : decode cX9_kindsOfCounsel 121 = .ok (.ireturn, 1) := by decide +kernel
set_option maxRecDepth 20000 in
theorem ggX9_is_X9_isPoint : GoodIn wsX9_is wsX9_isPoint := goodIn_r _ [5, 6, 7, 8, 4, 9, 10, 11, 12, 13, 26, 27, 28, 29, 30, 31, 32, 33, 34, 35, 36, 37, 38, 39, 40, 41, 42, 43, 44, 45, 46, 47, 48, 49, 50, 51, 52, 53] (by decide +kernel) (by decide +kernel)
set_option maxRecDepth 20000 in
theorem gX9_is_X9_isPoint : GoodIn wsX9_is (wsV RX9 117 RX9 yX9_isPoint wsX9_isPoint) := goodIn_app (goodIn_of _ (by decide +kernel)) ggX9_is_X9_isPoint
set_option maxRecDepth 20000 in
theorem ggX9_is_X9_kindsOf : GoodIn wsX9_is wsX9_kindsOf := goodIn_r _ [17, 10, 18, 19, 4, 20, 26, 27, 28, 29, 30, 31, 32, 33, 34, 35, 36, 37, 38, 39, 40, 41, 42, 43, 44, 45, 46, 47, 48, 49, 50, 51, 52, 53] (by decide +kernel) (by decide +kernel)
set_option maxRecDepth 20000 in
theorem gX9_is_X9_kindsOf : GoodIn wsX9_is (wsV RX9 225 RX9 yX9_kindsOf wsX9_kindsOf) := goodIn_app (goodIn_of _ (by decide +kernel)) ggX9_is_X9_kindsOf
set_option maxRecDepth 20000 in
theorem ggX9_is_X9_bad : GoodIn wsX9_is wsX9_bad := goodIn_r _ [24, 25, 26, 27, 28, 29, 30, 31, 32, 33, 34, 35, 36, 37, 38, 39, 40, 41, 42, 43, 44, 45, 46, 47, 48, 49, 50, 51, 52, 53] (by decide +kernel) (by decide +kernel)
set_option maxRecDepth 20000 in
theorem gX9_is_X9_bad : GoodIn wsX9_is (wsV RX9 84 RX9 yX9_bad wsX9_bad) := goodIn_app (goodIn_of _ (by decide +kernel)) ggX9_is_X9_bad
theorem dX9_is_0 : decode cX9_is 0 = .ok (.aload_n 0, 1) := by decide +kernel
theorem dX9_is_1 : decode cX9_is 1 = .ok (.iload_n 1, 1) := by decide +kernel
theorem dX9_is_2 : decode cX9_is 2 = .ok (.invokevirtual 117, 3) := by decide +kernel
theorem dX9_is_5 : decode cX9_is 5 = .ok (.ifCond .eq 11, 3) := by decide +kernel
theorem dX9_is_8 : decode cX9_is 8 = .ok (.aload_n 0, 1) := by decide +kernel
theorem dX9_is_9 : decode cX9_is 9 = .ok (.iload_n 1, 1) := by decide +kernel
theorem dX9_is_10 : decode cX9_is 10 = .ok (.invokevirtual 225, 3) := by decide +kernel
theorem dX9_is_13 : decode cX9_is 13 = .ok (.goto 9, 3) := by decide +kernel
theorem dX9_is_16 : decode cX9_is 16 = .ok (.aload_n 0, 1) := by decide +kernel
theorem dX9_is_17 : decode cX9_is 17 = .ok (.bipush (-2), 2) := by decide +kernel
theorem dX9_is_19 : decode cX9_is 19 = .ok (.invokevirtual 84, 3) := by decide +kernel
theorem dX9_is_22 : decode cX9_is 22 = .ok (.ireturn, 1) := by decide +kernel
set_option maxRecDepth 20000 in
theorem ggX9_kinds_X9_isCounsel : GoodIn wsX9_kinds wsX9_isCounsel := goodIn_r _ [4, 5, 6, 3, 7] (by decide +kernel) (by decide +kernel)
set_option maxRecDepth 20000 in
theorem gX9_kinds_X9_isCounsel : GoodIn wsX9_kinds (va_wsS RX9 88 yX9_isCounsel wsX9_isCounsel) := goodIn_app (goodIn_of _ (by decide +kernel)) ggX9_kinds_X9_isCounsel
set_option maxRecDepth 20000 in
theorem ggX9_kinds_X9_kindsOfCounsel : GoodIn wsX9_kinds wsX9_kindsOfCounsel := goodIn_r _ [11, 12, 13, 14, 3, 15, 21, 22, 23, 24, 25, 26, 27, 28, 29, 30, 31, 32, 33, 34, 35, 36, 37, 38, 39, 40, 41, 42, 43, 44, 45, 46, 47, 48] (by decide +kernel) (by decide +kernel)
set_option maxRecDepth 20000 in
theorem gX9_kinds_X9_kindsOfCounsel : GoodIn wsX9_kinds (wsV RX9 228 RX9 yX9_kindsOfCounsel wsX9_kindsOfCounsel) := goodIn_app (goodIn_of _ (by decide +kernel)) ggX9_kinds_X9_kindsOfCounsel
set_option maxRecDepth 20000 in
theorem ggX9_kinds_X9_bad : GoodIn wsX9_kinds wsX9_bad := goodIn_r _ [19, 20, 21, 22, 23, 24, 25, 26, 27, 28, 29, 30, 31, 32, 33, 34, 35, 36, 37, 38, 39, 40, 41, 42, 43, 44, 45, 46, 47, 48] (by decide +kernel) (by decide +kernel)
set_option maxRecDepth 20000 in
theorem gX9_kinds_X9_bad : GoodIn wsX9_kinds (wsV RX9 84 RX9 yX9_bad wsX9_bad) := goodIn_app (goodIn_of _ (by decide +kernel)) ggX9_kinds_X9_bad
theorem dX9_kinds_0 : decode cX9_kinds 0 = .ok (.iload_n 1, 1) := by decide +kernel
theorem dX9_kinds_1 : decode cX9_kinds 1 = .ok (.invokestatic 88, 3) := by decide +kernel
theorem dX9_kinds_4 : decode cX9_kinds 4 = .ok (.ifCond .eq 11, 3) := by decide +kernel
theorem dX9_kinds_7 : decode cX9_kinds 7 = .ok (.aload_n 0, 1) := by decide +kernel
theorem dX9_kinds_8 : decode cX9_kinds 8 = .ok (.iload_n 1, 1) := by decide +kernel
theorem dX9_kinds_9 : decode cX9_kinds 9 = .ok (.invokevirtual 228, 3) := by decide +kernel
theorem dX9_kinds_12 : decode cX9_kinds 12 = .ok (.goto 9, 3) := by decide +kernel
theorem dX9_kinds_15 : decode cX9_kinds 15 = .ok (.aload_n 0, 1) := by decide +kernel
theorem dX9_kinds_16 : decode cX9_kinds 16 = .ok (.bipush (-2), 2) := by decide +kernel
theorem dX9_kinds_18 : decode cX9_kinds 18 = .ok (.invokevirtual 84, 3) := by decide +kernel
theorem dX9_kinds_21 : decode cX9_kinds 21 = .ok (.ireturn, 1) := by decide +kernel
set_option maxRecDepth 20000 in
theorem ggX9_mostAlike_X9_has : GoodIn wsX9_mostAlike wsX9_has := goodIn_r _ [5] (by decide +kernel) (by decide +kernel)
set_option maxRecDepth 20000 in
theorem gX9_mostAlike_X9_has : GoodIn wsX9_mostAlike (va_wsS RX9 120 yX9_has wsX9_has) := goodIn_app (goodIn_of _ (by decide +kernel)) ggX9_mostAlike_X9_has
theorem dX9_mostAlike_0 : decode cX9_mostAlike 0 = .ok (.iconst 0, 1) := by decide +kernel
theorem dX9_mostAlike_1 : decode cX9_mostAlike 1 = .ok (.istore_n 2, 1) := by decide +kernel
theorem dX9_mostAlike_2 : decode cX9_mostAlike 2 = .ok (.iconst 0, 1) := by decide +kernel
theorem dX9_mostAlike_3 : decode cX9_mostAlike 3 = .ok (.istore_n 3, 1) := by decide +kernel
theorem dX9_mostAlike_4 : decode cX9_mostAlike 4 = .ok (.iload_n 3, 1) := by decide +kernel
theorem dX9_mostAlike_5 : decode cX9_mostAlike 5 = .ok (.bipush 6, 2) := by decide +kernel
theorem dX9_mostAlike_7 : decode cX9_mostAlike 7 = .ok (.if_icmp .ge 84, 3) := by decide +kernel
theorem dX9_mostAlike_10 : decode cX9_mostAlike 10 = .ok (.iconst 0, 1) := by decide +kernel
theorem dX9_mostAlike_11 : decode cX9_mostAlike 11 = .ok (.istore 4, 2) := by decide +kernel
theorem dX9_mostAlike_13 : decode cX9_mostAlike 13 = .ok (.iconst 0, 1) := by decide +kernel
theorem dX9_mostAlike_14 : decode cX9_mostAlike 14 = .ok (.istore 5, 2) := by decide +kernel
theorem dX9_mostAlike_16 : decode cX9_mostAlike 16 = .ok (.iload 5, 2) := by decide +kernel
theorem dX9_mostAlike_18 : decode cX9_mostAlike 18 = .ok (.bipush 6, 2) := by decide +kernel
theorem dX9_mostAlike_20 : decode cX9_mostAlike 20 = .ok (.if_icmp .ge 52, 3) := by decide +kernel
theorem dX9_mostAlike_23 : decode cX9_mostAlike 23 = .ok (.iload_n 1, 1) := by decide +kernel
theorem dX9_mostAlike_24 : decode cX9_mostAlike 24 = .ok (.iload_n 3, 1) := by decide +kernel
theorem dX9_mostAlike_25 : decode cX9_mostAlike 25 = .ok (.invokestatic 120, 3) := by decide +kernel
theorem dX9_mostAlike_28 : decode cX9_mostAlike 28 = .ok (.ifCond .eq 44, 3) := by decide +kernel
theorem dX9_mostAlike_31 : decode cX9_mostAlike 31 = .ok (.iload 4, 2) := by decide +kernel
theorem dX9_mostAlike_33 : decode cX9_mostAlike 33 = .ok (.iload_n 1, 1) := by decide +kernel
theorem dX9_mostAlike_34 : decode cX9_mostAlike 34 = .ok (.iload 5, 2) := by decide +kernel
theorem dX9_mostAlike_36 : decode cX9_mostAlike 36 = .ok (.invokestatic 120, 3) := by decide +kernel
theorem dX9_mostAlike_39 : decode cX9_mostAlike 39 = .ok (.ifCond .eq 23, 3) := by decide +kernel
theorem dX9_mostAlike_42 : decode cX9_mostAlike 42 = .ok (.aload_n 0, 1) := by decide +kernel
theorem dX9_mostAlike_43 : decode cX9_mostAlike 43 = .ok (.getfield 54, 3) := by decide +kernel
theorem dX9_mostAlike_46 : decode cX9_mostAlike 46 = .ok (.iload_n 3, 1) := by decide +kernel
theorem dX9_mostAlike_47 : decode cX9_mostAlike 47 = .ok (.iaload, 1) := by decide +kernel
theorem dX9_mostAlike_48 : decode cX9_mostAlike 48 = .ok (.aload_n 0, 1) := by decide +kernel
theorem dX9_mostAlike_49 : decode cX9_mostAlike 49 = .ok (.getfield 54, 3) := by decide +kernel
theorem dX9_mostAlike_52 : decode cX9_mostAlike 52 = .ok (.iload 5, 2) := by decide +kernel
theorem dX9_mostAlike_54 : decode cX9_mostAlike 54 = .ok (.iaload, 1) := by decide +kernel
theorem dX9_mostAlike_55 : decode cX9_mostAlike 55 = .ok (.if_icmp .ne 7, 3) := by decide +kernel
theorem dX9_mostAlike_58 : decode cX9_mostAlike 58 = .ok (.iconst 1, 1) := by decide +kernel
theorem dX9_mostAlike_59 : decode cX9_mostAlike 59 = .ok (.goto 4, 3) := by decide +kernel
theorem dX9_mostAlike_62 : decode cX9_mostAlike 62 = .ok (.iconst 0, 1) := by decide +kernel
theorem dX9_mostAlike_63 : decode cX9_mostAlike 63 = .ok (.iadd, 1) := by decide +kernel
theorem dX9_mostAlike_64 : decode cX9_mostAlike 64 = .ok (.istore 4, 2) := by decide +kernel
theorem dX9_mostAlike_66 : decode cX9_mostAlike 66 = .ok (.iinc 5 1, 3) := by decide +kernel
theorem dX9_mostAlike_69 : decode cX9_mostAlike 69 = .ok (.goto (-53), 3) := by decide +kernel
theorem dX9_mostAlike_72 : decode cX9_mostAlike 72 = .ok (.iload 4, 2) := by decide +kernel
theorem dX9_mostAlike_74 : decode cX9_mostAlike 74 = .ok (.iload_n 2, 1) := by decide +kernel
theorem dX9_mostAlike_75 : decode cX9_mostAlike 75 = .ok (.if_icmp .le 8, 3) := by decide +kernel
theorem dX9_mostAlike_78 : decode cX9_mostAlike 78 = .ok (.iload 4, 2) := by decide +kernel
theorem dX9_mostAlike_80 : decode cX9_mostAlike 80 = .ok (.goto 4, 3) := by decide +kernel
theorem dX9_mostAlike_83 : decode cX9_mostAlike 83 = .ok (.iload_n 2, 1) := by decide +kernel
theorem dX9_mostAlike_84 : decode cX9_mostAlike 84 = .ok (.istore_n 2, 1) := by decide +kernel
theorem dX9_mostAlike_85 : decode cX9_mostAlike 85 = .ok (.iinc 3 1, 3) := by decide +kernel
theorem dX9_mostAlike_88 : decode cX9_mostAlike 88 = .ok (.goto (-84), 3) := by decide +kernel
theorem dX9_mostAlike_91 : decode cX9_mostAlike 91 = .ok (.iload_n 2, 1) := by decide +kernel
theorem dX9_mostAlike_92 : decode cX9_mostAlike 92 = .ok (.ireturn, 1) := by decide +kernel
set_option maxRecDepth 20000 in
theorem ggX9_look_X9_isPoint : GoodIn wsX9_look wsX9_isPoint := goodIn_r _ [8, 9, 10, 11, 7, 12, 3, 13, 14, 15, 35, 36, 37, 38, 39, 40, 41, 42, 43, 44, 45, 46, 47, 48, 49, 50, 51, 52, 53, 54, 55, 56, 57, 58, 59, 60, 61, 62] (by decide +kernel) (by decide +kernel)
set_option maxRecDepth 20000 in
theorem gX9_look_X9_isPoint : GoodIn wsX9_look (wsV RX9 117 RX9 yX9_isPoint wsX9_isPoint) := goodIn_app (goodIn_of _ (by decide +kernel)) ggX9_look_X9_isPoint
set_option maxRecDepth 20000 in
theorem ggX9_look_X9_bad : GoodIn wsX9_look wsX9_bad := goodIn_r _ [19, 20, 35, 36, 37, 38, 39, 40, 41, 42, 43, 44, 45, 46, 47, 48, 49, 50, 51, 52, 53, 54, 55, 56, 57, 58, 59, 60, 61, 62] (by decide +kernel) (by decide +kernel)
set_option maxRecDepth 20000 in
theorem gX9_look_X9_bad : GoodIn wsX9_look (wsV RX9 84 RX9 yX9_bad wsX9_bad) := goodIn_app (goodIn_of _ (by decide +kernel)) ggX9_look_X9_bad
set_option maxRecDepth 20000 in
theorem ggX9_look_X9_kindsOf : GoodIn wsX9_look wsX9_kindsOf := goodIn_r _ [24, 3, 25, 26, 7, 27, 35, 36, 37, 38, 39, 40, 41, 42, 43, 44, 45, 46, 47, 48, 49, 50, 51, 52, 53, 54, 55, 56, 57, 58, 59, 60, 61, 62] (by decide +kernel) (by decide +kernel)
set_option maxRecDepth 20000 in
theorem gX9_look_X9_kindsOf : GoodIn wsX9_look (wsV RX9 225 RX9 yX9_kindsOf wsX9_kindsOf) := goodIn_app (goodIn_of _ (by decide +kernel)) ggX9_look_X9_kindsOf
set_option maxRecDepth 20000 in
theorem ggX9_look_X9_movesAs : GoodIn wsX9_look wsX9_movesAs := goodIn_r _ [27] (by decide +kernel) (by decide +kernel)
set_option maxRecDepth 20000 in
theorem gX9_look_X9_movesAs : GoodIn wsX9_look (va_wsS RX9 106 yX9_movesAs wsX9_movesAs) := goodIn_app (goodIn_of _ (by decide +kernel)) ggX9_look_X9_movesAs
set_option maxRecDepth 20000 in
theorem ggX9_look_X9_mostAlike : GoodIn wsX9_look wsX9_mostAlike := goodIn_r _ [31, 2, 32, 33, 7, 34, 35, 36, 37, 38, 39, 40, 41, 42, 43, 44, 45, 46, 47, 48, 49, 50, 51, 52, 53, 54, 55, 56, 57, 58, 59, 60, 61, 62] (by decide +kernel) (by decide +kernel)
set_option maxRecDepth 20000 in
theorem gX9_look_X9_mostAlike : GoodIn wsX9_look (wsV RX9 231 RX9 yX9_mostAlike wsX9_mostAlike) := goodIn_app (goodIn_of _ (by decide +kernel)) ggX9_look_X9_mostAlike
theorem dX9_look_0 : decode cX9_look 0 = .ok (.aload_n 0, 1) := by decide +kernel
theorem dX9_look_1 : decode cX9_look 1 = .ok (.iload_n 1, 1) := by decide +kernel
theorem dX9_look_2 : decode cX9_look 2 = .ok (.invokevirtual 117, 3) := by decide +kernel
theorem dX9_look_5 : decode cX9_look 5 = .ok (.ifCond .ne 10, 3) := by decide +kernel
theorem dX9_look_8 : decode cX9_look 8 = .ok (.aload_n 0, 1) := by decide +kernel
theorem dX9_look_9 : decode cX9_look 9 = .ok (.bipush (-2), 2) := by decide +kernel
theorem dX9_look_11 : decode cX9_look 11 = .ok (.invokevirtual 84, 3) := by decide +kernel
theorem dX9_look_14 : decode cX9_look 14 = .ok (.ireturn, 1) := by decide +kernel
theorem dX9_look_15 : decode cX9_look 15 = .ok (.aload_n 0, 1) := by decide +kernel
theorem dX9_look_16 : decode cX9_look 16 = .ok (.iload_n 1, 1) := by decide +kernel
theorem dX9_look_17 : decode cX9_look 17 = .ok (.invokevirtual 225, 3) := by decide +kernel
theorem dX9_look_20 : decode cX9_look 20 = .ok (.istore_n 2, 1) := by decide +kernel
theorem dX9_look_21 : decode cX9_look 21 = .ok (.iconst (-1), 1) := by decide +kernel
theorem dX9_look_22 : decode cX9_look 22 = .ok (.istore_n 3, 1) := by decide +kernel
theorem dX9_look_23 : decode cX9_look 23 = .ok (.ldc 146, 2) := by decide +kernel
theorem dX9_look_25 : decode cX9_look 25 = .ok (.istore 4, 2) := by decide +kernel
theorem dX9_look_27 : decode cX9_look 27 = .ok (.iconst 0, 1) := by decide +kernel
theorem dX9_look_28 : decode cX9_look 28 = .ok (.istore 5, 2) := by decide +kernel
theorem dX9_look_30 : decode cX9_look 30 = .ok (.iload 5, 2) := by decide +kernel
theorem dX9_look_32 : decode cX9_look 32 = .ok (.bipush 6, 2) := by decide +kernel
theorem dX9_look_34 : decode cX9_look 34 = .ok (.if_icmp .ge 116, 3) := by decide +kernel
theorem dX9_look_37 : decode cX9_look 37 = .ok (.iload_n 2, 1) := by decide +kernel
theorem dX9_look_38 : decode cX9_look 38 = .ok (.ifCond .le 112, 3) := by decide +kernel
theorem dX9_look_41 : decode cX9_look 41 = .ok (.iconst 0, 1) := by decide +kernel
theorem dX9_look_42 : decode cX9_look 42 = .ok (.istore 6, 2) := by decide +kernel
theorem dX9_look_44 : decode cX9_look 44 = .ok (.iload 6, 2) := by decide +kernel
theorem dX9_look_46 : decode cX9_look 46 = .ok (.bipush 21, 2) := by decide +kernel
theorem dX9_look_48 : decode cX9_look 48 = .ok (.if_icmp .ge 96, 3) := by decide +kernel
theorem dX9_look_51 : decode cX9_look 51 = .ok (.iconst 0, 1) := by decide +kernel
theorem dX9_look_52 : decode cX9_look 52 = .ok (.istore 7, 2) := by decide +kernel
theorem dX9_look_54 : decode cX9_look 54 = .ok (.iload 7, 2) := by decide +kernel
theorem dX9_look_56 : decode cX9_look 56 = .ok (.bipush 6, 2) := by decide +kernel
theorem dX9_look_58 : decode cX9_look 58 = .ok (.if_icmp .ge 37, 3) := by decide +kernel
theorem dX9_look_61 : decode cX9_look 61 = .ok (.aload_n 0, 1) := by decide +kernel
theorem dX9_look_62 : decode cX9_look 62 = .ok (.getfield 54, 3) := by decide +kernel
theorem dX9_look_65 : decode cX9_look 65 = .ok (.iload 7, 2) := by decide +kernel
theorem dX9_look_67 : decode cX9_look 67 = .ok (.iload 7, 2) := by decide +kernel
theorem dX9_look_69 : decode cX9_look 69 = .ok (.aload_n 0, 1) := by decide +kernel
theorem dX9_look_70 : decode cX9_look 70 = .ok (.getfield 7, 3) := by decide +kernel
theorem dX9_look_73 : decode cX9_look 73 = .ok (.bipush 24, 2) := by decide +kernel
theorem dX9_look_75 : decode cX9_look 75 = .ok (.iload_n 1, 1) := by decide +kernel
theorem dX9_look_76 : decode cX9_look 76 = .ok (.iadd, 1) := by decide +kernel
theorem dX9_look_77 : decode cX9_look 77 = .ok (.iaload, 1) := by decide +kernel
theorem dX9_look_78 : decode cX9_look 78 = .ok (.iload 6, 2) := by decide +kernel
theorem dX9_look_80 : decode cX9_look 80 = .ok (.bipush 10, 2) := by decide +kernel
theorem dX9_look_82 : decode cX9_look 82 = .ok (.isub, 1) := by decide +kernel
theorem dX9_look_83 : decode cX9_look 83 = .ok (.iload 5, 2) := by decide +kernel
theorem dX9_look_85 : decode cX9_look 85 = .ok (.invokestatic 106, 3) := by decide +kernel
theorem dX9_look_88 : decode cX9_look 88 = .ok (.iastore, 1) := by decide +kernel
theorem dX9_look_89 : decode cX9_look 89 = .ok (.iinc 7 1, 3) := by decide +kernel
theorem dX9_look_92 : decode cX9_look 92 = .ok (.goto (-38), 3) := by decide +kernel
theorem dX9_look_95 : decode cX9_look 95 = .ok (.aload_n 0, 1) := by decide +kernel
theorem dX9_look_96 : decode cX9_look 96 = .ok (.iload_n 2, 1) := by decide +kernel
theorem dX9_look_97 : decode cX9_look 97 = .ok (.invokevirtual 231, 3) := by decide +kernel
theorem dX9_look_100 : decode cX9_look 100 = .ok (.istore 7, 2) := by decide +kernel
theorem dX9_look_102 : decode cX9_look 102 = .ok (.iload 7, 2) := by decide +kernel
theorem dX9_look_104 : decode cX9_look 104 = .ok (.iload 4, 2) := by decide +kernel
theorem dX9_look_106 : decode cX9_look 106 = .ok (.if_icmp .ge 14, 3) := by decide +kernel
theorem dX9_look_109 : decode cX9_look 109 = .ok (.bipush 100, 2) := by decide +kernel
theorem dX9_look_111 : decode cX9_look 111 = .ok (.iload 5, 2) := by decide +kernel
theorem dX9_look_113 : decode cX9_look 113 = .ok (.imul, 1) := by decide +kernel
theorem dX9_look_114 : decode cX9_look 114 = .ok (.iload 6, 2) := by decide +kernel
theorem dX9_look_116 : decode cX9_look 116 = .ok (.iadd, 1) := by decide +kernel
theorem dX9_look_117 : decode cX9_look 117 = .ok (.goto 4, 3) := by decide +kernel
theorem dX9_look_120 : decode cX9_look 120 = .ok (.iload_n 3, 1) := by decide +kernel
theorem dX9_look_121 : decode cX9_look 121 = .ok (.istore_n 3, 1) := by decide +kernel
theorem dX9_look_122 : decode cX9_look 122 = .ok (.iload 7, 2) := by decide +kernel
theorem dX9_look_124 : decode cX9_look 124 = .ok (.iload 4, 2) := by decide +kernel
theorem dX9_look_126 : decode cX9_look 126 = .ok (.if_icmp .ge 8, 3) := by decide +kernel
theorem dX9_look_129 : decode cX9_look 129 = .ok (.iload 7, 2) := by decide +kernel
theorem dX9_look_131 : decode cX9_look 131 = .ok (.goto 5, 3) := by decide +kernel
theorem dX9_look_134 : decode cX9_look 134 = .ok (.iload 4, 2) := by decide +kernel
theorem dX9_look_136 : decode cX9_look 136 = .ok (.istore 4, 2) := by decide +kernel
theorem dX9_look_138 : decode cX9_look 138 = .ok (.iinc 6 1, 3) := by decide +kernel
theorem dX9_look_141 : decode cX9_look 141 = .ok (.goto (-97), 3) := by decide +kernel
theorem dX9_look_144 : decode cX9_look 144 = .ok (.iinc 5 1, 3) := by decide +kernel
theorem dX9_look_147 : decode cX9_look 147 = .ok (.goto (-117), 3) := by decide +kernel
theorem dX9_look_150 : decode cX9_look 150 = .ok (.iload_n 3, 1) := by decide +kernel
theorem dX9_look_151 : decode cX9_look 151 = .ok (.ireturn, 1) := by decide +kernel
set_option maxRecDepth 20000 in
theorem ggX9_ask_X9_isCounsel : GoodIn wsX9_ask wsX9_isCounsel := goodIn_r _ [6, 7, 8, 5, 9] (by decide +kernel) (by decide +kernel)
set_option maxRecDepth 20000 in
theorem gX9_ask_X9_isCounsel : GoodIn wsX9_ask (va_wsS RX9 88 yX9_isCounsel wsX9_isCounsel) := goodIn_app (goodIn_of _ (by decide +kernel)) ggX9_ask_X9_isCounsel
set_option maxRecDepth 20000 in
theorem ggX9_ask_X9_bad : GoodIn wsX9_ask wsX9_bad := goodIn_r _ [13, 14, 30, 31, 32, 33, 34, 35, 36, 37, 38, 39, 40, 41, 42, 43, 44, 45, 46, 47, 48, 49, 50, 51, 52, 53, 54, 55, 56, 57] (by decide +kernel) (by decide +kernel)
set_option maxRecDepth 20000 in
theorem gX9_ask_X9_bad : GoodIn wsX9_ask (wsV RX9 84 RX9 yX9_bad wsX9_bad) := goodIn_app (goodIn_of _ (by decide +kernel)) ggX9_ask_X9_bad
set_option maxRecDepth 20000 in
theorem ggX9_ask_X9_kindsOfCounsel : GoodIn wsX9_ask wsX9_kindsOfCounsel := goodIn_r _ [18, 19, 20, 21, 5, 22, 30, 31, 32, 33, 34, 35, 36, 37, 38, 39, 40, 41, 42, 43, 44, 45, 46, 47, 48, 49, 50, 51, 52, 53, 54, 55, 56, 57] (by decide +kernel) (by decide +kernel)
set_option maxRecDepth 20000 in
theorem gX9_ask_X9_kindsOfCounsel : GoodIn wsX9_ask (wsV RX9 228 RX9 yX9_kindsOfCounsel wsX9_kindsOfCounsel) := goodIn_app (goodIn_of _ (by decide +kernel)) ggX9_ask_X9_kindsOfCounsel
set_option maxRecDepth 20000 in
theorem ggX9_ask_X9_countsAs : GoodIn wsX9_ask wsX9_countsAs := goodIn_r _ [22] (by decide +kernel) (by decide +kernel)
set_option maxRecDepth 20000 in
theorem gX9_ask_X9_countsAs : GoodIn wsX9_ask (va_wsS RX9 110 yX9_countsAs wsX9_countsAs) := goodIn_app (goodIn_of _ (by decide +kernel)) ggX9_ask_X9_countsAs
set_option maxRecDepth 20000 in
theorem ggX9_ask_X9_mostAlike : GoodIn wsX9_ask wsX9_mostAlike := goodIn_r _ [26, 2, 27, 28, 5, 29, 30, 31, 32, 33, 34, 35, 36, 37, 38, 39, 40, 41, 42, 43, 44, 45, 46, 47, 48, 49, 50, 51, 52, 53, 54, 55, 56, 57] (by decide +kernel) (by decide +kernel)
set_option maxRecDepth 20000 in
theorem gX9_ask_X9_mostAlike : GoodIn wsX9_ask (wsV RX9 231 RX9 yX9_mostAlike wsX9_mostAlike) := goodIn_app (goodIn_of _ (by decide +kernel)) ggX9_ask_X9_mostAlike
theorem dX9_ask_0 : decode cX9_ask 0 = .ok (.iload_n 1, 1) := by decide +kernel
theorem dX9_ask_1 : decode cX9_ask 1 = .ok (.invokestatic 88, 3) := by decide +kernel
theorem dX9_ask_4 : decode cX9_ask 4 = .ok (.ifCond .ne 10, 3) := by decide +kernel
theorem dX9_ask_7 : decode cX9_ask 7 = .ok (.aload_n 0, 1) := by decide +kernel
theorem dX9_ask_8 : decode cX9_ask 8 = .ok (.bipush (-2), 2) := by decide +kernel
theorem dX9_ask_10 : decode cX9_ask 10 = .ok (.invokevirtual 84, 3) := by decide +kernel
theorem dX9_ask_13 : decode cX9_ask 13 = .ok (.ireturn, 1) := by decide +kernel
theorem dX9_ask_14 : decode cX9_ask 14 = .ok (.aload_n 0, 1) := by decide +kernel
theorem dX9_ask_15 : decode cX9_ask 15 = .ok (.iload_n 1, 1) := by decide +kernel
theorem dX9_ask_16 : decode cX9_ask 16 = .ok (.invokevirtual 228, 3) := by decide +kernel
theorem dX9_ask_19 : decode cX9_ask 19 = .ok (.istore_n 2, 1) := by decide +kernel
theorem dX9_ask_20 : decode cX9_ask 20 = .ok (.iconst (-1), 1) := by decide +kernel
theorem dX9_ask_21 : decode cX9_ask 21 = .ok (.istore_n 3, 1) := by decide +kernel
theorem dX9_ask_22 : decode cX9_ask 22 = .ok (.ldc 146, 2) := by decide +kernel
theorem dX9_ask_24 : decode cX9_ask 24 = .ok (.istore 4, 2) := by decide +kernel
theorem dX9_ask_26 : decode cX9_ask 26 = .ok (.iconst 0, 1) := by decide +kernel
theorem dX9_ask_27 : decode cX9_ask 27 = .ok (.istore 5, 2) := by decide +kernel
theorem dX9_ask_29 : decode cX9_ask 29 = .ok (.iload 5, 2) := by decide +kernel
theorem dX9_ask_31 : decode cX9_ask 31 = .ok (.iconst 2, 1) := by decide +kernel
theorem dX9_ask_32 : decode cX9_ask 32 = .ok (.if_icmp .ge 104, 3) := by decide +kernel
theorem dX9_ask_35 : decode cX9_ask 35 = .ok (.iload_n 2, 1) := by decide +kernel
theorem dX9_ask_36 : decode cX9_ask 36 = .ok (.ifCond .le 100, 3) := by decide +kernel
theorem dX9_ask_39 : decode cX9_ask 39 = .ok (.iconst 0, 1) := by decide +kernel
theorem dX9_ask_40 : decode cX9_ask 40 = .ok (.istore 6, 2) := by decide +kernel
theorem dX9_ask_42 : decode cX9_ask 42 = .ok (.iload 6, 2) := by decide +kernel
theorem dX9_ask_44 : decode cX9_ask 44 = .ok (.bipush 41, 2) := by decide +kernel
theorem dX9_ask_46 : decode cX9_ask 46 = .ok (.if_icmp .ge 84, 3) := by decide +kernel
theorem dX9_ask_49 : decode cX9_ask 49 = .ok (.iconst 0, 1) := by decide +kernel
theorem dX9_ask_50 : decode cX9_ask 50 = .ok (.istore 7, 2) := by decide +kernel
theorem dX9_ask_52 : decode cX9_ask 52 = .ok (.iload 7, 2) := by decide +kernel
theorem dX9_ask_54 : decode cX9_ask 54 = .ok (.bipush 6, 2) := by decide +kernel
theorem dX9_ask_56 : decode cX9_ask 56 = .ok (.if_icmp .ge 25, 3) := by decide +kernel
theorem dX9_ask_59 : decode cX9_ask 59 = .ok (.aload_n 0, 1) := by decide +kernel
theorem dX9_ask_60 : decode cX9_ask 60 = .ok (.getfield 54, 3) := by decide +kernel
theorem dX9_ask_63 : decode cX9_ask 63 = .ok (.iload 7, 2) := by decide +kernel
theorem dX9_ask_65 : decode cX9_ask 65 = .ok (.iload 7, 2) := by decide +kernel
theorem dX9_ask_67 : decode cX9_ask 67 = .ok (.iload 6, 2) := by decide +kernel
theorem dX9_ask_69 : decode cX9_ask 69 = .ok (.iload 5, 2) := by decide +kernel
theorem dX9_ask_71 : decode cX9_ask 71 = .ok (.invokestatic 110, 3) := by decide +kernel
theorem dX9_ask_74 : decode cX9_ask 74 = .ok (.iastore, 1) := by decide +kernel
theorem dX9_ask_75 : decode cX9_ask 75 = .ok (.iinc 7 1, 3) := by decide +kernel
theorem dX9_ask_78 : decode cX9_ask 78 = .ok (.goto (-26), 3) := by decide +kernel
theorem dX9_ask_81 : decode cX9_ask 81 = .ok (.aload_n 0, 1) := by decide +kernel
theorem dX9_ask_82 : decode cX9_ask 82 = .ok (.iload_n 2, 1) := by decide +kernel
theorem dX9_ask_83 : decode cX9_ask 83 = .ok (.invokevirtual 231, 3) := by decide +kernel
theorem dX9_ask_86 : decode cX9_ask 86 = .ok (.istore 7, 2) := by decide +kernel
theorem dX9_ask_88 : decode cX9_ask 88 = .ok (.iload 7, 2) := by decide +kernel
theorem dX9_ask_90 : decode cX9_ask 90 = .ok (.iload 4, 2) := by decide +kernel
theorem dX9_ask_92 : decode cX9_ask 92 = .ok (.if_icmp .ge 14, 3) := by decide +kernel
theorem dX9_ask_95 : decode cX9_ask 95 = .ok (.bipush 100, 2) := by decide +kernel
theorem dX9_ask_97 : decode cX9_ask 97 = .ok (.iload 5, 2) := by decide +kernel
theorem dX9_ask_99 : decode cX9_ask 99 = .ok (.imul, 1) := by decide +kernel
theorem dX9_ask_100 : decode cX9_ask 100 = .ok (.iload 6, 2) := by decide +kernel
theorem dX9_ask_102 : decode cX9_ask 102 = .ok (.iadd, 1) := by decide +kernel
theorem dX9_ask_103 : decode cX9_ask 103 = .ok (.goto 4, 3) := by decide +kernel
theorem dX9_ask_106 : decode cX9_ask 106 = .ok (.iload_n 3, 1) := by decide +kernel
theorem dX9_ask_107 : decode cX9_ask 107 = .ok (.istore_n 3, 1) := by decide +kernel
theorem dX9_ask_108 : decode cX9_ask 108 = .ok (.iload 7, 2) := by decide +kernel
theorem dX9_ask_110 : decode cX9_ask 110 = .ok (.iload 4, 2) := by decide +kernel
theorem dX9_ask_112 : decode cX9_ask 112 = .ok (.if_icmp .ge 8, 3) := by decide +kernel
theorem dX9_ask_115 : decode cX9_ask 115 = .ok (.iload 7, 2) := by decide +kernel
theorem dX9_ask_117 : decode cX9_ask 117 = .ok (.goto 5, 3) := by decide +kernel
theorem dX9_ask_120 : decode cX9_ask 120 = .ok (.iload 4, 2) := by decide +kernel
theorem dX9_ask_122 : decode cX9_ask 122 = .ok (.istore 4, 2) := by decide +kernel
theorem dX9_ask_124 : decode cX9_ask 124 = .ok (.iinc 6 1, 3) := by decide +kernel
theorem dX9_ask_127 : decode cX9_ask 127 = .ok (.goto (-85), 3) := by decide +kernel
theorem dX9_ask_130 : decode cX9_ask 130 = .ok (.iinc 5 1, 3) := by decide +kernel
theorem dX9_ask_133 : decode cX9_ask 133 = .ok (.goto (-104), 3) := by decide +kernel
theorem dX9_ask_136 : decode cX9_ask 136 = .ok (.iload_n 3, 1) := by decide +kernel
theorem dX9_ask_137 : decode cX9_ask 137 = .ok (.ireturn, 1) := by decide +kernel
theorem dX9_getsBy_0 : decode cX9_getsBy 0 = .ok (.iload_n 0, 1) := by decide +kernel
theorem dX9_getsBy_1 : decode cX9_getsBy 1 = .ok (.iload_n 1, 1) := by decide +kernel
theorem dX9_getsBy_2 : decode cX9_getsBy 2 = .ok (.iadd, 1) := by decide +kernel
theorem dX9_getsBy_3 : decode cX9_getsBy 3 = .ok (.bipush 10, 2) := by decide +kernel
theorem dX9_getsBy_5 : decode cX9_getsBy 5 = .ok (.if_icmp .lt 7, 3) := by decide +kernel
theorem dX9_getsBy_8 : decode cX9_getsBy 8 = .ok (.iload_n 2, 1) := by decide +kernel
theorem dX9_getsBy_9 : decode cX9_getsBy 9 = .ok (.goto 8, 3) := by decide +kernel
theorem dX9_getsBy_12 : decode cX9_getsBy 12 = .ok (.iconst 5, 1) := by decide +kernel
theorem dX9_getsBy_13 : decode cX9_getsBy 13 = .ok (.iload_n 1, 1) := by decide +kernel
theorem dX9_getsBy_14 : decode cX9_getsBy 14 = .ok (.iadd, 1) := by decide +kernel
theorem dX9_getsBy_15 : decode cX9_getsBy 15 = .ok (.iload_n 0, 1) := by decide +kernel
theorem dX9_getsBy_16 : decode cX9_getsBy 16 = .ok (.isub, 1) := by decide +kernel
theorem dX9_getsBy_17 : decode cX9_getsBy 17 = .ok (.ireturn, 1) := by decide +kernel
set_option maxRecDepth 20000 in
theorem ggX9_isBest_X9_getsBy : GoodIn wsX9_isBest wsX9_getsBy := goodIn_r _ [4] (by decide +kernel) (by decide +kernel)
set_option maxRecDepth 20000 in
theorem gX9_isBest_X9_getsBy : GoodIn wsX9_isBest (va_wsS RX9 234 yX9_getsBy wsX9_getsBy) := goodIn_app (goodIn_of _ (by decide +kernel)) ggX9_isBest_X9_getsBy
theorem dX9_isBest_0 : decode cX9_isBest 0 = .ok (.iconst 1, 1) := by decide +kernel
theorem dX9_isBest_1 : decode cX9_isBest 1 = .ok (.istore_n 3, 1) := by decide +kernel
theorem dX9_isBest_2 : decode cX9_isBest 2 = .ok (.iconst 0, 1) := by decide +kernel
theorem dX9_isBest_3 : decode cX9_isBest 3 = .ok (.istore 4, 2) := by decide +kernel
theorem dX9_isBest_5 : decode cX9_isBest 5 = .ok (.iload 4, 2) := by decide +kernel
theorem dX9_isBest_7 : decode cX9_isBest 7 = .ok (.bipush 10, 2) := by decide +kernel
theorem dX9_isBest_9 : decode cX9_isBest 9 = .ok (.if_icmp .ge 35, 3) := by decide +kernel
theorem dX9_isBest_12 : decode cX9_isBest 12 = .ok (.iload_n 3, 1) := by decide +kernel
theorem dX9_isBest_13 : decode cX9_isBest 13 = .ok (.ifCond .eq 31, 3) := by decide +kernel
theorem dX9_isBest_16 : decode cX9_isBest 16 = .ok (.iload 4, 2) := by decide +kernel
theorem dX9_isBest_18 : decode cX9_isBest 18 = .ok (.iload_n 1, 1) := by decide +kernel
theorem dX9_isBest_19 : decode cX9_isBest 19 = .ok (.iload_n 2, 1) := by decide +kernel
theorem dX9_isBest_20 : decode cX9_isBest 20 = .ok (.invokestatic 234, 3) := by decide +kernel
theorem dX9_isBest_23 : decode cX9_isBest 23 = .ok (.iload_n 0, 1) := by decide +kernel
theorem dX9_isBest_24 : decode cX9_isBest 24 = .ok (.iload_n 1, 1) := by decide +kernel
theorem dX9_isBest_25 : decode cX9_isBest 25 = .ok (.iload_n 2, 1) := by decide +kernel
theorem dX9_isBest_26 : decode cX9_isBest 26 = .ok (.invokestatic 234, 3) := by decide +kernel
theorem dX9_isBest_29 : decode cX9_isBest 29 = .ok (.if_icmp .gt 7, 3) := by decide +kernel
theorem dX9_isBest_32 : decode cX9_isBest 32 = .ok (.iconst 1, 1) := by decide +kernel
theorem dX9_isBest_33 : decode cX9_isBest 33 = .ok (.goto 4, 3) := by decide +kernel
theorem dX9_isBest_36 : decode cX9_isBest 36 = .ok (.iconst 0, 1) := by decide +kernel
theorem dX9_isBest_37 : decode cX9_isBest 37 = .ok (.istore_n 3, 1) := by decide +kernel
theorem dX9_isBest_38 : decode cX9_isBest 38 = .ok (.iinc 4 1, 3) := by decide +kernel
theorem dX9_isBest_41 : decode cX9_isBest 41 = .ok (.goto (-36), 3) := by decide +kernel
theorem dX9_isBest_44 : decode cX9_isBest 44 = .ok (.iload_n 3, 1) := by decide +kernel
theorem dX9_isBest_45 : decode cX9_isBest 45 = .ok (.ireturn, 1) := by decide +kernel
set_option maxRecDepth 20000 in
theorem ggX9_settle_X9_bad : GoodIn wsX9_settle wsX9_bad := goodIn_r _ [5, 6, 92, 93, 94, 95, 96, 97, 98, 99, 100, 101, 102, 103, 104, 105, 106, 107, 108, 109, 110, 111, 112, 113, 114, 115, 116, 117, 118, 119] (by decide +kernel) (by decide +kernel)
set_option maxRecDepth 20000 in
theorem gX9_settle_X9_bad : GoodIn wsX9_settle (wsV RX9 84 RX9 yX9_bad wsX9_bad) := goodIn_app (goodIn_of _ (by decide +kernel)) ggX9_settle_X9_bad
set_option maxRecDepth 20000 in
theorem ggX9_settle_X9_playIs : GoodIn wsX9_settle wsX9_playIs := goodIn_r _ [10, 11, 12, 13, 14, 4, 15, 16, 17, 18, 19, 20, 21, 22, 23, 24, 25, 26, 27, 28, 29, 30, 31, 32, 33, 34, 35, 36, 37, 38, 39, 40, 41, 42, 43, 44, 45, 46, 47, 48, 49, 50, 51, 52, 53, 54, 55, 56, 57, 58, 59, 60, 61, 62, 63, 64, 65, 66, 67, 68, 69, 70, 71, 72, 73, 74, 75, 76, 77, 78, 79, 80, 81, 82, 83, 84, 85, 92, 93, 94, 95, 96, 97, 98, 99, 100, 101, 102, 103, 104, 105, 106, 107, 108, 109, 110, 111, 112, 113, 114, 115, 116, 117, 118, 119] (by decide +kernel) (by decide +kernel)
set_option maxRecDepth 20000 in
theorem gX9_settle_X9_playIs : GoodIn wsX9_settle (wsV RX9 182 RX9 yX9_playIs wsX9_playIs) := goodIn_app (goodIn_of _ (by decide +kernel)) ggX9_settle_X9_playIs
set_option maxRecDepth 20000 in
theorem ggX9_settle_X9_isBest : GoodIn wsX9_settle wsX9_isBest := goodIn_r _ [88, 89, 90, 4, 91] (by decide +kernel) (by decide +kernel)
set_option maxRecDepth 20000 in
theorem gX9_settle_X9_isBest : GoodIn wsX9_settle (va_wsS RX9 237 yX9_isBest wsX9_isBest) := goodIn_app (goodIn_of _ (by decide +kernel)) ggX9_settle_X9_isBest
theorem dX9_settle_0 : decode cX9_settle 0 = .ok (.iload_n 1, 1) := by decide +kernel
theorem dX9_settle_1 : decode cX9_settle 1 = .ok (.iconst (-1), 1) := by decide +kernel
theorem dX9_settle_2 : decode cX9_settle 2 = .ok (.if_icmp .ge 10, 3) := by decide +kernel
theorem dX9_settle_5 : decode cX9_settle 5 = .ok (.aload_n 0, 1) := by decide +kernel
theorem dX9_settle_6 : decode cX9_settle 6 = .ok (.bipush (-10), 2) := by decide +kernel
theorem dX9_settle_8 : decode cX9_settle 8 = .ok (.invokevirtual 84, 3) := by decide +kernel
theorem dX9_settle_11 : decode cX9_settle 11 = .ok (.ireturn, 1) := by decide +kernel
theorem dX9_settle_12 : decode cX9_settle 12 = .ok (.aload_n 0, 1) := by decide +kernel
theorem dX9_settle_13 : decode cX9_settle 13 = .ok (.invokevirtual 182, 3) := by decide +kernel
theorem dX9_settle_16 : decode cX9_settle 16 = .ok (.istore_n 2, 1) := by decide +kernel
theorem dX9_settle_17 : decode cX9_settle 17 = .ok (.iconst 0, 1) := by decide +kernel
theorem dX9_settle_18 : decode cX9_settle 18 = .ok (.istore_n 3, 1) := by decide +kernel
