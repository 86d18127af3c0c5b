abbrev clX1 (cI cJ cZ cB : ClassId) (h : Nat) (a : Nat → Nat) (f1 : Nat → Int32) (f2 : Int32) (f3 : Nat → Int32) (f4 : Int32) (f5 : Nat → Int32) (f6 : Int32) (f7 : Nat → Int64) (f8 : Int32) (tl : va_W) : va_W := (h, .inr (0, [.ref (a 0), .ref (a 1), .int f2, .ref (a 3), .int f4, .ref (a 5), .int f6, .ref (a 7), .int f8])) :: (a 1, .inl (cI, 4, .inl f1)) :: (a 3, .inl (cI, 30, .inl f3)) :: (a 5, .inl (cI, 24, .inl f5)) :: (a 7, .inl (cJ, 8, .inr (.inl f7))) :: tl
abbrev cwX1 (cI cJ cZ cB : ClassId) (h : Nat) (a : Nat → Nat) (c : Nat → Nat → Int32) (w : Nat → Nat → Int64) (tl : va_W) : va_W := clX1 cI cJ cZ cB h a (c 1) (c 2 0) (c 3) (c 4 0) (c 5) (c 6 0) (w 7) (c 8 0) tl
abbrev clX2 (cI cJ cZ cB : ClassId) (h : Nat) (a : Nat → Nat)  (tl : va_W) : va_W := (h, .inr (1, [.ref (a 0), .ref (a 1)])) :: tl
abbrev cwX2 (cI cJ cZ cB : ClassId) (h : Nat) (a : Nat → Nat)  (tl : va_W) : va_W := clX2 cI cJ cZ cB h a  tl
abbrev clX3 (cI cJ cZ cB : ClassId) (h : Nat) (a : Nat → Nat) (f0 : Nat → Int32) (f1 : Nat → Int32) (f2 : Nat → Int32) (f3 : Nat → Int32) (f4 : Nat → Int32) (f5 : Int32) (f6 : Int32) (f7 : Int32) (f8 : Int32) (f9 : Int32) (tl : va_W) : va_W := (h, .inr (2, [.ref (a 0), .ref (a 1), .ref (a 2), .ref (a 3), .ref (a 4), .int f5, .int f6, .int f7, .int f8, .int f9])) :: (a 0, .inl (cI, 2, .inl f0)) :: (a 1, .inl (cI, 2, .inl f1)) :: (a 2, .inl (cI, 6, .inl f2)) :: (a 3, .inl (cI, 6, .inl f3)) :: (a 4, .inl (cI, 6, .inl f4)) :: tl
abbrev cwX3 (cI cJ cZ cB : ClassId) (h : Nat) (a : Nat → Nat) (c : Nat → Nat → Int32) (tl : va_W) : va_W := clX3 cI cJ cZ cB h a (c 0) (c 1) (c 2) (c 3) (c 4) (c 5 0) (c 6 0) (c 7 0) (c 8 0) (c 9 0) tl
abbrev clX7 (cI cJ cZ cB : ClassId) (h : Nat) (a : Nat → Nat) (f0 : Nat → Int32) (f1 : Int32) (f2 : Int32) (f3 : Int32) (f4 : Int32) (f5 : Int32) (tl : va_W) : va_W := (h, .inr (3, [.ref (a 0), .int f1, .int f2, .int f3, .int f4, .int f5])) :: (a 0, .inl (cI, 150, .inl f0)) :: tl
abbrev cwX7 (cI cJ cZ cB : ClassId) (h : Nat) (a : Nat → Nat) (c : Nat → Nat → Int32) (tl : va_W) : va_W := clX7 cI cJ cZ cB h a (c 0) (c 1 0) (c 2 0) (c 3 0) (c 4 0) (c 5 0) tl
abbrev clX8 (cI cJ cZ cB : ClassId) (h : Nat) (a : Nat → Nat) (f2 : Nat → Int32) (f5 : Nat → Int32) (f6 : Int64) (f7 : Int64) (tl : va_W) : va_W := (h, .inr (4, [.ref (a 0), .ref (a 1), .ref (a 2), .ref (a 3), .ref (a 4), .ref (a 5), .long f6, .long f7])) :: (a 1, .inl (cB, 2, .inr (.inr (.inr (.inr (va_up (va_up (fun _ => none) 0 (some (a 8))) 1 (some (a 9)))))))) :: (a 2, .inl (cZ, 2, .inl f2)) :: (a 5, .inl (cI, 3, .inl f5)) :: tl
abbrev cwX8 (cI cJ cZ cB : ClassId) (h : Nat) (a : Nat → Nat) (c : Nat → Nat → Int32) (w : Nat → Nat → Int64) (tl : va_W) : va_W := clX8 cI cJ cZ cB h a (c 2) (c 5) (w 6 0) (w 7 0) tl
abbrev clX9 (cI cJ cZ cB : ClassId) (h : Nat) (a : Nat → Nat) (f0 : Nat → Int32) (f1 : Nat → Int32) (f2 : Nat → Int32) (f3 : Nat → Int32) (f4 : Int64) (f5 : Int64) (f6 : Nat → Int32) (f7 : Nat → Int32) (f8 : Nat → Int32) (f9 : Nat → Int32) (f10 : Nat → Int32) (f11 : Nat → Int32) (f12 : Nat → Int32) (f13 : Nat → Int32) (f14 : Int32) (f15 : Int32) (f16 : Int32) (f17 : Int32) (f18 : Nat → Int32) (f19 : Nat → Int32) (f20 : Nat → Int32) (f21 : Int32) (f22 : Int32) (f23 : Int32) (f24 : Int32) (f25 : Int32) (f26 : Nat → Int32) (f27 : Nat → Int32) (tl : va_W) : va_W := (h, .inr (5, [.ref (a 0), .ref (a 1), .ref (a 2), .ref (a 3), .long f4, .long f5, .ref (a 6), .ref (a 7), .ref (a 8), .ref (a 9), .ref (a 10), .ref (a 11), .ref (a 12), .ref (a 13), .int f14, .int f15, .int f16, .int f17, .ref (a 18), .ref (a 19), .ref (a 20), .int f21, .int f22, .int f23, .int f24, .int f25, .ref (a 26), .ref (a 27)])) :: (a 0, .inl (cI, 194, .inl f0)) :: (a 1, .inl (cI, 388, .inl f1)) :: (a 2, .inl (cZ, 2, .inl f2)) :: (a 3, .inl (cI, 3, .inl f3)) :: (a 6, .inl (cI, 14, .inl f6)) :: (a 7, .inl (cI, 14, .inl f7)) :: (a 8, .inl (cI, 14, .inl f8)) :: (a 9, .inl (cI, 14, .inl f9)) :: (a 10, .inl (cI, 28, .inl f10)) :: (a 11, .inl (cI, 14, .inl f11)) :: (a 12, .inl (cI, 14, .inl f12)) :: (a 13, .inl (cI, 14, .inl f13)) :: (a 18, .inl (cI, 2, .inl f18)) :: (a 19, .inl (cI, 6, .inl f19)) :: (a 20, .inl (cI, 150, .inl f20)) :: (a 26, .inl (cI, 90, .inl f26)) :: (a 27, .inl (cI, 3, .inl f27)) :: tl
abbrev cwX9 (cI cJ cZ cB : ClassId) (h : Nat) (a : Nat → Nat) (c : Nat → Nat → Int32) (w : Nat → Nat → Int64) (tl : va_W) : va_W := clX9 cI cJ cZ cB h a (c 0) (c 1) (c 2) (c 3) (w 4 0) (w 5 0) (c 6) (c 7) (c 8) (c 9) (c 10) (c 11) (c 12) (c 13) (c 14 0) (c 15 0) (c 16 0) (c 17 0) (c 18) (c 19) (c 20) (c 21 0) (c 22 0) (c 23 0) (c 24 0) (c 25 0) (c 26) (c 27) tl
abbrev clXA (cI cJ cZ cB : ClassId) (h : Nat) (a : Nat → Nat) (f0 : Nat → Int32) (tl : va_W) : va_W := (a 0, .inl (cI, 194, .inl f0)) :: tl
abbrev cwXA (cI cJ cZ cB : ClassId) (h : Nat) (a : Nat → Nat) (c : Nat → Nat → Int32) (tl : va_W) : va_W := clXA cI cJ cZ cB h a (c 0) tl
abbrev ty4 (cI cJ cZ cB : ClassId) : List (ClassId × FieldType) := [(cI, .int), (cJ, .long), (cZ, .boolean), (cB, .object RX1)]
theorem ki_m1 : Int32.ofInt (-1) = (-1 : Int32) := by decide
theorem ki_0 : Int32.ofInt (0) = (0 : Int32) := by decide
theorem ki_1 : Int32.ofInt (1) = (1 : Int32) := by decide
theorem ki_2 : Int32.ofInt (2) = (2 : Int32) := by decide
theorem ki_3 : Int32.ofInt (3) = (3 : Int32) := by decide
theorem ki_4 : Int32.ofInt (4) = (4 : Int32) := by decide
theorem ki_5 : Int32.ofInt (5) = (5 : Int32) := by decide
theorem ki_6 : Int32.ofInt (6) = (6 : Int32) := by decide
theorem kb_m99 : (Int8.ofInt (-99)).toInt32 = (-99 : Int32) := by decide
theorem kb_m50 : (Int8.ofInt (-50)).toInt32 = (-50 : Int32) := by decide
theorem kb_m10 : (Int8.ofInt (-10)).toInt32 = (-10 : Int32) := by decide
theorem kb_m5 : (Int8.ofInt (-5)).toInt32 = (-5 : Int32) := by decide
theorem kb_m4 : (Int8.ofInt (-4)).toInt32 = (-4 : Int32) := by decide
theorem kb_m3 : (Int8.ofInt (-3)).toInt32 = (-3 : Int32) := by decide
theorem kb_m2 : (Int8.ofInt (-2)).toInt32 = (-2 : Int32) := by decide
theorem kb_6 : (Int8.ofInt (6)).toInt32 = (6 : Int32) := by decide
theorem kb_7 : (Int8.ofInt (7)).toInt32 = (7 : Int32) := by decide
theorem kb_8 : (Int8.ofInt (8)).toInt32 = (8 : Int32) := by decide
theorem kb_9 : (Int8.ofInt (9)).toInt32 = (9 : Int32) := by decide
theorem kb_10 : (Int8.ofInt (10)).toInt32 = (10 : Int32) := by decide
theorem kb_12 : (Int8.ofInt (12)).toInt32 = (12 : Int32) := by decide
theorem kb_13 : (Int8.ofInt (13)).toInt32 = (13 : Int32) := by decide
theorem kb_14 : (Int8.ofInt (14)).toInt32 = (14 : Int32) := by decide
theorem kb_15 : (Int8.ofInt (15)).toInt32 = (15 : Int32) := by decide
theorem kb_16 : (Int8.ofInt (16)).toInt32 = (16 : Int32) := by decide
theorem kb_17 : (Int8.ofInt (17)).toInt32 = (17 : Int32) := by decide
theorem kb_18 : (Int8.ofInt (18)).toInt32 = (18 : Int32) := by decide
theorem kb_21 : (Int8.ofInt (21)).toInt32 = (21 : Int32) := by decide
theorem kb_24 : (Int8.ofInt (24)).toInt32 = (24 : Int32) := by decide
theorem kb_28 : (Int8.ofInt (28)).toInt32 = (28 : Int32) := by decide
theorem kb_30 : (Int8.ofInt (30)).toInt32 = (30 : Int32) := by decide
theorem kb_31 : (Int8.ofInt (31)).toInt32 = (31 : Int32) := by decide
theorem kb_32 : (Int8.ofInt (32)).toInt32 = (32 : Int32) := by decide
theorem kb_36 : (Int8.ofInt (36)).toInt32 = (36 : Int32) := by decide
theorem kb_40 : (Int8.ofInt (40)).toInt32 = (40 : Int32) := by decide
theorem kb_41 : (Int8.ofInt (41)).toInt32 = (41 : Int32) := by decide
theorem kb_48 : (Int8.ofInt (48)).toInt32 = (48 : Int32) := by decide
theorem kb_50 : (Int8.ofInt (50)).toInt32 = (50 : Int32) := by decide
theorem kb_57 : (Int8.ofInt (57)).toInt32 = (57 : Int32) := by decide
theorem kb_59 : (Int8.ofInt (59)).toInt32 = (59 : Int32) := by decide
theorem kb_60 : (Int8.ofInt (60)).toInt32 = (60 : Int32) := by decide
theorem kb_63 : (Int8.ofInt (63)).toInt32 = (63 : Int32) := by decide
theorem kb_66 : (Int8.ofInt (66)).toInt32 = (66 : Int32) := by decide
theorem kb_90 : (Int8.ofInt (90)).toInt32 = (90 : Int32) := by decide
theorem kb_91 : (Int8.ofInt (91)).toInt32 = (91 : Int32) := by decide
theorem kb_97 : (Int8.ofInt (97)).toInt32 = (97 : Int32) := by decide
theorem kb_98 : (Int8.ofInt (98)).toInt32 = (98 : Int32) := by decide
theorem kb_99 : (Int8.ofInt (99)).toInt32 = (99 : Int32) := by decide
theorem kb_100 : (Int8.ofInt (100)).toInt32 = (100 : Int32) := by decide
theorem kb_101 : (Int8.ofInt (101)).toInt32 = (101 : Int32) := by decide
theorem kb_103 : (Int8.ofInt (103)).toInt32 = (103 : Int32) := by decide
theorem kb_105 : (Int8.ofInt (105)).toInt32 = (105 : Int32) := by decide
theorem kb_106 : (Int8.ofInt (106)).toInt32 = (106 : Int32) := by decide
theorem kb_110 : (Int8.ofInt (110)).toInt32 = (110 : Int32) := by decide
theorem kb_111 : (Int8.ofInt (111)).toInt32 = (111 : Int32) := by decide
theorem kb_112 : (Int8.ofInt (112)).toInt32 = (112 : Int32) := by decide
theorem kb_115 : (Int8.ofInt (115)).toInt32 = (115 : Int32) := by decide
theorem kb_116 : (Int8.ofInt (116)).toInt32 = (116 : Int32) := by decide
theorem kb_119 : (Int8.ofInt (119)).toInt32 = (119 : Int32) := by decide
theorem kb_121 : (Int8.ofInt (121)).toInt32 = (121 : Int32) := by decide
theorem kb_122 : (Int8.ofInt (122)).toInt32 = (122 : Int32) := by decide
theorem kb_127 : (Int8.ofInt (127)).toInt32 = (127 : Int32) := by decide
theorem ks_m1001 : (Int16.ofInt (-1001)).toInt32 = (-1001 : Int32) := by decide
theorem ks_m1000 : (Int16.ofInt (-1000)).toInt32 = (-1000 : Int32) := by decide
theorem ks_128 : (Int16.ofInt (128)).toInt32 = (128 : Int32) := by decide
theorem ks_150 : (Int16.ofInt (150)).toInt32 = (150 : Int32) := by decide
theorem ks_194 : (Int16.ofInt (194)).toInt32 = (194 : Int32) := by decide
theorem ks_255 : (Int16.ofInt (255)).toInt32 = (255 : Int32) := by decide
theorem ks_388 : (Int16.ofInt (388)).toInt32 = (388 : Int32) := by decide
theorem ks_1000 : (Int16.ofInt (1000)).toInt32 = (1000 : Int32) := by decide
theorem x_0 : ix (0 : Int32) = 0 := by decide
theorem b_0_2 : inb (0 : Int32) 2 := by decide
theorem b_0_3 : inb (0 : Int32) 3 := by decide
theorem b_0_4 : inb (0 : Int32) 4 := by decide
theorem b_0_6 : inb (0 : Int32) 6 := by decide
theorem b_0_8 : inb (0 : Int32) 8 := by decide
theorem b_0_14 : inb (0 : Int32) 14 := by decide
theorem b_0_24 : inb (0 : Int32) 24 := by decide
theorem b_0_28 : inb (0 : Int32) 28 := by decide
theorem b_0_30 : inb (0 : Int32) 30 := by decide
theorem b_0_90 : inb (0 : Int32) 90 := by decide
theorem b_0_150 : inb (0 : Int32) 150 := by decide
theorem b_0_194 : inb (0 : Int32) 194 := by decide
theorem b_0_388 : inb (0 : Int32) 388 := by decide
theorem x_1 : ix (1 : Int32) = 1 := by decide
theorem b_1_2 : inb (1 : Int32) 2 := by decide
theorem b_1_3 : inb (1 : Int32) 3 := by decide
theorem b_1_4 : inb (1 : Int32) 4 := by decide
theorem b_1_6 : inb (1 : Int32) 6 := by decide
theorem b_1_8 : inb (1 : Int32) 8 := by decide
theorem b_1_14 : inb (1 : Int32) 14 := by decide
theorem b_1_24 : inb (1 : Int32) 24 := by decide
theorem b_1_28 : inb (1 : Int32) 28 := by decide
theorem b_1_30 : inb (1 : Int32) 30 := by decide
theorem b_1_90 : inb (1 : Int32) 90 := by decide
theorem b_1_150 : inb (1 : Int32) 150 := by decide
theorem b_1_194 : inb (1 : Int32) 194 := by decide
theorem b_1_388 : inb (1 : Int32) 388 := by decide
theorem x_2 : ix (2 : Int32) = 2 := by decide
theorem b_2_3 : inb (2 : Int32) 3 := by decide
theorem b_2_4 : inb (2 : Int32) 4 := by decide
theorem b_2_6 : inb (2 : Int32) 6 := by decide
theorem b_2_8 : inb (2 : Int32) 8 := by decide
theorem b_2_14 : inb (2 : Int32) 14 := by decide
theorem b_2_24 : inb (2 : Int32) 24 := by decide
theorem b_2_28 : inb (2 : Int32) 28 := by decide
theorem b_2_30 : inb (2 : Int32) 30 := by decide
theorem b_2_90 : inb (2 : Int32) 90 := by decide
theorem b_2_150 : inb (2 : Int32) 150 := by decide
theorem b_2_194 : inb (2 : Int32) 194 := by decide
theorem b_2_388 : inb (2 : Int32) 388 := by decide
theorem x_3 : ix (3 : Int32) = 3 := by decide
theorem b_3_4 : inb (3 : Int32) 4 := by decide
theorem b_3_6 : inb (3 : Int32) 6 := by decide
theorem b_3_8 : inb (3 : Int32) 8 := by decide
theorem b_3_14 : inb (3 : Int32) 14 := by decide
theorem b_3_24 : inb (3 : Int32) 24 := by decide
theorem b_3_28 : inb (3 : Int32) 28 := by decide
theorem b_3_30 : inb (3 : Int32) 30 := by decide
theorem b_3_90 : inb (3 : Int32) 90 := by decide
theorem b_3_150 : inb (3 : Int32) 150 := by decide
theorem b_3_194 : inb (3 : Int32) 194 := by decide
theorem b_3_388 : inb (3 : Int32) 388 := by decide
theorem x_4 : ix (4 : Int32) = 4 := by decide
theorem b_4_6 : inb (4 : Int32) 6 := by decide
theorem b_4_8 : inb (4 : Int32) 8 := by decide
theorem b_4_14 : inb (4 : Int32) 14 := by decide
theorem b_4_24 : inb (4 : Int32) 24 := by decide
theorem b_4_28 : inb (4 : Int32) 28 := by decide
theorem b_4_30 : inb (4 : Int32) 30 := by decide
theorem b_4_90 : inb (4 : Int32) 90 := by decide
theorem b_4_150 : inb (4 : Int32) 150 := by decide
theorem b_4_194 : inb (4 : Int32) 194 := by decide
theorem b_4_388 : inb (4 : Int32) 388 := by decide
theorem x_5 : ix (5 : Int32) = 5 := by decide
theorem b_5_6 : inb (5 : Int32) 6 := by decide
theorem b_5_8 : inb (5 : Int32) 8 := by decide
theorem b_5_14 : inb (5 : Int32) 14 := by decide
theorem b_5_24 : inb (5 : Int32) 24 := by decide
theorem b_5_28 : inb (5 : Int32) 28 := by decide
theorem b_5_30 : inb (5 : Int32) 30 := by decide
theorem b_5_90 : inb (5 : Int32) 90 := by decide
theorem b_5_150 : inb (5 : Int32) 150 := by decide
theorem b_5_194 : inb (5 : Int32) 194 := by decide
theorem b_5_388 : inb (5 : Int32) 388 := by decide
theorem x_6 : ix (6 : Int32) = 6 := by decide
theorem b_6_8 : inb (6 : Int32) 8 := by decide
theorem b_6_14 : inb (6 : Int32) 14 := by decide
theorem b_6_24 : inb (6 : Int32) 24 := by decide
theorem b_6_28 : inb (6 : Int32) 28 := by decide
theorem b_6_30 : inb (6 : Int32) 30 := by decide
theorem b_6_90 : inb (6 : Int32) 90 := by decide
theorem b_6_150 : inb (6 : Int32) 150 := by decide
theorem b_6_194 : inb (6 : Int32) 194 := by decide
theorem b_6_388 : inb (6 : Int32) 388 := by decide
theorem x_7 : ix (7 : Int32) = 7 := by decide
theorem b_7_8 : inb (7 : Int32) 8 := by decide
theorem b_7_14 : inb (7 : Int32) 14 := by decide
theorem b_7_24 : inb (7 : Int32) 24 := by decide
theorem b_7_28 : inb (7 : Int32) 28 := by decide
theorem b_7_30 : inb (7 : Int32) 30 := by decide
theorem b_7_90 : inb (7 : Int32) 90 := by decide
theorem b_7_150 : inb (7 : Int32) 150 := by decide
theorem b_7_194 : inb (7 : Int32) 194 := by decide
theorem b_7_388 : inb (7 : Int32) 388 := by decide
theorem x_8 : ix (8 : Int32) = 8 := by decide
theorem b_8_14 : inb (8 : Int32) 14 := by decide
theorem b_8_24 : inb (8 : Int32) 24 := by decide
theorem b_8_28 : inb (8 : Int32) 28 := by decide
theorem b_8_30 : inb (8 : Int32) 30 := by decide
theorem b_8_90 : inb (8 : Int32) 90 := by decide
theorem b_8_150 : inb (8 : Int32) 150 := by decide
theorem b_8_194 : inb (8 : Int32) 194 := by decide
theorem b_8_388 : inb (8 : Int32) 388 := by decide
theorem x_9 : ix (9 : Int32) = 9 := by decide
theorem b_9_14 : inb (9 : Int32) 14 := by decide
theorem b_9_24 : inb (9 : Int32) 24 := by decide
theorem b_9_28 : inb (9 : Int32) 28 := by decide
theorem b_9_30 : inb (9 : Int32) 30 := by decide
theorem b_9_90 : inb (9 : Int32) 90 := by decide
theorem b_9_150 : inb (9 : Int32) 150 := by decide
theorem b_9_194 : inb (9 : Int32) 194 := by decide
theorem b_9_388 : inb (9 : Int32) 388 := by decide
theorem x_10 : ix (10 : Int32) = 10 := by decide
theorem b_10_14 : inb (10 : Int32) 14 := by decide
theorem b_10_24 : inb (10 : Int32) 24 := by decide
theorem b_10_28 : inb (10 : Int32) 28 := by decide
theorem b_10_30 : inb (10 : Int32) 30 := by decide
theorem b_10_90 : inb (10 : Int32) 90 := by decide
theorem b_10_150 : inb (10 : Int32) 150 := by decide
theorem b_10_194 : inb (10 : Int32) 194 := by decide
theorem b_10_388 : inb (10 : Int32) 388 := by decide
theorem x_12 : ix (12 : Int32) = 12 := by decide
theorem b_12_14 : inb (12 : Int32) 14 := by decide
theorem b_12_24 : inb (12 : Int32) 24 := by decide
theorem b_12_28 : inb (12 : Int32) 28 := by decide
theorem b_12_30 : inb (12 : Int32) 30 := by decide
theorem b_12_90 : inb (12 : Int32) 90 := by decide
theorem b_12_150 : inb (12 : Int32) 150 := by decide
theorem b_12_194 : inb (12 : Int32) 194 := by decide
theorem b_12_388 : inb (12 : Int32) 388 := by decide
theorem x_13 : ix (13 : Int32) = 13 := by decide
theorem b_13_14 : inb (13 : Int32) 14 := by decide
theorem b_13_24 : inb (13 : Int32) 24 := by decide
theorem b_13_28 : inb (13 : Int32) 28 := by decide
theorem b_13_30 : inb (13 : Int32) 30 := by decide
theorem b_13_90 : inb (13 : Int32) 90 := by decide
theorem b_13_150 : inb (13 : Int32) 150 := by decide
theorem b_13_194 : inb (13 : Int32) 194 := by decide
theorem b_13_388 : inb (13 : Int32) 388 := by decide
theorem x_14 : ix (14 : Int32) = 14 := by decide
theorem b_14_24 : inb (14 : Int32) 24 := by decide
theorem b_14_28 : inb (14 : Int32) 28 := by decide
theorem b_14_30 : inb (14 : Int32) 30 := by decide
theorem b_14_90 : inb (14 : Int32) 90 := by decide
theorem b_14_150 : inb (14 : Int32) 150 := by decide
theorem b_14_194 : inb (14 : Int32) 194 := by decide
theorem b_14_388 : inb (14 : Int32) 388 := by decide
theorem x_15 : ix (15 : Int32) = 15 := by decide
theorem b_15_24 : inb (15 : Int32) 24 := by decide
theorem b_15_28 : inb (15 : Int32) 28 := by decide
theorem b_15_30 : inb (15 : Int32) 30 := by decide
theorem b_15_90 : inb (15 : Int32) 90 := by decide
theorem b_15_150 : inb (15 : Int32) 150 := by decide
theorem b_15_194 : inb (15 : Int32) 194 := by decide
theorem b_15_388 : inb (15 : Int32) 388 := by decide
theorem x_16 : ix (16 : Int32) = 16 := by decide
theorem b_16_24 : inb (16 : Int32) 24 := by decide
theorem b_16_28 : inb (16 : Int32) 28 := by decide
theorem b_16_30 : inb (16 : Int32) 30 := by decide
theorem b_16_90 : inb (16 : Int32) 90 := by decide
theorem b_16_150 : inb (16 : Int32) 150 := by decide
theorem b_16_194 : inb (16 : Int32) 194 := by decide
theorem b_16_388 : inb (16 : Int32) 388 := by decide
theorem x_17 : ix (17 : Int32) = 17 := by decide
theorem b_17_24 : inb (17 : Int32) 24 := by decide
theorem b_17_28 : inb (17 : Int32) 28 := by decide
theorem b_17_30 : inb (17 : Int32) 30 := by decide
theorem b_17_90 : inb (17 : Int32) 90 := by decide
theorem b_17_150 : inb (17 : Int32) 150 := by decide
theorem b_17_194 : inb (17 : Int32) 194 := by decide
theorem b_17_388 : inb (17 : Int32) 388 := by decide
theorem x_18 : ix (18 : Int32) = 18 := by decide
theorem b_18_24 : inb (18 : Int32) 24 := by decide
theorem b_18_28 : inb (18 : Int32) 28 := by decide
theorem b_18_30 : inb (18 : Int32) 30 := by decide
theorem b_18_90 : inb (18 : Int32) 90 := by decide
theorem b_18_150 : inb (18 : Int32) 150 := by decide
theorem b_18_194 : inb (18 : Int32) 194 := by decide
theorem b_18_388 : inb (18 : Int32) 388 := by decide
theorem x_21 : ix (21 : Int32) = 21 := by decide
theorem b_21_24 : inb (21 : Int32) 24 := by decide
theorem b_21_28 : inb (21 : Int32) 28 := by decide
theorem b_21_30 : inb (21 : Int32) 30 := by decide
theorem b_21_90 : inb (21 : Int32) 90 := by decide
theorem b_21_150 : inb (21 : Int32) 150 := by decide
theorem b_21_194 : inb (21 : Int32) 194 := by decide
theorem b_21_388 : inb (21 : Int32) 388 := by decide
theorem x_24 : ix (24 : Int32) = 24 := by decide
theorem b_24_28 : inb (24 : Int32) 28 := by decide
theorem b_24_30 : inb (24 : Int32) 30 := by decide
theorem b_24_90 : inb (24 : Int32) 90 := by decide
theorem b_24_150 : inb (24 : Int32) 150 := by decide
theorem b_24_194 : inb (24 : Int32) 194 := by decide
theorem b_24_388 : inb (24 : Int32) 388 := by decide
theorem x_28 : ix (28 : Int32) = 28 := by decide
theorem b_28_30 : inb (28 : Int32) 30 := by decide
theorem b_28_90 : inb (28 : Int32) 90 := by decide
theorem b_28_150 : inb (28 : Int32) 150 := by decide
theorem b_28_194 : inb (28 : Int32) 194 := by decide
theorem b_28_388 : inb (28 : Int32) 388 := by decide
theorem x_30 : ix (30 : Int32) = 30 := by decide
theorem b_30_90 : inb (30 : Int32) 90 := by decide
theorem b_30_150 : inb (30 : Int32) 150 := by decide
theorem b_30_194 : inb (30 : Int32) 194 := by decide
theorem b_30_388 : inb (30 : Int32) 388 := by decide
theorem x_31 : ix (31 : Int32) = 31 := by decide
theorem b_31_90 : inb (31 : Int32) 90 := by decide
theorem b_31_150 : inb (31 : Int32) 150 := by decide
theorem b_31_194 : inb (31 : Int32) 194 := by decide
theorem b_31_388 : inb (31 : Int32) 388 := by decide
theorem x_32 : ix (32 : Int32) = 32 := by decide
theorem b_32_90 : inb (32 : Int32) 90 := by decide
theorem b_32_150 : inb (32 : Int32) 150 := by decide
theorem b_32_194 : inb (32 : Int32) 194 := by decide
theorem b_32_388 : inb (32 : Int32) 388 := by decide
theorem x_36 : ix (36 : Int32) = 36 := by decide
theorem b_36_90 : inb (36 : Int32) 90 := by decide
theorem b_36_150 : inb (36 : Int32) 150 := by decide
theorem b_36_194 : inb (36 : Int32) 194 := by decide
theorem b_36_388 : inb (36 : Int32) 388 := by decide
theorem x_40 : ix (40 : Int32) = 40 := by decide
theorem b_40_90 : inb (40 : Int32) 90 := by decide
theorem b_40_150 : inb (40 : Int32) 150 := by decide
theorem b_40_194 : inb (40 : Int32) 194 := by decide
theorem b_40_388 : inb (40 : Int32) 388 := by decide
theorem x_41 : ix (41 : Int32) = 41 := by decide
theorem b_41_90 : inb (41 : Int32) 90 := by decide
theorem b_41_150 : inb (41 : Int32) 150 := by decide
theorem b_41_194 : inb (41 : Int32) 194 := by decide
theorem b_41_388 : inb (41 : Int32) 388 := by decide
theorem x_48 : ix (48 : Int32) = 48 := by decide
theorem b_48_90 : inb (48 : Int32) 90 := by decide
theorem b_48_150 : inb (48 : Int32) 150 := by decide
theorem b_48_194 : inb (48 : Int32) 194 := by decide
theorem b_48_388 : inb (48 : Int32) 388 := by decide
theorem x_50 : ix (50 : Int32) = 50 := by decide
theorem b_50_90 : inb (50 : Int32) 90 := by decide
theorem b_50_150 : inb (50 : Int32) 150 := by decide
theorem b_50_194 : inb (50 : Int32) 194 := by decide
theorem b_50_388 : inb (50 : Int32) 388 := by decide
theorem x_57 : ix (57 : Int32) = 57 := by decide
theorem b_57_90 : inb (57 : Int32) 90 := by decide
theorem b_57_150 : inb (57 : Int32) 150 := by decide
theorem b_57_194 : inb (57 : Int32) 194 := by decide
theorem b_57_388 : inb (57 : Int32) 388 := by decide
theorem x_59 : ix (59 : Int32) = 59 := by decide
theorem b_59_90 : inb (59 : Int32) 90 := by decide
theorem b_59_150 : inb (59 : Int32) 150 := by decide
theorem b_59_194 : inb (59 : Int32) 194 := by decide
theorem b_59_388 : inb (59 : Int32) 388 := by decide
theorem x_60 : ix (60 : Int32) = 60 := by decide
theorem b_60_90 : inb (60 : Int32) 90 := by decide
theorem b_60_150 : inb (60 : Int32) 150 := by decide
theorem b_60_194 : inb (60 : Int32) 194 := by decide
theorem b_60_388 : inb (60 : Int32) 388 := by decide
theorem x_63 : ix (63 : Int32) = 63 := by decide
theorem b_63_90 : inb (63 : Int32) 90 := by decide
theorem b_63_150 : inb (63 : Int32) 150 := by decide
theorem b_63_194 : inb (63 : Int32) 194 := by decide
theorem b_63_388 : inb (63 : Int32) 388 := by decide
theorem x_66 : ix (66 : Int32) = 66 := by decide
theorem b_66_90 : inb (66 : Int32) 90 := by decide
theorem b_66_150 : inb (66 : Int32) 150 := by decide
theorem b_66_194 : inb (66 : Int32) 194 := by decide
theorem b_66_388 : inb (66 : Int32) 388 := by decide
theorem x_90 : ix (90 : Int32) = 90 := by decide
theorem b_90_150 : inb (90 : Int32) 150 := by decide
theorem b_90_194 : inb (90 : Int32) 194 := by decide
theorem b_90_388 : inb (90 : Int32) 388 := by decide
theorem x_91 : ix (91 : Int32) = 91 := by decide
theorem b_91_150 : inb (91 : Int32) 150 := by decide
theorem b_91_194 : inb (91 : Int32) 194 := by decide
theorem b_91_388 : inb (91 : Int32) 388 := by decide
theorem x_97 : ix (97 : Int32) = 97 := by decide
theorem b_97_150 : inb (97 : Int32) 150 := by decide
theorem b_97_194 : inb (97 : Int32) 194 := by decide
theorem b_97_388 : inb (97 : Int32) 388 := by decide
theorem x_98 : ix (98 : Int32) = 98 := by decide
theorem b_98_150 : inb (98 : Int32) 150 := by decide
theorem b_98_194 : inb (98 : Int32) 194 := by decide
theorem b_98_388 : inb (98 : Int32) 388 := by decide
theorem x_99 : ix (99 : Int32) = 99 := by decide
theorem b_99_150 : inb (99 : Int32) 150 := by decide
theorem b_99_194 : inb (99 : Int32) 194 := by decide
theorem b_99_388 : inb (99 : Int32) 388 := by decide
theorem x_100 : ix (100 : Int32) = 100 := by decide
theorem b_100_150 : inb (100 : Int32) 150 := by decide
theorem b_100_194 : inb (100 : Int32) 194 := by decide
theorem b_100_388 : inb (100 : Int32) 388 := by decide
theorem x_101 : ix (101 : Int32) = 101 := by decide
theorem b_101_150 : inb (101 : Int32) 150 := by decide
theorem b_101_194 : inb (101 : Int32) 194 := by decide
theorem b_101_388 : inb (101 : Int32) 388 := by decide
theorem x_103 : ix (103 : Int32) = 103 := by decide
theorem b_103_150 : inb (103 : Int32) 150 := by decide
theorem b_103_194 : inb (103 : Int32) 194 := by decide
theorem b_103_388 : inb (103 : Int32) 388 := by decide
theorem x_105 : ix (105 : Int32) = 105 := by decide
theorem b_105_150 : inb (105 : Int32) 150 := by decide
theorem b_105_194 : inb (105 : Int32) 194 := by decide
theorem b_105_388 : inb (105 : Int32) 388 := by decide
theorem x_106 : ix (106 : Int32) = 106 := by decide
theorem b_106_150 : inb (106 : Int32) 150 := by decide
theorem b_106_194 : inb (106 : Int32) 194 := by decide
theorem b_106_388 : inb (106 : Int32) 388 := by decide
theorem x_110 : ix (110 : Int32) = 110 := by decide
theorem b_110_150 : inb (110 : Int32) 150 := by decide
theorem b_110_194 : inb (110 : Int32) 194 := by decide
theorem b_110_388 : inb (110 : Int32) 388 := by decide
theorem x_111 : ix (111 : Int32) = 111 := by decide
theorem b_111_150 : inb (111 : Int32) 150 := by decide
theorem b_111_194 : inb (111 : Int32) 194 := by decide
theorem b_111_388 : inb (111 : Int32) 388 := by decide
theorem x_112 : ix (112 : Int32) = 112 := by decide
theorem b_112_150 : inb (112 : Int32) 150 := by decide
theorem b_112_194 : inb (112 : Int32) 194 := by decide
theorem b_112_388 : inb (112 : Int32) 388 := by decide
theorem x_115 : ix (115 : Int32) = 115 := by decide
theorem b_115_150 : inb (115 : Int32) 150 := by decide
theorem b_115_194 : inb (115 : Int32) 194 := by decide
theorem b_115_388 : inb (115 : Int32) 388 := by decide
theorem x_116 : ix (116 : Int32) = 116 := by decide
theorem b_116_150 : inb (116 : Int32) 150 := by decide
theorem b_116_194 : inb (116 : Int32) 194 := by decide
theorem b_116_388 : inb (116 : Int32) 388 := by decide
theorem x_119 : ix (119 : Int32) = 119 := by decide
theorem b_119_150 : inb (119 : Int32) 150 := by decide
theorem b_119_194 : inb (119 : Int32) 194 := by decide
theorem b_119_388 : inb (119 : Int32) 388 := by decide
theorem x_121 : ix (121 : Int32) = 121 := by decide
theorem b_121_150 : inb (121 : Int32) 150 := by decide
theorem b_121_194 : inb (121 : Int32) 194 := by decide
theorem b_121_388 : inb (121 : Int32) 388 := by decide
theorem x_122 : ix (122 : Int32) = 122 := by decide
theorem b_122_150 : inb (122 : Int32) 150 := by decide
theorem b_122_194 : inb (122 : Int32) 194 := by decide
theorem b_122_388 : inb (122 : Int32) 388 := by decide
theorem x_127 : ix (127 : Int32) = 127 := by decide
theorem b_127_150 : inb (127 : Int32) 150 := by decide
theorem b_127_194 : inb (127 : Int32) 194 := by decide
theorem b_127_388 : inb (127 : Int32) 388 := by decide
theorem x_128 : ix (128 : Int32) = 128 := by decide
theorem b_128_150 : inb (128 : Int32) 150 := by decide
theorem b_128_194 : inb (128 : Int32) 194 := by decide
theorem b_128_388 : inb (128 : Int32) 388 := by decide
theorem x_150 : ix (150 : Int32) = 150 := by decide
theorem b_150_194 : inb (150 : Int32) 194 := by decide
theorem b_150_388 : inb (150 : Int32) 388 := by decide
