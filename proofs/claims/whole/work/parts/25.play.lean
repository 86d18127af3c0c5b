abbrev rmU (d : Nat) : Room := { frames := 2 * d + 8, cells := 0, slots := 0, locals := 64 * d + 200 }
abbrev rmW (d : Nat) : Room := { frames := 2 * d + 9, cells := 0, slots := 0, locals := 64 * d + 232 }
set_option maxHeartbeats 4000000 in
set_option maxRecDepth 100000 in
theorem t_X0_worth (l : Launch) (dC : Nat → ClassId) (dI : Nat → Nat → Nat) (cI cJ cZ cB : ClassId) (zz : ZT) (d : Nat) (ku : Nat → (Nat → Nat → Int32) → Int32 → Int32 → Int32 → Option (Int32 × (Nat → Nat → Int32))) (hku : ∀ (h0 : Nat) (a0 : Nat → Nat) (F : Nat) (c0 : Nat → Nat → Int32) (p1 p2 p3 : Int32) (r : Int32) (c0' : Nat → Nat → Int32), ku F c0 p1 p2 p3 = some (r, c0') → ct l (dC, dI) zz (ty4 cI cJ cZ cB) yX0_worthUnbowed cX0_worthUnbowed 13 (some .int) (rmU d) [.ref h0, .int p1, .int p2, .int p3] (cwX3 cI cJ cZ cB h0 a0 c0 []) (cwX3 cI cJ cZ cB h0 a0 c0' []) (some (.int r))) (h0 : Nat) (a0 : Nat → Nat) (F : Nat) (c0 : Nat → Nat → Int32) (p1 : Int32) (p2 : Int32) (p3 : Int32) (r : Int32) (c0' : Nat → Nat → Int32) (hm : md_X0_worth d ku F c0 p1 p2 p3 = some (r, c0')) : ct l (dC, dI) zz (ty4 cI cJ cZ cB) yX0_worth cX0_worth 9 (some .int) (rmW d) [.ref h0, .int p1, .int p2, .int p3] (cwX3 cI cJ cZ cB h0 a0 c0 []) (cwX3 cI cJ cZ cB h0 a0 c0' []) (some (.int r)) := by
  refine ct_of (cc := cX0_worth) (maxL := 9) (ret := (some .int)) (by decide) (Nat.le_of_ble_eq_true rfl) ?_
  intro p e s m below meth c A S hr hlocks hK hN hZ hA H locs hW ls hl
  have S : CallFix p m c cX0_worth 9 s (List.toArray [.ref h0, .int p1, .int p2, .int p3]) G RX0 := S
  have hl : lv_has ls 9 [(0, .ref h0), (1, .int p1), (2, .int p2), (3, .int p3)] := hl
  have h := hm
  rw [md_X0_worth] at h
  have hW : wd (dC, dI) A s.heap (clX3 cI cJ cZ cB h0 a0 (c0 0) (c0 1) (c0 2) (c0 3) (c0 4) (c0 5 0) (c0 6 0) (c0 7 0) (c0 8 0) (c0 9 0) []) H locs := hW
  have hJ98 : ∀ (c0 : Nat → Nat → Int32) (x4 : Int32) (x5 : Int32) (x6 : Int64) (s0 : Int32), jd_X0_worth_98 d ku F c0 x4 x5 x6 s0 = some (r, c0') → ∀ (H : Heap) (locs : List Loc), wd (dC, dI) A s.heap (clX3 cI cJ cZ cB h0 a0 (c0 0) (c0 1) (c0 2) (c0 3) (c0 4) (c0 5 0) (c0 6 0) (c0 7 0) (c0 8 0) (c0 9 0) []) H locs → ∀ ls : Array Slot, lv_has ls 9 [(0, .ref h0), (4, .int x4), (5, .int x5), (6, .long x6)] → W p l e (rmW d) s m (List.toArray [.ref h0, .int p1, .int p2, .int p3]) below meth c H locs 0 0 (MQ below (kQ (dC, dI) (cwX3 cI cJ cZ cB h0 a0 c0' []) (some (.int r)) A) (List.toArray [.ref h0, .int p1, .int p2, .int p3]) s 0 0 A) (F0 m 98 ls [.int s0]) := by
    intro c0 x4 x5 x6 s0 h H locs hW ls hl
    rw [jd_X0_worth_98] at h
    refine lv_istore (lv' := [(8, .int s0), (0, .ref h0), (4, .int x4), (5, .int x5), (6, .long x6)]) S.1 S.2.1 dX0_worth_98 hl (by decide) rfl (fun ls hl => ?_)
    refine lv_aload_n S.1 S.2.1 dX0_worth_100 rfl (lv_at hl 1 rfl) ?_
    refine lv_lload S.1 S.2.1 dX0_worth_101 (lv_at hl 4 rfl) ?_
    obtain ⟨cv1, hy2, h⟩ := bd1_e h
    refine kv (clX3 cI cJ cZ cB h0 a0 (cv1 0) (cv1 1) (cv1 2) (cv1 3) (cv1 4) (cv1 5 0) (cv1 6 0) (cv1 7 0) (cv1 8 0) (cv1 9 0) []) S hK hN hZ hA hW (rest := []) (t_X3_back l dC dI cI cJ cZ cB zz h0 a0 F c0 x6 _  hy2) wl_X0_32 wv_X3_back rfl rfl ⟨(by show 0 + 1 ≤ 2 * d + 9; omega), (by show 8 + (6 + 11) + 0 ≤ 64 * d + 232; omega)⟩ [] [] rfl rfl rfl 0 rfl rfl rfl rfl hl.1 rfl (Nat.le_of_ble_eq_true rfl) dX0_worth_103 [] rfl (fun H locs hW => ?_)
    refine lv_iload S.1 S.2.1 dX0_worth_106 (lv_at hl 3 rfl) ?_
    refine lv_if_eq (tgt := 121) S.1 S.2.1 dX0_worth_108 (by decide) (fun u3 => ?_) (fun u3 => ?_)
    · have h := of_p u3 h
      refine lv_iload S.1 S.2.1 dX0_worth_121 (lv_at hl 0 rfl) ?_
      refine lv_iload S.1 S.2.1 dX0_worth_123 (lv_at hl 2 rfl) ?_
      refine va_mmin S.1 S.2.1 (S.2.2.1.trans hl.1.symm) S.2.2.2.1 (S.2.2.2.2 _ wl_X0_56) (S.2.2.2.2 _ ws_min) (S.2.2.2.2 _ wi_J9) (S.2.2.2.2 _ wo_min) ((by show 1 ≤ 2 * d + 9; omega)) ((by show 0 + 13 ≤ 64 * d + 232; omega)) (Nat.zero_le _) (Nat.zero_le _) dX0_worth_125 ?_
      have f4 := Option.some.inj h
      obtain ⟨f5, f6⟩ := Prod.mk.inj f4
      subst f5
      subst f6
      exact ri S hr hlocks hW dX0_worth_128
    · have h := of_n u3 h
      refine lv_iload S.1 S.2.1 dX0_worth_111 (lv_at hl 0 rfl) ?_
      refine lv_iload S.1 S.2.1 dX0_worth_113 (lv_at hl 2 rfl) ?_
      refine va_mmax S.1 S.2.1 (S.2.2.1.trans hl.1.symm) S.2.2.2.1 (S.2.2.2.2 _ wl_X0_50) (S.2.2.2.2 _ ws_max) (S.2.2.2.2 _ wi_J9) (S.2.2.2.2 _ wo_max) ((by show 1 ≤ 2 * d + 9; omega)) ((by show 0 + 13 ≤ 64 * d + 232; omega)) (Nat.zero_le _) (Nat.zero_le _) dX0_worth_115 ?_
      refine lv_goto (tgt := 128) S.1 S.2.1 dX0_worth_118 (by decide) ?_
      have f7 := Option.some.inj h
      obtain ⟨f8, f9⟩ := Prod.mk.inj f7
      subst f8
      subst f9
      exact ri S hr hlocks hW dX0_worth_128
  have hJ56 : ∀ (c0 : Nat → Nat → Int32) (x1 : Int32) (x2 : Int32) (x3 : Int32) (x4 : Int32) (x5 : Int32), jd_X0_worth_56 d ku F c0 x1 x2 x3 x4 x5 = some (r, c0') → ∀ (H : Heap) (locs : List Loc), wd (dC, dI) A s.heap (clX3 cI cJ cZ cB h0 a0 (c0 0) (c0 1) (c0 2) (c0 3) (c0 4) (c0 5 0) (c0 6 0) (c0 7 0) (c0 8 0) (c0 9 0) []) H locs → ∀ ls : Array Slot, lv_has ls 9 [(0, .ref h0), (1, .int x1), (2, .int x2), (3, .int x3), (4, .int x4), (5, .int x5)] → W p l e (rmW d) s m (List.toArray [.ref h0, .int p1, .int p2, .int p3]) below meth c H locs 0 0 (MQ below (kQ (dC, dI) (cwX3 cI cJ cZ cB h0 a0 c0' []) (some (.int r)) A) (List.toArray [.ref h0, .int p1, .int p2, .int p3]) s 0 0 A) (F0 m 56 ls []) := by
    intro c0 x1 x2 x3 x4 x5 h H locs hW ls hl
    rw [jd_X0_worth_56] at h
    refine lv_aload_n S.1 S.2.1 dX0_worth_56 rfl (lv_at hl 0 rfl) ?_
    obtain ⟨r10, hy11, h⟩ := bd1_e h
    refine kv0 S hK hN hZ hA hW (rest := []) (t_X3_keep l dC dI cI cJ cZ cB zz h0 a0 F c0 _  hy11) wl_X0_25 wv_X3_keep rfl rfl ⟨(by show 0 + 1 ≤ 2 * d + 9; omega), (by show 8 + (4 + 11) + 0 ≤ 64 * d + 232; omega)⟩ [] [] rfl 0 rfl rfl rfl rfl hl.1 rfl (Nat.le_of_ble_eq_true rfl) dX0_worth_57 [.long r10] rfl (fun H locs hW => ?_)
    refine lv_lstore (lv' := [(6, .long r10), (0, .ref h0), (1, .int x1), (2, .int x2), (3, .int x3), (4, .int x4), (5, .int x5)]) S.1 S.2.1 dX0_worth_60 hl (by decide) rfl (fun ls hl => ?_)
    refine lv_aload_n S.1 S.2.1 dX0_worth_62 rfl (lv_at hl 1 rfl) ?_
    obtain ⟨cv12, hy13, h⟩ := bd1_e h
    refine kv (clX3 cI cJ cZ cB h0 a0 (cv12 0) (cv12 1) (cv12 2) (cv12 3) (cv12 4) (cv12 5 0) (cv12 6 0) (cv12 7 0) (cv12 8 0) (cv12 9 0) []) S hK hN hZ hA hW (rest := []) (t_X3_bow l dC dI cI cJ cZ cB zz h0 a0 c0 _  hy13) wl_X0_29 wv_X3_bow rfl rfl ⟨(by show 3 + 1 ≤ 2 * d + 9; omega), (by show 8 + (1 + 11) + 60 ≤ 64 * d + 232; omega)⟩ [] [] rfl rfl rfl 0 rfl rfl rfl rfl hl.1 rfl (Nat.le_of_ble_eq_true rfl) dX0_worth_63 [] rfl (fun H locs hW => ?_)
    refine lv_iload S.1 S.2.1 dX0_worth_66 (lv_at hl 6 rfl) ?_
    refine lv_if_eq (tgt := 86) S.1 S.2.1 dX0_worth_68 (by decide) (fun u14 => ?_) (fun u14 => ?_)
    · have h := of_p u14 h
      refine lv_aload_n S.1 S.2.1 dX0_worth_86 rfl (lv_at hl 1 rfl) ?_
      refine lv_iload_n S.1 S.2.1 dX0_worth_87 rfl (lv_at hl 2 rfl) ?_
      refine lv_iload_n S.1 S.2.1 dX0_worth_88 rfl (lv_at hl 3 rfl) ?_
      refine lv_iload S.1 S.2.1 dX0_worth_89 (lv_at hl 5 rfl) ?_
      refine va_mmin S.1 S.2.1 (S.2.2.1.trans hl.1.symm) S.2.2.2.1 (S.2.2.2.2 _ wl_X0_56) (S.2.2.2.2 _ ws_min) (S.2.2.2.2 _ wi_J9) (S.2.2.2.2 _ wo_min) ((by show 1 ≤ 2 * d + 9; omega)) ((by show 2 + 13 ≤ 64 * d + 232; omega)) (Nat.zero_le _) (Nat.zero_le _) dX0_worth_91 ?_
      refine lv_iload_n S.1 S.2.1 dX0_worth_94 rfl (lv_at hl 4 rfl) ?_
      obtain ⟨r15, cv16, hy17, h⟩ := bd2_e h
      refine ks (clX3 cI cJ cZ cB h0 a0 (cv16 0) (cv16 1) (cv16 2) (cv16 3) (cv16 4) (cv16 5 0) (cv16 6 0) (cv16 7 0) (cv16 8 0) (cv16 9 0) []) S hK hN hZ hA hW (rest := []) (hku h0 a0 F cv12 x1 (if x4 < x2 then x4 else x2) x3 _ _ hy17) wl_X0_21 wv_X0_worthUnbowed rfl rfl ⟨(by show (2 * d + 8) + 1 ≤ 2 * d + 9; omega), (by show 8 + (13 + 11) + (64 * d + 200) ≤ 64 * d + 232; omega)⟩ [] [] rfl rfl rfl rfl hl.1 rfl (Nat.le_of_ble_eq_true rfl) dX0_worth_95 [.int r15] rfl (fun H locs hW => ?_)
      exact hJ98 _ _ _ _ _ h H locs hW ls (lv_sub hl [1, 5, 6, 0] rfl)
    · have h := of_n u14 h
      refine lv_aload_n S.1 S.2.1 dX0_worth_71 rfl (lv_at hl 1 rfl) ?_
      refine lv_iload_n S.1 S.2.1 dX0_worth_72 rfl (lv_at hl 2 rfl) ?_
      refine lv_iload S.1 S.2.1 dX0_worth_73 (lv_at hl 5 rfl) ?_
      refine va_mmax S.1 S.2.1 (S.2.2.1.trans hl.1.symm) S.2.2.2.1 (S.2.2.2.2 _ wl_X0_50) (S.2.2.2.2 _ ws_max) (S.2.2.2.2 _ wi_J9) (S.2.2.2.2 _ wo_max) ((by show 1 ≤ 2 * d + 9; omega)) ((by show 1 + 13 ≤ 64 * d + 232; omega)) (Nat.zero_le _) (Nat.zero_le _) dX0_worth_75 ?_
      refine lv_iload_n S.1 S.2.1 dX0_worth_78 rfl (lv_at hl 3 rfl) ?_
      refine lv_iload_n S.1 S.2.1 dX0_worth_79 rfl (lv_at hl 4 rfl) ?_
      obtain ⟨r18, cv19, hy20, h⟩ := bd2_e h
      refine ks (clX3 cI cJ cZ cB h0 a0 (cv19 0) (cv19 1) (cv19 2) (cv19 3) (cv19 4) (cv19 5 0) (cv19 6 0) (cv19 7 0) (cv19 8 0) (cv19 9 0) []) S hK hN hZ hA hW (rest := []) (hku h0 a0 F cv12 (if x1 < x4 then x4 else x1) x2 x3 _ _ hy20) wl_X0_21 wv_X0_worthUnbowed rfl rfl ⟨(by show (2 * d + 8) + 1 ≤ 2 * d + 9; omega), (by show 8 + (13 + 11) + (64 * d + 200) ≤ 64 * d + 232; omega)⟩ [] [] rfl rfl rfl rfl hl.1 rfl (Nat.le_of_ble_eq_true rfl) dX0_worth_80 [.int r18] rfl (fun H locs hW => ?_)
      refine lv_goto (tgt := 98) S.1 S.2.1 dX0_worth_83 (by decide) ?_
      exact hJ98 _ _ _ _ _ h H locs hW ls (lv_sub hl [1, 5, 6, 0] rfl)
  refine lv_aload_n S.1 S.2.1 dX0_worth_0 rfl (lv_at hl 0 rfl) ?_
  refine lv_iload_n S.1 S.2.1 dX0_worth_1 rfl (lv_at hl 1 rfl) ?_
  refine lv_iload_n S.1 S.2.1 dX0_worth_2 rfl (lv_at hl 2 rfl) ?_
  refine lv_iload_n S.1 S.2.1 dX0_worth_3 rfl (lv_at hl 3 rfl) ?_
  obtain ⟨r21, cv22, hy23, h⟩ := bd2_e h
  refine ks (clX3 cI cJ cZ cB h0 a0 (cv22 0) (cv22 1) (cv22 2) (cv22 3) (cv22 4) (cv22 5 0) (cv22 6 0) (cv22 7 0) (cv22 8 0) (cv22 9 0) []) S hK hN hZ hA hW (rest := []) (hku h0 a0 F c0 p1 p2 p3 _ _ hy23) wl_X0_21 wv_X0_worthUnbowed rfl rfl ⟨(by show (2 * d + 8) + 1 ≤ 2 * d + 9; omega), (by show 8 + (13 + 11) + (64 * d + 200) ≤ 64 * d + 232; omega)⟩ [] [] rfl rfl rfl rfl hl.1 rfl (Nat.le_of_ble_eq_true rfl) dX0_worth_4 [.int r21] rfl (fun H locs hW => ?_)
  refine lv_istore (lv' := [(4, .int r21), (0, .ref h0), (1, .int p1), (2, .int p2), (3, .int p3)]) S.1 S.2.1 dX0_worth_7 hl (by decide) rfl (fun ls hl => ?_)
  refine lv_aload_n S.1 S.2.1 dX0_worth_9 rfl (lv_at hl 1 rfl) ?_
  obtain ⟨r24, hy25, h⟩ := bd1_e h
  refine kv0 S hK hN hZ hA hW (rest := []) (t_X3_mayObject l dC dI cI cJ cZ cB zz h0 a0 cv22 _  hy25) wl_X0_9 wv_X3_mayObject rfl rfl ⟨(by show 2 + 1 ≤ 2 * d + 9; omega), (by show 8 + (1 + 11) + 40 ≤ 64 * d + 232; omega)⟩ [] [] rfl 0 rfl rfl rfl rfl hl.1 rfl (Nat.le_of_ble_eq_true rfl) dX0_worth_10 [.int r24] rfl (fun H locs hW => ?_)
  refine lv_if_ne (tgt := 19) S.1 S.2.1 dX0_worth_13 (by decide) (fun u26 => ?_) (fun u26 => ?_)
  · have h := of_n u26 h
    refine lv_aload_n S.1 S.2.1 dX0_worth_19 rfl (lv_at hl 1 rfl) ?_
    obtain ⟨r27, hy28, h⟩ := bd1_e h
    refine kv0 S hK hN hZ hA hW (rest := []) (t_X3_speaker l dC dI cI cJ cZ cB zz h0 a0 cv22 _  hy28) wl_X0_15 wv_X3_speaker rfl rfl ⟨(by show 1 + 1 ≤ 2 * d + 9; omega), (by show 8 + (1 + 11) + 20 ≤ 64 * d + 232; omega)⟩ [] [] rfl 0 rfl rfl rfl rfl hl.1 rfl (Nat.le_of_ble_eq_true rfl) dX0_worth_20 [.int r27] rfl (fun H locs hW => ?_)
    obtain ⟨y29, e30, h⟩ := lt1_e h
    suffices hM31 : ∀ ls : Array Slot, lv_has ls 9 [(0, .ref h0), (1, .int p1), (2, .int p2), (3, .int p3), (4, .int r21)] → W p l e (rmW d) s m (List.toArray [.ref h0, .int p1, .int p2, .int p3]) below meth c H locs 0 0 (MQ below (kQ (dC, dI) (cwX3 cI cJ cZ cB h0 a0 c0' []) (some (.int r)) A) (List.toArray [.ref h0, .int p1, .int p2, .int p3]) s 0 0 A) (F0 m 31 ls [.int y29]) by
      refine lv_if_ne (tgt := 30) S.1 S.2.1 dX0_worth_23 (by decide) (fun u32 => ?_) (fun u32 => ?_)
      · refine lv_iconst (v := (0 : Int32)) S.1 S.2.1 dX0_worth_30 ki_0 ?_
        have e30 := e30.trans (if_neg u32)
        subst e30
        exact hM31 ls (lv_sub hl [1, 2, 3, 4, 0] rfl)
      · refine lv_iconst (v := (1 : Int32)) S.1 S.2.1 dX0_worth_26 ki_1 ?_
        refine lv_goto (tgt := 31) S.1 S.2.1 dX0_worth_27 (by decide) ?_
        have e30 := e30.trans (if_pos u32)
        subst e30
        exact hM31 ls (lv_sub hl [1, 2, 3, 4, 0] rfl)
    intro ls hl
    refine lv_istore (lv' := [(5, .int y29), (0, .ref h0), (1, .int p1), (2, .int p2), (3, .int p3), (4, .int r21)]) S.1 S.2.1 dX0_worth_31 hl (by decide) rfl (fun ls hl => ?_)
    refine lv_iload S.1 S.2.1 dX0_worth_33 (lv_at hl 0 rfl) ?_
    refine lv_if_eq (tgt := 47) S.1 S.2.1 dX0_worth_35 (by decide) (fun u33 => ?_) (fun u33 => ?_)
    · have h := of_p u33 h
      refine lv_iload S.1 S.2.1 dX0_worth_47 (lv_at hl 5 rfl) ?_
      refine lv_iload_n S.1 S.2.1 dX0_worth_49 rfl (lv_at hl 2 rfl) ?_
      refine lv_icmp_gt (tgt := 56) S.1 S.2.1 dX0_worth_50 (by decide) (fun u34 => ?_) (fun u34 => ?_)
      · have h := of_p u34 h
        exact hJ56 _ _ _ _ _ _ h H locs hW ls (lv_sub hl [1, 2, 3, 4, 5, 0] rfl)
      · have h := of_n u34 h
        refine lv_iload S.1 S.2.1 dX0_worth_53 (lv_at hl 5 rfl) ?_
        have f35 := Option.some.inj h
        obtain ⟨f36, f37⟩ := Prod.mk.inj f35
        subst f36
        subst f37
        exact ri S hr hlocks hW dX0_worth_55
    · have h := of_n u33 h
      refine lv_iload S.1 S.2.1 dX0_worth_38 (lv_at hl 5 rfl) ?_
      refine lv_iload_n S.1 S.2.1 dX0_worth_40 rfl (lv_at hl 3 rfl) ?_
      refine lv_icmp_lt (tgt := 56) S.1 S.2.1 dX0_worth_41 (by decide) (fun u38 => ?_) (fun u38 => ?_)
      · have h := of_p u38 h
        exact hJ56 _ _ _ _ _ _ h H locs hW ls (lv_sub hl [1, 2, 3, 4, 5, 0] rfl)
      · have h := of_n u38 h
        refine lv_goto (tgt := 53) S.1 S.2.1 dX0_worth_44 (by decide) ?_
        refine lv_iload S.1 S.2.1 dX0_worth_53 (lv_at hl 5 rfl) ?_
        have f39 := Option.some.inj h
        obtain ⟨f40, f41⟩ := Prod.mk.inj f39
        subst f40
        subst f41
        exact ri S hr hlocks hW dX0_worth_55
  · have h := of_p u26 h
    refine lv_iload S.1 S.2.1 dX0_worth_16 (lv_at hl 0 rfl) ?_
    have f42 := Option.some.inj h
    obtain ⟨f43, f44⟩ := Prod.mk.inj f42
    subst f43
    subst f44
    exact ri S hr hlocks hW dX0_worth_18
set_option maxHeartbeats 4000000 in
set_option maxRecDepth 100000 in
theorem t_X0_worthUnbowed (l : Launch) (dC : Nat → ClassId) (dI : Nat → Nat → Nat) (cI cJ cZ cB : ClassId) (zz : ZT) (d : Nat) (kw : Nat → (Nat → Nat → Int32) → Int32 → Int32 → Int32 → Option (Int32 × (Nat → Nat → Int32))) (hkw : ∀ (h0 : Nat) (a0 : Nat → Nat) (F : Nat) (c0 : Nat → Nat → Int32) (p1 p2 p3 : Int32) (r : Int32) (c0' : Nat → Nat → Int32), kw F c0 p1 p2 p3 = some (r, c0') → ct l (dC, dI) zz (ty4 cI cJ cZ cB) yX0_worth cX0_worth 9 (some .int) (rmW d) [.ref h0, .int p1, .int p2, .int p3] (cwX3 cI cJ cZ cB h0 a0 c0 []) (cwX3 cI cJ cZ cB h0 a0 c0' []) (some (.int r))) (h0 : Nat) (a0 : Nat → Nat) (F : Nat) (c0 : Nat → Nat → Int32) (p1 : Int32) (p2 : Int32) (p3 : Int32) (r : Int32) (c0' : Nat → Nat → Int32) (hm : md_X0_worthUnbowed d kw F c0 p1 p2 p3 = some (r, c0')) : ct l (dC, dI) zz (ty4 cI cJ cZ cB) yX0_worthUnbowed cX0_worthUnbowed 13 (some .int) (rmU (d + 1)) [.ref h0, .int p1, .int p2, .int p3] (cwX3 cI cJ cZ cB h0 a0 c0 []) (cwX3 cI cJ cZ cB h0 a0 c0' []) (some (.int r)) := by
  refine ct_of (cc := cX0_worthUnbowed) (maxL := 13) (ret := (some .int)) (by decide) (Nat.le_of_ble_eq_true rfl) ?_
  intro p e s m below meth c A S hr hlocks hK hN hZ hA H locs hW ls hl
  have S : CallFix p m c cX0_worthUnbowed 13 s (List.toArray [.ref h0, .int p1, .int p2, .int p3]) G RX0 := S
  have hl : lv_has ls 13 [(0, .ref h0), (1, .int p1), (2, .int p2), (3, .int p3)] := hl
  have h := hm
  rw [md_X0_worthUnbowed] at h
  have hW : wd (dC, dI) A s.heap (clX3 cI cJ cZ cB h0 a0 (c0 0) (c0 1) (c0 2) (c0 3) (c0 4) (c0 5 0) (c0 6 0) (c0 7 0) (c0 8 0) (c0 9 0) []) H locs := hW
  have hL67 : ∀ (n67 : Nat) (c0 : Nat → Nat → Int32) (x3 : Int32) (x4 : Int32) (x5 : Int32) (x6 : Int32) (x7 : Int32) (x8 : Int32) (x9 : Int64) (x11 : Int32), ld_X0_worthUnbowed_67 d kw F n67 c0 x3 x4 x5 x6 x7 x8 x9 x11 = some (r, c0') → ∀ (H : Heap) (locs : List Loc), wd (dC, dI) A s.heap (clX3 cI cJ cZ cB h0 a0 (c0 0) (c0 1) (c0 2) (c0 3) (c0 4) (c0 5 0) (c0 6 0) (c0 7 0) (c0 8 0) (c0 9 0) []) H locs → ∀ ls : Array Slot, lv_has ls 13 [(0, .ref h0), (3, .int x3), (4, .int x4), (5, .int x5), (6, .int x6), (7, .int x7), (8, .int x8), (9, .long x9), (11, .int x11)] → W p l e (rmU (d + 1)) s m (List.toArray [.ref h0, .int p1, .int p2, .int p3]) below meth c H locs 0 0 (MQ below (kQ (dC, dI) (cwX3 cI cJ cZ cB h0 a0 c0' []) (some (.int r)) A) (List.toArray [.ref h0, .int p1, .int p2, .int p3]) s 0 0 A) (F0 m 67 ls []) := by
    intro n67
    induction n67 with
    | zero => intro c0 x3 x4 x5 x6 x7 x8 x9 x11 h; rw [ld_X0_worthUnbowed_67] at h; cases h
    | succ n67 ih67 =>
      intro c0 x3 x4 x5 x6 x7 x8 x9 x11 h H locs hW ls hl
      rw [ld_X0_worthUnbowed_67] at h
      have hJ157 : ∀ (c0 : Nat → Nat → Int32) (x3 : Int32) (x4 : Int32) (x5 : Int32) (x6 : Int32) (x8 : Int32) (x9 : Int64) (x11 : Int32) (s0 : Int32), jd_X0_worthUnbowed_157 d kw F (ld_X0_worthUnbowed_67 d kw F n67) c0 x3 x4 x5 x6 x8 x9 x11 s0 = some (r, c0') → ∀ (H : Heap) (locs : List Loc), wd (dC, dI) A s.heap (clX3 cI cJ cZ cB h0 a0 (c0 0) (c0 1) (c0 2) (c0 3) (c0 4) (c0 5 0) (c0 6 0) (c0 7 0) (c0 8 0) (c0 9 0) []) H locs → ∀ ls : Array Slot, lv_has ls 13 [(0, .ref h0), (3, .int x3), (4, .int x4), (5, .int x5), (6, .int x6), (8, .int x8), (9, .long x9), (11, .int x11)] → W p l e (rmU (d + 1)) s m (List.toArray [.ref h0, .int p1, .int p2, .int p3]) below meth c H locs 0 0 (MQ below (kQ (dC, dI) (cwX3 cI cJ cZ cB h0 a0 c0' []) (some (.int r)) A) (List.toArray [.ref h0, .int p1, .int p2, .int p3]) s 0 0 A) (F0 m 157 ls [.int s0]) := by
        intro c0 x3 x4 x5 x6 x8 x9 x11 s0 h H locs hW ls hl
        rw [jd_X0_worthUnbowed_157] at h
        refine lv_istore (lv' := [(7, .int s0), (0, .ref h0), (3, .int x3), (4, .int x4), (5, .int x5), (6, .int x6), (8, .int x8), (9, .long x9), (11, .int x11)]) S.1 S.2.1 dX0_worthUnbowed_157 hl (by decide) rfl (fun ls hl => ?_)
        refine lv_iload S.1 S.2.1 dX0_worthUnbowed_159 (lv_at hl 4 rfl) ?_
        refine lv_if_eq (tgt := 169) S.1 S.2.1 dX0_worthUnbowed_161 (by decide) (fun u1 => ?_) (fun u1 => ?_)
        · have h := of_p u1 h
          refine lv_iload S.1 S.2.1 dX0_worthUnbowed_169 (lv_at hl 6 rfl) ?_
          refine lv_iload S.1 S.2.1 dX0_worthUnbowed_171 (lv_at hl 5 rfl) ?_
          refine va_mmin S.1 S.2.1 (S.2.2.1.trans hl.1.symm) S.2.2.2.1 (S.2.2.2.2 _ wl_X0_56) (S.2.2.2.2 _ ws_min) (S.2.2.2.2 _ wi_J9) (S.2.2.2.2 _ wo_min) ((by show 1 ≤ 2 * (d + 1) + 8; omega)) ((by show 0 + 13 ≤ 64 * (d + 1) + 200; omega)) (Nat.zero_le _) (Nat.zero_le _) dX0_worthUnbowed_173 ?_
          obtain ⟨y2, e3, h⟩ := lt1_e h
          refine nmi e3 ?_
          refine lv_istore (lv' := [(8, .int y2), (7, .int s0), (0, .ref h0), (3, .int x3), (4, .int x4), (5, .int x5), (6, .int x6), (9, .long x9), (11, .int x11)]) S.1 S.2.1 dX0_worthUnbowed_176 hl (by decide) rfl (fun ls hl => ?_)
          refine lv_iinc (v := (x11 + (1 : Int32))) (lv' := [(11, .int (x11 + (1 : Int32))), (8, .int y2), (7, .int s0), (0, .ref h0), (3, .int x3), (4, .int x4), (5, .int x5), (6, .int x6), (9, .long x9)]) S.1 S.2.1 dX0_worthUnbowed_178 hl (k := 8) rfl (congrArg (fun z => x11 + z) ki_1) (by decide) rfl (fun ls hl => ?_)
          refine lv_goto (tgt := 67) S.1 S.2.1 dX0_worthUnbowed_181 (by decide) ?_
          exact ih67 _ _ _ _ _ _ _ _ _ h H locs hW ls (lv_sub hl [3, 4, 5, 6, 7, 2, 1, 8, 0] rfl)
        · have h := of_n u1 h
          refine lv_iload S.1 S.2.1 dX0_worthUnbowed_164 (lv_at hl 6 rfl) ?_
          refine lv_goto (tgt := 176) S.1 S.2.1 dX0_worthUnbowed_166 (by decide) ?_
          refine lv_istore (lv' := [(8, .int x8), (7, .int s0), (0, .ref h0), (3, .int x3), (4, .int x4), (5, .int x5), (6, .int x6), (9, .long x9), (11, .int x11)]) S.1 S.2.1 dX0_worthUnbowed_176 hl (by decide) rfl (fun ls hl => ?_)
          refine lv_iinc (v := (x11 + (1 : Int32))) (lv' := [(11, .int (x11 + (1 : Int32))), (8, .int x8), (7, .int s0), (0, .ref h0), (3, .int x3), (4, .int x4), (5, .int x5), (6, .int x6), (9, .long x9)]) S.1 S.2.1 dX0_worthUnbowed_178 hl (k := 8) rfl (congrArg (fun z => x11 + z) ki_1) (by decide) rfl (fun ls hl => ?_)
          refine lv_goto (tgt := 67) S.1 S.2.1 dX0_worthUnbowed_181 (by decide) ?_
          exact ih67 _ _ _ _ _ _ _ _ _ h H locs hW ls (lv_sub hl [3, 4, 5, 6, 7, 2, 1, 8, 0] rfl)
      have hJ138 : ∀ (c0 : Nat → Nat → Int32) (x3 : Int32) (x4 : Int32) (x5 : Int32) (x7 : Int32) (x8 : Int32) (x9 : Int64) (x11 : Int32) (s0 : Int32), jd_X0_worthUnbowed_138 d kw F (ld_X0_worthUnbowed_67 d kw F n67) c0 x3 x4 x5 x7 x8 x9 x11 s0 = some (r, c0') → ∀ (H : Heap) (locs : List Loc), wd (dC, dI) A s.heap (clX3 cI cJ cZ cB h0 a0 (c0 0) (c0 1) (c0 2) (c0 3) (c0 4) (c0 5 0) (c0 6 0) (c0 7 0) (c0 8 0) (c0 9 0) []) H locs → ∀ ls : Array Slot, lv_has ls 13 [(0, .ref h0), (3, .int x3), (4, .int x4), (5, .int x5), (7, .int x7), (8, .int x8), (9, .long x9), (11, .int x11)] → W p l e (rmU (d + 1)) s m (List.toArray [.ref h0, .int p1, .int p2, .int p3]) below meth c H locs 0 0 (MQ below (kQ (dC, dI) (cwX3 cI cJ cZ cB h0 a0 c0' []) (some (.int r)) A) (List.toArray [.ref h0, .int p1, .int p2, .int p3]) s 0 0 A) (F0 m 138 ls [.int s0]) := by
        intro c0 x3 x4 x5 x7 x8 x9 x11 s0 h H locs hW ls hl
        rw [jd_X0_worthUnbowed_138] at h
        refine lv_istore (lv' := [(6, .int s0), (0, .ref h0), (3, .int x3), (4, .int x4), (5, .int x5), (7, .int x7), (8, .int x8), (9, .long x9), (11, .int x11)]) S.1 S.2.1 dX0_worthUnbowed_138 hl (by decide) rfl (fun ls hl => ?_)
        refine lv_iload S.1 S.2.1 dX0_worthUnbowed_140 (lv_at hl 4 rfl) ?_
        refine lv_if_eq (tgt := 155) S.1 S.2.1 dX0_worthUnbowed_142 (by decide) (fun u4 => ?_) (fun u4 => ?_)
        · have h := of_p u4 h
          refine lv_iload S.1 S.2.1 dX0_worthUnbowed_155 (lv_at hl 5 rfl) ?_
          exact hJ157 _ _ _ _ _ _ _ _ _ h H locs hW ls (lv_sub hl [1, 2, 3, 4, 0, 6, 7, 8] rfl)
        · have h := of_n u4 h
          refine lv_iload S.1 S.2.1 dX0_worthUnbowed_145 (lv_at hl 5 rfl) ?_
          refine lv_iload S.1 S.2.1 dX0_worthUnbowed_147 (lv_at hl 0 rfl) ?_
          refine va_mmax S.1 S.2.1 (S.2.2.1.trans hl.1.symm) S.2.2.2.1 (S.2.2.2.2 _ wl_X0_50) (S.2.2.2.2 _ ws_max) (S.2.2.2.2 _ wi_J9) (S.2.2.2.2 _ wo_max) ((by show 1 ≤ 2 * (d + 1) + 8; omega)) ((by show 0 + 13 ≤ 64 * (d + 1) + 200; omega)) (Nat.zero_le _) (Nat.zero_le _) dX0_worthUnbowed_149 ?_
          refine lv_goto (tgt := 157) S.1 S.2.1 dX0_worthUnbowed_152 (by decide) ?_
          exact hJ157 _ _ _ _ _ _ _ _ _ h H locs hW ls (lv_sub hl [1, 2, 3, 4, 0, 6, 7, 8] rfl)
      refine lv_iload S.1 S.2.1 dX0_worthUnbowed_67 (lv_at hl 8 rfl) ?_
      refine lv_bipush (v := (6 : Int32)) S.1 S.2.1 dX0_worthUnbowed_69 kb_6 ?_
      refine lv_icmp_ge (tgt := 184) S.1 S.2.1 dX0_worthUnbowed_71 (by decide) (fun u5 => ?_) (fun u5 => ?_)
      · have h := of_p u5 h
        refine lv_iload S.1 S.2.1 dX0_worthUnbowed_184 (lv_at hl 4 rfl) ?_
        have f6 := Option.some.inj h
        obtain ⟨f7, f8⟩ := Prod.mk.inj f6
        subst f7
        subst f8
        exact ri S hr hlocks hW dX0_worthUnbowed_186
      · have h := of_n u5 h
        refine lv_iload S.1 S.2.1 dX0_worthUnbowed_74 (lv_at hl 5 rfl) ?_
        refine lv_iload S.1 S.2.1 dX0_worthUnbowed_76 (lv_at hl 6 rfl) ?_
        refine lv_icmp_ge (tgt := 184) S.1 S.2.1 dX0_worthUnbowed_78 (by decide) (fun u9 => ?_) (fun u9 => ?_)
        · have h := of_p u9 h
          refine lv_iload S.1 S.2.1 dX0_worthUnbowed_184 (lv_at hl 4 rfl) ?_
          have f10 := Option.some.inj h
          obtain ⟨f11, f12⟩ := Prod.mk.inj f10
          subst f11
          subst f12
          exact ri S hr hlocks hW dX0_worthUnbowed_186
        · have h := of_n u9 h
          refine lv_iload S.1 S.2.1 dX0_worthUnbowed_81 (lv_at hl 2 rfl) ?_
          refine lv_iload S.1 S.2.1 dX0_worthUnbowed_83 (lv_at hl 8 rfl) ?_
          obtain ⟨r13, hy14, h⟩ := bd1_e h
          refine kn0 S hK hN hZ hA hW (rest := []) (t_X8_has l dC dI cI cJ cZ cB zz x4 x11 _  hy14) wx_X0_39 wv_X8_has rfl rfl ⟨(by show 0 + 1 ≤ 2 * (d + 1) + 8; omega), (by show 8 + (2 + 11) + 0 ≤ 64 * (d + 1) + 200; omega)⟩ [] (clX3 cI cJ cZ cB h0 a0 (c0 0) (c0 1) (c0 2) (c0 3) (c0 4) (c0 5 0) (c0 6 0) (c0 7 0) (c0 8 0) (c0 9 0) []) rfl rfl hl.1 rfl (Nat.le_of_ble_eq_true rfl) dX0_worthUnbowed_85 [.int r13] rfl (fun H locs hW => ?_)
          refine lv_if_eq (tgt := 178) S.1 S.2.1 dX0_worthUnbowed_88 (by decide) (fun u15 => ?_) (fun u15 => ?_)
          · have h := of_p u15 h
            refine lv_iinc (v := (x11 + (1 : Int32))) (lv' := [(11, .int (x11 + (1 : Int32))), (0, .ref h0), (3, .int x3), (4, .int x4), (5, .int x5), (6, .int x6), (7, .int x7), (8, .int x8), (9, .long x9)]) S.1 S.2.1 dX0_worthUnbowed_178 hl (k := 8) rfl (congrArg (fun z => x11 + z) ki_1) (by decide) rfl (fun ls hl => ?_)
            refine lv_goto (tgt := 67) S.1 S.2.1 dX0_worthUnbowed_181 (by decide) ?_
            exact ih67 _ _ _ _ _ _ _ _ _ h H locs hW ls (lv_sub hl [1, 2, 3, 4, 5, 6, 7, 8, 0] rfl)
          · have h := of_n u15 h
            refine lv_aload_n S.1 S.2.1 dX0_worthUnbowed_91 rfl (lv_at hl 0 rfl) ?_
            refine lv_iload S.1 S.2.1 dX0_worthUnbowed_92 (lv_at hl 8 rfl) ?_
            obtain ⟨cv16, hy17, h⟩ := bd1_e h
            refine kv (clX3 cI cJ cZ cB h0 a0 (cv16 0) (cv16 1) (cv16 2) (cv16 3) (cv16 4) (cv16 5 0) (cv16 6 0) (cv16 7 0) (cv16 8 0) (cv16 9 0) []) S hK hN hZ hA hW (rest := []) (t_X3_speak l dC dI cI cJ cZ cB zz h0 a0 c0 x11 _  hy17) wl_X0_43 wv_X3_speak rfl rfl ⟨(by show 3 + 1 ≤ 2 * (d + 1) + 8; omega), (by show 8 + (4 + 11) + 68 ≤ 64 * (d + 1) + 200; omega)⟩ [] [] rfl rfl rfl 0 rfl rfl rfl rfl hl.1 rfl (Nat.le_of_ble_eq_true rfl) dX0_worthUnbowed_94 [] rfl (fun H locs hW => ?_)
            refine lv_aload_n S.1 S.2.1 dX0_worthUnbowed_97 rfl (lv_at hl 0 rfl) ?_
            refine lv_iload S.1 S.2.1 dX0_worthUnbowed_98 (lv_at hl 5 rfl) ?_
            refine lv_iload S.1 S.2.1 dX0_worthUnbowed_100 (lv_at hl 6 rfl) ?_
            refine lv_iload_n S.1 S.2.1 dX0_worthUnbowed_102 rfl (lv_at hl 1 rfl) ?_
            refine lv_iconst (v := (1 : Int32)) S.1 S.2.1 dX0_worthUnbowed_103 ki_1 ?_
            refine lv_iadd S.1 S.2.1 dX0_worthUnbowed_104 ?_
            obtain ⟨r18, cv19, hy20, h⟩ := bd2_e h
            refine ks (clX3 cI cJ cZ cB h0 a0 (cv19 0) (cv19 1) (cv19 2) (cv19 3) (cv19 4) (cv19 5 0) (cv19 6 0) (cv19 7 0) (cv19 8 0) (cv19 9 0) []) S hK hN hZ hA hW (rest := []) (hkw h0 a0 F cv16 x7 x8 (x3 + (1 : Int32)) _ _ hy20) wl_X0_47 wv_X0_worth rfl rfl ⟨(by show (2 * d + 9) + 1 ≤ 2 * (d + 1) + 8; omega), (by show 8 + (9 + 11) + (64 * d + 232) ≤ 64 * (d + 1) + 200; omega)⟩ [] [] rfl rfl rfl rfl hl.1 rfl (Nat.le_of_ble_eq_true rfl) dX0_worthUnbowed_105 [.int r18] rfl (fun H locs hW => ?_)
            refine lv_istore (lv' := [(12, .int r18), (0, .ref h0), (3, .int x3), (4, .int x4), (5, .int x5), (6, .int x6), (7, .int x7), (8, .int x8), (9, .long x9), (11, .int x11)]) S.1 S.2.1 dX0_worthUnbowed_108 hl (by decide) rfl (fun ls hl => ?_)
            refine lv_aload_n S.1 S.2.1 dX0_worthUnbowed_110 rfl (lv_at hl 1 rfl) ?_
            refine lv_lload S.1 S.2.1 dX0_worthUnbowed_111 (lv_at hl 8 rfl) ?_
            obtain ⟨cv21, hy22, h⟩ := bd1_e h
            refine kv (clX3 cI cJ cZ cB h0 a0 (cv21 0) (cv21 1) (cv21 2) (cv21 3) (cv21 4) (cv21 5 0) (cv21 6 0) (cv21 7 0) (cv21 8 0) (cv21 9 0) []) S hK hN hZ hA hW (rest := []) (t_X3_back l dC dI cI cJ cZ cB zz h0 a0 F cv19 x9 _  hy22) wl_X0_32 wv_X3_back rfl rfl ⟨(by show 0 + 1 ≤ 2 * (d + 1) + 8; omega), (by show 8 + (6 + 11) + 0 ≤ 64 * (d + 1) + 200; omega)⟩ [] [] rfl rfl rfl 0 rfl rfl rfl rfl hl.1 rfl (Nat.le_of_ble_eq_true rfl) dX0_worthUnbowed_113 [] rfl (fun H locs hW => ?_)
            refine lv_iload S.1 S.2.1 dX0_worthUnbowed_116 (lv_at hl 4 rfl) ?_
            refine lv_if_eq (tgt := 131) S.1 S.2.1 dX0_worthUnbowed_118 (by decide) (fun u23 => ?_) (fun u23 => ?_)
            · have h := of_p u23 h
              refine lv_iload S.1 S.2.1 dX0_worthUnbowed_131 (lv_at hl 5 rfl) ?_
              refine lv_iload S.1 S.2.1 dX0_worthUnbowed_133 (lv_at hl 0 rfl) ?_
              refine va_mmin S.1 S.2.1 (S.2.2.1.trans hl.1.symm) S.2.2.2.1 (S.2.2.2.2 _ wl_X0_56) (S.2.2.2.2 _ ws_min) (S.2.2.2.2 _ wi_J9) (S.2.2.2.2 _ wo_min) ((by show 1 ≤ 2 * (d + 1) + 8; omega)) ((by show 0 + 13 ≤ 64 * (d + 1) + 200; omega)) (Nat.zero_le _) (Nat.zero_le _) dX0_worthUnbowed_135 ?_
              exact hJ138 _ _ _ _ _ _ _ _ _ h H locs hW ls (lv_sub hl [1, 2, 3, 4, 6, 7, 8, 9] rfl)
            · have h := of_n u23 h
              refine lv_iload S.1 S.2.1 dX0_worthUnbowed_121 (lv_at hl 5 rfl) ?_
              refine lv_iload S.1 S.2.1 dX0_worthUnbowed_123 (lv_at hl 0 rfl) ?_
              refine va_mmax S.1 S.2.1 (S.2.2.1.trans hl.1.symm) S.2.2.2.1 (S.2.2.2.2 _ wl_X0_50) (S.2.2.2.2 _ ws_max) (S.2.2.2.2 _ wi_J9) (S.2.2.2.2 _ wo_max) ((by show 1 ≤ 2 * (d + 1) + 8; omega)) ((by show 0 + 13 ≤ 64 * (d + 1) + 200; omega)) (Nat.zero_le _) (Nat.zero_le _) dX0_worthUnbowed_125 ?_
              refine lv_goto (tgt := 138) S.1 S.2.1 dX0_worthUnbowed_128 (by decide) ?_
              exact hJ138 _ _ _ _ _ _ _ _ _ h H locs hW ls (lv_sub hl [1, 2, 3, 4, 6, 7, 8, 9] rfl)
  have hJ17 : ∀ (c0 : Nat → Nat → Int32), jd_X0_worthUnbowed_17 d kw F c0 = some (r, c0') → ∀ (H : Heap) (locs : List Loc), wd (dC, dI) A s.heap (clX3 cI cJ cZ cB h0 a0 (c0 0) (c0 1) (c0 2) (c0 3) (c0 4) (c0 5 0) (c0 6 0) (c0 7 0) (c0 8 0) (c0 9 0) []) H locs → ∀ ls : Array Slot, lv_has ls 13 [(0, .ref h0)] → W p l e (rmU (d + 1)) s m (List.toArray [.ref h0, .int p1, .int p2, .int p3]) below meth c H locs 0 0 (MQ below (kQ (dC, dI) (cwX3 cI cJ cZ cB h0 a0 c0' []) (some (.int r)) A) (List.toArray [.ref h0, .int p1, .int p2, .int p3]) s 0 0 A) (F0 m 17 ls []) := by
    intro c0 h H locs hW ls hl
    rw [jd_X0_worthUnbowed_17] at h
    refine lv_aload_n S.1 S.2.1 dX0_worthUnbowed_17 rfl (lv_at hl 0 rfl) ?_
    obtain ⟨r24, hy25, h⟩ := bd1_e h
    refine kv0 S hK hN hZ hA hW (rest := []) (t_X3_worthForCounselZero l dC dI cI cJ cZ cB zz h0 a0 c0 _  hy25) wl_X0_59 wv_X3_worthForCounselZero rfl rfl ⟨(by show 1 + 1 ≤ 2 * (d + 1) + 8; omega), (by show 8 + (1 + 11) + 21 ≤ 64 * (d + 1) + 200; omega)⟩ [] [] rfl 0 rfl rfl rfl rfl hl.1 rfl (Nat.le_of_ble_eq_true rfl) dX0_worthUnbowed_18 [.int r24] rfl (fun H locs hW => ?_)
    have f26 := Option.some.inj h
    obtain ⟨f27, f28⟩ := Prod.mk.inj f26
    subst f27
    subst f28
    exact ri S hr hlocks hW dX0_worthUnbowed_21
  refine lv_aload_n S.1 S.2.1 dX0_worthUnbowed_0 rfl (lv_at hl 0 rfl) ?_
  obtain ⟨r29, hy30, h⟩ := bd1_e h
  refine kv0 S hK hN hZ hA hW (rest := []) (t_X3_unsaid l dC dI cI cJ cZ cB zz h0 a0 c0 _  hy30) wl_X0_36 wv_X3_unsaid rfl rfl ⟨(by show 0 + 1 ≤ 2 * (d + 1) + 8; omega), (by show 8 + (1 + 11) + 0 ≤ 64 * (d + 1) + 200; omega)⟩ [] [] rfl 0 rfl rfl rfl rfl hl.1 rfl (Nat.le_of_ble_eq_true rfl) dX0_worthUnbowed_1 [.int r29] rfl (fun H locs hW => ?_)
  refine lv_istore (lv' := [(4, .int r29), (0, .ref h0), (1, .int p1), (2, .int p2), (3, .int p3)]) S.1 S.2.1 dX0_worthUnbowed_4 hl (by decide) rfl (fun ls hl => ?_)
  refine lv_iload S.1 S.2.1 dX0_worthUnbowed_6 (lv_at hl 0 rfl) ?_
  refine lv_if_eq (tgt := 17) S.1 S.2.1 dX0_worthUnbowed_8 (by decide) (fun u31 => ?_) (fun u31 => ?_)
  · have h := of_p u31 h
    exact hJ17 _ h H locs hW ls (lv_sub hl [1] rfl)
  · have h := of_n u31 h
    refine lv_iload_n S.1 S.2.1 dX0_worthUnbowed_11 rfl (lv_at hl 4 rfl) ?_
    refine lv_bipush (v := (6 : Int32)) S.1 S.2.1 dX0_worthUnbowed_12 kb_6 ?_
    refine lv_icmp_lt (tgt := 22) S.1 S.2.1 dX0_worthUnbowed_14 (by decide) (fun u32 => ?_) (fun u32 => ?_)
    · have h := of_p u32 h
      refine lv_aload_n S.1 S.2.1 dX0_worthUnbowed_22 rfl (lv_at hl 1 rfl) ?_
      obtain ⟨r33, hy34, h⟩ := bd1_e h
      refine kv0 S hK hN hZ hA hW (rest := []) (t_X3_speaker l dC dI cI cJ cZ cB zz h0 a0 c0 _  hy34) wl_X0_15 wv_X3_speaker rfl rfl ⟨(by show 1 + 1 ≤ 2 * (d + 1) + 8; omega), (by show 8 + (1 + 11) + 20 ≤ 64 * (d + 1) + 200; omega)⟩ [] [] rfl 0 rfl rfl rfl rfl hl.1 rfl (Nat.le_of_ble_eq_true rfl) dX0_worthUnbowed_23 [.int r33] rfl (fun H locs hW => ?_)
      obtain ⟨y35, e36, h⟩ := lt1_e h
      suffices hM37 : ∀ ls : Array Slot, lv_has ls 13 [(0, .ref h0), (1, .int p1), (2, .int p2), (3, .int p3), (4, .int r29)] → W p l e (rmU (d + 1)) s m (List.toArray [.ref h0, .int p1, .int p2, .int p3]) below meth c H locs 0 0 (MQ below (kQ (dC, dI) (cwX3 cI cJ cZ cB h0 a0 c0' []) (some (.int r)) A) (List.toArray [.ref h0, .int p1, .int p2, .int p3]) s 0 0 A) (F0 m 34 ls [.int y35]) by
        refine lv_if_ne (tgt := 33) S.1 S.2.1 dX0_worthUnbowed_26 (by decide) (fun u38 => ?_) (fun u38 => ?_)
        · refine lv_iconst (v := (0 : Int32)) S.1 S.2.1 dX0_worthUnbowed_33 ki_0 ?_
          have e36 := e36.trans (if_neg u38)
          subst e36
          exact hM37 ls (lv_sub hl [1, 2, 3, 4, 0] rfl)
        · refine lv_iconst (v := (1 : Int32)) S.1 S.2.1 dX0_worthUnbowed_29 ki_1 ?_
          refine lv_goto (tgt := 34) S.1 S.2.1 dX0_worthUnbowed_30 (by decide) ?_
          have e36 := e36.trans (if_pos u38)
          subst e36
          exact hM37 ls (lv_sub hl [1, 2, 3, 4, 0] rfl)
      intro ls hl
      refine lv_istore (lv' := [(5, .int y35), (0, .ref h0), (1, .int p1), (2, .int p2), (3, .int p3), (4, .int r29)]) S.1 S.2.1 dX0_worthUnbowed_34 hl (by decide) rfl (fun ls hl => ?_)
      refine lv_iload S.1 S.2.1 dX0_worthUnbowed_36 (lv_at hl 0 rfl) ?_
      obtain ⟨y39, e40, h⟩ := lt1_e h
      suffices hM41 : ∀ ls : Array Slot, lv_has ls 13 [(0, .ref h0), (1, .int p1), (2, .int p2), (3, .int p3), (4, .int r29), (5, .int y35)] → W p l e (rmU (d + 1)) s m (List.toArray [.ref h0, .int p1, .int p2, .int p3]) below meth c H locs 0 0 (MQ below (kQ (dC, dI) (cwX3 cI cJ cZ cB h0 a0 c0' []) (some (.int r)) A) (List.toArray [.ref h0, .int p1, .int p2, .int p3]) s 0 0 A) (F0 m 50 ls [.int y39]) by
        refine lv_if_eq (tgt := 47) S.1 S.2.1 dX0_worthUnbowed_38 (by decide) (fun u42 => ?_) (fun u42 => ?_)
        · refine lv_sipush (v := (1000 : Int32)) S.1 S.2.1 dX0_worthUnbowed_47 ks_1000 ?_
          have e40 := e40.trans (if_pos u42)
          subst e40
          exact hM41 ls (lv_sub hl [1, 2, 3, 4, 5, 0] rfl)
        · refine lv_sipush (v := (-1000 : Int32)) S.1 S.2.1 dX0_worthUnbowed_41 ks_m1000 ?_
          refine lv_goto (tgt := 50) S.1 S.2.1 dX0_worthUnbowed_44 (by decide) ?_
          have e40 := e40.trans (if_neg u42)
          subst e40
          exact hM41 ls (lv_sub hl [1, 2, 3, 4, 5, 0] rfl)
      intro ls hl
      refine lv_istore (lv' := [(6, .int y39), (0, .ref h0), (1, .int p1), (2, .int p2), (3, .int p3), (4, .int r29), (5, .int y35)]) S.1 S.2.1 dX0_worthUnbowed_50 hl (by decide) rfl (fun ls hl => ?_)
      refine lv_iload_n S.1 S.2.1 dX0_worthUnbowed_52 rfl (lv_at hl 2 rfl) ?_
      refine lv_istore (lv' := [(7, .int p1), (6, .int y39), (0, .ref h0), (1, .int p1), (2, .int p2), (3, .int p3), (4, .int r29), (5, .int y35)]) S.1 S.2.1 dX0_worthUnbowed_53 hl (by decide) rfl (fun ls hl => ?_)
      refine lv_iload_n S.1 S.2.1 dX0_worthUnbowed_55 rfl (lv_at hl 4 rfl) ?_
      refine lv_istore (lv' := [(8, .int p2), (7, .int p1), (6, .int y39), (0, .ref h0), (1, .int p1), (2, .int p2), (3, .int p3), (4, .int r29), (5, .int y35)]) S.1 S.2.1 dX0_worthUnbowed_56 hl (by decide) rfl (fun ls hl => ?_)
      refine lv_aload_n S.1 S.2.1 dX0_worthUnbowed_58 rfl (lv_at hl 3 rfl) ?_
      obtain ⟨r43, hy44, h⟩ := bd1_e h
      refine kv0 S hK hN hZ hA hW (rest := []) (t_X3_keep l dC dI cI cJ cZ cB zz h0 a0 F c0 _  hy44) wl_X0_25 wv_X3_keep rfl rfl ⟨(by show 0 + 1 ≤ 2 * (d + 1) + 8; omega), (by show 8 + (4 + 11) + 0 ≤ 64 * (d + 1) + 200; omega)⟩ [] [] rfl 0 rfl rfl rfl rfl hl.1 rfl (Nat.le_of_ble_eq_true rfl) dX0_worthUnbowed_59 [.long r43] rfl (fun H locs hW => ?_)
      refine lv_lstore (lv' := [(9, .long r43), (8, .int p2), (7, .int p1), (6, .int y39), (0, .ref h0), (1, .int p1), (2, .int p2), (3, .int p3), (4, .int r29), (5, .int y35)]) S.1 S.2.1 dX0_worthUnbowed_62 hl (by decide) rfl (fun ls hl => ?_)
      refine lv_iconst (v := (0 : Int32)) S.1 S.2.1 dX0_worthUnbowed_64 ki_0 ?_
      refine lv_istore (lv' := [(11, .int (0 : Int32)), (9, .long r43), (8, .int p2), (7, .int p1), (6, .int y39), (0, .ref h0), (1, .int p1), (2, .int p2), (3, .int p3), (4, .int r29), (5, .int y35)]) S.1 S.2.1 dX0_worthUnbowed_65 hl (by decide) rfl (fun ls hl => ?_)
      exact hL67 F _ _ _ _ _ _ _ _ _ h H locs hW ls (lv_sub hl [5, 8, 9, 10, 4, 3, 2, 1, 0] rfl)
    · have h := of_n u32 h
      exact hJ17 _ h H locs hW ls (lv_sub hl [1] rfl)
theorem t_wuD (l : Launch) (dC : Nat → ClassId) (dI : Nat → Nat → Nat) (cI cJ cZ cB : ClassId) (zz : ZT) : ∀ (d : Nat) (h0 : Nat) (a0 : Nat → Nat) (F : Nat) (c0 : Nat → Nat → Int32) (p1 p2 p3 : Int32) (r : Int32) (c0' : Nat → Nat → Int32) (hm : wuD d F c0 p1 p2 p3 = some (r, c0')), ct l (dC, dI) zz (ty4 cI cJ cZ cB) yX0_worthUnbowed cX0_worthUnbowed 13 (some .int) (rmU d) [.ref h0, .int p1, .int p2, .int p3] (cwX3 cI cJ cZ cB h0 a0 c0 []) (cwX3 cI cJ cZ cB h0 a0 c0' []) (some (.int r)) := by
  intro d
  induction d with
  | zero => intro h0 a0 F c0 p1 p2 p3 r c0' hm; cases hm
  | succ d ih =>
    intro h0 a0 F c0 p1 p2 p3 r c0' hm
    exact t_X0_worthUnbowed l dC dI cI cJ cZ cB zz d (fun F c0 p1 p2 p3 => md_X0_worth d (wuD d) F c0 p1 p2 p3) (fun h0 a0 F c0 p1 p2 p3 r c0' hm => t_X0_worth l dC dI cI cJ cZ cB zz d (wuD d) ih h0 a0 F c0 p1 p2 p3 r c0' hm) h0 a0 F c0 p1 p2 p3 r c0' hm
theorem t_wuD8 (l : Launch) (dC : Nat → ClassId) (dI : Nat → Nat → Nat) (cI cJ cZ cB : ClassId) (zz : ZT) (h0 : Nat) (a0 : Nat → Nat) (F : Nat) (c0 : Nat → Nat → Int32) (p1 p2 p3 : Int32) (r : Int32) (c0' : Nat → Nat → Int32) (hm : wuD 8 F c0 p1 p2 p3 = some (r, c0')) : ct l (dC, dI) zz (ty4 cI cJ cZ cB) yX0_worthUnbowed cX0_worthUnbowed 13 (some .int) (rmU 8) [.ref h0, .int p1, .int p2, .int p3] (cwX3 cI cJ cZ cB h0 a0 c0 []) (cwX3 cI cJ cZ cB h0 a0 c0' []) (some (.int r)) := t_wuD l dC dI cI cJ cZ cB zz 8 h0 a0 F c0 p1 p2 p3 r c0' hm
theorem t_wD8 (l : Launch) (dC : Nat → ClassId) (dI : Nat → Nat → Nat) (cI cJ cZ cB : ClassId) (zz : ZT) (h0 : Nat) (a0 : Nat → Nat) (F : Nat) (c0 : Nat → Nat → Int32) (p1 p2 p3 : Int32) (r : Int32) (c0' : Nat → Nat → Int32) (hm : md_X0_worth 8 (wuD 8) F c0 p1 p2 p3 = some (r, c0')) : ct l (dC, dI) zz (ty4 cI cJ cZ cB) yX0_worth cX0_worth 9 (some .int) (rmW 8) [.ref h0, .int p1, .int p2, .int p3] (cwX3 cI cJ cZ cB h0 a0 c0 []) (cwX3 cI cJ cZ cB h0 a0 c0' []) (some (.int r)) := t_X0_worth l dC dI cI cJ cZ cB zz 8 (wuD 8) (t_wuD l dC dI cI cJ cZ cB zz 8) h0 a0 F c0 p1 p2 p3 r c0' hm
abbrev rmX0_whetherToBow : Room := { frames := 25, cells := 0, slots := 0, locals := 744 }
set_option maxHeartbeats 4000000 in
set_option maxRecDepth 100000 in
theorem t_X0_whetherToBow (l : Launch) (dC : Nat → ClassId) (dI : Nat → Nat → Nat) (cI cJ cZ cB : ClassId) (zz : ZT)  (h0 : Nat) (a0 : Nat → Nat) (F : Nat) (c0 : Nat → Nat → Int32) (r : Int32) (c0' : Nat → Nat → Int32) (hm : md_X0_whetherToBow F c0 = some (r, c0')) : ct l (dC, dI) zz (ty4 cI cJ cZ cB) yX0_whetherToBow cX0_whetherToBow 6 (some .int) rmX0_whetherToBow [.ref h0] (cwX3 cI cJ cZ cB h0 a0 c0 []) (cwX3 cI cJ cZ cB h0 a0 c0' []) (some (.int r)) := by
  refine ct_of (cc := cX0_whetherToBow) (maxL := 6) (ret := (some .int)) (by decide) (Nat.le_of_ble_eq_true rfl) ?_
  intro p e s m below meth c A S hr hlocks hK hN hZ hA H locs hW ls hl
  have S : CallFix p m c cX0_whetherToBow 6 s (List.toArray [.ref h0]) G RX0 := S
  have hl : lv_has ls 6 [(0, .ref h0)] := hl
  have h := hm
  rw [md_X0_whetherToBow] at h
  have hW : wd (dC, dI) A s.heap (clX3 cI cJ cZ cB h0 a0 (c0 0) (c0 1) (c0 2) (c0 3) (c0 4) (c0 5 0) (c0 6 0) (c0 7 0) (c0 8 0) (c0 9 0) []) H locs := hW
  refine lv_aload_n S.1 S.2.1 dX0_whetherToBow_0 rfl (lv_at hl 0 rfl) ?_
  obtain ⟨r1, hy2, h⟩ := bd1_e h
  refine kv0 S hK hN hZ hA hW (rest := []) (t_X3_mayObject l dC dI cI cJ cZ cB zz h0 a0 c0 _  hy2) wl_X0_9 wv_X3_mayObject rfl rfl ⟨Nat.le_of_ble_eq_true rfl, Nat.le_of_ble_eq_true rfl⟩ [] [] rfl 0 rfl rfl rfl rfl hl.1 rfl (Nat.le_of_ble_eq_true rfl) dX0_whetherToBow_1 [.int r1] rfl (fun H locs hW => ?_)
  refine lv_if_ne (tgt := 9) S.1 S.2.1 dX0_whetherToBow_4 (by decide) (fun u3 => ?_) (fun u3 => ?_)
  · have h := of_n u3 h
    refine lv_aload_n S.1 S.2.1 dX0_whetherToBow_9 rfl (lv_at hl 0 rfl) ?_
    obtain ⟨r4, hy5, h⟩ := bd1_e h
    refine kv0 S hK hN hZ hA hW (rest := []) (t_X3_speaker l dC dI cI cJ cZ cB zz h0 a0 c0 _  hy5) wl_X0_15 wv_X3_speaker rfl rfl ⟨Nat.le_of_ble_eq_true rfl, Nat.le_of_ble_eq_true rfl⟩ [] [] rfl 0 rfl rfl rfl rfl hl.1 rfl (Nat.le_of_ble_eq_true rfl) dX0_whetherToBow_10 [.int r4] rfl (fun H locs hW => ?_)
    obtain ⟨y6, e7, h⟩ := lt1_e h
    suffices hM8 : ∀ ls : Array Slot, lv_has ls 6 [(0, .ref h0)] → W p l e rmX0_whetherToBow s m (List.toArray [.ref h0]) below meth c H locs 0 0 (MQ below (kQ (dC, dI) (cwX3 cI cJ cZ cB h0 a0 c0' []) (some (.int r)) A) (List.toArray [.ref h0]) s 0 0 A) (F0 m 21 ls [.int y6]) by
      refine lv_if_ne (tgt := 20) S.1 S.2.1 dX0_whetherToBow_13 (by decide) (fun u9 => ?_) (fun u9 => ?_)
      · refine lv_iconst (v := (0 : Int32)) S.1 S.2.1 dX0_whetherToBow_20 ki_0 ?_
        have e7 := e7.trans (if_neg u9)
        subst e7
        exact hM8 ls (lv_sub hl [0] rfl)
      · refine lv_iconst (v := (1 : Int32)) S.1 S.2.1 dX0_whetherToBow_16 ki_1 ?_
        refine lv_goto (tgt := 21) S.1 S.2.1 dX0_whetherToBow_17 (by decide) ?_
        have e7 := e7.trans (if_pos u9)
        subst e7
        exact hM8 ls (lv_sub hl [0] rfl)
    intro ls hl
    refine lv_istore_n (lv' := [(1, .int y6), (0, .ref h0)]) S.1 S.2.1 dX0_whetherToBow_21 rfl hl (by decide) rfl (fun ls hl => ?_)
    refine lv_aload_n S.1 S.2.1 dX0_whetherToBow_22 rfl (lv_at hl 1 rfl) ?_
    refine lv_sipush (v := (-1000 : Int32)) S.1 S.2.1 dX0_whetherToBow_23 ks_m1000 ?_
    refine lv_sipush (v := (1000 : Int32)) S.1 S.2.1 dX0_whetherToBow_26 ks_1000 ?_
    refine lv_iconst (v := (0 : Int32)) S.1 S.2.1 dX0_whetherToBow_29 ki_0 ?_
    obtain ⟨r10, cv11, hy12, h⟩ := bd2_e h
    refine ks (clX3 cI cJ cZ cB h0 a0 (cv11 0) (cv11 1) (cv11 2) (cv11 3) (cv11 4) (cv11 5 0) (cv11 6 0) (cv11 7 0) (cv11 8 0) (cv11 9 0) []) S hK hN hZ hA hW (rest := []) (t_wuD8 l dC dI cI cJ cZ cB zz h0 a0 F c0 (-1000 : Int32) (1000 : Int32) (0 : Int32) _ _  hy12) wl_X0_21 wv_X0_worthUnbowed rfl rfl ⟨Nat.le_of_ble_eq_true rfl, Nat.le_of_ble_eq_true rfl⟩ [] [] rfl rfl rfl rfl hl.1 rfl (Nat.le_of_ble_eq_true rfl) dX0_whetherToBow_30 [.int r10] rfl (fun H locs hW => ?_)
    refine lv_istore_n (lv' := [(2, .int r10), (1, .int y6), (0, .ref h0)]) S.1 S.2.1 dX0_whetherToBow_33 rfl hl (by decide) rfl (fun ls hl => ?_)
    refine lv_aload_n S.1 S.2.1 dX0_whetherToBow_34 rfl (lv_at hl 2 rfl) ?_
    obtain ⟨r13, hy14, h⟩ := bd1_e h
    refine kv0 S hK hN hZ hA hW (rest := []) (t_X3_keep l dC dI cI cJ cZ cB zz h0 a0 F cv11 _  hy14) wl_X0_25 wv_X3_keep rfl rfl ⟨Nat.le_of_ble_eq_true rfl, Nat.le_of_ble_eq_true rfl⟩ [] [] rfl 0 rfl rfl rfl rfl hl.1 rfl (Nat.le_of_ble_eq_true rfl) dX0_whetherToBow_35 [.long r13] rfl (fun H locs hW => ?_)
    refine lv_lstore_n (lv' := [(3, .long r13), (2, .int r10), (1, .int y6), (0, .ref h0)]) S.1 S.2.1 dX0_whetherToBow_38 rfl hl (by decide) rfl (fun ls hl => ?_)
    refine lv_aload_n S.1 S.2.1 dX0_whetherToBow_39 rfl (lv_at hl 3 rfl) ?_
    obtain ⟨cv15, hy16, h⟩ := bd1_e h
    refine kv (clX3 cI cJ cZ cB h0 a0 (cv15 0) (cv15 1) (cv15 2) (cv15 3) (cv15 4) (cv15 5 0) (cv15 6 0) (cv15 7 0) (cv15 8 0) (cv15 9 0) []) S hK hN hZ hA hW (rest := []) (t_X3_bow l dC dI cI cJ cZ cB zz h0 a0 cv11 _  hy16) wl_X0_29 wv_X3_bow rfl rfl ⟨Nat.le_of_ble_eq_true rfl, Nat.le_of_ble_eq_true rfl⟩ [] [] rfl rfl rfl 0 rfl rfl rfl rfl hl.1 rfl (Nat.le_of_ble_eq_true rfl) dX0_whetherToBow_40 [] rfl (fun H locs hW => ?_)
    refine lv_aload_n S.1 S.2.1 dX0_whetherToBow_43 rfl (lv_at hl 3 rfl) ?_
    refine lv_sipush (v := (-1000 : Int32)) S.1 S.2.1 dX0_whetherToBow_44 ks_m1000 ?_
    refine lv_sipush (v := (1000 : Int32)) S.1 S.2.1 dX0_whetherToBow_47 ks_1000 ?_
    refine lv_iconst (v := (0 : Int32)) S.1 S.2.1 dX0_whetherToBow_50 ki_0 ?_
    obtain ⟨r17, cv18, hy19, h⟩ := bd2_e h
    refine ks (clX3 cI cJ cZ cB h0 a0 (cv18 0) (cv18 1) (cv18 2) (cv18 3) (cv18 4) (cv18 5 0) (cv18 6 0) (cv18 7 0) (cv18 8 0) (cv18 9 0) []) S hK hN hZ hA hW (rest := []) (t_wuD8 l dC dI cI cJ cZ cB zz h0 a0 F cv15 (-1000 : Int32) (1000 : Int32) (0 : Int32) _ _  hy19) wl_X0_21 wv_X0_worthUnbowed rfl rfl ⟨Nat.le_of_ble_eq_true rfl, Nat.le_of_ble_eq_true rfl⟩ [] [] rfl rfl rfl rfl hl.1 rfl (Nat.le_of_ble_eq_true rfl) dX0_whetherToBow_51 [.int r17] rfl (fun H locs hW => ?_)
    refine lv_istore (lv' := [(5, .int r17), (3, .long r13), (2, .int r10), (1, .int y6), (0, .ref h0)]) S.1 S.2.1 dX0_whetherToBow_54 hl (by decide) rfl (fun ls hl => ?_)
    refine lv_aload_n S.1 S.2.1 dX0_whetherToBow_56 rfl (lv_at hl 4 rfl) ?_
    refine lv_lload_n S.1 S.2.1 dX0_whetherToBow_57 rfl (lv_at hl 1 rfl) ?_
    obtain ⟨cv20, hy21, h⟩ := bd1_e h
    refine kv (clX3 cI cJ cZ cB h0 a0 (cv20 0) (cv20 1) (cv20 2) (cv20 3) (cv20 4) (cv20 5 0) (cv20 6 0) (cv20 7 0) (cv20 8 0) (cv20 9 0) []) S hK hN hZ hA hW (rest := []) (t_X3_back l dC dI cI cJ cZ cB zz h0 a0 F cv18 r13 _  hy21) wl_X0_32 wv_X3_back rfl rfl ⟨Nat.le_of_ble_eq_true rfl, Nat.le_of_ble_eq_true rfl⟩ [] [] rfl rfl rfl 0 rfl rfl rfl rfl hl.1 rfl (Nat.le_of_ble_eq_true rfl) dX0_whetherToBow_58 [] rfl (fun H locs hW => ?_)
    refine lv_iload_n S.1 S.2.1 dX0_whetherToBow_61 rfl (lv_at hl 3 rfl) ?_
    obtain ⟨y22, e23, h⟩ := lt1_e h
    suffices hM24 : ∀ ls : Array Slot, lv_has ls 6 [] → W p l e rmX0_whetherToBow s m (List.toArray [.ref h0]) below meth c H locs 0 0 (MQ below (kQ (dC, dI) (cwX3 cI cJ cZ cB h0 a0 c0' []) (some (.int r)) A) (List.toArray [.ref h0]) s 0 0 A) (F0 m 85 ls [.int y22]) by
      refine lv_if_eq (tgt := 74) S.1 S.2.1 dX0_whetherToBow_62 (by decide) (fun u25 => ?_) (fun u25 => ?_)
      · refine lv_iload S.1 S.2.1 dX0_whetherToBow_74 (lv_at hl 0 rfl) ?_
        refine lv_iload_n S.1 S.2.1 dX0_whetherToBow_76 rfl (lv_at hl 2 rfl) ?_
        refine lv_icmp_ge (tgt := 84) S.1 S.2.1 dX0_whetherToBow_77 (by decide) (fun u26 => ?_) (fun u26 => ?_)
        · refine lv_iconst (v := (0 : Int32)) S.1 S.2.1 dX0_whetherToBow_84 ki_0 ?_
          have e23 := e23.trans ((if_pos u25).trans (if_pos u26))
          subst e23
          exact hM24 ls (lv_sub hl [] rfl)
        · refine lv_iconst (v := (1 : Int32)) S.1 S.2.1 dX0_whetherToBow_80 ki_1 ?_
          refine lv_goto (tgt := 85) S.1 S.2.1 dX0_whetherToBow_81 (by decide) ?_
          have e23 := e23.trans ((if_pos u25).trans (if_neg u26))
          subst e23
          exact hM24 ls (lv_sub hl [] rfl)
      · refine lv_iload S.1 S.2.1 dX0_whetherToBow_65 (lv_at hl 0 rfl) ?_
        refine lv_iload_n S.1 S.2.1 dX0_whetherToBow_67 rfl (lv_at hl 2 rfl) ?_
        refine lv_icmp_le (tgt := 84) S.1 S.2.1 dX0_whetherToBow_68 (by decide) (fun u27 => ?_) (fun u27 => ?_)
        · refine lv_iconst (v := (0 : Int32)) S.1 S.2.1 dX0_whetherToBow_84 ki_0 ?_
          have e23 := e23.trans ((if_neg u25).trans (if_pos u27))
          subst e23
          exact hM24 ls (lv_sub hl [] rfl)
        · refine lv_goto (tgt := 80) S.1 S.2.1 dX0_whetherToBow_71 (by decide) ?_
          refine lv_iconst (v := (1 : Int32)) S.1 S.2.1 dX0_whetherToBow_80 ki_1 ?_
          refine lv_goto (tgt := 85) S.1 S.2.1 dX0_whetherToBow_81 (by decide) ?_
          have e23 := e23.trans ((if_neg u25).trans (if_neg u27))
          subst e23
          exact hM24 ls (lv_sub hl [] rfl)
    intro ls hl
    have f28 := Option.some.inj h
    obtain ⟨f29, f30⟩ := Prod.mk.inj f28
    subst f29
    subst f30
    exact ri S hr hlocks hW dX0_whetherToBow_85
  · have h := of_p u3 h
    refine lv_iconst (v := (-1 : Int32)) S.1 S.2.1 dX0_whetherToBow_7 ki_m1 ?_
    have f31 := Option.some.inj h
    obtain ⟨f32, f33⟩ := Prod.mk.inj f31
    subst f32
    subst f33
    exact ri S hr hlocks hW dX0_whetherToBow_8
abbrev rmX0_whatToSay : Room := { frames := 26, cells := 0, slots := 0, locals := 772 }
set_option maxHeartbeats 4000000 in
set_option maxRecDepth 100000 in
theorem t_X0_whatToSay (l : Launch) (dC : Nat → ClassId) (dI : Nat → Nat → Nat) (cI cJ cZ cB : ClassId) (zz : ZT)  (h0 : Nat) (a0 : Nat → Nat) (F : Nat) (c0 : Nat → Nat → Int32) (r : Int32) (c0' : Nat → Nat → Int32) (hm : md_X0_whatToSay F c0 = some (r, c0')) : ct l (dC, dI) zz (ty4 cI cJ cZ cB) yX0_whatToSay cX0_whatToSay 9 (some .int) rmX0_whatToSay [.ref h0] (cwX3 cI cJ cZ cB h0 a0 c0 []) (cwX3 cI cJ cZ cB h0 a0 c0' []) (some (.int r)) := by
  refine ct_of (cc := cX0_whatToSay) (maxL := 9) (ret := (some .int)) (by decide) (Nat.le_of_ble_eq_true rfl) ?_
  intro p e s m below meth c A S hr hlocks hK hN hZ hA H locs hW ls hl
  have S : CallFix p m c cX0_whatToSay 9 s (List.toArray [.ref h0]) G RX0 := S
  have hl : lv_has ls 9 [(0, .ref h0)] := hl
  have h := hm
  rw [md_X0_whatToSay] at h
  have hW : wd (dC, dI) A s.heap (clX3 cI cJ cZ cB h0 a0 (c0 0) (c0 1) (c0 2) (c0 3) (c0 4) (c0 5 0) (c0 6 0) (c0 7 0) (c0 8 0) (c0 9 0) []) H locs := hW
  have hL44 : ∀ (n44 : Nat) (c0 : Nat → Nat → Int32) (x1 : Int32) (x2 : Int32) (x3 : Int32) (x4 : Int32) (x5 : Int64) (x7 : Int32), ld_X0_whatToSay_44 F n44 c0 x1 x2 x3 x4 x5 x7 = some (r, c0') → ∀ (H : Heap) (locs : List Loc), wd (dC, dI) A s.heap (clX3 cI cJ cZ cB h0 a0 (c0 0) (c0 1) (c0 2) (c0 3) (c0 4) (c0 5 0) (c0 6 0) (c0 7 0) (c0 8 0) (c0 9 0) []) H locs → ∀ ls : Array Slot, lv_has ls 9 [(0, .ref h0), (1, .int x1), (2, .int x2), (3, .int x3), (4, .int x4), (5, .long x5), (7, .int x7)] → W p l e rmX0_whatToSay s m (List.toArray [.ref h0]) below meth c H locs 0 0 (MQ below (kQ (dC, dI) (cwX3 cI cJ cZ cB h0 a0 c0' []) (some (.int r)) A) (List.toArray [.ref h0]) s 0 0 A) (F0 m 44 ls []) := by
    intro n44
    induction n44 with
    | zero => intro c0 x1 x2 x3 x4 x5 x7 h; rw [ld_X0_whatToSay_44] at h; cases h
    | succ n44 ih44 =>
      intro c0 x1 x2 x3 x4 x5 x7 h H locs hW ls hl
      rw [ld_X0_whatToSay_44] at h
      have hJ118 : ∀ (c0 : Nat → Nat → Int32) (x1 : Int32) (x2 : Int32) (x5 : Int64) (x7 : Int32) (x8 : Int32), jd_X0_whatToSay_118 F (ld_X0_whatToSay_44 F n44) c0 x1 x2 x5 x7 x8 = some (r, c0') → ∀ (H : Heap) (locs : List Loc), wd (dC, dI) A s.heap (clX3 cI cJ cZ cB h0 a0 (c0 0) (c0 1) (c0 2) (c0 3) (c0 4) (c0 5 0) (c0 6 0) (c0 7 0) (c0 8 0) (c0 9 0) []) H locs → ∀ ls : Array Slot, lv_has ls 9 [(0, .ref h0), (1, .int x1), (2, .int x2), (5, .long x5), (7, .int x7), (8, .int x8)] → W p l e rmX0_whatToSay s m (List.toArray [.ref h0]) below meth c H locs 0 0 (MQ below (kQ (dC, dI) (cwX3 cI cJ cZ cB h0 a0 c0' []) (some (.int r)) A) (List.toArray [.ref h0]) s 0 0 A) (F0 m 118 ls []) := by
        intro c0 x1 x2 x5 x7 x8 h H locs hW ls hl
        rw [jd_X0_whatToSay_118] at h
        refine lv_iload S.1 S.2.1 dX0_whatToSay_118 (lv_at hl 5 rfl) ?_
        refine lv_istore_n (lv' := [(3, .int x8), (0, .ref h0), (1, .int x1), (2, .int x2), (5, .long x5), (7, .int x7), (8, .int x8)]) S.1 S.2.1 dX0_whatToSay_120 rfl hl (by decide) rfl (fun ls hl => ?_)
        refine lv_iload S.1 S.2.1 dX0_whatToSay_121 (lv_at hl 5 rfl) ?_
        refine lv_istore (lv' := [(4, .int x7), (3, .int x8), (0, .ref h0), (1, .int x1), (2, .int x2), (5, .long x5), (7, .int x7), (8, .int x8)]) S.1 S.2.1 dX0_whatToSay_123 hl (by decide) rfl (fun ls hl => ?_)
        refine lv_iinc (v := (x7 + (1 : Int32))) (lv' := [(7, .int (x7 + (1 : Int32))), (4, .int x7), (3, .int x8), (0, .ref h0), (1, .int x1), (2, .int x2), (5, .long x5), (8, .int x8)]) S.1 S.2.1 dX0_whatToSay_125 hl (k := 6) rfl (congrArg (fun z => x7 + z) ki_1) (by decide) rfl (fun ls hl => ?_)
        refine lv_goto (tgt := 44) S.1 S.2.1 dX0_whatToSay_128 (by decide) ?_
        exact ih44 _ _ _ _ _ _ _ h H locs hW ls (lv_sub hl [3, 4, 5, 2, 1, 6, 0] rfl)
      have hJ91 : ∀ (c0 : Nat → Nat → Int32) (x1 : Int32) (x2 : Int32) (x3 : Int32) (x4 : Int32) (x5 : Int64) (x7 : Int32) (s0 : Int32), jd_X0_whatToSay_91 F (ld_X0_whatToSay_44 F n44) c0 x1 x2 x3 x4 x5 x7 s0 = some (r, c0') → ∀ (H : Heap) (locs : List Loc), wd (dC, dI) A s.heap (clX3 cI cJ cZ cB h0 a0 (c0 0) (c0 1) (c0 2) (c0 3) (c0 4) (c0 5 0) (c0 6 0) (c0 7 0) (c0 8 0) (c0 9 0) []) H locs → ∀ ls : Array Slot, lv_has ls 9 [(0, .ref h0), (1, .int x1), (2, .int x2), (3, .int x3), (4, .int x4), (5, .long x5), (7, .int x7)] → W p l e rmX0_whatToSay s m (List.toArray [.ref h0]) below meth c H locs 0 0 (MQ below (kQ (dC, dI) (cwX3 cI cJ cZ cB h0 a0 c0' []) (some (.int r)) A) (List.toArray [.ref h0]) s 0 0 A) (F0 m 91 ls [.int s0]) := by
        intro c0 x1 x2 x3 x4 x5 x7 s0 h H locs hW ls hl
        rw [jd_X0_whatToSay_91] at h
        refine lv_istore (lv' := [(8, .int s0), (0, .ref h0), (1, .int x1), (2, .int x2), (3, .int x3), (4, .int x4), (5, .long x5), (7, .int x7)]) S.1 S.2.1 dX0_whatToSay_91 hl (by decide) rfl (fun ls hl => ?_)
        refine lv_aload_n S.1 S.2.1 dX0_whatToSay_93 rfl (lv_at hl 1 rfl) ?_
        refine lv_lload S.1 S.2.1 dX0_whatToSay_94 (lv_at hl 6 rfl) ?_
        obtain ⟨cv1, hy2, h⟩ := bd1_e h
        refine kv (clX3 cI cJ cZ cB h0 a0 (cv1 0) (cv1 1) (cv1 2) (cv1 3) (cv1 4) (cv1 5 0) (cv1 6 0) (cv1 7 0) (cv1 8 0) (cv1 9 0) []) S hK hN hZ hA hW (rest := []) (t_X3_back l dC dI cI cJ cZ cB zz h0 a0 F c0 x5 _  hy2) wl_X0_32 wv_X3_back rfl rfl ⟨Nat.le_of_ble_eq_true rfl, Nat.le_of_ble_eq_true rfl⟩ [] [] rfl rfl rfl 0 rfl rfl rfl rfl hl.1 rfl (Nat.le_of_ble_eq_true rfl) dX0_whatToSay_96 [] rfl (fun H locs hW => ?_)
        refine lv_iload_n S.1 S.2.1 dX0_whatToSay_99 rfl (lv_at hl 2 rfl) ?_
        refine lv_if_eq (tgt := 112) S.1 S.2.1 dX0_whatToSay_100 (by decide) (fun u3 => ?_) (fun u3 => ?_)
        · have h := of_p u3 h
          refine lv_iload S.1 S.2.1 dX0_whatToSay_112 (lv_at hl 0 rfl) ?_
          refine lv_iload_n S.1 S.2.1 dX0_whatToSay_114 rfl (lv_at hl 4 rfl) ?_
          refine lv_icmp_ge (tgt := 125) S.1 S.2.1 dX0_whatToSay_115 (by decide) (fun u4 => ?_) (fun u4 => ?_)
          · have h := of_p u4 h
            refine lv_iinc (v := (x7 + (1 : Int32))) (lv' := [(7, .int (x7 + (1 : Int32))), (8, .int s0), (0, .ref h0), (1, .int x1), (2, .int x2), (3, .int x3), (4, .int x4), (5, .long x5)]) S.1 S.2.1 dX0_whatToSay_125 hl (k := 7) rfl (congrArg (fun z => x7 + z) ki_1) (by decide) rfl (fun ls hl => ?_)
            refine lv_goto (tgt := 44) S.1 S.2.1 dX0_whatToSay_128 (by decide) ?_
            exact ih44 _ _ _ _ _ _ _ h H locs hW ls (lv_sub hl [2, 3, 4, 5, 6, 7, 0] rfl)
          · have h := of_n u4 h
            exact hJ118 _ _ _ _ _ _ h H locs hW ls (lv_sub hl [1, 2, 3, 6, 7, 0] rfl)
        · have h := of_n u3 h
          refine lv_iload S.1 S.2.1 dX0_whatToSay_103 (lv_at hl 0 rfl) ?_
          refine lv_iload_n S.1 S.2.1 dX0_whatToSay_105 rfl (lv_at hl 4 rfl) ?_
          refine lv_icmp_le (tgt := 125) S.1 S.2.1 dX0_whatToSay_106 (by decide) (fun u5 => ?_) (fun u5 => ?_)
          · have h := of_p u5 h
            refine lv_iinc (v := (x7 + (1 : Int32))) (lv' := [(7, .int (x7 + (1 : Int32))), (8, .int s0), (0, .ref h0), (1, .int x1), (2, .int x2), (3, .int x3), (4, .int x4), (5, .long x5)]) S.1 S.2.1 dX0_whatToSay_125 hl (k := 7) rfl (congrArg (fun z => x7 + z) ki_1) (by decide) rfl (fun ls hl => ?_)
            refine lv_goto (tgt := 44) S.1 S.2.1 dX0_whatToSay_128 (by decide) ?_
            exact ih44 _ _ _ _ _ _ _ h H locs hW ls (lv_sub hl [2, 3, 4, 5, 6, 7, 0] rfl)
          · have h := of_n u5 h
            refine lv_goto (tgt := 118) S.1 S.2.1 dX0_whatToSay_109 (by decide) ?_
            exact hJ118 _ _ _ _ _ _ h H locs hW ls (lv_sub hl [1, 2, 3, 6, 7, 0] rfl)
      refine lv_iload S.1 S.2.1 dX0_whatToSay_44 (lv_at hl 6 rfl) ?_
      refine lv_bipush (v := (6 : Int32)) S.1 S.2.1 dX0_whatToSay_46 kb_6 ?_
      refine lv_icmp_ge (tgt := 131) S.1 S.2.1 dX0_whatToSay_48 (by decide) (fun u6 => ?_) (fun u6 => ?_)
      · have h := of_p u6 h
        refine lv_iload S.1 S.2.1 dX0_whatToSay_131 (lv_at hl 4 rfl) ?_
        have f7 := Option.some.inj h
        obtain ⟨f8, f9⟩ := Prod.mk.inj f7
        subst f8
        subst f9
        exact ri S hr hlocks hW dX0_whatToSay_133
      · have h := of_n u6 h
        refine lv_iload_n S.1 S.2.1 dX0_whatToSay_51 rfl (lv_at hl 2 rfl) ?_
        refine lv_iload S.1 S.2.1 dX0_whatToSay_52 (lv_at hl 6 rfl) ?_
        obtain ⟨r10, hy11, h⟩ := bd1_e h
        refine kn0 S hK hN hZ hA hW (rest := []) (t_X8_has l dC dI cI cJ cZ cB zz x2 x7 _  hy11) wx_X0_39 wv_X8_has rfl rfl ⟨Nat.le_of_ble_eq_true rfl, Nat.le_of_ble_eq_true rfl⟩ [] (clX3 cI cJ cZ cB h0 a0 (c0 0) (c0 1) (c0 2) (c0 3) (c0 4) (c0 5 0) (c0 6 0) (c0 7 0) (c0 8 0) (c0 9 0) []) rfl rfl hl.1 rfl (Nat.le_of_ble_eq_true rfl) dX0_whatToSay_54 [.int r10] rfl (fun H locs hW => ?_)
        refine lv_if_eq (tgt := 125) S.1 S.2.1 dX0_whatToSay_57 (by decide) (fun u12 => ?_) (fun u12 => ?_)
        · have h := of_p u12 h
          refine lv_iinc (v := (x7 + (1 : Int32))) (lv' := [(7, .int (x7 + (1 : Int32))), (0, .ref h0), (1, .int x1), (2, .int x2), (3, .int x3), (4, .int x4), (5, .long x5)]) S.1 S.2.1 dX0_whatToSay_125 hl (k := 6) rfl (congrArg (fun z => x7 + z) ki_1) (by decide) rfl (fun ls hl => ?_)
          refine lv_goto (tgt := 44) S.1 S.2.1 dX0_whatToSay_128 (by decide) ?_
          exact ih44 _ _ _ _ _ _ _ h H locs hW ls (lv_sub hl [1, 2, 3, 4, 5, 6, 0] rfl)
        · have h := of_n u12 h
          refine lv_aload_n S.1 S.2.1 dX0_whatToSay_60 rfl (lv_at hl 0 rfl) ?_
          refine lv_iload S.1 S.2.1 dX0_whatToSay_61 (lv_at hl 6 rfl) ?_
          obtain ⟨cv13, hy14, h⟩ := bd1_e h
          refine kv (clX3 cI cJ cZ cB h0 a0 (cv13 0) (cv13 1) (cv13 2) (cv13 3) (cv13 4) (cv13 5 0) (cv13 6 0) (cv13 7 0) (cv13 8 0) (cv13 9 0) []) S hK hN hZ hA hW (rest := []) (t_X3_speak l dC dI cI cJ cZ cB zz h0 a0 c0 x7 _  hy14) wl_X0_43 wv_X3_speak rfl rfl ⟨Nat.le_of_ble_eq_true rfl, Nat.le_of_ble_eq_true rfl⟩ [] [] rfl rfl rfl 0 rfl rfl rfl rfl hl.1 rfl (Nat.le_of_ble_eq_true rfl) dX0_whatToSay_63 [] rfl (fun H locs hW => ?_)
          refine lv_iload_n S.1 S.2.1 dX0_whatToSay_66 rfl (lv_at hl 1 rfl) ?_
          refine lv_if_eq (tgt := 82) S.1 S.2.1 dX0_whatToSay_67 (by decide) (fun u15 => ?_) (fun u15 => ?_)
          · have h := of_p u15 h
            refine lv_aload_n S.1 S.2.1 dX0_whatToSay_82 rfl (lv_at hl 0 rfl) ?_
            refine lv_sipush (v := (-1000 : Int32)) S.1 S.2.1 dX0_whatToSay_83 ks_m1000 ?_
            refine lv_iload_n S.1 S.2.1 dX0_whatToSay_86 rfl (lv_at hl 3 rfl) ?_
            refine lv_iconst (v := (1 : Int32)) S.1 S.2.1 dX0_whatToSay_87 ki_1 ?_
            obtain ⟨r16, cv17, hy18, h⟩ := bd2_e h
            refine ks (clX3 cI cJ cZ cB h0 a0 (cv17 0) (cv17 1) (cv17 2) (cv17 3) (cv17 4) (cv17 5 0) (cv17 6 0) (cv17 7 0) (cv17 8 0) (cv17 9 0) []) S hK hN hZ hA hW (rest := []) (t_wD8 l dC dI cI cJ cZ cB zz h0 a0 F cv13 (-1000 : Int32) x3 (1 : Int32) _ _  hy18) wl_X0_47 wv_X0_worth rfl rfl ⟨Nat.le_of_ble_eq_true rfl, Nat.le_of_ble_eq_true rfl⟩ [] [] rfl rfl rfl rfl hl.1 rfl (Nat.le_of_ble_eq_true rfl) dX0_whatToSay_88 [.int r16] rfl (fun H locs hW => ?_)
            exact hJ91 _ _ _ _ _ _ _ _ h H locs hW ls (lv_sub hl [0, 1, 2, 3, 4, 5, 6] rfl)
          · have h := of_n u15 h
            refine lv_aload_n S.1 S.2.1 dX0_whatToSay_70 rfl (lv_at hl 0 rfl) ?_
            refine lv_iload_n S.1 S.2.1 dX0_whatToSay_71 rfl (lv_at hl 3 rfl) ?_
            refine lv_sipush (v := (1000 : Int32)) S.1 S.2.1 dX0_whatToSay_72 ks_1000 ?_
            refine lv_iconst (v := (1 : Int32)) S.1 S.2.1 dX0_whatToSay_75 ki_1 ?_
            obtain ⟨r19, cv20, hy21, h⟩ := bd2_e h
            refine ks (clX3 cI cJ cZ cB h0 a0 (cv20 0) (cv20 1) (cv20 2) (cv20 3) (cv20 4) (cv20 5 0) (cv20 6 0) (cv20 7 0) (cv20 8 0) (cv20 9 0) []) S hK hN hZ hA hW (rest := []) (t_wD8 l dC dI cI cJ cZ cB zz h0 a0 F cv13 x3 (1000 : Int32) (1 : Int32) _ _  hy21) wl_X0_47 wv_X0_worth rfl rfl ⟨Nat.le_of_ble_eq_true rfl, Nat.le_of_ble_eq_true rfl⟩ [] [] rfl rfl rfl rfl hl.1 rfl (Nat.le_of_ble_eq_true rfl) dX0_whatToSay_76 [.int r19] rfl (fun H locs hW => ?_)
            refine lv_goto (tgt := 91) S.1 S.2.1 dX0_whatToSay_79 (by decide) ?_
            exact hJ91 _ _ _ _ _ _ _ _ h H locs hW ls (lv_sub hl [0, 1, 2, 3, 4, 5, 6] rfl)
  refine lv_aload_n S.1 S.2.1 dX0_whatToSay_0 rfl (lv_at hl 0 rfl) ?_
  obtain ⟨r22, hy23, h⟩ := bd1_e h
  refine kv0 S hK hN hZ hA hW (rest := []) (t_X3_speaker l dC dI cI cJ cZ cB zz h0 a0 c0 _  hy23) wl_X0_15 wv_X3_speaker rfl rfl ⟨Nat.le_of_ble_eq_true rfl, Nat.le_of_ble_eq_true rfl⟩ [] [] rfl 0 rfl rfl rfl rfl hl.1 rfl (Nat.le_of_ble_eq_true rfl) dX0_whatToSay_1 [.int r22] rfl (fun H locs hW => ?_)
  obtain ⟨y24, e25, h⟩ := lt1_e h
  suffices hM26 : ∀ ls : Array Slot, lv_has ls 9 [(0, .ref h0)] → W p l e rmX0_whatToSay s m (List.toArray [.ref h0]) below meth c H locs 0 0 (MQ below (kQ (dC, dI) (cwX3 cI cJ cZ cB h0 a0 c0' []) (some (.int r)) A) (List.toArray [.ref h0]) s 0 0 A) (F0 m 12 ls [.int y24]) by
    refine lv_if_ne (tgt := 11) S.1 S.2.1 dX0_whatToSay_4 (by decide) (fun u27 => ?_) (fun u27 => ?_)
    · refine lv_iconst (v := (0 : Int32)) S.1 S.2.1 dX0_whatToSay_11 ki_0 ?_
      have e25 := e25.trans (if_neg u27)
      subst e25
      exact hM26 ls (lv_sub hl [0] rfl)
    · refine lv_iconst (v := (1 : Int32)) S.1 S.2.1 dX0_whatToSay_7 ki_1 ?_
      refine lv_goto (tgt := 12) S.1 S.2.1 dX0_whatToSay_8 (by decide) ?_
      have e25 := e25.trans (if_pos u27)
      subst e25
      exact hM26 ls (lv_sub hl [0] rfl)
  intro ls hl
  refine lv_istore_n (lv' := [(1, .int y24), (0, .ref h0)]) S.1 S.2.1 dX0_whatToSay_12 rfl hl (by decide) rfl (fun ls hl => ?_)
  refine lv_aload_n S.1 S.2.1 dX0_whatToSay_13 rfl (lv_at hl 1 rfl) ?_
  obtain ⟨r28, hy29, h⟩ := bd1_e h
  refine kv0 S hK hN hZ hA hW (rest := []) (t_X3_unsaid l dC dI cI cJ cZ cB zz h0 a0 c0 _  hy29) wl_X0_36 wv_X3_unsaid rfl rfl ⟨Nat.le_of_ble_eq_true rfl, Nat.le_of_ble_eq_true rfl⟩ [] [] rfl 0 rfl rfl rfl rfl hl.1 rfl (Nat.le_of_ble_eq_true rfl) dX0_whatToSay_14 [.int r28] rfl (fun H locs hW => ?_)
  refine lv_istore_n (lv' := [(2, .int r28), (1, .int y24), (0, .ref h0)]) S.1 S.2.1 dX0_whatToSay_17 rfl hl (by decide) rfl (fun ls hl => ?_)
  refine lv_iload_n S.1 S.2.1 dX0_whatToSay_18 rfl (lv_at hl 1 rfl) ?_
  obtain ⟨y30, e31, h⟩ := lt1_e h
  suffices hM32 : ∀ ls : Array Slot, lv_has ls 9 [(0, .ref h0), (1, .int y24), (2, .int r28)] → W p l e rmX0_whatToSay s m (List.toArray [.ref h0]) below meth c H locs 0 0 (MQ below (kQ (dC, dI) (cwX3 cI cJ cZ cB h0 a0 c0' []) (some (.int r)) A) (List.toArray [.ref h0]) s 0 0 A) (F0 m 31 ls [.int y30]) by
    refine lv_if_eq (tgt := 28) S.1 S.2.1 dX0_whatToSay_19 (by decide) (fun u33 => ?_) (fun u33 => ?_)
    · refine lv_sipush (v := (1000 : Int32)) S.1 S.2.1 dX0_whatToSay_28 ks_1000 ?_
      have e31 := e31.trans (if_pos u33)
      subst e31
      exact hM32 ls (lv_sub hl [2, 1, 0] rfl)
    · refine lv_sipush (v := (-1000 : Int32)) S.1 S.2.1 dX0_whatToSay_22 ks_m1000 ?_
      refine lv_goto (tgt := 31) S.1 S.2.1 dX0_whatToSay_25 (by decide) ?_
      have e31 := e31.trans (if_neg u33)
      subst e31
      exact hM32 ls (lv_sub hl [2, 1, 0] rfl)
  intro ls hl
  refine lv_istore_n (lv' := [(3, .int y30), (0, .ref h0), (1, .int y24), (2, .int r28)]) S.1 S.2.1 dX0_whatToSay_31 rfl hl (by decide) rfl (fun ls hl => ?_)
  refine lv_iconst (v := (-1 : Int32)) S.1 S.2.1 dX0_whatToSay_32 ki_m1 ?_
  refine lv_istore (lv' := [(4, .int (-1 : Int32)), (3, .int y30), (0, .ref h0), (1, .int y24), (2, .int r28)]) S.1 S.2.1 dX0_whatToSay_33 hl (by decide) rfl (fun ls hl => ?_)
  refine lv_aload_n S.1 S.2.1 dX0_whatToSay_35 rfl (lv_at hl 2 rfl) ?_
  obtain ⟨r34, hy35, h⟩ := bd1_e h
  refine kv0 S hK hN hZ hA hW (rest := []) (t_X3_keep l dC dI cI cJ cZ cB zz h0 a0 F c0 _  hy35) wl_X0_25 wv_X3_keep rfl rfl ⟨Nat.le_of_ble_eq_true rfl, Nat.le_of_ble_eq_true rfl⟩ [] [] rfl 0 rfl rfl rfl rfl hl.1 rfl (Nat.le_of_ble_eq_true rfl) dX0_whatToSay_36 [.long r34] rfl (fun H locs hW => ?_)
  refine lv_lstore (lv' := [(5, .long r34), (4, .int (-1 : Int32)), (3, .int y30), (0, .ref h0), (1, .int y24), (2, .int r28)]) S.1 S.2.1 dX0_whatToSay_39 hl (by decide) rfl (fun ls hl => ?_)
  refine lv_iconst (v := (0 : Int32)) S.1 S.2.1 dX0_whatToSay_41 ki_0 ?_
  refine lv_istore (lv' := [(7, .int (0 : Int32)), (5, .long r34), (4, .int (-1 : Int32)), (3, .int y30), (0, .ref h0), (1, .int y24), (2, .int r28)]) S.1 S.2.1 dX0_whatToSay_42 hl (by decide) rfl (fun ls hl => ?_)
  exact hL44 F _ _ _ _ _ _ _ h H locs hW ls (lv_sub hl [4, 5, 6, 3, 2, 1, 0] rfl)
