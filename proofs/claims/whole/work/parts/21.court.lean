abbrev rmX3_back : Room := { frames := 0, cells := 0, slots := 0, locals := 0 }
set_option maxHeartbeats 4000000 in
set_option maxRecDepth 100000 in
theorem t_X3_back (l : Launch) (dC : Nat → ClassId) (dI : Nat → Nat → Nat) (cI cJ cZ cB : ClassId) (zz : ZT)  (h0 : Nat) (a0 : Nat → Nat) (F : Nat) (c0 : Nat → Nat → Int32) (p1 : Int64) (c0' : Nat → Nat → Int32) (hm : md_X3_back F c0 p1 = some (c0')) : ct l (dC, dI) zz (ty4 cI cJ cZ cB) yX3_back cX3_back 6 none rmX3_back [.ref h0, .long p1] (cwX3 cI cJ cZ cB h0 a0 c0 []) (cwX3 cI cJ cZ cB h0 a0 c0' []) none := by
  refine ct_of (cc := cX3_back) (maxL := 6) (ret := none) (by decide) (Nat.le_of_ble_eq_true rfl) ?_
  intro p e s m below meth c A S hr hlocks hK hN hZ hA H locs hW ls hl
  have S : CallFix p m c cX3_back 6 s (List.toArray [.ref h0, .long p1]) G RX3 := S
  have hl : lv_has ls 6 [(0, .ref h0), (1, .long p1)] := hl
  have h := hm
  rw [md_X3_back] at h
  have hW : wd (dC, dI) A s.heap (clX3 cI cJ cZ cB h0 a0 (c0 0) (c0 1) (c0 2) (c0 3) (c0 4) (c0 5 0) (c0 6 0) (c0 7 0) (c0 8 0) (c0 9 0) []) H locs := hW
  have hL83 : ∀ (n83 : Nat) (c0 : Nat → Nat → Int32) (x3 : Int64) (x5 : Int32), ld_X3_back_83 F n83 c0 x3 x5 = some (c0') → ∀ (H : Heap) (locs : List Loc), wd (dC, dI) A s.heap (clX3 cI cJ cZ cB h0 a0 (c0 0) (c0 1) (c0 2) (c0 3) (c0 4) (c0 5 0) (c0 6 0) (c0 7 0) (c0 8 0) (c0 9 0) []) H locs → ∀ ls : Array Slot, lv_has ls 6 [(0, .ref h0), (3, .long x3), (5, .int x5)] → W p l e rmX3_back s m (List.toArray [.ref h0, .long p1]) below meth c H locs 0 0 (MQ below (kQ (dC, dI) (cwX3 cI cJ cZ cB h0 a0 c0' []) none A) (List.toArray [.ref h0, .long p1]) s 0 0 A) (F0 m 83 ls []) := by
    intro n83
    induction n83 with
    | zero => intro c0 x3 x5 h; rw [ld_X3_back_83] at h; cases h
    | succ n83 ih83 =>
      intro c0 x3 x5 h H locs hW ls hl
      rw [ld_X3_back_83] at h
      refine lv_iload S.1 S.2.1 dX3_back_83 (lv_at hl 2 rfl) ?_
      refine lv_if_lt (tgt := 111) S.1 S.2.1 dX3_back_85 (by decide) (fun u1 => ?_) (fun u1 => ?_)
      · have h := of_p u1 h
        refine lv_aload_n S.1 S.2.1 dX3_back_111 rfl (lv_at hl 0 rfl) ?_
        refine lv_lload_n S.1 S.2.1 dX3_back_112 rfl (lv_at hl 1 rfl) ?_
        refine lv_l2i S.1 S.2.1 dX3_back_113 rfl ?_
        refine pf (C := RX3) (T := TX3) (N := 10) (ci := 2) (k := 6) (ty := .int) S hK hW wu_X3 rfl (by decide) tyX3 tyX3_ok nmX3 wf_X3_34 0 rfl rfl rfl rfl rfl (Nat.le_of_ble_eq_true rfl) dX3_back_114 (fun H locs hW => ?_)
        have hW : wd (dC, dI) A s.heap (clX3 cI cJ cZ cB h0 a0 (c0 0) (c0 1) (c0 2) (c0 3) (c0 4) (c0 5 0) x3.toInt32 (c0 7 0) (c0 8 0) (c0 9 0) []) H locs := hW
        have f2 := Option.some.inj h
        subst f2
        exact rv S hr hlocks hW dX3_back_117
      · have h := of_n u1 h
        refine lv_aload_n S.1 S.2.1 dX3_back_88 rfl (lv_at hl 0 rfl) ?_
        refine gf (C := RX3) (T := TX3) (N := 10) (ci := 2) (k := 4) S hK hW wu_X3 rfl (by decide) wf_X3_24 0 rfl rfl dX3_back_89 ?_
        refine lv_iload S.1 S.2.1 dX3_back_92 (lv_at hl 2 rfl) ?_
        refine lv_lload_n S.1 S.2.1 dX3_back_94 rfl (lv_at hl 1 rfl) ?_
        refine lv_ldc2 (v := (3 : Int64)) S.1 S.2.1 S.2.2.2.1 (S.2.2.2.2 _ wk_X3_103) dX3_back_95 ?_
        refine lv_land S.1 S.2.1 dX3_back_98 ?_
        refine lv_l2i S.1 S.2.1 dX3_back_99 rfl ?_
        obtain ⟨z3, h⟩ := of_g h
        refine ist S hK hW rfl 5 rfl z3 dX3_back_100 (fun H locs hW => ?_)
        have hW : wd (dC, dI) A s.heap (clX3 cI cJ cZ cB h0 a0 (c0 0) (c0 1) (c0 2) (c0 3) (upd (c0 4) (ix x5) (x3 &&& (3 : Int64)).toInt32) (c0 5 0) (c0 6 0) (c0 7 0) (c0 8 0) (c0 9 0) []) H locs := hW
        refine lv_lload_n S.1 S.2.1 dX3_back_101 rfl (lv_at hl 1 rfl) ?_
        refine lv_iconst (v := (2 : Int32)) S.1 S.2.1 dX3_back_102 ki_2 ?_
        refine lv_lshr S.1 S.2.1 dX3_back_103 rfl ?_
        obtain ⟨y4, e5, h⟩ := lt1_e h
        refine nml e5 ?_
        refine lv_lstore_n (lv' := [(3, .long y4), (0, .ref h0), (5, .int x5)]) S.1 S.2.1 dX3_back_104 rfl hl (by decide) rfl (fun ls hl => ?_)
        refine lv_iinc (v := (x5 + (-1 : Int32))) (lv' := [(5, .int (x5 + (-1 : Int32))), (3, .long y4), (0, .ref h0)]) S.1 S.2.1 dX3_back_105 hl (k := 2) rfl (congrArg (fun z => x5 + z) ki_m1) (by decide) rfl (fun ls hl => ?_)
        refine lv_goto (tgt := 83) S.1 S.2.1 dX3_back_108 (by decide) ?_
        exact ih83 _ _ _ h H locs hW ls (lv_sub hl [2, 1, 0] rfl)
  refine lv_lload_n S.1 S.2.1 dX3_back_0 rfl (lv_at hl 1 rfl) ?_
  refine lv_lstore_n (lv' := [(3, .long p1), (0, .ref h0), (1, .long p1)]) S.1 S.2.1 dX3_back_1 rfl hl (by decide) rfl (fun ls hl => ?_)
  refine lv_aload_n S.1 S.2.1 dX3_back_2 rfl (lv_at hl 1 rfl) ?_
  refine lv_lload_n S.1 S.2.1 dX3_back_3 rfl (lv_at hl 0 rfl) ?_
  refine lv_ldc2 (v := (7 : Int64)) S.1 S.2.1 S.2.2.2.1 (S.2.2.2.2 _ wk_X3_99) dX3_back_4 ?_
  refine lv_land S.1 S.2.1 dX3_back_7 ?_
  refine lv_l2i S.1 S.2.1 dX3_back_8 rfl ?_
  refine lv_iconst (v := (1 : Int32)) S.1 S.2.1 dX3_back_9 ki_1 ?_
  refine lv_isub S.1 S.2.1 dX3_back_10 ?_
  refine pf (C := RX3) (T := TX3) (N := 10) (ci := 2) (k := 9) (ty := .int) S hK hW wu_X3 rfl (by decide) tyX3 tyX3_ok nmX3 wf_X3_27 0 rfl rfl rfl rfl rfl (Nat.le_of_ble_eq_true rfl) dX3_back_11 (fun H locs hW => ?_)
  have hW : wd (dC, dI) A s.heap (clX3 cI cJ cZ cB h0 a0 (c0 0) (c0 1) (c0 2) (c0 3) (c0 4) (c0 5 0) (c0 6 0) (c0 7 0) (c0 8 0) ((p1 &&& (7 : Int64)).toInt32 - (1 : Int32)) []) H locs := hW
  refine lv_lload_n S.1 S.2.1 dX3_back_14 rfl (lv_at hl 0 rfl) ?_
  refine lv_iconst (v := (3 : Int32)) S.1 S.2.1 dX3_back_15 ki_3 ?_
  refine lv_lshr S.1 S.2.1 dX3_back_16 rfl ?_
  obtain ⟨y6, e7, h⟩ := lt1_e h
  refine nml e7 ?_
  refine lv_lstore_n (lv' := [(3, .long y6), (0, .ref h0), (1, .long p1)]) S.1 S.2.1 dX3_back_17 rfl hl (by decide) rfl (fun ls hl => ?_)
  refine lv_aload_n S.1 S.2.1 dX3_back_18 rfl (lv_at hl 1 rfl) ?_
  refine lv_lload_n S.1 S.2.1 dX3_back_19 rfl (lv_at hl 0 rfl) ?_
  refine lv_ldc2 (v := (255 : Int64)) S.1 S.2.1 S.2.2.2.1 (S.2.2.2.2 _ wk_X3_101) dX3_back_20 ?_
  refine lv_land S.1 S.2.1 dX3_back_23 ?_
  refine lv_l2i S.1 S.2.1 dX3_back_24 rfl ?_
  refine lv_bipush (v := (99 : Int32)) S.1 S.2.1 dX3_back_25 kb_99 ?_
  refine lv_isub S.1 S.2.1 dX3_back_27 ?_
  refine pf (C := RX3) (T := TX3) (N := 10) (ci := 2) (k := 7) (ty := .int) S hK hW wu_X3 rfl (by decide) tyX3 tyX3_ok nmX3 wf_X3_37 0 rfl rfl rfl rfl rfl (Nat.le_of_ble_eq_true rfl) dX3_back_28 (fun H locs hW => ?_)
  have hW : wd (dC, dI) A s.heap (clX3 cI cJ cZ cB h0 a0 (c0 0) (c0 1) (c0 2) (c0 3) (c0 4) (c0 5 0) (c0 6 0) ((y6 &&& (255 : Int64)).toInt32 - (99 : Int32)) (c0 8 0) ((p1 &&& (7 : Int64)).toInt32 - (1 : Int32)) []) H locs := hW
  refine lv_lload_n S.1 S.2.1 dX3_back_31 rfl (lv_at hl 0 rfl) ?_
  refine lv_bipush (v := (8 : Int32)) S.1 S.2.1 dX3_back_32 kb_8 ?_
  refine lv_lshr S.1 S.2.1 dX3_back_34 rfl ?_
  obtain ⟨y8, e9, h⟩ := lt1_e h
  refine nml e9 ?_
  refine lv_lstore_n (lv' := [(3, .long y8), (0, .ref h0), (1, .long p1)]) S.1 S.2.1 dX3_back_35 rfl hl (by decide) rfl (fun ls hl => ?_)
  refine lv_aload_n S.1 S.2.1 dX3_back_36 rfl (lv_at hl 1 rfl) ?_
  refine lv_lload_n S.1 S.2.1 dX3_back_37 rfl (lv_at hl 0 rfl) ?_
  refine lv_lconst (v := (1 : Int64)) S.1 S.2.1 dX3_back_38 rfl ?_
  refine lv_land S.1 S.2.1 dX3_back_39 ?_
  refine lv_l2i S.1 S.2.1 dX3_back_40 rfl ?_
  refine pf (C := RX3) (T := TX3) (N := 10) (ci := 2) (k := 8) (ty := .int) S hK hW wu_X3 rfl (by decide) tyX3 tyX3_ok nmX3 wf_X3_40 0 rfl rfl rfl rfl rfl (Nat.le_of_ble_eq_true rfl) dX3_back_41 (fun H locs hW => ?_)
  have hW : wd (dC, dI) A s.heap (clX3 cI cJ cZ cB h0 a0 (c0 0) (c0 1) (c0 2) (c0 3) (c0 4) (c0 5 0) (c0 6 0) ((y6 &&& (255 : Int64)).toInt32 - (99 : Int32)) (y8 &&& (1 : Int64)).toInt32 ((p1 &&& (7 : Int64)).toInt32 - (1 : Int32)) []) H locs := hW
  refine lv_lload_n S.1 S.2.1 dX3_back_44 rfl (lv_at hl 0 rfl) ?_
  refine lv_iconst (v := (1 : Int32)) S.1 S.2.1 dX3_back_45 ki_1 ?_
  refine lv_lshr S.1 S.2.1 dX3_back_46 rfl ?_
  obtain ⟨y10, e11, h⟩ := lt1_e h
  refine nml e11 ?_
  refine lv_lstore_n (lv' := [(3, .long y10), (0, .ref h0), (1, .long p1)]) S.1 S.2.1 dX3_back_47 rfl hl (by decide) rfl (fun ls hl => ?_)
  refine lv_aload_n S.1 S.2.1 dX3_back_48 rfl (lv_at hl 1 rfl) ?_
  refine gf (C := RX3) (T := TX3) (N := 10) (ci := 2) (k := 1) S hK hW wu_X3 rfl (by decide) wf_X3_15 0 rfl rfl dX3_back_49 ?_
  refine lv_iconst (v := (1 : Int32)) S.1 S.2.1 dX3_back_52 ki_1 ?_
  refine lv_lload_n S.1 S.2.1 dX3_back_53 rfl (lv_at hl 0 rfl) ?_
  refine lv_ldc2 (v := (3 : Int64)) S.1 S.2.1 S.2.2.2.1 (S.2.2.2.2 _ wk_X3_103) dX3_back_54 ?_
  refine lv_land S.1 S.2.1 dX3_back_57 ?_
  refine lv_l2i S.1 S.2.1 dX3_back_58 rfl ?_
  refine istK S hK hW rfl 2 rfl b_1_2 x_1 dX3_back_59 (fun H locs hW => ?_)
  have hW : wd (dC, dI) A s.heap (clX3 cI cJ cZ cB h0 a0 (c0 0) (upd (c0 1) 1 (y10 &&& (3 : Int64)).toInt32) (c0 2) (c0 3) (c0 4) (c0 5 0) (c0 6 0) ((y6 &&& (255 : Int64)).toInt32 - (99 : Int32)) (y8 &&& (1 : Int64)).toInt32 ((p1 &&& (7 : Int64)).toInt32 - (1 : Int32)) []) H locs := hW
  refine lv_lload_n S.1 S.2.1 dX3_back_60 rfl (lv_at hl 0 rfl) ?_
  refine lv_iconst (v := (2 : Int32)) S.1 S.2.1 dX3_back_61 ki_2 ?_
  refine lv_lshr S.1 S.2.1 dX3_back_62 rfl ?_
  obtain ⟨y12, e13, h⟩ := lt1_e h
  refine nml e13 ?_
  refine lv_lstore_n (lv' := [(3, .long y12), (0, .ref h0), (1, .long p1)]) S.1 S.2.1 dX3_back_63 rfl hl (by decide) rfl (fun ls hl => ?_)
  refine lv_aload_n S.1 S.2.1 dX3_back_64 rfl (lv_at hl 1 rfl) ?_
  refine gf (C := RX3) (T := TX3) (N := 10) (ci := 2) (k := 1) S hK hW wu_X3 rfl (by decide) wf_X3_15 0 rfl rfl dX3_back_65 ?_
  refine lv_iconst (v := (0 : Int32)) S.1 S.2.1 dX3_back_68 ki_0 ?_
  refine lv_lload_n S.1 S.2.1 dX3_back_69 rfl (lv_at hl 0 rfl) ?_
  refine lv_ldc2 (v := (3 : Int64)) S.1 S.2.1 S.2.2.2.1 (S.2.2.2.2 _ wk_X3_103) dX3_back_70 ?_
  refine lv_land S.1 S.2.1 dX3_back_73 ?_
  refine lv_l2i S.1 S.2.1 dX3_back_74 rfl ?_
  refine istK S hK hW rfl 2 rfl b_0_2 x_0 dX3_back_75 (fun H locs hW => ?_)
  have hW : wd (dC, dI) A s.heap (clX3 cI cJ cZ cB h0 a0 (c0 0) (upd (upd (c0 1) 1 (y10 &&& (3 : Int64)).toInt32) 0 (y12 &&& (3 : Int64)).toInt32) (c0 2) (c0 3) (c0 4) (c0 5 0) (c0 6 0) ((y6 &&& (255 : Int64)).toInt32 - (99 : Int32)) (y8 &&& (1 : Int64)).toInt32 ((p1 &&& (7 : Int64)).toInt32 - (1 : Int32)) []) H locs := hW
  refine lv_lload_n S.1 S.2.1 dX3_back_76 rfl (lv_at hl 0 rfl) ?_
  refine lv_iconst (v := (2 : Int32)) S.1 S.2.1 dX3_back_77 ki_2 ?_
  refine lv_lshr S.1 S.2.1 dX3_back_78 rfl ?_
  obtain ⟨y14, e15, h⟩ := lt1_e h
  refine nml e15 ?_
  refine lv_lstore_n (lv' := [(3, .long y14), (0, .ref h0), (1, .long p1)]) S.1 S.2.1 dX3_back_79 rfl hl (by decide) rfl (fun ls hl => ?_)
  refine lv_iconst (v := (5 : Int32)) S.1 S.2.1 dX3_back_80 ki_5 ?_
  refine lv_istore (lv' := [(5, .int (5 : Int32)), (3, .long y14), (0, .ref h0), (1, .long p1)]) S.1 S.2.1 dX3_back_81 hl (by decide) rfl (fun ls hl => ?_)
  exact hL83 F _ _ _ h H locs hW ls (lv_sub hl [2, 1, 0] rfl)
abbrev rmX3_hasPoint : Room := { frames := 0, cells := 0, slots := 0, locals := 0 }
set_option maxHeartbeats 4000000 in
set_option maxRecDepth 100000 in
theorem t_X3_hasPoint (l : Launch) (dC : Nat → ClassId) (dI : Nat → Nat → Nat) (cI cJ cZ cB : ClassId) (zz : ZT)  (h0 : Nat) (a0 : Nat → Nat) (c0 : Nat → Nat → Int32) (p1 : Int32) (r : Int32) (hm : md_X3_hasPoint c0 p1 = some (r)) : ct l (dC, dI) zz (ty4 cI cJ cZ cB) yX3_hasPoint cX3_hasPoint 2 (some .boolean) rmX3_hasPoint [.ref h0, .int p1] (cwX3 cI cJ cZ cB h0 a0 c0 []) (cwX3 cI cJ cZ cB h0 a0 c0 []) (some (.int r)) := by
  refine ct_of (cc := cX3_hasPoint) (maxL := 2) (ret := (some .boolean)) (by decide) (Nat.le_of_ble_eq_true rfl) ?_
  intro p e s m below meth c A S hr hlocks hK hN hZ hA H locs hW ls hl
  have S : CallFix p m c cX3_hasPoint 2 s (List.toArray [.ref h0, .int p1]) G RX3 := S
  have hl : lv_has ls 2 [(0, .ref h0), (1, .int p1)] := hl
  have h := hm
  rw [md_X3_hasPoint] at h
  have hW : wd (dC, dI) A s.heap (clX3 cI cJ cZ cB h0 a0 (c0 0) (c0 1) (c0 2) (c0 3) (c0 4) (c0 5 0) (c0 6 0) (c0 7 0) (c0 8 0) (c0 9 0) []) H locs := hW
  refine lv_iconst (v := (0 : Int32)) S.1 S.2.1 dX3_hasPoint_0 ki_0 ?_
  refine lv_iload_n S.1 S.2.1 dX3_hasPoint_1 rfl (lv_at hl 1 rfl) ?_
  obtain ⟨y1, e2, h⟩ := lt1_e h
  suffices hM3 : ∀ ls : Array Slot, lv_has ls 2 [] → W p l e rmX3_hasPoint s m (List.toArray [.ref h0, .int p1]) below meth c H locs 0 0 (MQ below (kQ (dC, dI) (cwX3 cI cJ cZ cB h0 a0 c0 []) (some (.int r)) A) (List.toArray [.ref h0, .int p1]) s 0 0 A) (F0 m 24 ls [.int y1]) by
    refine lv_icmp_gt (tgt := 23) S.1 S.2.1 dX3_hasPoint_2 (by decide) (fun u4 => ?_) (fun u4 => ?_)
    · refine lv_iconst (v := (0 : Int32)) S.1 S.2.1 dX3_hasPoint_23 ki_0 ?_
      have e2 := e2.trans (if_pos u4)
      subst e2
      exact hM3 ls (lv_sub hl [] rfl)
    · refine lv_iload_n S.1 S.2.1 dX3_hasPoint_5 rfl (lv_at hl 1 rfl) ?_
      refine lv_aload_n S.1 S.2.1 dX3_hasPoint_6 rfl (lv_at hl 0 rfl) ?_
      refine gf (C := RX3) (T := TX3) (N := 10) (ci := 2) (k := 5) S hK hW wu_X3 rfl (by decide) wf_X3_31 0 rfl rfl dX3_hasPoint_7 ?_
      refine lv_icmp_ge (tgt := 23) S.1 S.2.1 dX3_hasPoint_10 (by decide) (fun u5 => ?_) (fun u5 => ?_)
      · refine lv_iconst (v := (0 : Int32)) S.1 S.2.1 dX3_hasPoint_23 ki_0 ?_
        have e2 := e2.trans ((if_neg u4).trans (if_pos u5))
        subst e2
        exact hM3 ls (lv_sub hl [] rfl)
      · refine lv_iload_n S.1 S.2.1 dX3_hasPoint_13 rfl (lv_at hl 1 rfl) ?_
        refine lv_bipush (v := (6 : Int32)) S.1 S.2.1 dX3_hasPoint_14 kb_6 ?_
        refine lv_icmp_ge (tgt := 23) S.1 S.2.1 dX3_hasPoint_16 (by decide) (fun u6 => ?_) (fun u6 => ?_)
        · refine lv_iconst (v := (0 : Int32)) S.1 S.2.1 dX3_hasPoint_23 ki_0 ?_
          have e2 := e2.trans ((if_neg u4).trans ((if_neg u5).trans (if_pos u6)))
          subst e2
          exact hM3 ls (lv_sub hl [] rfl)
        · refine lv_iconst (v := (1 : Int32)) S.1 S.2.1 dX3_hasPoint_19 ki_1 ?_
          refine lv_goto (tgt := 24) S.1 S.2.1 dX3_hasPoint_20 (by decide) ?_
          have e2 := e2.trans ((if_neg u4).trans ((if_neg u5).trans (if_neg u6)))
          subst e2
          exact hM3 ls (lv_sub hl [] rfl)
  intro ls hl
  obtain ⟨z7, h⟩ := of_g h
  have f8 := Option.some.inj h
  subst f8
  exact rz S hr hlocks hW (nz z7) dX3_hasPoint_24
abbrev rmX3_speaker : Room := { frames := 1, cells := 0, slots := 0, locals := 20 }
set_option maxHeartbeats 4000000 in
set_option maxRecDepth 100000 in
theorem t_X3_speaker (l : Launch) (dC : Nat → ClassId) (dI : Nat → Nat → Nat) (cI cJ cZ cB : ClassId) (zz : ZT)  (h0 : Nat) (a0 : Nat → Nat) (c0 : Nat → Nat → Int32) (r : Int32) (hm : md_X3_speaker c0 = some (r)) : ct l (dC, dI) zz (ty4 cI cJ cZ cB) yX3_speaker cX3_speaker 1 (some .int) rmX3_speaker [.ref h0] (cwX3 cI cJ cZ cB h0 a0 c0 []) (cwX3 cI cJ cZ cB h0 a0 c0 []) (some (.int r)) := by
  refine ct_of (cc := cX3_speaker) (maxL := 1) (ret := (some .int)) (by decide) (Nat.le_of_ble_eq_true rfl) ?_
  intro p e s m below meth c A S hr hlocks hK hN hZ hA H locs hW ls hl
  have S : CallFix p m c cX3_speaker 1 s (List.toArray [.ref h0]) G RX3 := S
  have hl : lv_has ls 1 [(0, .ref h0)] := hl
  have h := hm
  rw [md_X3_speaker] at h
  have hW : wd (dC, dI) A s.heap (clX3 cI cJ cZ cB h0 a0 (c0 0) (c0 1) (c0 2) (c0 3) (c0 4) (c0 5 0) (c0 6 0) (c0 7 0) (c0 8 0) (c0 9 0) []) H locs := hW
  refine lv_aload_n S.1 S.2.1 dX3_speaker_0 rfl (lv_at hl 0 rfl) ?_
  refine gf (C := RX3) (T := TX3) (N := 10) (ci := 2) (k := 6) S hK hW wu_X3 rfl (by decide) wf_X3_34 0 rfl rfl dX3_speaker_1 ?_
  obtain ⟨r1, hy2, h⟩ := bd1_e h
  refine ks0 S hK hN hZ hA hW (rest := []) (t_J6_bitCount_0f7a4 l dC dI cI cJ cZ cB zz (c0 6 0) _  hy2) wl_X3_47 wv_J6_bitCount_0f7a4 rfl rfl ⟨Nat.le_of_ble_eq_true rfl, Nat.le_of_ble_eq_true rfl⟩ [] (clX3 cI cJ cZ cB h0 a0 (c0 0) (c0 1) (c0 2) (c0 3) (c0 4) (c0 5 0) (c0 6 0) (c0 7 0) (c0 8 0) (c0 9 0) []) rfl rfl hl.1 rfl (Nat.le_of_ble_eq_true rfl) dX3_speaker_4 [.int r1] rfl (fun H locs hW => ?_)
  refine lv_iconst (v := (1 : Int32)) S.1 S.2.1 dX3_speaker_7 ki_1 ?_
  refine lv_iand S.1 S.2.1 dX3_speaker_8 ?_
  have f3 := Option.some.inj h
  subst f3
  exact ri S hr hlocks hW dX3_speaker_9
abbrev rmX3_mayObject : Room := { frames := 2, cells := 0, slots := 0, locals := 40 }
set_option maxHeartbeats 4000000 in
set_option maxRecDepth 100000 in
theorem t_X3_mayObject (l : Launch) (dC : Nat → ClassId) (dI : Nat → Nat → Nat) (cI cJ cZ cB : ClassId) (zz : ZT)  (h0 : Nat) (a0 : Nat → Nat) (c0 : Nat → Nat → Int32) (r : Int32) (hm : md_X3_mayObject c0 = some (r)) : ct l (dC, dI) zz (ty4 cI cJ cZ cB) yX3_mayObject cX3_mayObject 1 (some .boolean) rmX3_mayObject [.ref h0] (cwX3 cI cJ cZ cB h0 a0 c0 []) (cwX3 cI cJ cZ cB h0 a0 c0 []) (some (.int r)) := by
  refine ct_of (cc := cX3_mayObject) (maxL := 1) (ret := (some .boolean)) (by decide) (Nat.le_of_ble_eq_true rfl) ?_
  intro p e s m below meth c A S hr hlocks hK hN hZ hA H locs hW ls hl
  have S : CallFix p m c cX3_mayObject 1 s (List.toArray [.ref h0]) G RX3 := S
  have hl : lv_has ls 1 [(0, .ref h0)] := hl
  have h := hm
  rw [md_X3_mayObject] at h
  have hW : wd (dC, dI) A s.heap (clX3 cI cJ cZ cB h0 a0 (c0 0) (c0 1) (c0 2) (c0 3) (c0 4) (c0 5 0) (c0 6 0) (c0 7 0) (c0 8 0) (c0 9 0) []) H locs := hW
  refine lv_aload_n S.1 S.2.1 dX3_mayObject_0 rfl (lv_at hl 0 rfl) ?_
  refine lv_aload_n S.1 S.2.1 dX3_mayObject_1 rfl (lv_at hl 0 rfl) ?_
  refine gf (C := RX3) (T := TX3) (N := 10) (ci := 2) (k := 9) S hK hW wu_X3 rfl (by decide) wf_X3_27 0 rfl rfl dX3_mayObject_2 ?_
  obtain ⟨r1, hy2, h⟩ := bd1_e h
  refine kv0 S hK hN hZ hA hW (rest := []) (t_X3_hasPoint l dC dI cI cJ cZ cB zz h0 a0 c0 (c0 9 0) _  hy2) wl_X3_63 wv_X3_hasPoint rfl rfl ⟨Nat.le_of_ble_eq_true rfl, Nat.le_of_ble_eq_true rfl⟩ [] [] rfl 0 rfl rfl rfl rfl hl.1 rfl (Nat.le_of_ble_eq_true rfl) dX3_mayObject_5 [.int r1] rfl (fun H locs hW => ?_)
  refine lv_if_eq (tgt := 39) S.1 S.2.1 dX3_mayObject_8 (by decide) (fun u3 => ?_) (fun u3 => ?_)
  · have h := of_p u3 h
    refine lv_iconst (v := (0 : Int32)) S.1 S.2.1 dX3_mayObject_39 ki_0 ?_
    have f4 := Option.some.inj h
    subst f4
    exact rz S hr hlocks hW (nz (Or.inl rfl)) dX3_mayObject_40
  · have h := of_n u3 h
    refine lv_aload_n S.1 S.2.1 dX3_mayObject_11 rfl (lv_at hl 0 rfl) ?_
    refine gf (C := RX3) (T := TX3) (N := 10) (ci := 2) (k := 4) S hK hW wu_X3 rfl (by decide) wf_X3_24 0 rfl rfl dX3_mayObject_12 ?_
    refine lv_aload_n S.1 S.2.1 dX3_mayObject_15 rfl (lv_at hl 0 rfl) ?_
    refine gf (C := RX3) (T := TX3) (N := 10) (ci := 2) (k := 9) S hK hW wu_X3 rfl (by decide) wf_X3_27 0 rfl rfl dX3_mayObject_16 ?_
    obtain ⟨z5, h⟩ := of_g h
    refine ia S hK hW rfl 5 rfl z5 dX3_mayObject_19 ?_
    refine lv_if_le (tgt := 39) S.1 S.2.1 dX3_mayObject_20 (by decide) (fun u6 => ?_) (fun u6 => ?_)
    · have h := of_p u6 h
      refine lv_iconst (v := (0 : Int32)) S.1 S.2.1 dX3_mayObject_39 ki_0 ?_
      have f7 := Option.some.inj h
      subst f7
      exact rz S hr hlocks hW (nz (Or.inl rfl)) dX3_mayObject_40
    · have h := of_n u6 h
      refine lv_aload_n S.1 S.2.1 dX3_mayObject_23 rfl (lv_at hl 0 rfl) ?_
      refine gf (C := RX3) (T := TX3) (N := 10) (ci := 2) (k := 1) S hK hW wu_X3 rfl (by decide) wf_X3_15 0 rfl rfl dX3_mayObject_24 ?_
      refine lv_aload_n S.1 S.2.1 dX3_mayObject_27 rfl (lv_at hl 0 rfl) ?_
      obtain ⟨r8, hy9, h⟩ := bd1_e h
      refine kv0 S hK hN hZ hA hW (rest := [.ref (a0 1)]) (t_X3_speaker l dC dI cI cJ cZ cB zz h0 a0 c0 _  hy9) wl_X3_67 wv_X3_speaker rfl rfl ⟨Nat.le_of_ble_eq_true rfl, Nat.le_of_ble_eq_true rfl⟩ [] [] rfl 0 rfl rfl rfl rfl hl.1 rfl (Nat.le_of_ble_eq_true rfl) dX3_mayObject_28 [.int r8, .ref (a0 1)] rfl (fun H locs hW => ?_)
      obtain ⟨z10, h⟩ := of_g h
      refine ia S hK hW rfl 2 rfl z10 dX3_mayObject_31 ?_
      refine lv_if_le (tgt := 39) S.1 S.2.1 dX3_mayObject_32 (by decide) (fun u11 => ?_) (fun u11 => ?_)
      · have h := of_p u11 h
        refine lv_iconst (v := (0 : Int32)) S.1 S.2.1 dX3_mayObject_39 ki_0 ?_
        have f12 := Option.some.inj h
        subst f12
        exact rz S hr hlocks hW (nz (Or.inl rfl)) dX3_mayObject_40
      · have h := of_n u11 h
        refine lv_iconst (v := (1 : Int32)) S.1 S.2.1 dX3_mayObject_35 ki_1 ?_
        refine lv_goto (tgt := 40) S.1 S.2.1 dX3_mayObject_36 (by decide) ?_
        have f13 := Option.some.inj h
        subst f13
        exact rz S hr hlocks hW (nz (Or.inr rfl)) dX3_mayObject_40
abbrev rmX3_bow : Room := { frames := 3, cells := 0, slots := 0, locals := 60 }
set_option maxHeartbeats 4000000 in
set_option maxRecDepth 100000 in
theorem t_X3_bow (l : Launch) (dC : Nat → ClassId) (dI : Nat → Nat → Nat) (cI cJ cZ cB : ClassId) (zz : ZT)  (h0 : Nat) (a0 : Nat → Nat) (c0 : Nat → Nat → Int32) (c0' : Nat → Nat → Int32) (hm : md_X3_bow c0 = some (c0')) : ct l (dC, dI) zz (ty4 cI cJ cZ cB) yX3_bow cX3_bow 1 none rmX3_bow [.ref h0] (cwX3 cI cJ cZ cB h0 a0 c0 []) (cwX3 cI cJ cZ cB h0 a0 c0' []) none := by
  refine ct_of (cc := cX3_bow) (maxL := 1) (ret := none) (by decide) (Nat.le_of_ble_eq_true rfl) ?_
  intro p e s m below meth c A S hr hlocks hK hN hZ hA H locs hW ls hl
  have S : CallFix p m c cX3_bow 1 s (List.toArray [.ref h0]) G RX3 := S
  have hl : lv_has ls 1 [(0, .ref h0)] := hl
  have h := hm
  rw [md_X3_bow] at h
  have hW : wd (dC, dI) A s.heap (clX3 cI cJ cZ cB h0 a0 (c0 0) (c0 1) (c0 2) (c0 3) (c0 4) (c0 5 0) (c0 6 0) (c0 7 0) (c0 8 0) (c0 9 0) []) H locs := hW
  refine lv_aload_n S.1 S.2.1 dX3_bow_0 rfl (lv_at hl 0 rfl) ?_
  obtain ⟨r1, hy2, h⟩ := bd1_e h
  refine kv0 S hK hN hZ hA hW (rest := []) (t_X3_mayObject l dC dI cI cJ cZ cB zz h0 a0 c0 _  hy2) wl_X3_95 wv_X3_mayObject rfl rfl ⟨Nat.le_of_ble_eq_true rfl, Nat.le_of_ble_eq_true rfl⟩ [] [] rfl 0 rfl rfl rfl rfl hl.1 rfl (Nat.le_of_ble_eq_true rfl) dX3_bow_1 [.int r1] rfl (fun H locs hW => ?_)
  refine lv_if_ne (tgt := 8) S.1 S.2.1 dX3_bow_4 (by decide) (fun u3 => ?_) (fun u3 => ?_)
  · have h := of_n u3 h
    refine lv_aload_n S.1 S.2.1 dX3_bow_8 rfl (lv_at hl 0 rfl) ?_
    refine gf (C := RX3) (T := TX3) (N := 10) (ci := 2) (k := 1) S hK hW wu_X3 rfl (by decide) wf_X3_15 0 rfl rfl dX3_bow_9 ?_
    refine lv_aload_n S.1 S.2.1 dX3_bow_12 rfl (lv_at hl 0 rfl) ?_
    obtain ⟨r4, hy5, h⟩ := bd1_e h
    refine kv0 S hK hN hZ hA hW (rest := [.ref (a0 1)]) (t_X3_speaker l dC dI cI cJ cZ cB zz h0 a0 c0 _  hy5) wl_X3_67 wv_X3_speaker rfl rfl ⟨Nat.le_of_ble_eq_true rfl, Nat.le_of_ble_eq_true rfl⟩ [] [] rfl 0 rfl rfl rfl rfl hl.1 rfl (Nat.le_of_ble_eq_true rfl) dX3_bow_13 [.int r4, .ref (a0 1)] rfl (fun H locs hW => ?_)
    refine lv_dup2_11 S.1 S.2.1 dX3_bow_16 rfl rfl ?_
    obtain ⟨z6, h⟩ := of_g h
    refine ia S hK hW rfl 2 rfl z6 dX3_bow_17 ?_
    refine lv_iconst (v := (1 : Int32)) S.1 S.2.1 dX3_bow_18 ki_1 ?_
    refine lv_isub S.1 S.2.1 dX3_bow_19 ?_
    obtain ⟨z7, h⟩ := of_g h
    refine ist S hK hW rfl 2 rfl z7 dX3_bow_20 (fun H locs hW => ?_)
    have hW : wd (dC, dI) A s.heap (clX3 cI cJ cZ cB h0 a0 (c0 0) (upd (c0 1) (ix r4) (((c0 1) (ix r4)) - (1 : Int32))) (c0 2) (c0 3) (c0 4) (c0 5 0) (c0 6 0) (c0 7 0) (c0 8 0) (c0 9 0) []) H locs := hW
    refine lv_aload_n S.1 S.2.1 dX3_bow_21 rfl (lv_at hl 0 rfl) ?_
    refine gf (C := RX3) (T := TX3) (N := 10) (ci := 2) (k := 4) S hK hW wu_X3 rfl (by decide) wf_X3_24 0 rfl rfl dX3_bow_22 ?_
    refine lv_aload_n S.1 S.2.1 dX3_bow_25 rfl (lv_at hl 0 rfl) ?_
    refine gf (C := RX3) (T := TX3) (N := 10) (ci := 2) (k := 9) S hK hW wu_X3 rfl (by decide) wf_X3_27 0 rfl rfl dX3_bow_26 ?_
    refine lv_dup2_11 S.1 S.2.1 dX3_bow_29 rfl rfl ?_
    obtain ⟨z8, h⟩ := of_g h
    refine ia S hK hW rfl 5 rfl z8 dX3_bow_30 ?_
    refine lv_iconst (v := (1 : Int32)) S.1 S.2.1 dX3_bow_31 ki_1 ?_
    refine lv_isub S.1 S.2.1 dX3_bow_32 ?_
    obtain ⟨z9, h⟩ := of_g h
    refine ist S hK hW rfl 5 rfl z9 dX3_bow_33 (fun H locs hW => ?_)
    have hW : wd (dC, dI) A s.heap (clX3 cI cJ cZ cB h0 a0 (c0 0) (upd (c0 1) (ix r4) (((c0 1) (ix r4)) - (1 : Int32))) (c0 2) (c0 3) (upd (c0 4) (ix (c0 9 0)) (((c0 4) (ix (c0 9 0))) - (1 : Int32))) (c0 5 0) (c0 6 0) (c0 7 0) (c0 8 0) (c0 9 0) []) H locs := hW
    refine lv_aload_n S.1 S.2.1 dX3_bow_34 rfl (lv_at hl 0 rfl) ?_
    refine lv_iconst (v := (1 : Int32)) S.1 S.2.1 dX3_bow_35 ki_1 ?_
    refine lv_aload_n S.1 S.2.1 dX3_bow_36 rfl (lv_at hl 0 rfl) ?_
    refine gf (C := RX3) (T := TX3) (N := 10) (ci := 2) (k := 8) S hK hW wu_X3 rfl (by decide) wf_X3_40 0 rfl rfl dX3_bow_37 ?_
    refine lv_isub S.1 S.2.1 dX3_bow_40 ?_
    refine pf (C := RX3) (T := TX3) (N := 10) (ci := 2) (k := 8) (ty := .int) S hK hW wu_X3 rfl (by decide) tyX3 tyX3_ok nmX3 wf_X3_40 0 rfl rfl rfl rfl rfl (Nat.le_of_ble_eq_true rfl) dX3_bow_41 (fun H locs hW => ?_)
    have hW : wd (dC, dI) A s.heap (clX3 cI cJ cZ cB h0 a0 (c0 0) (upd (c0 1) (ix r4) (((c0 1) (ix r4)) - (1 : Int32))) (c0 2) (c0 3) (upd (c0 4) (ix (c0 9 0)) (((c0 4) (ix (c0 9 0))) - (1 : Int32))) (c0 5 0) (c0 6 0) (c0 7 0) ((1 : Int32) - (c0 8 0)) (c0 9 0) []) H locs := hW
    refine lv_aload_n S.1 S.2.1 dX3_bow_44 rfl (lv_at hl 0 rfl) ?_
    refine lv_iconst (v := (-1 : Int32)) S.1 S.2.1 dX3_bow_45 ki_m1 ?_
    refine pf (C := RX3) (T := TX3) (N := 10) (ci := 2) (k := 9) (ty := .int) S hK hW wu_X3 rfl (by decide) tyX3 tyX3_ok nmX3 wf_X3_27 0 rfl rfl rfl rfl rfl (Nat.le_of_ble_eq_true rfl) dX3_bow_46 (fun H locs hW => ?_)
    have hW : wd (dC, dI) A s.heap (clX3 cI cJ cZ cB h0 a0 (c0 0) (upd (c0 1) (ix r4) (((c0 1) (ix r4)) - (1 : Int32))) (c0 2) (c0 3) (upd (c0 4) (ix (c0 9 0)) (((c0 4) (ix (c0 9 0))) - (1 : Int32))) (c0 5 0) (c0 6 0) (c0 7 0) ((1 : Int32) - (c0 8 0)) (-1 : Int32) []) H locs := hW
    have f10 := Option.some.inj h
    subst f10
    exact rv S hr hlocks hW dX3_bow_49
  · have h := of_p u3 h
    have f11 := Option.some.inj h
    subst f11
    exact rv S hr hlocks hW dX3_bow_7
abbrev rmX3_keep : Room := { frames := 0, cells := 0, slots := 0, locals := 0 }
set_option maxHeartbeats 4000000 in
set_option maxRecDepth 100000 in
theorem t_X3_keep (l : Launch) (dC : Nat → ClassId) (dI : Nat → Nat → Nat) (cI cJ cZ cB : ClassId) (zz : ZT)  (h0 : Nat) (a0 : Nat → Nat) (F : Nat) (c0 : Nat → Nat → Int32) (r : Int64) (hm : md_X3_keep F c0 = some (r)) : ct l (dC, dI) zz (ty4 cI cJ cZ cB) yX3_keep cX3_keep 4 (some .long) rmX3_keep [.ref h0] (cwX3 cI cJ cZ cB h0 a0 c0 []) (cwX3 cI cJ cZ cB h0 a0 c0 []) (some (.long r)) := by
  refine ct_of (cc := cX3_keep) (maxL := 4) (ret := (some .long)) (by decide) (Nat.le_of_ble_eq_true rfl) ?_
  intro p e s m below meth c A S hr hlocks hK hN hZ hA H locs hW ls hl
  have S : CallFix p m c cX3_keep 4 s (List.toArray [.ref h0]) G RX3 := S
  have hl : lv_has ls 4 [(0, .ref h0)] := hl
  have h := hm
  rw [md_X3_keep] at h
  have hW : wd (dC, dI) A s.heap (clX3 cI cJ cZ cB h0 a0 (c0 0) (c0 1) (c0 2) (c0 3) (c0 4) (c0 5 0) (c0 6 0) (c0 7 0) (c0 8 0) (c0 9 0) []) H locs := hW
  have hL8 : ∀ (n8 : Nat) (x1 : Int64) (x3 : Int32), ld_X3_keep_8 F c0 n8 x1 x3 = some (r) → ∀ (H : Heap) (locs : List Loc), wd (dC, dI) A s.heap (clX3 cI cJ cZ cB h0 a0 (c0 0) (c0 1) (c0 2) (c0 3) (c0 4) (c0 5 0) (c0 6 0) (c0 7 0) (c0 8 0) (c0 9 0) []) H locs → ∀ ls : Array Slot, lv_has ls 4 [(0, .ref h0), (1, .long x1), (3, .int x3)] → W p l e rmX3_keep s m (List.toArray [.ref h0]) below meth c H locs 0 0 (MQ below (kQ (dC, dI) (cwX3 cI cJ cZ cB h0 a0 c0 []) (some (.long r)) A) (List.toArray [.ref h0]) s 0 0 A) (F0 m 8 ls []) := by
    intro n8
    induction n8 with
    | zero => intro x1 x3 h; rw [ld_X3_keep_8] at h; cases h
    | succ n8 ih8 =>
      intro x1 x3 h H locs hW ls hl
      rw [ld_X3_keep_8] at h
      refine lv_iload_n S.1 S.2.1 dX3_keep_8 rfl (lv_at hl 2 rfl) ?_
      refine lv_bipush (v := (6 : Int32)) S.1 S.2.1 dX3_keep_9 kb_6 ?_
      refine lv_icmp_ge (tgt := 32) S.1 S.2.1 dX3_keep_11 (by decide) (fun u1 => ?_) (fun u1 => ?_)
      · have h := of_p u1 h
        refine lv_lload_n S.1 S.2.1 dX3_keep_32 rfl (lv_at hl 1 rfl) ?_
        refine lv_iconst (v := (2 : Int32)) S.1 S.2.1 dX3_keep_33 ki_2 ?_
        refine lv_lshl S.1 S.2.1 dX3_keep_34 rfl ?_
        refine lv_aload_n S.1 S.2.1 dX3_keep_35 rfl (lv_at hl 0 rfl) ?_
        refine gf (C := RX3) (T := TX3) (N := 10) (ci := 2) (k := 1) S hK hW wu_X3 rfl (by decide) wf_X3_15 0 rfl rfl dX3_keep_36 ?_
        refine lv_iconst (v := (0 : Int32)) S.1 S.2.1 dX3_keep_39 ki_0 ?_
        refine iaK S hK hW rfl 2 rfl b_0_2 x_0 dX3_keep_40 ?_
        refine lv_i2l S.1 S.2.1 dX3_keep_41 rfl ?_
        refine lv_lor S.1 S.2.1 dX3_keep_42 ?_
        obtain ⟨y2, e3, h⟩ := lt1_e h
        refine nml e3 ?_
        refine lv_lstore_n (lv' := [(1, .long y2), (0, .ref h0), (3, .int x3)]) S.1 S.2.1 dX3_keep_43 rfl hl (by decide) rfl (fun ls hl => ?_)
        refine lv_lload_n S.1 S.2.1 dX3_keep_44 rfl (lv_at hl 0 rfl) ?_
        refine lv_iconst (v := (2 : Int32)) S.1 S.2.1 dX3_keep_45 ki_2 ?_
        refine lv_lshl S.1 S.2.1 dX3_keep_46 rfl ?_
        refine lv_aload_n S.1 S.2.1 dX3_keep_47 rfl (lv_at hl 1 rfl) ?_
        refine gf (C := RX3) (T := TX3) (N := 10) (ci := 2) (k := 1) S hK hW wu_X3 rfl (by decide) wf_X3_15 0 rfl rfl dX3_keep_48 ?_
        refine lv_iconst (v := (1 : Int32)) S.1 S.2.1 dX3_keep_51 ki_1 ?_
        refine iaK S hK hW rfl 2 rfl b_1_2 x_1 dX3_keep_52 ?_
        refine lv_i2l S.1 S.2.1 dX3_keep_53 rfl ?_
        refine lv_lor S.1 S.2.1 dX3_keep_54 ?_
        obtain ⟨y4, e5, h⟩ := lt1_e h
        refine nml e5 ?_
        refine lv_lstore_n (lv' := [(1, .long y4), (0, .ref h0), (3, .int x3)]) S.1 S.2.1 dX3_keep_55 rfl hl (by decide) rfl (fun ls hl => ?_)
        refine lv_lload_n S.1 S.2.1 dX3_keep_56 rfl (lv_at hl 0 rfl) ?_
        refine lv_iconst (v := (1 : Int32)) S.1 S.2.1 dX3_keep_57 ki_1 ?_
        refine lv_lshl S.1 S.2.1 dX3_keep_58 rfl ?_
        refine lv_aload_n S.1 S.2.1 dX3_keep_59 rfl (lv_at hl 1 rfl) ?_
        refine gf (C := RX3) (T := TX3) (N := 10) (ci := 2) (k := 8) S hK hW wu_X3 rfl (by decide) wf_X3_40 0 rfl rfl dX3_keep_60 ?_
        refine lv_i2l S.1 S.2.1 dX3_keep_63 rfl ?_
        refine lv_lor S.1 S.2.1 dX3_keep_64 ?_
        obtain ⟨y6, e7, h⟩ := lt1_e h
        refine nml e7 ?_
        refine lv_lstore_n (lv' := [(1, .long y6), (0, .ref h0), (3, .int x3)]) S.1 S.2.1 dX3_keep_65 rfl hl (by decide) rfl (fun ls hl => ?_)
        refine lv_lload_n S.1 S.2.1 dX3_keep_66 rfl (lv_at hl 0 rfl) ?_
        refine lv_bipush (v := (8 : Int32)) S.1 S.2.1 dX3_keep_67 kb_8 ?_
        refine lv_lshl S.1 S.2.1 dX3_keep_69 rfl ?_
        refine lv_aload_n S.1 S.2.1 dX3_keep_70 rfl (lv_at hl 1 rfl) ?_
        refine gf (C := RX3) (T := TX3) (N := 10) (ci := 2) (k := 7) S hK hW wu_X3 rfl (by decide) wf_X3_37 0 rfl rfl dX3_keep_71 ?_
        refine lv_bipush (v := (99 : Int32)) S.1 S.2.1 dX3_keep_74 kb_99 ?_
        refine lv_iadd S.1 S.2.1 dX3_keep_76 ?_
        refine lv_i2l S.1 S.2.1 dX3_keep_77 rfl ?_
        refine lv_lor S.1 S.2.1 dX3_keep_78 ?_
        obtain ⟨y8, e9, h⟩ := lt1_e h
        refine nml e9 ?_
        refine lv_lstore_n (lv' := [(1, .long y8), (0, .ref h0), (3, .int x3)]) S.1 S.2.1 dX3_keep_79 rfl hl (by decide) rfl (fun ls hl => ?_)
        refine lv_lload_n S.1 S.2.1 dX3_keep_80 rfl (lv_at hl 0 rfl) ?_
        refine lv_iconst (v := (3 : Int32)) S.1 S.2.1 dX3_keep_81 ki_3 ?_
        refine lv_lshl S.1 S.2.1 dX3_keep_82 rfl ?_
        refine lv_aload_n S.1 S.2.1 dX3_keep_83 rfl (lv_at hl 1 rfl) ?_
        refine gf (C := RX3) (T := TX3) (N := 10) (ci := 2) (k := 9) S hK hW wu_X3 rfl (by decide) wf_X3_27 0 rfl rfl dX3_keep_84 ?_
        refine lv_iconst (v := (1 : Int32)) S.1 S.2.1 dX3_keep_87 ki_1 ?_
        refine lv_iadd S.1 S.2.1 dX3_keep_88 ?_
        refine lv_i2l S.1 S.2.1 dX3_keep_89 rfl ?_
        refine lv_lor S.1 S.2.1 dX3_keep_90 ?_
        have f10 := Option.some.inj h
        subst f10
        exact rl S hr hlocks hW dX3_keep_91
      · have h := of_n u1 h
        refine lv_lload_n S.1 S.2.1 dX3_keep_14 rfl (lv_at hl 1 rfl) ?_
        refine lv_iconst (v := (2 : Int32)) S.1 S.2.1 dX3_keep_15 ki_2 ?_
        refine lv_lshl S.1 S.2.1 dX3_keep_16 rfl ?_
        refine lv_aload_n S.1 S.2.1 dX3_keep_17 rfl (lv_at hl 0 rfl) ?_
        refine gf (C := RX3) (T := TX3) (N := 10) (ci := 2) (k := 4) S hK hW wu_X3 rfl (by decide) wf_X3_24 0 rfl rfl dX3_keep_18 ?_
        refine lv_iload_n S.1 S.2.1 dX3_keep_21 rfl (lv_at hl 2 rfl) ?_
        obtain ⟨z11, h⟩ := of_g h
        refine ia S hK hW rfl 5 rfl z11 dX3_keep_22 ?_
        refine lv_i2l S.1 S.2.1 dX3_keep_23 rfl ?_
        refine lv_lor S.1 S.2.1 dX3_keep_24 ?_
        obtain ⟨y12, e13, h⟩ := lt1_e h
        refine nml e13 ?_
        refine lv_lstore_n (lv' := [(1, .long y12), (0, .ref h0), (3, .int x3)]) S.1 S.2.1 dX3_keep_25 rfl hl (by decide) rfl (fun ls hl => ?_)
        refine lv_iinc (v := (x3 + (1 : Int32))) (lv' := [(3, .int (x3 + (1 : Int32))), (1, .long y12), (0, .ref h0)]) S.1 S.2.1 dX3_keep_26 hl (k := 2) rfl (congrArg (fun z => x3 + z) ki_1) (by decide) rfl (fun ls hl => ?_)
        refine lv_goto (tgt := 8) S.1 S.2.1 dX3_keep_29 (by decide) ?_
        exact ih8 _ _ h H locs hW ls (lv_sub hl [2, 1, 0] rfl)
  refine lv_aload_n S.1 S.2.1 dX3_keep_0 rfl (lv_at hl 0 rfl) ?_
  refine gf (C := RX3) (T := TX3) (N := 10) (ci := 2) (k := 6) S hK hW wu_X3 rfl (by decide) wf_X3_34 0 rfl rfl dX3_keep_1 ?_
  refine lv_i2l S.1 S.2.1 dX3_keep_4 rfl ?_
  refine lv_lstore_n (lv' := [(1, .long (c0 6 0).toInt64), (0, .ref h0)]) S.1 S.2.1 dX3_keep_5 rfl hl (by decide) rfl (fun ls hl => ?_)
  refine lv_iconst (v := (0 : Int32)) S.1 S.2.1 dX3_keep_6 ki_0 ?_
  refine lv_istore_n (lv' := [(3, .int (0 : Int32)), (1, .long (c0 6 0).toInt64), (0, .ref h0)]) S.1 S.2.1 dX3_keep_7 rfl hl (by decide) rfl (fun ls hl => ?_)
  exact hL8 F _ _ h H locs hW ls (lv_sub hl [2, 1, 0] rfl)
abbrev rmX3_chairOf : Room := { frames := 0, cells := 0, slots := 0, locals := 0 }
set_option maxHeartbeats 4000000 in
set_option maxRecDepth 100000 in
theorem t_X3_chairOf (l : Launch) (dC : Nat → ClassId) (dI : Nat → Nat → Nat) (cI cJ cZ cB : ClassId) (zz : ZT)  (h0 : Nat) (a0 : Nat → Nat) (c0 : Nat → Nat → Int32) (p1 : Int32) (r : Int32) (hm : md_X3_chairOf c0 p1 = some (r)) : ct l (dC, dI) zz (ty4 cI cJ cZ cB) yX3_chairOf cX3_chairOf 2 (some .int) rmX3_chairOf [.ref h0, .int p1] (cwX3 cI cJ cZ cB h0 a0 c0 []) (cwX3 cI cJ cZ cB h0 a0 c0 []) (some (.int r)) := by
  refine ct_of (cc := cX3_chairOf) (maxL := 2) (ret := (some .int)) (by decide) (Nat.le_of_ble_eq_true rfl) ?_
  intro p e s m below meth c A S hr hlocks hK hN hZ hA H locs hW ls hl
  have S : CallFix p m c cX3_chairOf 2 s (List.toArray [.ref h0, .int p1]) G RX3 := S
  have hl : lv_has ls 2 [(0, .ref h0), (1, .int p1)] := hl
  have h := hm
  rw [md_X3_chairOf] at h
  have hW : wd (dC, dI) A s.heap (clX3 cI cJ cZ cB h0 a0 (c0 0) (c0 1) (c0 2) (c0 3) (c0 4) (c0 5 0) (c0 6 0) (c0 7 0) (c0 8 0) (c0 9 0) []) H locs := hW
  refine lv_iload_n S.1 S.2.1 dX3_chairOf_0 rfl (lv_at hl 1 rfl) ?_
  refine lv_aload_n S.1 S.2.1 dX3_chairOf_1 rfl (lv_at hl 0 rfl) ?_
  refine gf (C := RX3) (T := TX3) (N := 10) (ci := 2) (k := 8) S hK hW wu_X3 rfl (by decide) wf_X3_40 0 rfl rfl dX3_chairOf_2 ?_
  obtain ⟨y1, e2, h⟩ := lt1_e h
  suffices hM3 : ∀ ls : Array Slot, lv_has ls 2 [] → W p l e rmX3_chairOf s m (List.toArray [.ref h0, .int p1]) below meth c H locs 0 0 (MQ below (kQ (dC, dI) (cwX3 cI cJ cZ cB h0 a0 c0 []) (some (.int r)) A) (List.toArray [.ref h0, .int p1]) s 0 0 A) (F0 m 13 ls [.int y1]) by
    refine lv_icmp_ne (tgt := 12) S.1 S.2.1 dX3_chairOf_5 (by decide) (fun u4 => ?_) (fun u4 => ?_)
    · refine lv_iconst (v := (1 : Int32)) S.1 S.2.1 dX3_chairOf_12 ki_1 ?_
      have e2 := e2.trans (if_neg u4)
      subst e2
      exact hM3 ls (lv_sub hl [] rfl)
    · refine lv_iconst (v := (0 : Int32)) S.1 S.2.1 dX3_chairOf_8 ki_0 ?_
      refine lv_goto (tgt := 13) S.1 S.2.1 dX3_chairOf_9 (by decide) ?_
      have e2 := e2.trans (if_pos u4)
      subst e2
      exact hM3 ls (lv_sub hl [] rfl)
  intro ls hl
  have f5 := Option.some.inj h
  subst f5
  exact ri S hr hlocks hW dX3_chairOf_13
abbrev rmX3_meritOfChair : Room := { frames := 0, cells := 0, slots := 0, locals := 0 }
set_option maxHeartbeats 4000000 in
set_option maxRecDepth 100000 in
theorem t_X3_meritOfChair (l : Launch) (dC : Nat → ClassId) (dI : Nat → Nat → Nat) (cI cJ cZ cB : ClassId) (zz : ZT)  (h0 : Nat) (a0 : Nat → Nat) (c0 : Nat → Nat → Int32) (p1 : Int32) (r : Int32) (hm : md_X3_meritOfChair c0 p1 = some (r)) : ct l (dC, dI) zz (ty4 cI cJ cZ cB) yX3_meritOfChair cX3_meritOfChair 2 (some .int) rmX3_meritOfChair [.ref h0, .int p1] (cwX3 cI cJ cZ cB h0 a0 c0 []) (cwX3 cI cJ cZ cB h0 a0 c0 []) (some (.int r)) := by
  refine ct_of (cc := cX3_meritOfChair) (maxL := 2) (ret := (some .int)) (by decide) (Nat.le_of_ble_eq_true rfl) ?_
  intro p e s m below meth c A S hr hlocks hK hN hZ hA H locs hW ls hl
  have S : CallFix p m c cX3_meritOfChair 2 s (List.toArray [.ref h0, .int p1]) G RX3 := S
  have hl : lv_has ls 2 [(0, .ref h0), (1, .int p1)] := hl
  have h := hm
  rw [md_X3_meritOfChair] at h
  have hW : wd (dC, dI) A s.heap (clX3 cI cJ cZ cB h0 a0 (c0 0) (c0 1) (c0 2) (c0 3) (c0 4) (c0 5 0) (c0 6 0) (c0 7 0) (c0 8 0) (c0 9 0) []) H locs := hW
  refine lv_iload_n S.1 S.2.1 dX3_meritOfChair_0 rfl (lv_at hl 1 rfl) ?_
  obtain ⟨y1, e2, h⟩ := lt1_e h
  suffices hM3 : ∀ ls : Array Slot, lv_has ls 2 [] → W p l e rmX3_meritOfChair s m (List.toArray [.ref h0, .int p1]) below meth c H locs 0 0 (MQ below (kQ (dC, dI) (cwX3 cI cJ cZ cB h0 a0 c0 []) (some (.int r)) A) (List.toArray [.ref h0, .int p1]) s 0 0 A) (F0 m 16 ls [.int y1]) by
    refine lv_if_ne (tgt := 11) S.1 S.2.1 dX3_meritOfChair_1 (by decide) (fun u4 => ?_) (fun u4 => ?_)
    · refine lv_aload_n S.1 S.2.1 dX3_meritOfChair_11 rfl (lv_at hl 0 rfl) ?_
      refine gf (C := RX3) (T := TX3) (N := 10) (ci := 2) (k := 7) S hK hW wu_X3 rfl (by decide) wf_X3_37 0 rfl rfl dX3_meritOfChair_12 ?_
      refine lv_ineg S.1 S.2.1 dX3_meritOfChair_15 ?_
      have e2 := e2.trans (if_neg u4)
      subst e2
      exact hM3 ls (lv_sub hl [] rfl)
    · refine lv_aload_n S.1 S.2.1 dX3_meritOfChair_4 rfl (lv_at hl 0 rfl) ?_
      refine gf (C := RX3) (T := TX3) (N := 10) (ci := 2) (k := 7) S hK hW wu_X3 rfl (by decide) wf_X3_37 0 rfl rfl dX3_meritOfChair_5 ?_
      refine lv_goto (tgt := 16) S.1 S.2.1 dX3_meritOfChair_8 (by decide) ?_
      have e2 := e2.trans (if_pos u4)
      subst e2
      exact hM3 ls (lv_sub hl [] rfl)
  intro ls hl
  have f5 := Option.some.inj h
  subst f5
  exact ri S hr hlocks hW dX3_meritOfChair_16
abbrev rmX3_turn : Room := { frames := 1, cells := 0, slots := 0, locals := 20 }
set_option maxHeartbeats 4000000 in
set_option maxRecDepth 100000 in
theorem t_X3_turn (l : Launch) (dC : Nat → ClassId) (dI : Nat → Nat → Nat) (cI cJ cZ cB : ClassId) (zz : ZT)  (h0 : Nat) (a0 : Nat → Nat) (c0 : Nat → Nat → Int32) (r : Int32) (hm : md_X3_turn c0 = some (r)) : ct l (dC, dI) zz (ty4 cI cJ cZ cB) yX3_turn cX3_turn 1 (some .int) rmX3_turn [.ref h0] (cwX3 cI cJ cZ cB h0 a0 c0 []) (cwX3 cI cJ cZ cB h0 a0 c0 []) (some (.int r)) := by
  refine ct_of (cc := cX3_turn) (maxL := 1) (ret := (some .int)) (by decide) (Nat.le_of_ble_eq_true rfl) ?_
  intro p e s m below meth c A S hr hlocks hK hN hZ hA H locs hW ls hl
  have S : CallFix p m c cX3_turn 1 s (List.toArray [.ref h0]) G RX3 := S
  have hl : lv_has ls 1 [(0, .ref h0)] := hl
  have h := hm
  rw [md_X3_turn] at h
  have hW : wd (dC, dI) A s.heap (clX3 cI cJ cZ cB h0 a0 (c0 0) (c0 1) (c0 2) (c0 3) (c0 4) (c0 5 0) (c0 6 0) (c0 7 0) (c0 8 0) (c0 9 0) []) H locs := hW
  refine lv_aload_n S.1 S.2.1 dX3_turn_0 rfl (lv_at hl 0 rfl) ?_
  refine gf (C := RX3) (T := TX3) (N := 10) (ci := 2) (k := 6) S hK hW wu_X3 rfl (by decide) wf_X3_34 0 rfl rfl dX3_turn_1 ?_
  obtain ⟨r1, hy2, h⟩ := bd1_e h
  refine ks0 S hK hN hZ hA hW (rest := []) (t_J6_bitCount_0f7a4 l dC dI cI cJ cZ cB zz (c0 6 0) _  hy2) wl_X3_47 wv_J6_bitCount_0f7a4 rfl rfl ⟨Nat.le_of_ble_eq_true rfl, Nat.le_of_ble_eq_true rfl⟩ [] (clX3 cI cJ cZ cB h0 a0 (c0 0) (c0 1) (c0 2) (c0 3) (c0 4) (c0 5 0) (c0 6 0) (c0 7 0) (c0 8 0) (c0 9 0) []) rfl rfl hl.1 rfl (Nat.le_of_ble_eq_true rfl) dX3_turn_4 [.int r1] rfl (fun H locs hW => ?_)
  have f3 := Option.some.inj h
  subst f3
  exact ri S hr hlocks hW dX3_turn_7
abbrev rmX3_counting : Room := { frames := 2, cells := 0, slots := 0, locals := 44 }
set_option maxHeartbeats 4000000 in
set_option maxRecDepth 100000 in
theorem t_X3_counting (l : Launch) (dC : Nat → ClassId) (dI : Nat → Nat → Nat) (cI cJ cZ cB : ClassId) (zz : ZT)  (h0 : Nat) (a0 : Nat → Nat) (c0 : Nat → Nat → Int32) (p1 : Int32) (r : Int32) (hm : md_X3_counting c0 p1 = some (r)) : ct l (dC, dI) zz (ty4 cI cJ cZ cB) yX3_counting cX3_counting 5 (some .int) rmX3_counting [.ref h0, .int p1] (cwX3 cI cJ cZ cB h0 a0 c0 []) (cwX3 cI cJ cZ cB h0 a0 c0 []) (some (.int r)) := by
  refine ct_of (cc := cX3_counting) (maxL := 5) (ret := (some .int)) (by decide) (Nat.le_of_ble_eq_true rfl) ?_
  intro p e s m below meth c A S hr hlocks hK hN hZ hA H locs hW ls hl
  have S : CallFix p m c cX3_counting 5 s (List.toArray [.ref h0, .int p1]) G RX3 := S
  have hl : lv_has ls 5 [(0, .ref h0), (1, .int p1)] := hl
  have h := hm
  rw [md_X3_counting] at h
  have hW : wd (dC, dI) A s.heap (clX3 cI cJ cZ cB h0 a0 (c0 0) (c0 1) (c0 2) (c0 3) (c0 4) (c0 5 0) (c0 6 0) (c0 7 0) (c0 8 0) (c0 9 0) []) H locs := hW
  refine lv_aload_n S.1 S.2.1 dX3_counting_0 rfl (lv_at hl 0 rfl) ?_
  refine lv_iload_n S.1 S.2.1 dX3_counting_1 rfl (lv_at hl 1 rfl) ?_
  obtain ⟨r1, hy2, h⟩ := bd1_e h
  refine kv0 S hK hN hZ hA hW (rest := []) (t_X3_hasPoint l dC dI cI cJ cZ cB zz h0 a0 c0 p1 _  hy2) wl_X3_63 wv_X3_hasPoint rfl rfl ⟨Nat.le_of_ble_eq_true rfl, Nat.le_of_ble_eq_true rfl⟩ [] [] rfl 0 rfl rfl rfl rfl hl.1 rfl (Nat.le_of_ble_eq_true rfl) dX3_counting_2 [.int r1] rfl (fun H locs hW => ?_)
  refine lv_if_ne (tgt := 10) S.1 S.2.1 dX3_counting_5 (by decide) (fun u3 => ?_) (fun u3 => ?_)
  · have h := of_n u3 h
    refine lv_aload_n S.1 S.2.1 dX3_counting_10 rfl (lv_at hl 0 rfl) ?_
    obtain ⟨r4, hy5, h⟩ := bd1_e h
    refine kv0 S hK hN hZ hA hW (rest := []) (t_X3_speaker l dC dI cI cJ cZ cB zz h0 a0 c0 _  hy5) wl_X3_67 wv_X3_speaker rfl rfl ⟨Nat.le_of_ble_eq_true rfl, Nat.le_of_ble_eq_true rfl⟩ [] [] rfl 0 rfl rfl rfl rfl hl.1 rfl (Nat.le_of_ble_eq_true rfl) dX3_counting_11 [.int r4] rfl (fun H locs hW => ?_)
    refine lv_istore_n (lv' := [(2, .int r4), (0, .ref h0), (1, .int p1)]) S.1 S.2.1 dX3_counting_14 rfl hl (by decide) rfl (fun ls hl => ?_)
    refine lv_aload_n S.1 S.2.1 dX3_counting_15 rfl (lv_at hl 1 rfl) ?_
    refine lv_iload_n S.1 S.2.1 dX3_counting_16 rfl (lv_at hl 0 rfl) ?_
    obtain ⟨r6, hy7, h⟩ := bd1_e h
    refine kv0 S hK hN hZ hA hW (rest := []) (t_X3_chairOf l dC dI cI cJ cZ cB zz h0 a0 c0 r4 _  hy7) wl_X3_53 wv_X3_chairOf rfl rfl ⟨Nat.le_of_ble_eq_true rfl, Nat.le_of_ble_eq_true rfl⟩ [] [] rfl 0 rfl rfl rfl rfl hl.1 rfl (Nat.le_of_ble_eq_true rfl) dX3_counting_17 [.int r6] rfl (fun H locs hW => ?_)
    refine lv_istore_n (lv' := [(3, .int r6), (2, .int r4), (0, .ref h0), (1, .int p1)]) S.1 S.2.1 dX3_counting_20 rfl hl (by decide) rfl (fun ls hl => ?_)
    refine lv_aload_n S.1 S.2.1 dX3_counting_21 rfl (lv_at hl 2 rfl) ?_
    refine gf (C := RX3) (T := TX3) (N := 10) (ci := 2) (k := 2) S hK hW wu_X3 rfl (by decide) wf_X3_18 0 rfl rfl dX3_counting_22 ?_
    refine lv_iload_n S.1 S.2.1 dX3_counting_25 rfl (lv_at hl 3 rfl) ?_
    obtain ⟨z8, h⟩ := of_g h
    refine ia S hK hW rfl 3 rfl z8 dX3_counting_26 ?_
    refine lv_aload_n S.1 S.2.1 dX3_counting_27 rfl (lv_at hl 2 rfl) ?_
    refine gf (C := RX3) (T := TX3) (N := 10) (ci := 2) (k := 3) S hK hW wu_X3 rfl (by decide) wf_X3_21 0 rfl rfl dX3_counting_28 ?_
    refine lv_iload_n S.1 S.2.1 dX3_counting_31 rfl (lv_at hl 3 rfl) ?_
    obtain ⟨z9, h⟩ := of_g h
    refine ia S hK hW rfl 4 rfl z9 dX3_counting_32 ?_
    refine lv_aload_n S.1 S.2.1 dX3_counting_33 rfl (lv_at hl 2 rfl) ?_
    refine lv_iload_n S.1 S.2.1 dX3_counting_34 rfl (lv_at hl 0 rfl) ?_
    obtain ⟨r10, hy11, h⟩ := bd1_e h
    refine kv0 S hK hN hZ hA hW (rest := [.int ((c0 3) (ix p1)), .int ((c0 2) (ix p1))]) (t_X3_meritOfChair l dC dI cI cJ cZ cB zz h0 a0 c0 r6 _  hy11) wl_X3_56 wv_X3_meritOfChair rfl rfl ⟨Nat.le_of_ble_eq_true rfl, Nat.le_of_ble_eq_true rfl⟩ [] [] rfl 0 rfl rfl rfl rfl hl.1 rfl (Nat.le_of_ble_eq_true rfl) dX3_counting_35 [.int r10, .int ((c0 3) (ix p1)), .int ((c0 2) (ix p1))] rfl (fun H locs hW => ?_)
    refine lv_aload_n S.1 S.2.1 dX3_counting_38 rfl (lv_at hl 2 rfl) ?_
    obtain ⟨r12, hy13, h⟩ := bd1_e h
    refine kv0 S hK hN hZ hA hW (rest := [.int r10, .int ((c0 3) (ix p1)), .int ((c0 2) (ix p1))]) (t_X3_turn l dC dI cI cJ cZ cB zz h0 a0 c0 _  hy13) wl_X3_70 wv_X3_turn rfl rfl ⟨Nat.le_of_ble_eq_true rfl, Nat.le_of_ble_eq_true rfl⟩ [] [] rfl 0 rfl rfl rfl rfl hl.1 rfl (Nat.le_of_ble_eq_true rfl) dX3_counting_39 [.int r12, .int r10, .int ((c0 3) (ix p1)), .int ((c0 2) (ix p1))] rfl (fun H locs hW => ?_)
    obtain ⟨r14, hy15, h⟩ := bd1_e h
    refine ks0 S hK hN hZ hA hW (rest := []) (t_X5_moved l dC dI cI cJ cZ cB zz ((c0 2) (ix p1)) ((c0 3) (ix p1)) r10 r12 _  hy15) wl_X3_73 wv_X5_moved rfl rfl ⟨Nat.le_of_ble_eq_true rfl, Nat.le_of_ble_eq_true rfl⟩ [] (clX3 cI cJ cZ cB h0 a0 (c0 0) (c0 1) (c0 2) (c0 3) (c0 4) (c0 5 0) (c0 6 0) (c0 7 0) (c0 8 0) (c0 9 0) []) rfl rfl hl.1 rfl (Nat.le_of_ble_eq_true rfl) dX3_counting_42 [.int r14] rfl (fun H locs hW => ?_)
    refine lv_istore (lv' := [(4, .int r14), (3, .int r6), (2, .int r4), (0, .ref h0), (1, .int p1)]) S.1 S.2.1 dX3_counting_45 hl (by decide) rfl (fun ls hl => ?_)
    refine lv_aload_n S.1 S.2.1 dX3_counting_47 rfl (lv_at hl 3 rfl) ?_
    refine gf (C := RX3) (T := TX3) (N := 10) (ci := 2) (k := 0) S hK hW wu_X3 rfl (by decide) wf_X3_9 0 rfl rfl dX3_counting_48 ?_
    refine lv_iload_n S.1 S.2.1 dX3_counting_51 rfl (lv_at hl 2 rfl) ?_
    obtain ⟨z16, h⟩ := of_g h
    refine ia S hK hW rfl 1 rfl z16 dX3_counting_52 ?_
    refine lv_iload S.1 S.2.1 dX3_counting_53 (lv_at hl 0 rfl) ?_
    refine lv_iload_n S.1 S.2.1 dX3_counting_55 rfl (lv_at hl 1 rfl) ?_
    obtain ⟨r17, hy18, h⟩ := bd1_e h
    refine ks0 S hK hN hZ hA hW (rest := []) (t_X5_counted l dC dI cI cJ cZ cB zz ((c0 0) (ix r4)) r14 r6 _  hy18) wl_X3_79 wv_X5_counted rfl rfl ⟨Nat.le_of_ble_eq_true rfl, Nat.le_of_ble_eq_true rfl⟩ [] (clX3 cI cJ cZ cB h0 a0 (c0 0) (c0 1) (c0 2) (c0 3) (c0 4) (c0 5 0) (c0 6 0) (c0 7 0) (c0 8 0) (c0 9 0) []) rfl rfl hl.1 rfl (Nat.le_of_ble_eq_true rfl) dX3_counting_56 [.int r17] rfl (fun H locs hW => ?_)
    have f19 := Option.some.inj h
    subst f19
    exact ri S hr hlocks hW dX3_counting_59
  · have h := of_p u3 h
    refine lv_iconst (v := (0 : Int32)) S.1 S.2.1 dX3_counting_8 ki_0 ?_
    have f20 := Option.some.inj h
    subst f20
    exact ri S hr hlocks hW dX3_counting_9
abbrev rmX3_speak : Room := { frames := 3, cells := 0, slots := 0, locals := 68 }
set_option maxHeartbeats 4000000 in
set_option maxRecDepth 100000 in
theorem t_X3_speak (l : Launch) (dC : Nat → ClassId) (dI : Nat → Nat → Nat) (cI cJ cZ cB : ClassId) (zz : ZT)  (h0 : Nat) (a0 : Nat → Nat) (c0 : Nat → Nat → Int32) (p1 : Int32) (c0' : Nat → Nat → Int32) (hm : md_X3_speak c0 p1 = some (c0')) : ct l (dC, dI) zz (ty4 cI cJ cZ cB) yX3_speak cX3_speak 4 none rmX3_speak [.ref h0, .int p1] (cwX3 cI cJ cZ cB h0 a0 c0 []) (cwX3 cI cJ cZ cB h0 a0 c0' []) none := by
  refine ct_of (cc := cX3_speak) (maxL := 4) (ret := none) (by decide) (Nat.le_of_ble_eq_true rfl) ?_
  intro p e s m below meth c A S hr hlocks hK hN hZ hA H locs hW ls hl
  have S : CallFix p m c cX3_speak 4 s (List.toArray [.ref h0, .int p1]) G RX3 := S
  have hl : lv_has ls 4 [(0, .ref h0), (1, .int p1)] := hl
  have h := hm
  rw [md_X3_speak] at h
  have hW : wd (dC, dI) A s.heap (clX3 cI cJ cZ cB h0 a0 (c0 0) (c0 1) (c0 2) (c0 3) (c0 4) (c0 5 0) (c0 6 0) (c0 7 0) (c0 8 0) (c0 9 0) []) H locs := hW
  refine lv_aload_n S.1 S.2.1 dX3_speak_0 rfl (lv_at hl 0 rfl) ?_
  refine lv_iload_n S.1 S.2.1 dX3_speak_1 rfl (lv_at hl 1 rfl) ?_
  obtain ⟨r1, hy2, h⟩ := bd1_e h
  refine kv0 S hK hN hZ hA hW (rest := []) (t_X3_hasPoint l dC dI cI cJ cZ cB zz h0 a0 c0 p1 _  hy2) wl_X3_63 wv_X3_hasPoint rfl rfl ⟨Nat.le_of_ble_eq_true rfl, Nat.le_of_ble_eq_true rfl⟩ [] [] rfl 0 rfl rfl rfl rfl hl.1 rfl (Nat.le_of_ble_eq_true rfl) dX3_speak_2 [.int r1] rfl (fun H locs hW => ?_)
  refine lv_if_ne (tgt := 9) S.1 S.2.1 dX3_speak_5 (by decide) (fun u3 => ?_) (fun u3 => ?_)
  · have h := of_n u3 h
    refine lv_aload_n S.1 S.2.1 dX3_speak_9 rfl (lv_at hl 0 rfl) ?_
    refine lv_iload_n S.1 S.2.1 dX3_speak_10 rfl (lv_at hl 1 rfl) ?_
    obtain ⟨r4, hy5, h⟩ := bd1_e h
    refine kv0 S hK hN hZ hA hW (rest := []) (t_X3_counting l dC dI cI cJ cZ cB zz h0 a0 c0 p1 _  hy5) wl_X3_83 wv_X3_counting rfl rfl ⟨Nat.le_of_ble_eq_true rfl, Nat.le_of_ble_eq_true rfl⟩ [] [] rfl 0 rfl rfl rfl rfl hl.1 rfl (Nat.le_of_ble_eq_true rfl) dX3_speak_11 [.int r4] rfl (fun H locs hW => ?_)
    refine lv_istore_n (lv' := [(2, .int r4), (0, .ref h0), (1, .int p1)]) S.1 S.2.1 dX3_speak_14 rfl hl (by decide) rfl (fun ls hl => ?_)
    refine lv_aload_n S.1 S.2.1 dX3_speak_15 rfl (lv_at hl 1 rfl) ?_
    refine lv_aload_n S.1 S.2.1 dX3_speak_16 rfl (lv_at hl 1 rfl) ?_
    obtain ⟨r6, hy7, h⟩ := bd1_e h
    refine kv0 S hK hN hZ hA hW (rest := [.ref h0]) (t_X3_speaker l dC dI cI cJ cZ cB zz h0 a0 c0 _  hy7) wl_X3_67 wv_X3_speaker rfl rfl ⟨Nat.le_of_ble_eq_true rfl, Nat.le_of_ble_eq_true rfl⟩ [] [] rfl 0 rfl rfl rfl rfl hl.1 rfl (Nat.le_of_ble_eq_true rfl) dX3_speak_17 [.int r6, .ref h0] rfl (fun H locs hW => ?_)
    obtain ⟨r8, hy9, h⟩ := bd1_e h
    refine kv0 S hK hN hZ hA hW (rest := []) (t_X3_chairOf l dC dI cI cJ cZ cB zz h0 a0 c0 r6 _  hy9) wl_X3_53 wv_X3_chairOf rfl rfl ⟨Nat.le_of_ble_eq_true rfl, Nat.le_of_ble_eq_true rfl⟩ [] [] rfl 0 rfl rfl rfl rfl hl.1 rfl (Nat.le_of_ble_eq_true rfl) dX3_speak_20 [.int r8] rfl (fun H locs hW => ?_)
    obtain ⟨y10, e11, h⟩ := lt1_e h
    suffices hM12 : ∀ ls : Array Slot, lv_has ls 4 [(0, .ref h0), (1, .int p1)] → W p l e rmX3_speak s m (List.toArray [.ref h0, .int p1]) below meth c H locs 0 0 (MQ below (kQ (dC, dI) (cwX3 cI cJ cZ cB h0 a0 c0' []) none A) (List.toArray [.ref h0, .int p1]) s 0 0 A) (F0 m 41 ls [.int y10]) by
      refine lv_if_ne (tgt := 35) S.1 S.2.1 dX3_speak_23 (by decide) (fun u13 => ?_) (fun u13 => ?_)
      · refine lv_aload_n S.1 S.2.1 dX3_speak_35 rfl (lv_at hl 1 rfl) ?_
        refine gf (C := RX3) (T := TX3) (N := 10) (ci := 2) (k := 7) S hK hW wu_X3 rfl (by decide) wf_X3_37 0 rfl rfl dX3_speak_36 ?_
        refine lv_iload_n S.1 S.2.1 dX3_speak_39 rfl (lv_at hl 0 rfl) ?_
        refine lv_isub S.1 S.2.1 dX3_speak_40 ?_
        have e11 := e11.trans (if_neg u13)
        subst e11
        exact hM12 ls (lv_sub hl [1, 2] rfl)
      · refine lv_aload_n S.1 S.2.1 dX3_speak_26 rfl (lv_at hl 1 rfl) ?_
        refine gf (C := RX3) (T := TX3) (N := 10) (ci := 2) (k := 7) S hK hW wu_X3 rfl (by decide) wf_X3_37 0 rfl rfl dX3_speak_27 ?_
        refine lv_iload_n S.1 S.2.1 dX3_speak_30 rfl (lv_at hl 0 rfl) ?_
        refine lv_iadd S.1 S.2.1 dX3_speak_31 ?_
        refine lv_goto (tgt := 41) S.1 S.2.1 dX3_speak_32 (by decide) ?_
        have e11 := e11.trans (if_pos u13)
        subst e11
        exact hM12 ls (lv_sub hl [1, 2] rfl)
    intro ls hl
    refine lv_istore_n (lv' := [(3, .int y10), (0, .ref h0), (1, .int p1)]) S.1 S.2.1 dX3_speak_41 rfl hl (by decide) rfl (fun ls hl => ?_)
    refine lv_aload_n S.1 S.2.1 dX3_speak_42 rfl (lv_at hl 1 rfl) ?_
    refine lv_bipush (v := (-99 : Int32)) S.1 S.2.1 dX3_speak_43 kb_m99 ?_
    refine lv_bipush (v := (99 : Int32)) S.1 S.2.1 dX3_speak_45 kb_99 ?_
    refine lv_iload_n S.1 S.2.1 dX3_speak_47 rfl (lv_at hl 0 rfl) ?_
    refine va_mmin S.1 S.2.1 (S.2.2.1.trans hl.1.symm) S.2.2.2.1 (S.2.2.2.2 _ wl_X3_86) (S.2.2.2.2 _ ws_min) (S.2.2.2.2 _ wi_J9) (S.2.2.2.2 _ wo_min) (Nat.le_of_ble_eq_true rfl) (Nat.le_of_ble_eq_true rfl) (Nat.zero_le _) (Nat.zero_le _) dX3_speak_48 ?_
    obtain ⟨y14, e15, h⟩ := lt1_e h
    refine nmi e15 ?_
    refine va_mmax S.1 S.2.1 (S.2.2.1.trans hl.1.symm) S.2.2.2.1 (S.2.2.2.2 _ wl_X3_92) (S.2.2.2.2 _ ws_max) (S.2.2.2.2 _ wi_J9) (S.2.2.2.2 _ wo_max) (Nat.le_of_ble_eq_true rfl) (Nat.le_of_ble_eq_true rfl) (Nat.zero_le _) (Nat.zero_le _) dX3_speak_51 ?_
    obtain ⟨y16, e17, h⟩ := lt1_e h
    refine nmi e17 ?_
    refine pf (C := RX3) (T := TX3) (N := 10) (ci := 2) (k := 7) (ty := .int) S hK hW wu_X3 rfl (by decide) tyX3 tyX3_ok nmX3 wf_X3_37 0 rfl rfl rfl rfl rfl (Nat.le_of_ble_eq_true rfl) dX3_speak_54 (fun H locs hW => ?_)
    have hW : wd (dC, dI) A s.heap (clX3 cI cJ cZ cB h0 a0 (c0 0) (c0 1) (c0 2) (c0 3) (c0 4) (c0 5 0) (c0 6 0) y16 (c0 8 0) (c0 9 0) []) H locs := hW
    refine lv_aload_n S.1 S.2.1 dX3_speak_57 rfl (lv_at hl 1 rfl) ?_
    refine lv_dup S.1 S.2.1 dX3_speak_58 rfl ?_
    refine gf (C := RX3) (T := TX3) (N := 10) (ci := 2) (k := 6) S hK hW wu_X3 rfl (by decide) wf_X3_34 0 rfl rfl dX3_speak_59 ?_
    refine lv_iconst (v := (1 : Int32)) S.1 S.2.1 dX3_speak_62 ki_1 ?_
    refine lv_iload_n S.1 S.2.1 dX3_speak_63 rfl (lv_at hl 2 rfl) ?_
    refine lv_ishl S.1 S.2.1 dX3_speak_64 ?_
    refine lv_ior S.1 S.2.1 dX3_speak_65 ?_
    refine pf (C := RX3) (T := TX3) (N := 10) (ci := 2) (k := 6) (ty := .int) S hK hW wu_X3 rfl (by decide) tyX3 tyX3_ok nmX3 wf_X3_34 0 rfl rfl rfl rfl rfl (Nat.le_of_ble_eq_true rfl) dX3_speak_66 (fun H locs hW => ?_)
    have hW : wd (dC, dI) A s.heap (clX3 cI cJ cZ cB h0 a0 (c0 0) (c0 1) (c0 2) (c0 3) (c0 4) (c0 5 0) ((c0 6 0) ||| ((1 : Int32) <<< (p1 &&& 31))) y16 (c0 8 0) (c0 9 0) []) H locs := hW
    refine lv_aload_n S.1 S.2.1 dX3_speak_69 rfl (lv_at hl 1 rfl) ?_
    refine lv_iload_n S.1 S.2.1 dX3_speak_70 rfl (lv_at hl 2 rfl) ?_
    refine pf (C := RX3) (T := TX3) (N := 10) (ci := 2) (k := 9) (ty := .int) S hK hW wu_X3 rfl (by decide) tyX3 tyX3_ok nmX3 wf_X3_27 0 rfl rfl rfl rfl rfl (Nat.le_of_ble_eq_true rfl) dX3_speak_71 (fun H locs hW => ?_)
    have hW : wd (dC, dI) A s.heap (clX3 cI cJ cZ cB h0 a0 (c0 0) (c0 1) (c0 2) (c0 3) (c0 4) (c0 5 0) ((c0 6 0) ||| ((1 : Int32) <<< (p1 &&& 31))) y16 (c0 8 0) p1 []) H locs := hW
    have f18 := Option.some.inj h
    subst f18
    exact rv S hr hlocks hW dX3_speak_74
  · have h := of_p u3 h
    have f19 := Option.some.inj h
    subst f19
    exact rv S hr hlocks hW dX3_speak_8
abbrev rmX3_unsaid : Room := { frames := 0, cells := 0, slots := 0, locals := 0 }
set_option maxHeartbeats 4000000 in
set_option maxRecDepth 100000 in
theorem t_X3_unsaid (l : Launch) (dC : Nat → ClassId) (dI : Nat → Nat → Nat) (cI cJ cZ cB : ClassId) (zz : ZT)  (h0 : Nat) (a0 : Nat → Nat) (c0 : Nat → Nat → Int32) (r : Int32) (hm : md_X3_unsaid c0 = some (r)) : ct l (dC, dI) zz (ty4 cI cJ cZ cB) yX3_unsaid cX3_unsaid 1 (some .int) rmX3_unsaid [.ref h0] (cwX3 cI cJ cZ cB h0 a0 c0 []) (cwX3 cI cJ cZ cB h0 a0 c0 []) (some (.int r)) := by
  refine ct_of (cc := cX3_unsaid) (maxL := 1) (ret := (some .int)) (by decide) (Nat.le_of_ble_eq_true rfl) ?_
  intro p e s m below meth c A S hr hlocks hK hN hZ hA H locs hW ls hl
  have S : CallFix p m c cX3_unsaid 1 s (List.toArray [.ref h0]) G RX3 := S
  have hl : lv_has ls 1 [(0, .ref h0)] := hl
  have h := hm
  rw [md_X3_unsaid] at h
  have hW : wd (dC, dI) A s.heap (clX3 cI cJ cZ cB h0 a0 (c0 0) (c0 1) (c0 2) (c0 3) (c0 4) (c0 5 0) (c0 6 0) (c0 7 0) (c0 8 0) (c0 9 0) []) H locs := hW
  refine lv_iconst (v := (1 : Int32)) S.1 S.2.1 dX3_unsaid_0 ki_1 ?_
  refine lv_aload_n S.1 S.2.1 dX3_unsaid_1 rfl (lv_at hl 0 rfl) ?_
  refine gf (C := RX3) (T := TX3) (N := 10) (ci := 2) (k := 5) S hK hW wu_X3 rfl (by decide) wf_X3_31 0 rfl rfl dX3_unsaid_2 ?_
  refine lv_ishl S.1 S.2.1 dX3_unsaid_5 ?_
  refine lv_iconst (v := (1 : Int32)) S.1 S.2.1 dX3_unsaid_6 ki_1 ?_
  refine lv_isub S.1 S.2.1 dX3_unsaid_7 ?_
  refine lv_aload_n S.1 S.2.1 dX3_unsaid_8 rfl (lv_at hl 0 rfl) ?_
  refine gf (C := RX3) (T := TX3) (N := 10) (ci := 2) (k := 6) S hK hW wu_X3 rfl (by decide) wf_X3_34 0 rfl rfl dX3_unsaid_9 ?_
  refine lv_iconst (v := (-1 : Int32)) S.1 S.2.1 dX3_unsaid_12 ki_m1 ?_
  refine lv_ixor S.1 S.2.1 dX3_unsaid_13 ?_
  refine lv_iand S.1 S.2.1 dX3_unsaid_14 ?_
  have f1 := Option.some.inj h
  subst f1
  exact ri S hr hlocks hW dX3_unsaid_15
abbrev rmX3_worthForCounselZero : Room := { frames := 1, cells := 0, slots := 0, locals := 21 }
set_option maxHeartbeats 4000000 in
set_option maxRecDepth 100000 in
theorem t_X3_worthForCounselZero (l : Launch) (dC : Nat → ClassId) (dI : Nat → Nat → Nat) (cI cJ cZ cB : ClassId) (zz : ZT)  (h0 : Nat) (a0 : Nat → Nat) (c0 : Nat → Nat → Int32) (r : Int32) (hm : md_X3_worthForCounselZero c0 = some (r)) : ct l (dC, dI) zz (ty4 cI cJ cZ cB) yX3_worthForCounselZero cX3_worthForCounselZero 1 (some .int) rmX3_worthForCounselZero [.ref h0] (cwX3 cI cJ cZ cB h0 a0 c0 []) (cwX3 cI cJ cZ cB h0 a0 c0 []) (some (.int r)) := by
  refine ct_of (cc := cX3_worthForCounselZero) (maxL := 1) (ret := (some .int)) (by decide) (Nat.le_of_ble_eq_true rfl) ?_
  intro p e s m below meth c A S hr hlocks hK hN hZ hA H locs hW ls hl
  have S : CallFix p m c cX3_worthForCounselZero 1 s (List.toArray [.ref h0]) G RX3 := S
  have hl : lv_has ls 1 [(0, .ref h0)] := hl
  have h := hm
  rw [md_X3_worthForCounselZero] at h
  have hW : wd (dC, dI) A s.heap (clX3 cI cJ cZ cB h0 a0 (c0 0) (c0 1) (c0 2) (c0 3) (c0 4) (c0 5 0) (c0 6 0) (c0 7 0) (c0 8 0) (c0 9 0) []) H locs := hW
  refine lv_aload_n S.1 S.2.1 dX3_worthForCounselZero_0 rfl (lv_at hl 0 rfl) ?_
  refine lv_aload_n S.1 S.2.1 dX3_worthForCounselZero_1 rfl (lv_at hl 0 rfl) ?_
  refine lv_iconst (v := (0 : Int32)) S.1 S.2.1 dX3_worthForCounselZero_2 ki_0 ?_
  obtain ⟨r1, hy2, h⟩ := bd1_e h
  refine kv0 S hK hN hZ hA hW (rest := [.ref h0]) (t_X3_chairOf l dC dI cI cJ cZ cB zz h0 a0 c0 (0 : Int32) _  hy2) wl_X3_53 wv_X3_chairOf rfl rfl ⟨Nat.le_of_ble_eq_true rfl, Nat.le_of_ble_eq_true rfl⟩ [] [] rfl 0 rfl rfl rfl rfl hl.1 rfl (Nat.le_of_ble_eq_true rfl) dX3_worthForCounselZero_3 [.int r1, .ref h0] rfl (fun H locs hW => ?_)
  obtain ⟨r3, hy4, h⟩ := bd1_e h
  refine kv0 S hK hN hZ hA hW (rest := []) (t_X3_meritOfChair l dC dI cI cJ cZ cB zz h0 a0 c0 r1 _  hy4) wl_X3_56 wv_X3_meritOfChair rfl rfl ⟨Nat.le_of_ble_eq_true rfl, Nat.le_of_ble_eq_true rfl⟩ [] [] rfl 0 rfl rfl rfl rfl hl.1 rfl (Nat.le_of_ble_eq_true rfl) dX3_worthForCounselZero_6 [.int r3] rfl (fun H locs hW => ?_)
  have f5 := Option.some.inj h
  subst f5
  exact ri S hr hlocks hW dX3_worthForCounselZero_9
abbrev rmX3_begin : Room := { frames := 0, cells := 0, slots := 0, locals := 0 }
set_option maxHeartbeats 4000000 in
set_option maxRecDepth 100000 in
theorem t_X3_begin (l : Launch) (dC : Nat → ClassId) (dI : Nat → Nat → Nat) (cI cJ cZ cB : ClassId) (zz : ZT)  (h0 : Nat) (a0 : Nat → Nat) (c0 : Nat → Nat → Int32) (p1 : Int32) (p2 : Int32) (c0' : Nat → Nat → Int32) (hm : md_X3_begin c0 p1 p2 = some (c0')) : ct l (dC, dI) zz (ty4 cI cJ cZ cB) yX3_begin cX3_begin 3 none rmX3_begin [.ref h0, .int p1, .int p2] (cwX3 cI cJ cZ cB h0 a0 c0 []) (cwX3 cI cJ cZ cB h0 a0 c0' []) none := by
  refine ct_of (cc := cX3_begin) (maxL := 3) (ret := none) (by decide) (Nat.le_of_ble_eq_true rfl) ?_
  intro p e s m below meth c A S hr hlocks hK hN hZ hA H locs hW ls hl
  have S : CallFix p m c cX3_begin 3 s (List.toArray [.ref h0, .int p1, .int p2]) G RX3 := S
  have hl : lv_has ls 3 [(0, .ref h0), (1, .int p1), (2, .int p2)] := hl
  have h := hm
  rw [md_X3_begin] at h
  have hW : wd (dC, dI) A s.heap (clX3 cI cJ cZ cB h0 a0 (c0 0) (c0 1) (c0 2) (c0 3) (c0 4) (c0 5 0) (c0 6 0) (c0 7 0) (c0 8 0) (c0 9 0) []) H locs := hW
  refine lv_aload_n S.1 S.2.1 dX3_begin_0 rfl (lv_at hl 0 rfl) ?_
  refine gf (C := RX3) (T := TX3) (N := 10) (ci := 2) (k := 0) S hK hW wu_X3 rfl (by decide) wf_X3_9 0 rfl rfl dX3_begin_1 ?_
  refine lv_iconst (v := (0 : Int32)) S.1 S.2.1 dX3_begin_4 ki_0 ?_
  refine lv_iload_n S.1 S.2.1 dX3_begin_5 rfl (lv_at hl 1 rfl) ?_
  refine istK S hK hW rfl 1 rfl b_0_2 x_0 dX3_begin_6 (fun H locs hW => ?_)
  have hW : wd (dC, dI) A s.heap (clX3 cI cJ cZ cB h0 a0 (upd (c0 0) 0 p1) (c0 1) (c0 2) (c0 3) (c0 4) (c0 5 0) (c0 6 0) (c0 7 0) (c0 8 0) (c0 9 0) []) H locs := hW
  refine lv_aload_n S.1 S.2.1 dX3_begin_7 rfl (lv_at hl 0 rfl) ?_
  refine gf (C := RX3) (T := TX3) (N := 10) (ci := 2) (k := 0) S hK hW wu_X3 rfl (by decide) wf_X3_9 0 rfl rfl dX3_begin_8 ?_
  refine lv_iconst (v := (1 : Int32)) S.1 S.2.1 dX3_begin_11 ki_1 ?_
  refine lv_iload_n S.1 S.2.1 dX3_begin_12 rfl (lv_at hl 2 rfl) ?_
  refine istK S hK hW rfl 1 rfl b_1_2 x_1 dX3_begin_13 (fun H locs hW => ?_)
  have hW : wd (dC, dI) A s.heap (clX3 cI cJ cZ cB h0 a0 (upd (upd (c0 0) 0 p1) 1 p2) (c0 1) (c0 2) (c0 3) (c0 4) (c0 5 0) (c0 6 0) (c0 7 0) (c0 8 0) (c0 9 0) []) H locs := hW
  refine lv_aload_n S.1 S.2.1 dX3_begin_14 rfl (lv_at hl 0 rfl) ?_
  refine gf (C := RX3) (T := TX3) (N := 10) (ci := 2) (k := 1) S hK hW wu_X3 rfl (by decide) wf_X3_15 0 rfl rfl dX3_begin_15 ?_
  refine lv_iconst (v := (0 : Int32)) S.1 S.2.1 dX3_begin_18 ki_0 ?_
  refine lv_iconst (v := (1 : Int32)) S.1 S.2.1 dX3_begin_19 ki_1 ?_
  refine istK S hK hW rfl 2 rfl b_0_2 x_0 dX3_begin_20 (fun H locs hW => ?_)
  have hW : wd (dC, dI) A s.heap (clX3 cI cJ cZ cB h0 a0 (upd (upd (c0 0) 0 p1) 1 p2) (upd (c0 1) 0 (1 : Int32)) (c0 2) (c0 3) (c0 4) (c0 5 0) (c0 6 0) (c0 7 0) (c0 8 0) (c0 9 0) []) H locs := hW
  refine lv_aload_n S.1 S.2.1 dX3_begin_21 rfl (lv_at hl 0 rfl) ?_
  refine gf (C := RX3) (T := TX3) (N := 10) (ci := 2) (k := 1) S hK hW wu_X3 rfl (by decide) wf_X3_15 0 rfl rfl dX3_begin_22 ?_
  refine lv_iconst (v := (1 : Int32)) S.1 S.2.1 dX3_begin_25 ki_1 ?_
  refine lv_iconst (v := (1 : Int32)) S.1 S.2.1 dX3_begin_26 ki_1 ?_
  refine istK S hK hW rfl 2 rfl b_1_2 x_1 dX3_begin_27 (fun H locs hW => ?_)
  have hW : wd (dC, dI) A s.heap (clX3 cI cJ cZ cB h0 a0 (upd (upd (c0 0) 0 p1) 1 p2) (upd (upd (c0 1) 0 (1 : Int32)) 1 (1 : Int32)) (c0 2) (c0 3) (c0 4) (c0 5 0) (c0 6 0) (c0 7 0) (c0 8 0) (c0 9 0) []) H locs := hW
  refine lv_aload_n S.1 S.2.1 dX3_begin_28 rfl (lv_at hl 0 rfl) ?_
  refine lv_iconst (v := (0 : Int32)) S.1 S.2.1 dX3_begin_29 ki_0 ?_
  refine pf (C := RX3) (T := TX3) (N := 10) (ci := 2) (k := 5) (ty := .int) S hK hW wu_X3 rfl (by decide) tyX3 tyX3_ok nmX3 wf_X3_31 0 rfl rfl rfl rfl rfl (Nat.le_of_ble_eq_true rfl) dX3_begin_30 (fun H locs hW => ?_)
  have hW : wd (dC, dI) A s.heap (clX3 cI cJ cZ cB h0 a0 (upd (upd (c0 0) 0 p1) 1 p2) (upd (upd (c0 1) 0 (1 : Int32)) 1 (1 : Int32)) (c0 2) (c0 3) (c0 4) (0 : Int32) (c0 6 0) (c0 7 0) (c0 8 0) (c0 9 0) []) H locs := hW
  refine lv_aload_n S.1 S.2.1 dX3_begin_33 rfl (lv_at hl 0 rfl) ?_
  refine lv_iconst (v := (0 : Int32)) S.1 S.2.1 dX3_begin_34 ki_0 ?_
  refine pf (C := RX3) (T := TX3) (N := 10) (ci := 2) (k := 6) (ty := .int) S hK hW wu_X3 rfl (by decide) tyX3 tyX3_ok nmX3 wf_X3_34 0 rfl rfl rfl rfl rfl (Nat.le_of_ble_eq_true rfl) dX3_begin_35 (fun H locs hW => ?_)
  have hW : wd (dC, dI) A s.heap (clX3 cI cJ cZ cB h0 a0 (upd (upd (c0 0) 0 p1) 1 p2) (upd (upd (c0 1) 0 (1 : Int32)) 1 (1 : Int32)) (c0 2) (c0 3) (c0 4) (0 : Int32) (0 : Int32) (c0 7 0) (c0 8 0) (c0 9 0) []) H locs := hW
  refine lv_aload_n S.1 S.2.1 dX3_begin_38 rfl (lv_at hl 0 rfl) ?_
  refine lv_iconst (v := (0 : Int32)) S.1 S.2.1 dX3_begin_39 ki_0 ?_
  refine pf (C := RX3) (T := TX3) (N := 10) (ci := 2) (k := 7) (ty := .int) S hK hW wu_X3 rfl (by decide) tyX3 tyX3_ok nmX3 wf_X3_37 0 rfl rfl rfl rfl rfl (Nat.le_of_ble_eq_true rfl) dX3_begin_40 (fun H locs hW => ?_)
  have hW : wd (dC, dI) A s.heap (clX3 cI cJ cZ cB h0 a0 (upd (upd (c0 0) 0 p1) 1 p2) (upd (upd (c0 1) 0 (1 : Int32)) 1 (1 : Int32)) (c0 2) (c0 3) (c0 4) (0 : Int32) (0 : Int32) (0 : Int32) (c0 8 0) (c0 9 0) []) H locs := hW
  refine lv_aload_n S.1 S.2.1 dX3_begin_43 rfl (lv_at hl 0 rfl) ?_
  refine lv_iconst (v := (0 : Int32)) S.1 S.2.1 dX3_begin_44 ki_0 ?_
  refine pf (C := RX3) (T := TX3) (N := 10) (ci := 2) (k := 8) (ty := .int) S hK hW wu_X3 rfl (by decide) tyX3 tyX3_ok nmX3 wf_X3_40 0 rfl rfl rfl rfl rfl (Nat.le_of_ble_eq_true rfl) dX3_begin_45 (fun H locs hW => ?_)
  have hW : wd (dC, dI) A s.heap (clX3 cI cJ cZ cB h0 a0 (upd (upd (c0 0) 0 p1) 1 p2) (upd (upd (c0 1) 0 (1 : Int32)) 1 (1 : Int32)) (c0 2) (c0 3) (c0 4) (0 : Int32) (0 : Int32) (0 : Int32) (0 : Int32) (c0 9 0) []) H locs := hW
  refine lv_aload_n S.1 S.2.1 dX3_begin_48 rfl (lv_at hl 0 rfl) ?_
  refine lv_iconst (v := (-1 : Int32)) S.1 S.2.1 dX3_begin_49 ki_m1 ?_
  refine pf (C := RX3) (T := TX3) (N := 10) (ci := 2) (k := 9) (ty := .int) S hK hW wu_X3 rfl (by decide) tyX3 tyX3_ok nmX3 wf_X3_27 0 rfl rfl rfl rfl rfl (Nat.le_of_ble_eq_true rfl) dX3_begin_50 (fun H locs hW => ?_)
  have hW : wd (dC, dI) A s.heap (clX3 cI cJ cZ cB h0 a0 (upd (upd (c0 0) 0 p1) 1 p2) (upd (upd (c0 1) 0 (1 : Int32)) 1 (1 : Int32)) (c0 2) (c0 3) (c0 4) (0 : Int32) (0 : Int32) (0 : Int32) (0 : Int32) (-1 : Int32) []) H locs := hW
  have f1 := Option.some.inj h
  subst f1
  exact rv S hr hlocks hW dX3_begin_53
abbrev rmX3_copy : Room := { frames := 0, cells := 0, slots := 0, locals := 0 }
set_option maxHeartbeats 4000000 in
set_option maxRecDepth 100000 in
theorem t_X3_copy (l : Launch) (dC : Nat → ClassId) (dI : Nat → Nat → Nat) (cI cJ cZ cB : ClassId) (zz : ZT)  (h0 : Nat) (a0 : Nat → Nat) (h1 : Nat) (a1 : Nat → Nat) (F : Nat) (c0 : Nat → Nat → Int32) (c1 : Nat → Nat → Int32) (c1' : Nat → Nat → Int32) (hm : md_X3_copy F c0 c1 = some (c1')) : ct l (dC, dI) zz (ty4 cI cJ cZ cB) yX3_copy cX3_copy 3 none rmX3_copy [.ref h1, .ref h0] (cwX3 cI cJ cZ cB h0 a0 c0 (cwX3 cI cJ cZ cB h1 a1 c1 [])) (cwX3 cI cJ cZ cB h0 a0 c0 (cwX3 cI cJ cZ cB h1 a1 c1' [])) none := by
  refine ct_of (cc := cX3_copy) (maxL := 3) (ret := none) (by decide) (Nat.le_of_ble_eq_true rfl) ?_
  intro p e s m below meth c A S hr hlocks hK hN hZ hA H locs hW ls hl
  have S : CallFix p m c cX3_copy 3 s (List.toArray [.ref h1, .ref h0]) G RX3 := S
  have hl : lv_has ls 3 [(0, .ref h1), (1, .ref h0)] := hl
  have h := hm
  rw [md_X3_copy] at h
  have hW : wd (dC, dI) A s.heap (clX3 cI cJ cZ cB h0 a0 (c0 0) (c0 1) (c0 2) (c0 3) (c0 4) (c0 5 0) (c0 6 0) (c0 7 0) (c0 8 0) (c0 9 0) (clX3 cI cJ cZ cB h1 a1 (c1 0) (c1 1) (c1 2) (c1 3) (c1 4) (c1 5 0) (c1 6 0) (c1 7 0) (c1 8 0) (c1 9 0) [])) H locs := hW
  have hL39 : ∀ (n39 : Nat) (c1 : Nat → Nat → Int32) (x2 : Int32), ld_X3_copy_39 F c0 n39 c1 x2 = some (c1') → ∀ (H : Heap) (locs : List Loc), wd (dC, dI) A s.heap (clX3 cI cJ cZ cB h0 a0 (c0 0) (c0 1) (c0 2) (c0 3) (c0 4) (c0 5 0) (c0 6 0) (c0 7 0) (c0 8 0) (c0 9 0) (clX3 cI cJ cZ cB h1 a1 (c1 0) (c1 1) (c1 2) (c1 3) (c1 4) (c1 5 0) (c1 6 0) (c1 7 0) (c1 8 0) (c1 9 0) [])) H locs → ∀ ls : Array Slot, lv_has ls 3 [(0, .ref h1), (1, .ref h0), (2, .int x2)] → W p l e rmX3_copy s m (List.toArray [.ref h1, .ref h0]) below meth c H locs 0 0 (MQ below (kQ (dC, dI) (cwX3 cI cJ cZ cB h0 a0 c0 (cwX3 cI cJ cZ cB h1 a1 c1' [])) none A) (List.toArray [.ref h1, .ref h0]) s 0 0 A) (F0 m 39 ls []) := by
    intro n39
    induction n39 with
    | zero => intro c1 x2 h; rw [ld_X3_copy_39] at h; cases h
    | succ n39 ih39 =>
      intro c1 x2 h H locs hW ls hl
      rw [ld_X3_copy_39] at h
      refine lv_iload_n S.1 S.2.1 dX3_copy_39 rfl (lv_at hl 2 rfl) ?_
      refine lv_bipush (v := (6 : Int32)) S.1 S.2.1 dX3_copy_40 kb_6 ?_
      refine lv_icmp_ge (tgt := 87) S.1 S.2.1 dX3_copy_42 (by decide) (fun u1 => ?_) (fun u1 => ?_)
      · have h := of_p u1 h
        refine lv_aload_n S.1 S.2.1 dX3_copy_87 rfl (lv_at hl 0 rfl) ?_
        refine lv_aload_n S.1 S.2.1 dX3_copy_88 rfl (lv_at hl 1 rfl) ?_
        refine gf (C := RX3) (T := TX3) (N := 10) (ci := 2) (k := 5) S hK hW wu_X3 rfl (by decide) wf_X3_31 0 rfl rfl dX3_copy_89 ?_
        refine pf (C := RX3) (T := TX3) (N := 10) (ci := 2) (k := 5) (ty := .int) S hK hW wu_X3 rfl (by decide) tyX3 tyX3_ok nmX3 wf_X3_31 6 rfl rfl rfl rfl rfl (Nat.le_of_ble_eq_true rfl) dX3_copy_92 (fun H locs hW => ?_)
        have hW : wd (dC, dI) A s.heap (clX3 cI cJ cZ cB h0 a0 (c0 0) (c0 1) (c0 2) (c0 3) (c0 4) (c0 5 0) (c0 6 0) (c0 7 0) (c0 8 0) (c0 9 0) (clX3 cI cJ cZ cB h1 a1 (c1 0) (c1 1) (c1 2) (c1 3) (c1 4) (c0 5 0) (c1 6 0) (c1 7 0) (c1 8 0) (c1 9 0) [])) H locs := hW
        refine lv_aload_n S.1 S.2.1 dX3_copy_95 rfl (lv_at hl 0 rfl) ?_
        refine lv_aload_n S.1 S.2.1 dX3_copy_96 rfl (lv_at hl 1 rfl) ?_
        refine gf (C := RX3) (T := TX3) (N := 10) (ci := 2) (k := 6) S hK hW wu_X3 rfl (by decide) wf_X3_34 0 rfl rfl dX3_copy_97 ?_
        refine pf (C := RX3) (T := TX3) (N := 10) (ci := 2) (k := 6) (ty := .int) S hK hW wu_X3 rfl (by decide) tyX3 tyX3_ok nmX3 wf_X3_34 6 rfl rfl rfl rfl rfl (Nat.le_of_ble_eq_true rfl) dX3_copy_100 (fun H locs hW => ?_)
        have hW : wd (dC, dI) A s.heap (clX3 cI cJ cZ cB h0 a0 (c0 0) (c0 1) (c0 2) (c0 3) (c0 4) (c0 5 0) (c0 6 0) (c0 7 0) (c0 8 0) (c0 9 0) (clX3 cI cJ cZ cB h1 a1 (c1 0) (c1 1) (c1 2) (c1 3) (c1 4) (c0 5 0) (c0 6 0) (c1 7 0) (c1 8 0) (c1 9 0) [])) H locs := hW
        refine lv_aload_n S.1 S.2.1 dX3_copy_103 rfl (lv_at hl 0 rfl) ?_
        refine lv_aload_n S.1 S.2.1 dX3_copy_104 rfl (lv_at hl 1 rfl) ?_
        refine gf (C := RX3) (T := TX3) (N := 10) (ci := 2) (k := 7) S hK hW wu_X3 rfl (by decide) wf_X3_37 0 rfl rfl dX3_copy_105 ?_
        refine pf (C := RX3) (T := TX3) (N := 10) (ci := 2) (k := 7) (ty := .int) S hK hW wu_X3 rfl (by decide) tyX3 tyX3_ok nmX3 wf_X3_37 6 rfl rfl rfl rfl rfl (Nat.le_of_ble_eq_true rfl) dX3_copy_108 (fun H locs hW => ?_)
        have hW : wd (dC, dI) A s.heap (clX3 cI cJ cZ cB h0 a0 (c0 0) (c0 1) (c0 2) (c0 3) (c0 4) (c0 5 0) (c0 6 0) (c0 7 0) (c0 8 0) (c0 9 0) (clX3 cI cJ cZ cB h1 a1 (c1 0) (c1 1) (c1 2) (c1 3) (c1 4) (c0 5 0) (c0 6 0) (c0 7 0) (c1 8 0) (c1 9 0) [])) H locs := hW
        refine lv_aload_n S.1 S.2.1 dX3_copy_111 rfl (lv_at hl 0 rfl) ?_
        refine lv_aload_n S.1 S.2.1 dX3_copy_112 rfl (lv_at hl 1 rfl) ?_
        refine gf (C := RX3) (T := TX3) (N := 10) (ci := 2) (k := 8) S hK hW wu_X3 rfl (by decide) wf_X3_40 0 rfl rfl dX3_copy_113 ?_
        refine pf (C := RX3) (T := TX3) (N := 10) (ci := 2) (k := 8) (ty := .int) S hK hW wu_X3 rfl (by decide) tyX3 tyX3_ok nmX3 wf_X3_40 6 rfl rfl rfl rfl rfl (Nat.le_of_ble_eq_true rfl) dX3_copy_116 (fun H locs hW => ?_)
        have hW : wd (dC, dI) A s.heap (clX3 cI cJ cZ cB h0 a0 (c0 0) (c0 1) (c0 2) (c0 3) (c0 4) (c0 5 0) (c0 6 0) (c0 7 0) (c0 8 0) (c0 9 0) (clX3 cI cJ cZ cB h1 a1 (c1 0) (c1 1) (c1 2) (c1 3) (c1 4) (c0 5 0) (c0 6 0) (c0 7 0) (c0 8 0) (c1 9 0) [])) H locs := hW
        refine lv_aload_n S.1 S.2.1 dX3_copy_119 rfl (lv_at hl 0 rfl) ?_
        refine lv_aload_n S.1 S.2.1 dX3_copy_120 rfl (lv_at hl 1 rfl) ?_
        refine gf (C := RX3) (T := TX3) (N := 10) (ci := 2) (k := 9) S hK hW wu_X3 rfl (by decide) wf_X3_27 0 rfl rfl dX3_copy_121 ?_
        refine pf (C := RX3) (T := TX3) (N := 10) (ci := 2) (k := 9) (ty := .int) S hK hW wu_X3 rfl (by decide) tyX3 tyX3_ok nmX3 wf_X3_27 6 rfl rfl rfl rfl rfl (Nat.le_of_ble_eq_true rfl) dX3_copy_124 (fun H locs hW => ?_)
        have hW : wd (dC, dI) A s.heap (clX3 cI cJ cZ cB h0 a0 (c0 0) (c0 1) (c0 2) (c0 3) (c0 4) (c0 5 0) (c0 6 0) (c0 7 0) (c0 8 0) (c0 9 0) (clX3 cI cJ cZ cB h1 a1 (c1 0) (c1 1) (c1 2) (c1 3) (c1 4) (c0 5 0) (c0 6 0) (c0 7 0) (c0 8 0) (c0 9 0) [])) H locs := hW
        have f2 := Option.some.inj h
        subst f2
        exact rv S hr hlocks hW dX3_copy_127
      · have h := of_n u1 h
        refine lv_aload_n S.1 S.2.1 dX3_copy_45 rfl (lv_at hl 0 rfl) ?_
        refine gf (C := RX3) (T := TX3) (N := 10) (ci := 2) (k := 2) S hK hW wu_X3 rfl (by decide) wf_X3_18 6 rfl rfl dX3_copy_46 ?_
        refine lv_iload_n S.1 S.2.1 dX3_copy_49 rfl (lv_at hl 2 rfl) ?_
        refine lv_aload_n S.1 S.2.1 dX3_copy_50 rfl (lv_at hl 1 rfl) ?_
        refine gf (C := RX3) (T := TX3) (N := 10) (ci := 2) (k := 2) S hK hW wu_X3 rfl (by decide) wf_X3_18 0 rfl rfl dX3_copy_51 ?_
        refine lv_iload_n S.1 S.2.1 dX3_copy_54 rfl (lv_at hl 2 rfl) ?_
        obtain ⟨z3, h⟩ := of_g h
        refine ia S hK hW rfl 3 rfl z3 dX3_copy_55 ?_
        obtain ⟨z4, h⟩ := of_g h
        refine ist S hK hW rfl 9 rfl z4 dX3_copy_56 (fun H locs hW => ?_)
        have hW : wd (dC, dI) A s.heap (clX3 cI cJ cZ cB h0 a0 (c0 0) (c0 1) (c0 2) (c0 3) (c0 4) (c0 5 0) (c0 6 0) (c0 7 0) (c0 8 0) (c0 9 0) (clX3 cI cJ cZ cB h1 a1 (c1 0) (c1 1) (upd (c1 2) (ix x2) ((c0 2) (ix x2))) (c1 3) (c1 4) (c1 5 0) (c1 6 0) (c1 7 0) (c1 8 0) (c1 9 0) [])) H locs := hW
        refine lv_aload_n S.1 S.2.1 dX3_copy_57 rfl (lv_at hl 0 rfl) ?_
        refine gf (C := RX3) (T := TX3) (N := 10) (ci := 2) (k := 3) S hK hW wu_X3 rfl (by decide) wf_X3_21 6 rfl rfl dX3_copy_58 ?_
        refine lv_iload_n S.1 S.2.1 dX3_copy_61 rfl (lv_at hl 2 rfl) ?_
        refine lv_aload_n S.1 S.2.1 dX3_copy_62 rfl (lv_at hl 1 rfl) ?_
        refine gf (C := RX3) (T := TX3) (N := 10) (ci := 2) (k := 3) S hK hW wu_X3 rfl (by decide) wf_X3_21 0 rfl rfl dX3_copy_63 ?_
        refine lv_iload_n S.1 S.2.1 dX3_copy_66 rfl (lv_at hl 2 rfl) ?_
        obtain ⟨z5, h⟩ := of_g h
        refine ia S hK hW rfl 4 rfl z5 dX3_copy_67 ?_
        obtain ⟨z6, h⟩ := of_g h
        refine ist S hK hW rfl 10 rfl z6 dX3_copy_68 (fun H locs hW => ?_)
        have hW : wd (dC, dI) A s.heap (clX3 cI cJ cZ cB h0 a0 (c0 0) (c0 1) (c0 2) (c0 3) (c0 4) (c0 5 0) (c0 6 0) (c0 7 0) (c0 8 0) (c0 9 0) (clX3 cI cJ cZ cB h1 a1 (c1 0) (c1 1) (upd (c1 2) (ix x2) ((c0 2) (ix x2))) (upd (c1 3) (ix x2) ((c0 3) (ix x2))) (c1 4) (c1 5 0) (c1 6 0) (c1 7 0) (c1 8 0) (c1 9 0) [])) H locs := hW
        refine lv_aload_n S.1 S.2.1 dX3_copy_69 rfl (lv_at hl 0 rfl) ?_
        refine gf (C := RX3) (T := TX3) (N := 10) (ci := 2) (k := 4) S hK hW wu_X3 rfl (by decide) wf_X3_24 6 rfl rfl dX3_copy_70 ?_
        refine lv_iload_n S.1 S.2.1 dX3_copy_73 rfl (lv_at hl 2 rfl) ?_
        refine lv_aload_n S.1 S.2.1 dX3_copy_74 rfl (lv_at hl 1 rfl) ?_
        refine gf (C := RX3) (T := TX3) (N := 10) (ci := 2) (k := 4) S hK hW wu_X3 rfl (by decide) wf_X3_24 0 rfl rfl dX3_copy_75 ?_
        refine lv_iload_n S.1 S.2.1 dX3_copy_78 rfl (lv_at hl 2 rfl) ?_
        obtain ⟨z7, h⟩ := of_g h
        refine ia S hK hW rfl 5 rfl z7 dX3_copy_79 ?_
        obtain ⟨z8, h⟩ := of_g h
        refine ist S hK hW rfl 11 rfl z8 dX3_copy_80 (fun H locs hW => ?_)
        have hW : wd (dC, dI) A s.heap (clX3 cI cJ cZ cB h0 a0 (c0 0) (c0 1) (c0 2) (c0 3) (c0 4) (c0 5 0) (c0 6 0) (c0 7 0) (c0 8 0) (c0 9 0) (clX3 cI cJ cZ cB h1 a1 (c1 0) (c1 1) (upd (c1 2) (ix x2) ((c0 2) (ix x2))) (upd (c1 3) (ix x2) ((c0 3) (ix x2))) (upd (c1 4) (ix x2) ((c0 4) (ix x2))) (c1 5 0) (c1 6 0) (c1 7 0) (c1 8 0) (c1 9 0) [])) H locs := hW
        refine lv_iinc (v := (x2 + (1 : Int32))) (lv' := [(2, .int (x2 + (1 : Int32))), (0, .ref h1), (1, .ref h0)]) S.1 S.2.1 dX3_copy_81 hl (k := 2) rfl (congrArg (fun z => x2 + z) ki_1) (by decide) rfl (fun ls hl => ?_)
        refine lv_goto (tgt := 39) S.1 S.2.1 dX3_copy_84 (by decide) ?_
        exact ih39 _ _ h H locs hW ls (lv_sub hl [1, 2, 0] rfl)
  have hL2 : ∀ (n2 : Nat) (c1 : Nat → Nat → Int32) (x2 : Int32), ld_X3_copy_2 F c0 n2 c1 x2 = some (c1') → ∀ (H : Heap) (locs : List Loc), wd (dC, dI) A s.heap (clX3 cI cJ cZ cB h0 a0 (c0 0) (c0 1) (c0 2) (c0 3) (c0 4) (c0 5 0) (c0 6 0) (c0 7 0) (c0 8 0) (c0 9 0) (clX3 cI cJ cZ cB h1 a1 (c1 0) (c1 1) (c1 2) (c1 3) (c1 4) (c1 5 0) (c1 6 0) (c1 7 0) (c1 8 0) (c1 9 0) [])) H locs → ∀ ls : Array Slot, lv_has ls 3 [(0, .ref h1), (1, .ref h0), (2, .int x2)] → W p l e rmX3_copy s m (List.toArray [.ref h1, .ref h0]) below meth c H locs 0 0 (MQ below (kQ (dC, dI) (cwX3 cI cJ cZ cB h0 a0 c0 (cwX3 cI cJ cZ cB h1 a1 c1' [])) none A) (List.toArray [.ref h1, .ref h0]) s 0 0 A) (F0 m 2 ls []) := by
    intro n2
    induction n2 with
    | zero => intro c1 x2 h; rw [ld_X3_copy_2] at h; cases h
    | succ n2 ih2 =>
      intro c1 x2 h H locs hW ls hl
      rw [ld_X3_copy_2] at h
      refine lv_iload_n S.1 S.2.1 dX3_copy_2 rfl (lv_at hl 2 rfl) ?_
      refine lv_iconst (v := (2 : Int32)) S.1 S.2.1 dX3_copy_3 ki_2 ?_
      refine lv_icmp_ge (tgt := 37) S.1 S.2.1 dX3_copy_4 (by decide) (fun u9 => ?_) (fun u9 => ?_)
      · have h := of_p u9 h
        refine lv_iconst (v := (0 : Int32)) S.1 S.2.1 dX3_copy_37 ki_0 ?_
        refine lv_istore_n (lv' := [(2, .int (0 : Int32)), (0, .ref h1), (1, .ref h0)]) S.1 S.2.1 dX3_copy_38 rfl hl (by decide) rfl (fun ls hl => ?_)
        exact hL39 F _ _ h H locs hW ls (lv_sub hl [1, 2, 0] rfl)
      · have h := of_n u9 h
        refine lv_aload_n S.1 S.2.1 dX3_copy_7 rfl (lv_at hl 0 rfl) ?_
        refine gf (C := RX3) (T := TX3) (N := 10) (ci := 2) (k := 0) S hK hW wu_X3 rfl (by decide) wf_X3_9 6 rfl rfl dX3_copy_8 ?_
        refine lv_iload_n S.1 S.2.1 dX3_copy_11 rfl (lv_at hl 2 rfl) ?_
        refine lv_aload_n S.1 S.2.1 dX3_copy_12 rfl (lv_at hl 1 rfl) ?_
        refine gf (C := RX3) (T := TX3) (N := 10) (ci := 2) (k := 0) S hK hW wu_X3 rfl (by decide) wf_X3_9 0 rfl rfl dX3_copy_13 ?_
        refine lv_iload_n S.1 S.2.1 dX3_copy_16 rfl (lv_at hl 2 rfl) ?_
        obtain ⟨z10, h⟩ := of_g h
        refine ia S hK hW rfl 1 rfl z10 dX3_copy_17 ?_
        obtain ⟨z11, h⟩ := of_g h
        refine ist S hK hW rfl 7 rfl z11 dX3_copy_18 (fun H locs hW => ?_)
        have hW : wd (dC, dI) A s.heap (clX3 cI cJ cZ cB h0 a0 (c0 0) (c0 1) (c0 2) (c0 3) (c0 4) (c0 5 0) (c0 6 0) (c0 7 0) (c0 8 0) (c0 9 0) (clX3 cI cJ cZ cB h1 a1 (upd (c1 0) (ix x2) ((c0 0) (ix x2))) (c1 1) (c1 2) (c1 3) (c1 4) (c1 5 0) (c1 6 0) (c1 7 0) (c1 8 0) (c1 9 0) [])) H locs := hW
        refine lv_aload_n S.1 S.2.1 dX3_copy_19 rfl (lv_at hl 0 rfl) ?_
        refine gf (C := RX3) (T := TX3) (N := 10) (ci := 2) (k := 1) S hK hW wu_X3 rfl (by decide) wf_X3_15 6 rfl rfl dX3_copy_20 ?_
        refine lv_iload_n S.1 S.2.1 dX3_copy_23 rfl (lv_at hl 2 rfl) ?_
        refine lv_aload_n S.1 S.2.1 dX3_copy_24 rfl (lv_at hl 1 rfl) ?_
        refine gf (C := RX3) (T := TX3) (N := 10) (ci := 2) (k := 1) S hK hW wu_X3 rfl (by decide) wf_X3_15 0 rfl rfl dX3_copy_25 ?_
        refine lv_iload_n S.1 S.2.1 dX3_copy_28 rfl (lv_at hl 2 rfl) ?_
        obtain ⟨z12, h⟩ := of_g h
        refine ia S hK hW rfl 2 rfl z12 dX3_copy_29 ?_
        obtain ⟨z13, h⟩ := of_g h
        refine ist S hK hW rfl 8 rfl z13 dX3_copy_30 (fun H locs hW => ?_)
        have hW : wd (dC, dI) A s.heap (clX3 cI cJ cZ cB h0 a0 (c0 0) (c0 1) (c0 2) (c0 3) (c0 4) (c0 5 0) (c0 6 0) (c0 7 0) (c0 8 0) (c0 9 0) (clX3 cI cJ cZ cB h1 a1 (upd (c1 0) (ix x2) ((c0 0) (ix x2))) (upd (c1 1) (ix x2) ((c0 1) (ix x2))) (c1 2) (c1 3) (c1 4) (c1 5 0) (c1 6 0) (c1 7 0) (c1 8 0) (c1 9 0) [])) H locs := hW
        refine lv_iinc (v := (x2 + (1 : Int32))) (lv' := [(2, .int (x2 + (1 : Int32))), (0, .ref h1), (1, .ref h0)]) S.1 S.2.1 dX3_copy_31 hl (k := 2) rfl (congrArg (fun z => x2 + z) ki_1) (by decide) rfl (fun ls hl => ?_)
        refine lv_goto (tgt := 2) S.1 S.2.1 dX3_copy_34 (by decide) ?_
        exact ih2 _ _ h H locs hW ls (lv_sub hl [1, 2, 0] rfl)
  refine lv_iconst (v := (0 : Int32)) S.1 S.2.1 dX3_copy_0 ki_0 ?_
  refine lv_istore_n (lv' := [(2, .int (0 : Int32)), (0, .ref h1), (1, .ref h0)]) S.1 S.2.1 dX3_copy_1 rfl hl (by decide) rfl (fun ls hl => ?_)
  exact hL2 F _ _ h H locs hW ls (lv_sub hl [1, 2, 0] rfl)
abbrev rmX3_add : Room := { frames := 1, cells := 0, slots := 0, locals := 22 }
set_option maxHeartbeats 4000000 in
set_option maxRecDepth 100000 in
theorem t_X3_add (l : Launch) (dC : Nat → ClassId) (dI : Nat → Nat → Nat) (cI cJ cZ cB : ClassId) (zz : ZT)  (h0 : Nat) (a0 : Nat → Nat) (c0 : Nat → Nat → Int32) (p1 : Int32) (p2 : Int32) (p3 : Int32) (c0' : Nat → Nat → Int32) (hm : md_X3_add c0 p1 p2 p3 = some (c0')) : ct l (dC, dI) zz (ty4 cI cJ cZ cB) yX3_add cX3_add 4 none rmX3_add [.ref h0, .int p1, .int p2, .int p3] (cwX3 cI cJ cZ cB h0 a0 c0 []) (cwX3 cI cJ cZ cB h0 a0 c0' []) none := by
  refine ct_of (cc := cX3_add) (maxL := 4) (ret := none) (by decide) (Nat.le_of_ble_eq_true rfl) ?_
  intro p e s m below meth c A S hr hlocks hK hN hZ hA H locs hW ls hl
  have S : CallFix p m c cX3_add 4 s (List.toArray [.ref h0, .int p1, .int p2, .int p3]) G RX3 := S
  have hl : lv_has ls 4 [(0, .ref h0), (1, .int p1), (2, .int p2), (3, .int p3)] := hl
  have h := hm
  rw [md_X3_add] at h
  have hW : wd (dC, dI) A s.heap (clX3 cI cJ cZ cB h0 a0 (c0 0) (c0 1) (c0 2) (c0 3) (c0 4) (c0 5 0) (c0 6 0) (c0 7 0) (c0 8 0) (c0 9 0) []) H locs := hW
  refine lv_iconst (v := (0 : Int32)) S.1 S.2.1 dX3_add_0 ki_0 ?_
  refine lv_aload_n S.1 S.2.1 dX3_add_1 rfl (lv_at hl 0 rfl) ?_
  refine gf (C := RX3) (T := TX3) (N := 10) (ci := 2) (k := 5) S hK hW wu_X3 rfl (by decide) wf_X3_31 0 rfl rfl dX3_add_2 ?_
  refine lv_iconst (v := (5 : Int32)) S.1 S.2.1 dX3_add_5 ki_5 ?_
  obtain ⟨r1, hy2, h⟩ := bd1_e h
  refine kn0 S hK hN hZ hA hW (rest := []) (t_X8_within l dC dI cI cJ cZ cB zz (0 : Int32) (c0 5 0) (5 : Int32) _  hy2) wx_X3_43 wv_X8_within rfl rfl ⟨Nat.le_of_ble_eq_true rfl, Nat.le_of_ble_eq_true rfl⟩ [] (clX3 cI cJ cZ cB h0 a0 (c0 0) (c0 1) (c0 2) (c0 3) (c0 4) (c0 5 0) (c0 6 0) (c0 7 0) (c0 8 0) (c0 9 0) []) rfl rfl hl.1 rfl (Nat.le_of_ble_eq_true rfl) dX3_add_6 [.int r1] rfl (fun H locs hW => ?_)
  refine lv_if_ne (tgt := 13) S.1 S.2.1 dX3_add_9 (by decide) (fun u3 => ?_) (fun u3 => ?_)
  · have h := of_n u3 h
    refine lv_aload_n S.1 S.2.1 dX3_add_13 rfl (lv_at hl 0 rfl) ?_
    refine gf (C := RX3) (T := TX3) (N := 10) (ci := 2) (k := 2) S hK hW wu_X3 rfl (by decide) wf_X3_18 0 rfl rfl dX3_add_14 ?_
    refine lv_aload_n S.1 S.2.1 dX3_add_17 rfl (lv_at hl 0 rfl) ?_
    refine gf (C := RX3) (T := TX3) (N := 10) (ci := 2) (k := 5) S hK hW wu_X3 rfl (by decide) wf_X3_31 0 rfl rfl dX3_add_18 ?_
    refine lv_iload_n S.1 S.2.1 dX3_add_21 rfl (lv_at hl 1 rfl) ?_
    obtain ⟨z4, h⟩ := of_g h
    refine ist S hK hW rfl 3 rfl z4 dX3_add_22 (fun H locs hW => ?_)
    have hW : wd (dC, dI) A s.heap (clX3 cI cJ cZ cB h0 a0 (c0 0) (c0 1) (upd (c0 2) (ix (c0 5 0)) p1) (c0 3) (c0 4) (c0 5 0) (c0 6 0) (c0 7 0) (c0 8 0) (c0 9 0) []) H locs := hW
    refine lv_aload_n S.1 S.2.1 dX3_add_23 rfl (lv_at hl 0 rfl) ?_
    refine gf (C := RX3) (T := TX3) (N := 10) (ci := 2) (k := 3) S hK hW wu_X3 rfl (by decide) wf_X3_21 0 rfl rfl dX3_add_24 ?_
    refine lv_aload_n S.1 S.2.1 dX3_add_27 rfl (lv_at hl 0 rfl) ?_
    refine gf (C := RX3) (T := TX3) (N := 10) (ci := 2) (k := 5) S hK hW wu_X3 rfl (by decide) wf_X3_31 0 rfl rfl dX3_add_28 ?_
    refine lv_iload_n S.1 S.2.1 dX3_add_31 rfl (lv_at hl 2 rfl) ?_
    obtain ⟨z5, h⟩ := of_g h
    refine ist S hK hW rfl 4 rfl z5 dX3_add_32 (fun H locs hW => ?_)
    have hW : wd (dC, dI) A s.heap (clX3 cI cJ cZ cB h0 a0 (c0 0) (c0 1) (upd (c0 2) (ix (c0 5 0)) p1) (upd (c0 3) (ix (c0 5 0)) p2) (c0 4) (c0 5 0) (c0 6 0) (c0 7 0) (c0 8 0) (c0 9 0) []) H locs := hW
    refine lv_aload_n S.1 S.2.1 dX3_add_33 rfl (lv_at hl 0 rfl) ?_
    refine gf (C := RX3) (T := TX3) (N := 10) (ci := 2) (k := 4) S hK hW wu_X3 rfl (by decide) wf_X3_24 0 rfl rfl dX3_add_34 ?_
    refine lv_aload_n S.1 S.2.1 dX3_add_37 rfl (lv_at hl 0 rfl) ?_
    refine gf (C := RX3) (T := TX3) (N := 10) (ci := 2) (k := 5) S hK hW wu_X3 rfl (by decide) wf_X3_31 0 rfl rfl dX3_add_38 ?_
    refine lv_iload_n S.1 S.2.1 dX3_add_41 rfl (lv_at hl 3 rfl) ?_
    obtain ⟨z6, h⟩ := of_g h
    refine ist S hK hW rfl 5 rfl z6 dX3_add_42 (fun H locs hW => ?_)
    have hW : wd (dC, dI) A s.heap (clX3 cI cJ cZ cB h0 a0 (c0 0) (c0 1) (upd (c0 2) (ix (c0 5 0)) p1) (upd (c0 3) (ix (c0 5 0)) p2) (upd (c0 4) (ix (c0 5 0)) p3) (c0 5 0) (c0 6 0) (c0 7 0) (c0 8 0) (c0 9 0) []) H locs := hW
    refine lv_aload_n S.1 S.2.1 dX3_add_43 rfl (lv_at hl 0 rfl) ?_
    refine lv_dup S.1 S.2.1 dX3_add_44 rfl ?_
    refine gf (C := RX3) (T := TX3) (N := 10) (ci := 2) (k := 5) S hK hW wu_X3 rfl (by decide) wf_X3_31 0 rfl rfl dX3_add_45 ?_
    refine lv_iconst (v := (1 : Int32)) S.1 S.2.1 dX3_add_48 ki_1 ?_
    refine lv_iadd S.1 S.2.1 dX3_add_49 ?_
    refine pf (C := RX3) (T := TX3) (N := 10) (ci := 2) (k := 5) (ty := .int) S hK hW wu_X3 rfl (by decide) tyX3 tyX3_ok nmX3 wf_X3_31 0 rfl rfl rfl rfl rfl (Nat.le_of_ble_eq_true rfl) dX3_add_50 (fun H locs hW => ?_)
    have hW : wd (dC, dI) A s.heap (clX3 cI cJ cZ cB h0 a0 (c0 0) (c0 1) (upd (c0 2) (ix (c0 5 0)) p1) (upd (c0 3) (ix (c0 5 0)) p2) (upd (c0 4) (ix (c0 5 0)) p3) ((c0 5 0) + (1 : Int32)) (c0 6 0) (c0 7 0) (c0 8 0) (c0 9 0) []) H locs := hW
    have f7 := Option.some.inj h
    subst f7
    exact rv S hr hlocks hW dX3_add_53
  · have h := of_p u3 h
    have f8 := Option.some.inj h
    subst f8
    exact rv S hr hlocks hW dX3_add_12
abbrev rmX3_hasRoom : Room := { frames := 0, cells := 0, slots := 0, locals := 0 }
set_option maxHeartbeats 4000000 in
set_option maxRecDepth 100000 in
theorem t_X3_hasRoom (l : Launch) (dC : Nat → ClassId) (dI : Nat → Nat → Nat) (cI cJ cZ cB : ClassId) (zz : ZT)  (h0 : Nat) (a0 : Nat → Nat) (c0 : Nat → Nat → Int32) (r : Int32) (hm : md_X3_hasRoom c0 = some (r)) : ct l (dC, dI) zz (ty4 cI cJ cZ cB) yX3_hasRoom cX3_hasRoom 1 (some .boolean) rmX3_hasRoom [.ref h0] (cwX3 cI cJ cZ cB h0 a0 c0 []) (cwX3 cI cJ cZ cB h0 a0 c0 []) (some (.int r)) := by
  refine ct_of (cc := cX3_hasRoom) (maxL := 1) (ret := (some .boolean)) (by decide) (Nat.le_of_ble_eq_true rfl) ?_
  intro p e s m below meth c A S hr hlocks hK hN hZ hA H locs hW ls hl
  have S : CallFix p m c cX3_hasRoom 1 s (List.toArray [.ref h0]) G RX3 := S
  have hl : lv_has ls 1 [(0, .ref h0)] := hl
  have h := hm
  rw [md_X3_hasRoom] at h
  have hW : wd (dC, dI) A s.heap (clX3 cI cJ cZ cB h0 a0 (c0 0) (c0 1) (c0 2) (c0 3) (c0 4) (c0 5 0) (c0 6 0) (c0 7 0) (c0 8 0) (c0 9 0) []) H locs := hW
  refine lv_aload_n S.1 S.2.1 dX3_hasRoom_0 rfl (lv_at hl 0 rfl) ?_
  refine gf (C := RX3) (T := TX3) (N := 10) (ci := 2) (k := 5) S hK hW wu_X3 rfl (by decide) wf_X3_31 0 rfl rfl dX3_hasRoom_1 ?_
  refine lv_bipush (v := (6 : Int32)) S.1 S.2.1 dX3_hasRoom_4 kb_6 ?_
  obtain ⟨y1, e2, h⟩ := lt1_e h
  suffices hM3 : ∀ ls : Array Slot, lv_has ls 1 [] → W p l e rmX3_hasRoom s m (List.toArray [.ref h0]) below meth c H locs 0 0 (MQ below (kQ (dC, dI) (cwX3 cI cJ cZ cB h0 a0 c0 []) (some (.int r)) A) (List.toArray [.ref h0]) s 0 0 A) (F0 m 14 ls [.int y1]) by
    refine lv_icmp_ge (tgt := 13) S.1 S.2.1 dX3_hasRoom_6 (by decide) (fun u4 => ?_) (fun u4 => ?_)
    · refine lv_iconst (v := (0 : Int32)) S.1 S.2.1 dX3_hasRoom_13 ki_0 ?_
      have e2 := e2.trans (if_pos u4)
      subst e2
      exact hM3 ls (lv_sub hl [] rfl)
    · refine lv_iconst (v := (1 : Int32)) S.1 S.2.1 dX3_hasRoom_9 ki_1 ?_
      refine lv_goto (tgt := 14) S.1 S.2.1 dX3_hasRoom_10 (by decide) ?_
      have e2 := e2.trans (if_neg u4)
      subst e2
      exact hM3 ls (lv_sub hl [] rfl)
  intro ls hl
  obtain ⟨z5, h⟩ := of_g h
  have f6 := Option.some.inj h
  subst f6
  exact rz S hr hlocks hW (nz z5) dX3_hasRoom_14
abbrev rmX3_winner : Room := { frames := 0, cells := 0, slots := 0, locals := 0 }
set_option maxHeartbeats 4000000 in
set_option maxRecDepth 100000 in
theorem t_X3_winner (l : Launch) (dC : Nat → ClassId) (dI : Nat → Nat → Nat) (cI cJ cZ cB : ClassId) (zz : ZT)  (h0 : Nat) (a0 : Nat → Nat) (c0 : Nat → Nat → Int32) (r : Int32) (hm : md_X3_winner c0 = some (r)) : ct l (dC, dI) zz (ty4 cI cJ cZ cB) yX3_winner cX3_winner 1 (some .int) rmX3_winner [.ref h0] (cwX3 cI cJ cZ cB h0 a0 c0 []) (cwX3 cI cJ cZ cB h0 a0 c0 []) (some (.int r)) := by
  refine ct_of (cc := cX3_winner) (maxL := 1) (ret := (some .int)) (by decide) (Nat.le_of_ble_eq_true rfl) ?_
  intro p e s m below meth c A S hr hlocks hK hN hZ hA H locs hW ls hl
  have S : CallFix p m c cX3_winner 1 s (List.toArray [.ref h0]) G RX3 := S
  have hl : lv_has ls 1 [(0, .ref h0)] := hl
  have h := hm
  rw [md_X3_winner] at h
  have hW : wd (dC, dI) A s.heap (clX3 cI cJ cZ cB h0 a0 (c0 0) (c0 1) (c0 2) (c0 3) (c0 4) (c0 5 0) (c0 6 0) (c0 7 0) (c0 8 0) (c0 9 0) []) H locs := hW
  refine lv_aload_n S.1 S.2.1 dX3_winner_0 rfl (lv_at hl 0 rfl) ?_
  refine gf (C := RX3) (T := TX3) (N := 10) (ci := 2) (k := 7) S hK hW wu_X3 rfl (by decide) wf_X3_37 0 rfl rfl dX3_winner_1 ?_
  obtain ⟨y1, e2, h⟩ := lt1_e h
  suffices hM3 : ∀ ls : Array Slot, lv_has ls 1 [] → W p l e rmX3_winner s m (List.toArray [.ref h0]) below meth c H locs 0 0 (MQ below (kQ (dC, dI) (cwX3 cI cJ cZ cB h0 a0 c0 []) (some (.int r)) A) (List.toArray [.ref h0]) s 0 0 A) (F0 m 12 ls [.int y1]) by
    refine lv_if_le (tgt := 11) S.1 S.2.1 dX3_winner_4 (by decide) (fun u4 => ?_) (fun u4 => ?_)
    · refine lv_iconst (v := (1 : Int32)) S.1 S.2.1 dX3_winner_11 ki_1 ?_
      have e2 := e2.trans (if_pos u4)
      subst e2
      exact hM3 ls (lv_sub hl [] rfl)
    · refine lv_iconst (v := (0 : Int32)) S.1 S.2.1 dX3_winner_7 ki_0 ?_
      refine lv_goto (tgt := 12) S.1 S.2.1 dX3_winner_8 (by decide) ?_
      have e2 := e2.trans (if_neg u4)
      subst e2
      exact hM3 ls (lv_sub hl [] rfl)
  intro ls hl
  have f5 := Option.some.inj h
  subst f5
  exact ri S hr hlocks hW dX3_winner_12
abbrev rmX3_counselZeroWins : Room := { frames := 1, cells := 0, slots := 0, locals := 21 }
set_option maxHeartbeats 4000000 in
set_option maxRecDepth 100000 in
theorem t_X3_counselZeroWins (l : Launch) (dC : Nat → ClassId) (dI : Nat → Nat → Nat) (cI cJ cZ cB : ClassId) (zz : ZT)  (h0 : Nat) (a0 : Nat → Nat) (c0 : Nat → Nat → Int32) (r : Int32) (hm : md_X3_counselZeroWins c0 = some (r)) : ct l (dC, dI) zz (ty4 cI cJ cZ cB) yX3_counselZeroWins cX3_counselZeroWins 1 (some .boolean) rmX3_counselZeroWins [.ref h0] (cwX3 cI cJ cZ cB h0 a0 c0 []) (cwX3 cI cJ cZ cB h0 a0 c0 []) (some (.int r)) := by
  refine ct_of (cc := cX3_counselZeroWins) (maxL := 1) (ret := (some .boolean)) (by decide) (Nat.le_of_ble_eq_true rfl) ?_
  intro p e s m below meth c A S hr hlocks hK hN hZ hA H locs hW ls hl
  have S : CallFix p m c cX3_counselZeroWins 1 s (List.toArray [.ref h0]) G RX3 := S
  have hl : lv_has ls 1 [(0, .ref h0)] := hl
  have h := hm
  rw [md_X3_counselZeroWins] at h
  have hW : wd (dC, dI) A s.heap (clX3 cI cJ cZ cB h0 a0 (c0 0) (c0 1) (c0 2) (c0 3) (c0 4) (c0 5 0) (c0 6 0) (c0 7 0) (c0 8 0) (c0 9 0) []) H locs := hW
  refine lv_aload_n S.1 S.2.1 dX3_counselZeroWins_0 rfl (lv_at hl 0 rfl) ?_
  obtain ⟨r1, hy2, h⟩ := bd1_e h
  refine kv0 S hK hN hZ hA hW (rest := []) (t_X3_winner l dC dI cI cJ cZ cB zz h0 a0 c0 _  hy2) wl_X3_59 wv_X3_winner rfl rfl ⟨Nat.le_of_ble_eq_true rfl, Nat.le_of_ble_eq_true rfl⟩ [] [] rfl 0 rfl rfl rfl rfl hl.1 rfl (Nat.le_of_ble_eq_true rfl) dX3_counselZeroWins_1 [.int r1] rfl (fun H locs hW => ?_)
  refine lv_aload_n S.1 S.2.1 dX3_counselZeroWins_4 rfl (lv_at hl 0 rfl) ?_
  refine lv_iconst (v := (0 : Int32)) S.1 S.2.1 dX3_counselZeroWins_5 ki_0 ?_
  obtain ⟨r3, hy4, h⟩ := bd1_e h
  refine kv0 S hK hN hZ hA hW (rest := [.int r1]) (t_X3_chairOf l dC dI cI cJ cZ cB zz h0 a0 c0 (0 : Int32) _  hy4) wl_X3_53 wv_X3_chairOf rfl rfl ⟨Nat.le_of_ble_eq_true rfl, Nat.le_of_ble_eq_true rfl⟩ [] [] rfl 0 rfl rfl rfl rfl hl.1 rfl (Nat.le_of_ble_eq_true rfl) dX3_counselZeroWins_6 [.int r3, .int r1] rfl (fun H locs hW => ?_)
  obtain ⟨y5, e6, h⟩ := lt1_e h
  suffices hM7 : ∀ ls : Array Slot, lv_has ls 1 [] → W p l e rmX3_counselZeroWins s m (List.toArray [.ref h0]) below meth c H locs 0 0 (MQ below (kQ (dC, dI) (cwX3 cI cJ cZ cB h0 a0 c0 []) (some (.int r)) A) (List.toArray [.ref h0]) s 0 0 A) (F0 m 17 ls [.int y5]) by
    refine lv_icmp_ne (tgt := 16) S.1 S.2.1 dX3_counselZeroWins_9 (by decide) (fun u8 => ?_) (fun u8 => ?_)
    · refine lv_iconst (v := (0 : Int32)) S.1 S.2.1 dX3_counselZeroWins_16 ki_0 ?_
      have e6 := e6.trans (if_neg u8)
      subst e6
      exact hM7 ls (lv_sub hl [] rfl)
    · refine lv_iconst (v := (1 : Int32)) S.1 S.2.1 dX3_counselZeroWins_12 ki_1 ?_
      refine lv_goto (tgt := 17) S.1 S.2.1 dX3_counselZeroWins_13 (by decide) ?_
      have e6 := e6.trans (if_pos u8)
      subst e6
      exact hM7 ls (lv_sub hl [] rfl)
  intro ls hl
  obtain ⟨z9, h⟩ := of_g h
  have f10 := Option.some.inj h
  subst f10
  exact rz S hr hlocks hW (nz z9) dX3_counselZeroWins_17
abbrev rmX3_allGroundsLeft : Room := { frames := 0, cells := 0, slots := 0, locals := 0 }
set_option maxHeartbeats 4000000 in
set_option maxRecDepth 100000 in
theorem t_X3_allGroundsLeft (l : Launch) (dC : Nat → ClassId) (dI : Nat → Nat → Nat) (cI cJ cZ cB : ClassId) (zz : ZT)  (h0 : Nat) (a0 : Nat → Nat) (F : Nat) (c0 : Nat → Nat → Int32) (r : Int32) (hm : md_X3_allGroundsLeft F c0 = some (r)) : ct l (dC, dI) zz (ty4 cI cJ cZ cB) yX3_allGroundsLeft cX3_allGroundsLeft 3 (some .int) rmX3_allGroundsLeft [.ref h0] (cwX3 cI cJ cZ cB h0 a0 c0 []) (cwX3 cI cJ cZ cB h0 a0 c0 []) (some (.int r)) := by
  refine ct_of (cc := cX3_allGroundsLeft) (maxL := 3) (ret := (some .int)) (by decide) (Nat.le_of_ble_eq_true rfl) ?_
  intro p e s m below meth c A S hr hlocks hK hN hZ hA H locs hW ls hl
  have S : CallFix p m c cX3_allGroundsLeft 3 s (List.toArray [.ref h0]) G RX3 := S
  have hl : lv_has ls 3 [(0, .ref h0)] := hl
  have h := hm
  rw [md_X3_allGroundsLeft] at h
  have hW : wd (dC, dI) A s.heap (clX3 cI cJ cZ cB h0 a0 (c0 0) (c0 1) (c0 2) (c0 3) (c0 4) (c0 5 0) (c0 6 0) (c0 7 0) (c0 8 0) (c0 9 0) []) H locs := hW
  have hL4 : ∀ (n4 : Nat) (x1 : Int32) (x2 : Int32), ld_X3_allGroundsLeft_4 F c0 n4 x1 x2 = some (r) → ∀ (H : Heap) (locs : List Loc), wd (dC, dI) A s.heap (clX3 cI cJ cZ cB h0 a0 (c0 0) (c0 1) (c0 2) (c0 3) (c0 4) (c0 5 0) (c0 6 0) (c0 7 0) (c0 8 0) (c0 9 0) []) H locs → ∀ ls : Array Slot, lv_has ls 3 [(0, .ref h0), (1, .int x1), (2, .int x2)] → W p l e rmX3_allGroundsLeft s m (List.toArray [.ref h0]) below meth c H locs 0 0 (MQ below (kQ (dC, dI) (cwX3 cI cJ cZ cB h0 a0 c0 []) (some (.int r)) A) (List.toArray [.ref h0]) s 0 0 A) (F0 m 4 ls []) := by
    intro n4
    induction n4 with
    | zero => intro x1 x2 h; rw [ld_X3_allGroundsLeft_4] at h; cases h
    | succ n4 ih4 =>
      intro x1 x2 h H locs hW ls hl
      rw [ld_X3_allGroundsLeft_4] at h
      refine lv_iload_n S.1 S.2.1 dX3_allGroundsLeft_4 rfl (lv_at hl 2 rfl) ?_
      refine lv_bipush (v := (6 : Int32)) S.1 S.2.1 dX3_allGroundsLeft_5 kb_6 ?_
      refine lv_icmp_ge (tgt := 33) S.1 S.2.1 dX3_allGroundsLeft_7 (by decide) (fun u1 => ?_) (fun u1 => ?_)
      · have h := of_p u1 h
        refine lv_iload_n S.1 S.2.1 dX3_allGroundsLeft_33 rfl (lv_at hl 1 rfl) ?_
        have f2 := Option.some.inj h
        subst f2
        exact ri S hr hlocks hW dX3_allGroundsLeft_34
      · have h := of_n u1 h
        refine lv_iload_n S.1 S.2.1 dX3_allGroundsLeft_10 rfl (lv_at hl 2 rfl) ?_
        refine lv_aload_n S.1 S.2.1 dX3_allGroundsLeft_11 rfl (lv_at hl 0 rfl) ?_
        refine gf (C := RX3) (T := TX3) (N := 10) (ci := 2) (k := 5) S hK hW wu_X3 rfl (by decide) wf_X3_31 0 rfl rfl dX3_allGroundsLeft_12 ?_
        refine lv_icmp_ge (tgt := 33) S.1 S.2.1 dX3_allGroundsLeft_15 (by decide) (fun u3 => ?_) (fun u3 => ?_)
        · have h := of_p u3 h
          refine lv_iload_n S.1 S.2.1 dX3_allGroundsLeft_33 rfl (lv_at hl 1 rfl) ?_
          have f4 := Option.some.inj h
          subst f4
          exact ri S hr hlocks hW dX3_allGroundsLeft_34
        · have h := of_n u3 h
          refine lv_iload_n S.1 S.2.1 dX3_allGroundsLeft_18 rfl (lv_at hl 1 rfl) ?_
          refine lv_aload_n S.1 S.2.1 dX3_allGroundsLeft_19 rfl (lv_at hl 0 rfl) ?_
          refine gf (C := RX3) (T := TX3) (N := 10) (ci := 2) (k := 4) S hK hW wu_X3 rfl (by decide) wf_X3_24 0 rfl rfl dX3_allGroundsLeft_20 ?_
          refine lv_iload_n S.1 S.2.1 dX3_allGroundsLeft_23 rfl (lv_at hl 2 rfl) ?_
          obtain ⟨z5, h⟩ := of_g h
          refine ia S hK hW rfl 5 rfl z5 dX3_allGroundsLeft_24 ?_
          refine lv_iadd S.1 S.2.1 dX3_allGroundsLeft_25 ?_
          refine lv_istore_n (lv' := [(1, .int (x1 + ((c0 4) (ix x2)))), (0, .ref h0), (2, .int x2)]) S.1 S.2.1 dX3_allGroundsLeft_26 rfl hl (by decide) rfl (fun ls hl => ?_)
          refine lv_iinc (v := (x2 + (1 : Int32))) (lv' := [(2, .int (x2 + (1 : Int32))), (1, .int (x1 + ((c0 4) (ix x2)))), (0, .ref h0)]) S.1 S.2.1 dX3_allGroundsLeft_27 hl (k := 2) rfl (congrArg (fun z => x2 + z) ki_1) (by decide) rfl (fun ls hl => ?_)
          refine lv_goto (tgt := 4) S.1 S.2.1 dX3_allGroundsLeft_30 (by decide) ?_
          exact ih4 _ _ h H locs hW ls (lv_sub hl [2, 1, 0] rfl)
  refine lv_iconst (v := (0 : Int32)) S.1 S.2.1 dX3_allGroundsLeft_0 ki_0 ?_
  refine lv_istore_n (lv' := [(1, .int (0 : Int32)), (0, .ref h0)]) S.1 S.2.1 dX3_allGroundsLeft_1 rfl hl (by decide) rfl (fun ls hl => ?_)
  refine lv_iconst (v := (0 : Int32)) S.1 S.2.1 dX3_allGroundsLeft_2 ki_0 ?_
  refine lv_istore_n (lv' := [(2, .int (0 : Int32)), (1, .int (0 : Int32)), (0, .ref h0)]) S.1 S.2.1 dX3_allGroundsLeft_3 rfl hl (by decide) rfl (fun ls hl => ?_)
  exact hL4 F _ _ h H locs hW ls (lv_sub hl [2, 1, 0] rfl)
abbrev rmX3_digestOn : Room := { frames := 1, cells := 0, slots := 0, locals := 21 }
set_option maxHeartbeats 4000000 in
set_option maxRecDepth 100000 in
theorem t_X3_digestOn (l : Launch) (dC : Nat → ClassId) (dI : Nat → Nat → Nat) (cI cJ cZ cB : ClassId) (zz : ZT)  (h0 : Nat) (a0 : Nat → Nat) (F : Nat) (c0 : Nat → Nat → Int32) (p1 : Int64) (r : Int64) (hm : md_X3_digestOn F c0 p1 = some (r)) : ct l (dC, dI) zz (ty4 cI cJ cZ cB) yX3_digestOn cX3_digestOn 6 (some .long) rmX3_digestOn [.ref h0, .long p1] (cwX3 cI cJ cZ cB h0 a0 c0 []) (cwX3 cI cJ cZ cB h0 a0 c0 []) (some (.long r)) := by
  refine ct_of (cc := cX3_digestOn) (maxL := 6) (ret := (some .long)) (by decide) (Nat.le_of_ble_eq_true rfl) ?_
  intro p e s m below meth c A S hr hlocks hK hN hZ hA H locs hW ls hl
  have S : CallFix p m c cX3_digestOn 6 s (List.toArray [.ref h0, .long p1]) G RX3 := S
  have hl : lv_has ls 6 [(0, .ref h0), (1, .long p1)] := hl
  have h := hm
  rw [md_X3_digestOn] at h
  have hW : wd (dC, dI) A s.heap (clX3 cI cJ cZ cB h0 a0 (c0 0) (c0 1) (c0 2) (c0 3) (c0 4) (c0 5 0) (c0 6 0) (c0 7 0) (c0 8 0) (c0 9 0) []) H locs := hW
  have hL50 : ∀ (n50 : Nat) (x3 : Int64) (x5 : Int32), ld_X3_digestOn_50 F c0 n50 x3 x5 = some (r) → ∀ (H : Heap) (locs : List Loc), wd (dC, dI) A s.heap (clX3 cI cJ cZ cB h0 a0 (c0 0) (c0 1) (c0 2) (c0 3) (c0 4) (c0 5 0) (c0 6 0) (c0 7 0) (c0 8 0) (c0 9 0) []) H locs → ∀ ls : Array Slot, lv_has ls 6 [(0, .ref h0), (3, .long x3), (5, .int x5)] → W p l e rmX3_digestOn s m (List.toArray [.ref h0, .long p1]) below meth c H locs 0 0 (MQ below (kQ (dC, dI) (cwX3 cI cJ cZ cB h0 a0 c0 []) (some (.long r)) A) (List.toArray [.ref h0, .long p1]) s 0 0 A) (F0 m 50 ls []) := by
    intro n50
    induction n50 with
    | zero => intro x3 x5 h; rw [ld_X3_digestOn_50] at h; cases h
    | succ n50 ih50 =>
      intro x3 x5 h H locs hW ls hl
      rw [ld_X3_digestOn_50] at h
      refine lv_iload S.1 S.2.1 dX3_digestOn_50 (lv_at hl 2 rfl) ?_
      refine lv_bipush (v := (6 : Int32)) S.1 S.2.1 dX3_digestOn_52 kb_6 ?_
      refine lv_icmp_ge (tgt := 142) S.1 S.2.1 dX3_digestOn_54 (by decide) (fun u1 => ?_) (fun u1 => ?_)
      · have h := of_p u1 h
        refine lv_lload_n S.1 S.2.1 dX3_digestOn_142 rfl (lv_at hl 1 rfl) ?_
        have f2 := Option.some.inj h
        subst f2
        exact rl S hr hlocks hW dX3_digestOn_143
      · have h := of_n u1 h
        refine lv_iload S.1 S.2.1 dX3_digestOn_57 (lv_at hl 2 rfl) ?_
        refine lv_aload_n S.1 S.2.1 dX3_digestOn_59 rfl (lv_at hl 0 rfl) ?_
        refine gf (C := RX3) (T := TX3) (N := 10) (ci := 2) (k := 5) S hK hW wu_X3 rfl (by decide) wf_X3_31 0 rfl rfl dX3_digestOn_60 ?_
        refine lv_icmp_ge (tgt := 142) S.1 S.2.1 dX3_digestOn_63 (by decide) (fun u3 => ?_) (fun u3 => ?_)
        · have h := of_p u3 h
          refine lv_lload_n S.1 S.2.1 dX3_digestOn_142 rfl (lv_at hl 1 rfl) ?_
          have f4 := Option.some.inj h
          subst f4
          exact rl S hr hlocks hW dX3_digestOn_143
        · have h := of_n u3 h
          refine lv_ldc2 (v := (31 : Int64)) S.1 S.2.1 S.2.2.2.1 (S.2.2.2.2 _ wk_X3_105) dX3_digestOn_66 ?_
          refine lv_lload_n S.1 S.2.1 dX3_digestOn_69 rfl (lv_at hl 1 rfl) ?_
          refine lv_lmul S.1 S.2.1 dX3_digestOn_70 ?_
          refine lv_aload_n S.1 S.2.1 dX3_digestOn_71 rfl (lv_at hl 0 rfl) ?_
          refine gf (C := RX3) (T := TX3) (N := 10) (ci := 2) (k := 2) S hK hW wu_X3 rfl (by decide) wf_X3_18 0 rfl rfl dX3_digestOn_72 ?_
          refine lv_iload S.1 S.2.1 dX3_digestOn_75 (lv_at hl 2 rfl) ?_
          obtain ⟨z5, h⟩ := of_g h
          refine ia S hK hW rfl 3 rfl z5 dX3_digestOn_77 ?_
          refine lv_i2l S.1 S.2.1 dX3_digestOn_78 rfl ?_
          refine lv_ladd S.1 S.2.1 dX3_digestOn_79 ?_
          obtain ⟨y6, e7, h⟩ := lt1_e h
          refine nml e7 ?_
          refine lv_lstore_n (lv' := [(3, .long y6), (0, .ref h0), (5, .int x5)]) S.1 S.2.1 dX3_digestOn_80 rfl hl (by decide) rfl (fun ls hl => ?_)
          refine lv_ldc2 (v := (31 : Int64)) S.1 S.2.1 S.2.2.2.1 (S.2.2.2.2 _ wk_X3_105) dX3_digestOn_81 ?_
          refine lv_lload_n S.1 S.2.1 dX3_digestOn_84 rfl (lv_at hl 0 rfl) ?_
          refine lv_lmul S.1 S.2.1 dX3_digestOn_85 ?_
          refine lv_aload_n S.1 S.2.1 dX3_digestOn_86 rfl (lv_at hl 1 rfl) ?_
          refine gf (C := RX3) (T := TX3) (N := 10) (ci := 2) (k := 3) S hK hW wu_X3 rfl (by decide) wf_X3_21 0 rfl rfl dX3_digestOn_87 ?_
          refine lv_iload S.1 S.2.1 dX3_digestOn_90 (lv_at hl 2 rfl) ?_
          obtain ⟨z8, h⟩ := of_g h
          refine ia S hK hW rfl 4 rfl z8 dX3_digestOn_92 ?_
          refine lv_i2l S.1 S.2.1 dX3_digestOn_93 rfl ?_
          refine lv_ladd S.1 S.2.1 dX3_digestOn_94 ?_
          obtain ⟨y9, e10, h⟩ := lt1_e h
          refine nml e10 ?_
          refine lv_lstore_n (lv' := [(3, .long y9), (0, .ref h0), (5, .int x5)]) S.1 S.2.1 dX3_digestOn_95 rfl hl (by decide) rfl (fun ls hl => ?_)
          refine lv_ldc2 (v := (31 : Int64)) S.1 S.2.1 S.2.2.2.1 (S.2.2.2.2 _ wk_X3_105) dX3_digestOn_96 ?_
          refine lv_lload_n S.1 S.2.1 dX3_digestOn_99 rfl (lv_at hl 0 rfl) ?_
          refine lv_lmul S.1 S.2.1 dX3_digestOn_100 ?_
          refine lv_aload_n S.1 S.2.1 dX3_digestOn_101 rfl (lv_at hl 1 rfl) ?_
          refine gf (C := RX3) (T := TX3) (N := 10) (ci := 2) (k := 4) S hK hW wu_X3 rfl (by decide) wf_X3_24 0 rfl rfl dX3_digestOn_102 ?_
          refine lv_iload S.1 S.2.1 dX3_digestOn_105 (lv_at hl 2 rfl) ?_
          obtain ⟨z11, h⟩ := of_g h
          refine ia S hK hW rfl 5 rfl z11 dX3_digestOn_107 ?_
          refine lv_i2l S.1 S.2.1 dX3_digestOn_108 rfl ?_
          refine lv_ladd S.1 S.2.1 dX3_digestOn_109 ?_
          obtain ⟨y12, e13, h⟩ := lt1_e h
          refine nml e13 ?_
          refine lv_lstore_n (lv' := [(3, .long y12), (0, .ref h0), (5, .int x5)]) S.1 S.2.1 dX3_digestOn_110 rfl hl (by decide) rfl (fun ls hl => ?_)
          refine lv_ldc2 (v := (31 : Int64)) S.1 S.2.1 S.2.2.2.1 (S.2.2.2.2 _ wk_X3_105) dX3_digestOn_111 ?_
          refine lv_lload_n S.1 S.2.1 dX3_digestOn_114 rfl (lv_at hl 0 rfl) ?_
          refine lv_lmul S.1 S.2.1 dX3_digestOn_115 ?_
          refine lv_aload_n S.1 S.2.1 dX3_digestOn_116 rfl (lv_at hl 1 rfl) ?_
          refine gf (C := RX3) (T := TX3) (N := 10) (ci := 2) (k := 6) S hK hW wu_X3 rfl (by decide) wf_X3_34 0 rfl rfl dX3_digestOn_117 ?_
          refine lv_iload S.1 S.2.1 dX3_digestOn_120 (lv_at hl 2 rfl) ?_
          obtain ⟨r14, hy15, h⟩ := bd1_e h
          refine kn0 S hK hN hZ hA hW (rest := [.long ((31 : Int64) * y12)]) (t_X8_has l dC dI cI cJ cZ cB zz (c0 6 0) x5 _  hy15) wx_X3_107 wv_X8_has rfl rfl ⟨Nat.le_of_ble_eq_true rfl, Nat.le_of_ble_eq_true rfl⟩ [] (clX3 cI cJ cZ cB h0 a0 (c0 0) (c0 1) (c0 2) (c0 3) (c0 4) (c0 5 0) (c0 6 0) (c0 7 0) (c0 8 0) (c0 9 0) []) rfl rfl hl.1 rfl (Nat.le_of_ble_eq_true rfl) dX3_digestOn_122 [.int r14, .long ((31 : Int64) * y12)] rfl (fun H locs hW => ?_)
          obtain ⟨y16, e17, h⟩ := lt1_e h
          suffices hM18 : ∀ ls : Array Slot, lv_has ls 6 [(0, .ref h0), (5, .int x5)] → W p l e rmX3_digestOn s m (List.toArray [.ref h0, .long p1]) below meth c H locs 0 0 (MQ below (kQ (dC, dI) (cwX3 cI cJ cZ cB h0 a0 c0 []) (some (.long r)) A) (List.toArray [.ref h0, .long p1]) s 0 0 A) (F0 m 133 ls [.int y16, .long ((31 : Int64) * y12)]) by
            refine lv_if_eq (tgt := 132) S.1 S.2.1 dX3_digestOn_125 (by decide) (fun u19 => ?_) (fun u19 => ?_)
            · refine lv_iconst (v := (0 : Int32)) S.1 S.2.1 dX3_digestOn_132 ki_0 ?_
              have e17 := e17.trans (if_pos u19)
              subst e17
              exact hM18 ls (lv_sub hl [1, 2] rfl)
            · refine lv_iconst (v := (1 : Int32)) S.1 S.2.1 dX3_digestOn_128 ki_1 ?_
              refine lv_goto (tgt := 133) S.1 S.2.1 dX3_digestOn_129 (by decide) ?_
              have e17 := e17.trans (if_neg u19)
              subst e17
              exact hM18 ls (lv_sub hl [1, 2] rfl)
          intro ls hl
          refine lv_i2l S.1 S.2.1 dX3_digestOn_133 rfl ?_
          refine lv_ladd S.1 S.2.1 dX3_digestOn_134 ?_
          obtain ⟨y20, e21, h⟩ := lt1_e h
          refine nml e21 ?_
          refine lv_lstore_n (lv' := [(3, .long y20), (0, .ref h0), (5, .int x5)]) S.1 S.2.1 dX3_digestOn_135 rfl hl (by decide) rfl (fun ls hl => ?_)
          refine lv_iinc (v := (x5 + (1 : Int32))) (lv' := [(5, .int (x5 + (1 : Int32))), (3, .long y20), (0, .ref h0)]) S.1 S.2.1 dX3_digestOn_136 hl (k := 2) rfl (congrArg (fun z => x5 + z) ki_1) (by decide) rfl (fun ls hl => ?_)
          refine lv_goto (tgt := 50) S.1 S.2.1 dX3_digestOn_139 (by decide) ?_
          exact ih50 _ _ h H locs hW ls (lv_sub hl [2, 1, 0] rfl)
  have hL5 : ∀ (n5 : Nat) (x3 : Int64) (x5 : Int32), ld_X3_digestOn_5 F c0 n5 x3 x5 = some (r) → ∀ (H : Heap) (locs : List Loc), wd (dC, dI) A s.heap (clX3 cI cJ cZ cB h0 a0 (c0 0) (c0 1) (c0 2) (c0 3) (c0 4) (c0 5 0) (c0 6 0) (c0 7 0) (c0 8 0) (c0 9 0) []) H locs → ∀ ls : Array Slot, lv_has ls 6 [(0, .ref h0), (3, .long x3), (5, .int x5)] → W p l e rmX3_digestOn s m (List.toArray [.ref h0, .long p1]) below meth c H locs 0 0 (MQ below (kQ (dC, dI) (cwX3 cI cJ cZ cB h0 a0 c0 []) (some (.long r)) A) (List.toArray [.ref h0, .long p1]) s 0 0 A) (F0 m 5 ls []) := by
    intro n5
    induction n5 with
    | zero => intro x3 x5 h; rw [ld_X3_digestOn_5] at h; cases h
    | succ n5 ih5 =>
      intro x3 x5 h H locs hW ls hl
      rw [ld_X3_digestOn_5] at h
      refine lv_iload S.1 S.2.1 dX3_digestOn_5 (lv_at hl 2 rfl) ?_
      refine lv_iconst (v := (2 : Int32)) S.1 S.2.1 dX3_digestOn_7 ki_2 ?_
      refine lv_icmp_ge (tgt := 47) S.1 S.2.1 dX3_digestOn_8 (by decide) (fun u22 => ?_) (fun u22 => ?_)
      · have h := of_p u22 h
        refine lv_iconst (v := (0 : Int32)) S.1 S.2.1 dX3_digestOn_47 ki_0 ?_
        refine lv_istore (lv' := [(5, .int (0 : Int32)), (0, .ref h0), (3, .long x3)]) S.1 S.2.1 dX3_digestOn_48 hl (by decide) rfl (fun ls hl => ?_)
        exact hL50 F _ _ h H locs hW ls (lv_sub hl [1, 2, 0] rfl)
      · have h := of_n u22 h
        refine lv_ldc2 (v := (31 : Int64)) S.1 S.2.1 S.2.2.2.1 (S.2.2.2.2 _ wk_X3_105) dX3_digestOn_11 ?_
        refine lv_lload_n S.1 S.2.1 dX3_digestOn_14 rfl (lv_at hl 1 rfl) ?_
        refine lv_lmul S.1 S.2.1 dX3_digestOn_15 ?_
        refine lv_aload_n S.1 S.2.1 dX3_digestOn_16 rfl (lv_at hl 0 rfl) ?_
        refine gf (C := RX3) (T := TX3) (N := 10) (ci := 2) (k := 0) S hK hW wu_X3 rfl (by decide) wf_X3_9 0 rfl rfl dX3_digestOn_17 ?_
        refine lv_iload S.1 S.2.1 dX3_digestOn_20 (lv_at hl 2 rfl) ?_
        obtain ⟨z23, h⟩ := of_g h
        refine ia S hK hW rfl 1 rfl z23 dX3_digestOn_22 ?_
        refine lv_i2l S.1 S.2.1 dX3_digestOn_23 rfl ?_
        refine lv_ladd S.1 S.2.1 dX3_digestOn_24 ?_
        obtain ⟨y24, e25, h⟩ := lt1_e h
        refine nml e25 ?_
        refine lv_lstore_n (lv' := [(3, .long y24), (0, .ref h0), (5, .int x5)]) S.1 S.2.1 dX3_digestOn_25 rfl hl (by decide) rfl (fun ls hl => ?_)
        refine lv_ldc2 (v := (31 : Int64)) S.1 S.2.1 S.2.2.2.1 (S.2.2.2.2 _ wk_X3_105) dX3_digestOn_26 ?_
        refine lv_lload_n S.1 S.2.1 dX3_digestOn_29 rfl (lv_at hl 0 rfl) ?_
        refine lv_lmul S.1 S.2.1 dX3_digestOn_30 ?_
        refine lv_aload_n S.1 S.2.1 dX3_digestOn_31 rfl (lv_at hl 1 rfl) ?_
        refine gf (C := RX3) (T := TX3) (N := 10) (ci := 2) (k := 1) S hK hW wu_X3 rfl (by decide) wf_X3_15 0 rfl rfl dX3_digestOn_32 ?_
        refine lv_iload S.1 S.2.1 dX3_digestOn_35 (lv_at hl 2 rfl) ?_
        obtain ⟨z26, h⟩ := of_g h
        refine ia S hK hW rfl 2 rfl z26 dX3_digestOn_37 ?_
        refine lv_i2l S.1 S.2.1 dX3_digestOn_38 rfl ?_
        refine lv_ladd S.1 S.2.1 dX3_digestOn_39 ?_
        obtain ⟨y27, e28, h⟩ := lt1_e h
        refine nml e28 ?_
        refine lv_lstore_n (lv' := [(3, .long y27), (0, .ref h0), (5, .int x5)]) S.1 S.2.1 dX3_digestOn_40 rfl hl (by decide) rfl (fun ls hl => ?_)
        refine lv_iinc (v := (x5 + (1 : Int32))) (lv' := [(5, .int (x5 + (1 : Int32))), (3, .long y27), (0, .ref h0)]) S.1 S.2.1 dX3_digestOn_41 hl (k := 2) rfl (congrArg (fun z => x5 + z) ki_1) (by decide) rfl (fun ls hl => ?_)
        refine lv_goto (tgt := 5) S.1 S.2.1 dX3_digestOn_44 (by decide) ?_
        exact ih5 _ _ h H locs hW ls (lv_sub hl [2, 1, 0] rfl)
  refine lv_lload_n S.1 S.2.1 dX3_digestOn_0 rfl (lv_at hl 1 rfl) ?_
  refine lv_lstore_n (lv' := [(3, .long p1), (0, .ref h0), (1, .long p1)]) S.1 S.2.1 dX3_digestOn_1 rfl hl (by decide) rfl (fun ls hl => ?_)
  refine lv_iconst (v := (0 : Int32)) S.1 S.2.1 dX3_digestOn_2 ki_0 ?_
  refine lv_istore (lv' := [(5, .int (0 : Int32)), (3, .long p1), (0, .ref h0), (1, .long p1)]) S.1 S.2.1 dX3_digestOn_3 hl (by decide) rfl (fun ls hl => ?_)
  exact hL5 F _ _ h H locs hW ls (lv_sub hl [2, 1, 0] rfl)
