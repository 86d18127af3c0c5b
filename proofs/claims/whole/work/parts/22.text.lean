abbrev rmX7_byteAt : Room := { frames := 0, cells := 0, slots := 0, locals := 0 }
set_option maxHeartbeats 4000000 in
set_option maxRecDepth 100000 in
theorem t_X7_byteAt (l : Launch) (dC : Nat → ClassId) (dI : Nat → Nat → Nat) (cI cJ cZ cB : ClassId) (zz : ZT)  (h0 : Nat) (a0 : Nat → Nat) (c0 : Nat → Nat → Int32) (p1 : Int32) (r : Int32) (hm : md_X7_byteAt c0 p1 = some (r)) : ct l (dC, dI) zz (ty4 cI cJ cZ cB) yX7_byteAt cX7_byteAt 2 (some .int) rmX7_byteAt [.ref h0, .int p1] (cwX7 cI cJ cZ cB h0 a0 c0 []) (cwX7 cI cJ cZ cB h0 a0 c0 []) (some (.int r)) := by
  refine ct_of (cc := cX7_byteAt) (maxL := 2) (ret := (some .int)) (by decide) (Nat.le_of_ble_eq_true rfl) ?_
  intro p e s m below meth c A S hr hlocks hK hN hZ hA H locs hW ls hl
  have S : CallFix p m c cX7_byteAt 2 s (List.toArray [.ref h0, .int p1]) G RX7 := S
  have hl : lv_has ls 2 [(0, .ref h0), (1, .int p1)] := hl
  have h := hm
  rw [md_X7_byteAt] at h
  have hW : wd (dC, dI) A s.heap (clX7 cI cJ cZ cB h0 a0 (c0 0) (c0 1 0) (c0 2 0) (c0 3 0) (c0 4 0) (c0 5 0) []) H locs := hW
  refine lv_iconst (v := (0 : Int32)) S.1 S.2.1 dX7_byteAt_0 ki_0 ?_
  refine lv_iload_n S.1 S.2.1 dX7_byteAt_1 rfl (lv_at hl 1 rfl) ?_
  refine lv_icmp_gt (tgt := 29) S.1 S.2.1 dX7_byteAt_2 (by decide) (fun u1 => ?_) (fun u1 => ?_)
  · have h := of_p u1 h
    refine lv_iconst (v := (-1 : Int32)) S.1 S.2.1 dX7_byteAt_29 ki_m1 ?_
    have f2 := Option.some.inj h
    subst f2
    exact ri S hr hlocks hW dX7_byteAt_30
  · have h := of_n u1 h
    refine lv_iload_n S.1 S.2.1 dX7_byteAt_5 rfl (lv_at hl 1 rfl) ?_
    refine lv_aload_n S.1 S.2.1 dX7_byteAt_6 rfl (lv_at hl 0 rfl) ?_
    refine gf (C := RX7) (T := TX7) (N := 6) (ci := 3) (k := 1) S hK hW wu_X7 rfl (by decide) wf_X7_15 0 rfl rfl dX7_byteAt_7 ?_
    refine lv_icmp_ge (tgt := 29) S.1 S.2.1 dX7_byteAt_10 (by decide) (fun u3 => ?_) (fun u3 => ?_)
    · have h := of_p u3 h
      refine lv_iconst (v := (-1 : Int32)) S.1 S.2.1 dX7_byteAt_29 ki_m1 ?_
      have f4 := Option.some.inj h
      subst f4
      exact ri S hr hlocks hW dX7_byteAt_30
    · have h := of_n u3 h
      refine lv_iload_n S.1 S.2.1 dX7_byteAt_13 rfl (lv_at hl 1 rfl) ?_
      refine lv_sipush (v := (150 : Int32)) S.1 S.2.1 dX7_byteAt_14 ks_150 ?_
      refine lv_icmp_ge (tgt := 29) S.1 S.2.1 dX7_byteAt_17 (by decide) (fun u5 => ?_) (fun u5 => ?_)
      · have h := of_p u5 h
        refine lv_iconst (v := (-1 : Int32)) S.1 S.2.1 dX7_byteAt_29 ki_m1 ?_
        have f6 := Option.some.inj h
        subst f6
        exact ri S hr hlocks hW dX7_byteAt_30
      · have h := of_n u5 h
        refine lv_aload_n S.1 S.2.1 dX7_byteAt_20 rfl (lv_at hl 0 rfl) ?_
        refine gf (C := RX7) (T := TX7) (N := 6) (ci := 3) (k := 0) S hK hW wu_X7 rfl (by decide) wf_X7_9 0 rfl rfl dX7_byteAt_21 ?_
        refine lv_iload_n S.1 S.2.1 dX7_byteAt_24 rfl (lv_at hl 1 rfl) ?_
        obtain ⟨z7, h⟩ := of_g h
        refine ia S hK hW rfl 1 rfl z7 dX7_byteAt_25 ?_
        refine lv_goto (tgt := 30) S.1 S.2.1 dX7_byteAt_26 (by decide) ?_
        have f8 := Option.some.inj h
        subst f8
        exact ri S hr hlocks hW dX7_byteAt_30
abbrev rmX7_kindAt : Room := { frames := 1, cells := 0, slots := 0, locals := 21 }
set_option maxHeartbeats 4000000 in
set_option maxRecDepth 100000 in
theorem t_X7_kindAt (l : Launch) (dC : Nat → ClassId) (dI : Nat → Nat → Nat) (cI cJ cZ cB : ClassId) (zz : ZT)  (h0 : Nat) (a0 : Nat → Nat) (c0 : Nat → Nat → Int32) (p1 : Int32) (r : Int32) (hm : md_X7_kindAt c0 p1 = some (r)) : ct l (dC, dI) zz (ty4 cI cJ cZ cB) yX7_kindAt cX7_kindAt 3 (some .int) rmX7_kindAt [.ref h0, .int p1] (cwX7 cI cJ cZ cB h0 a0 c0 []) (cwX7 cI cJ cZ cB h0 a0 c0 []) (some (.int r)) := by
  refine ct_of (cc := cX7_kindAt) (maxL := 3) (ret := (some .int)) (by decide) (Nat.le_of_ble_eq_true rfl) ?_
  intro p e s m below meth c A S hr hlocks hK hN hZ hA H locs hW ls hl
  have S : CallFix p m c cX7_kindAt 3 s (List.toArray [.ref h0, .int p1]) G RX7 := S
  have hl : lv_has ls 3 [(0, .ref h0), (1, .int p1)] := hl
  have h := hm
  rw [md_X7_kindAt] at h
  have hW : wd (dC, dI) A s.heap (clX7 cI cJ cZ cB h0 a0 (c0 0) (c0 1 0) (c0 2 0) (c0 3 0) (c0 4 0) (c0 5 0) []) H locs := hW
  have hJ44 : ∀ (x2 : Int32), jd_X7_kindAt_44 c0 x2 = some (r) → ∀ (H : Heap) (locs : List Loc), wd (dC, dI) A s.heap (clX7 cI cJ cZ cB h0 a0 (c0 0) (c0 1 0) (c0 2 0) (c0 3 0) (c0 4 0) (c0 5 0) []) H locs → ∀ ls : Array Slot, lv_has ls 3 [(2, .int x2)] → W p l e rmX7_kindAt s m (List.toArray [.ref h0, .int p1]) below meth c H locs 0 0 (MQ below (kQ (dC, dI) (cwX7 cI cJ cZ cB h0 a0 c0 []) (some (.int r)) A) (List.toArray [.ref h0, .int p1]) s 0 0 A) (F0 m 44 ls []) := by
    intro x2 h H locs hW ls hl
    rw [jd_X7_kindAt_44] at h
    refine lv_iload_n S.1 S.2.1 dX7_kindAt_44 rfl (lv_at hl 0 rfl) ?_
    refine lv_bipush (v := (59 : Int32)) S.1 S.2.1 dX7_kindAt_45 kb_59 ?_
    obtain ⟨y1, e2, h⟩ := lt1_e h
    suffices hM3 : ∀ ls : Array Slot, lv_has ls 3 [] → W p l e rmX7_kindAt s m (List.toArray [.ref h0, .int p1]) below meth c H locs 0 0 (MQ below (kQ (dC, dI) (cwX7 cI cJ cZ cB h0 a0 c0 []) (some (.int r)) A) (List.toArray [.ref h0, .int p1]) s 0 0 A) (F0 m 65 ls [.int y1]) by
      refine lv_icmp_ne (tgt := 54) S.1 S.2.1 dX7_kindAt_47 (by decide) (fun u4 => ?_) (fun u4 => ?_)
      · refine lv_iload_n S.1 S.2.1 dX7_kindAt_54 rfl (lv_at hl 0 rfl) ?_
        refine lv_bipush (v := (32 : Int32)) S.1 S.2.1 dX7_kindAt_55 kb_32 ?_
        refine lv_icmp_ne (tgt := 64) S.1 S.2.1 dX7_kindAt_57 (by decide) (fun u5 => ?_) (fun u5 => ?_)
        · refine lv_iconst (v := (4 : Int32)) S.1 S.2.1 dX7_kindAt_64 ki_4 ?_
          have e2 := e2.trans ((if_neg u4).trans (if_neg u5))
          subst e2
          exact hM3 ls (lv_sub hl [] rfl)
        · refine lv_iconst (v := (5 : Int32)) S.1 S.2.1 dX7_kindAt_60 ki_5 ?_
          refine lv_goto (tgt := 65) S.1 S.2.1 dX7_kindAt_61 (by decide) ?_
          have e2 := e2.trans ((if_neg u4).trans (if_pos u5))
          subst e2
          exact hM3 ls (lv_sub hl [] rfl)
      · refine lv_iconst (v := (3 : Int32)) S.1 S.2.1 dX7_kindAt_50 ki_3 ?_
        refine lv_goto (tgt := 65) S.1 S.2.1 dX7_kindAt_51 (by decide) ?_
        have e2 := e2.trans (if_pos u4)
        subst e2
        exact hM3 ls (lv_sub hl [] rfl)
    intro ls hl
    have f6 := Option.some.inj h
    subst f6
    exact ri S hr hlocks hW dX7_kindAt_65
  have hJ30 : ∀ (x2 : Int32), jd_X7_kindAt_30 c0 x2 = some (r) → ∀ (H : Heap) (locs : List Loc), wd (dC, dI) A s.heap (clX7 cI cJ cZ cB h0 a0 (c0 0) (c0 1 0) (c0 2 0) (c0 3 0) (c0 4 0) (c0 5 0) []) H locs → ∀ ls : Array Slot, lv_has ls 3 [(2, .int x2)] → W p l e rmX7_kindAt s m (List.toArray [.ref h0, .int p1]) below meth c H locs 0 0 (MQ below (kQ (dC, dI) (cwX7 cI cJ cZ cB h0 a0 c0 []) (some (.int r)) A) (List.toArray [.ref h0, .int p1]) s 0 0 A) (F0 m 30 ls []) := by
    intro x2 h H locs hW ls hl
    rw [jd_X7_kindAt_30] at h
    refine lv_iload_n S.1 S.2.1 dX7_kindAt_30 rfl (lv_at hl 0 rfl) ?_
    refine lv_bipush (v := (48 : Int32)) S.1 S.2.1 dX7_kindAt_31 kb_48 ?_
    refine lv_icmp_lt (tgt := 44) S.1 S.2.1 dX7_kindAt_33 (by decide) (fun u7 => ?_) (fun u7 => ?_)
    · have h := of_p u7 h
      exact hJ44 _ h H locs hW ls (lv_sub hl [0] rfl)
    · have h := of_n u7 h
      refine lv_iload_n S.1 S.2.1 dX7_kindAt_36 rfl (lv_at hl 0 rfl) ?_
      refine lv_bipush (v := (57 : Int32)) S.1 S.2.1 dX7_kindAt_37 kb_57 ?_
      refine lv_icmp_gt (tgt := 44) S.1 S.2.1 dX7_kindAt_39 (by decide) (fun u8 => ?_) (fun u8 => ?_)
      · have h := of_p u8 h
        exact hJ44 _ h H locs hW ls (lv_sub hl [0] rfl)
      · have h := of_n u8 h
        refine lv_iconst (v := (2 : Int32)) S.1 S.2.1 dX7_kindAt_42 ki_2 ?_
        have f9 := Option.some.inj h
        subst f9
        exact ri S hr hlocks hW dX7_kindAt_43
  refine lv_iload_n S.1 S.2.1 dX7_kindAt_0 rfl (lv_at hl 1 rfl) ?_
  refine lv_aload_n S.1 S.2.1 dX7_kindAt_1 rfl (lv_at hl 0 rfl) ?_
  refine gf (C := RX7) (T := TX7) (N := 6) (ci := 3) (k := 1) S hK hW wu_X7 rfl (by decide) wf_X7_15 0 rfl rfl dX7_kindAt_2 ?_
  refine lv_icmp_lt (tgt := 10) S.1 S.2.1 dX7_kindAt_5 (by decide) (fun u10 => ?_) (fun u10 => ?_)
  · have h := of_p u10 h
    refine lv_aload_n S.1 S.2.1 dX7_kindAt_10 rfl (lv_at hl 0 rfl) ?_
    refine lv_iload_n S.1 S.2.1 dX7_kindAt_11 rfl (lv_at hl 1 rfl) ?_
    obtain ⟨r11, hy12, h⟩ := bd1_e h
    refine kv0 S hK hN hZ hA hW (rest := []) (t_X7_byteAt l dC dI cI cJ cZ cB zz h0 a0 c0 p1 _  hy12) wl_X7_38 wv_X7_byteAt rfl rfl ⟨Nat.le_of_ble_eq_true rfl, Nat.le_of_ble_eq_true rfl⟩ [] [] rfl 0 rfl rfl rfl rfl hl.1 rfl (Nat.le_of_ble_eq_true rfl) dX7_kindAt_12 [.int r11] rfl (fun H locs hW => ?_)
    refine lv_istore_n (lv' := [(2, .int r11), (0, .ref h0), (1, .int p1)]) S.1 S.2.1 dX7_kindAt_15 rfl hl (by decide) rfl (fun ls hl => ?_)
    refine lv_iload_n S.1 S.2.1 dX7_kindAt_16 rfl (lv_at hl 0 rfl) ?_
    refine lv_bipush (v := (97 : Int32)) S.1 S.2.1 dX7_kindAt_17 kb_97 ?_
    refine lv_icmp_lt (tgt := 30) S.1 S.2.1 dX7_kindAt_19 (by decide) (fun u13 => ?_) (fun u13 => ?_)
    · have h := of_p u13 h
      exact hJ30 _ h H locs hW ls (lv_sub hl [0] rfl)
    · have h := of_n u13 h
      refine lv_iload_n S.1 S.2.1 dX7_kindAt_22 rfl (lv_at hl 0 rfl) ?_
      refine lv_bipush (v := (122 : Int32)) S.1 S.2.1 dX7_kindAt_23 kb_122 ?_
      refine lv_icmp_gt (tgt := 30) S.1 S.2.1 dX7_kindAt_25 (by decide) (fun u14 => ?_) (fun u14 => ?_)
      · have h := of_p u14 h
        exact hJ30 _ h H locs hW ls (lv_sub hl [0] rfl)
      · have h := of_n u14 h
        refine lv_iconst (v := (1 : Int32)) S.1 S.2.1 dX7_kindAt_28 ki_1 ?_
        have f15 := Option.some.inj h
        subst f15
        exact ri S hr hlocks hW dX7_kindAt_29
  · have h := of_n u10 h
    refine lv_iconst (v := (0 : Int32)) S.1 S.2.1 dX7_kindAt_8 ki_0 ?_
    have f16 := Option.some.inj h
    subst f16
    exact ri S hr hlocks hW dX7_kindAt_9
abbrev rmX7_takeNumber : Room := { frames := 1, cells := 0, slots := 0, locals := 21 }
set_option maxHeartbeats 4000000 in
set_option maxRecDepth 100000 in
theorem t_X7_takeNumber (l : Launch) (dC : Nat → ClassId) (dI : Nat → Nat → Nat) (cI cJ cZ cB : ClassId) (zz : ZT)  (h0 : Nat) (a0 : Nat → Nat) (F : Nat) (c0 : Nat → Nat → Int32) (c0' : Nat → Nat → Int32) (hm : md_X7_takeNumber F c0 = some (c0')) : ct l (dC, dI) zz (ty4 cI cJ cZ cB) yX7_takeNumber cX7_takeNumber 2 none rmX7_takeNumber [.ref h0] (cwX7 cI cJ cZ cB h0 a0 c0 []) (cwX7 cI cJ cZ cB h0 a0 c0' []) none := by
  refine ct_of (cc := cX7_takeNumber) (maxL := 2) (ret := none) (by decide) (Nat.le_of_ble_eq_true rfl) ?_
  intro p e s m below meth c A S hr hlocks hK hN hZ hA H locs hW ls hl
  have S : CallFix p m c cX7_takeNumber 2 s (List.toArray [.ref h0]) G RX7 := S
  have hl : lv_has ls 2 [(0, .ref h0)] := hl
  have h := hm
  rw [md_X7_takeNumber] at h
  have hW : wd (dC, dI) A s.heap (clX7 cI cJ cZ cB h0 a0 (c0 0) (c0 1 0) (c0 2 0) (c0 3 0) (c0 4 0) (c0 5 0) []) H locs := hW
  have hL29 : ∀ (n29 : Nat) (c0 : Nat → Nat → Int32) (x1 : Int32), ld_X7_takeNumber_29 F n29 c0 x1 = some (c0') → ∀ (H : Heap) (locs : List Loc), wd (dC, dI) A s.heap (clX7 cI cJ cZ cB h0 a0 (c0 0) (c0 1 0) (c0 2 0) (c0 3 0) (c0 4 0) (c0 5 0) []) H locs → ∀ ls : Array Slot, lv_has ls 2 [(0, .ref h0), (1, .int x1)] → W p l e rmX7_takeNumber s m (List.toArray [.ref h0]) below meth c H locs 0 0 (MQ below (kQ (dC, dI) (cwX7 cI cJ cZ cB h0 a0 c0' []) none A) (List.toArray [.ref h0]) s 0 0 A) (F0 m 29 ls []) := by
    intro n29
    induction n29 with
    | zero => intro c0 x1 h; rw [ld_X7_takeNumber_29] at h; cases h
    | succ n29 ih29 =>
      intro c0 x1 h H locs hW ls hl
      rw [ld_X7_takeNumber_29] at h
      refine lv_iload_n S.1 S.2.1 dX7_takeNumber_29 rfl (lv_at hl 1 rfl) ?_
      refine lv_aload_n S.1 S.2.1 dX7_takeNumber_30 rfl (lv_at hl 0 rfl) ?_
      refine gf (C := RX7) (T := TX7) (N := 6) (ci := 3) (k := 5) S hK hW wu_X7 rfl (by decide) wf_X7_25 0 rfl rfl dX7_takeNumber_31 ?_
      refine lv_icmp_ge (tgt := 63) S.1 S.2.1 dX7_takeNumber_34 (by decide) (fun u1 => ?_) (fun u1 => ?_)
      · have h := of_p u1 h
        have f2 := Option.some.inj h
        subst f2
        exact rv S hr hlocks hW dX7_takeNumber_63
      · have h := of_n u1 h
        refine lv_aload_n S.1 S.2.1 dX7_takeNumber_37 rfl (lv_at hl 0 rfl) ?_
        refine lv_bipush (v := (10 : Int32)) S.1 S.2.1 dX7_takeNumber_38 kb_10 ?_
        refine lv_aload_n S.1 S.2.1 dX7_takeNumber_40 rfl (lv_at hl 0 rfl) ?_
        refine gf (C := RX7) (T := TX7) (N := 6) (ci := 3) (k := 4) S hK hW wu_X7 rfl (by decide) wf_X7_35 0 rfl rfl dX7_takeNumber_41 ?_
        refine lv_imul S.1 S.2.1 dX7_takeNumber_44 ?_
        refine lv_aload_n S.1 S.2.1 dX7_takeNumber_45 rfl (lv_at hl 0 rfl) ?_
        refine lv_iload_n S.1 S.2.1 dX7_takeNumber_46 rfl (lv_at hl 1 rfl) ?_
        obtain ⟨r3, hy4, h⟩ := bd1_e h
        refine kv0 S hK hN hZ hA hW (rest := [.int ((10 : Int32) * (c0 4 0)), .ref h0]) (t_X7_byteAt l dC dI cI cJ cZ cB zz h0 a0 c0 x1 _  hy4) wl_X7_38 wv_X7_byteAt rfl rfl ⟨Nat.le_of_ble_eq_true rfl, Nat.le_of_ble_eq_true rfl⟩ [] [] rfl 0 rfl rfl rfl rfl hl.1 rfl (Nat.le_of_ble_eq_true rfl) dX7_takeNumber_47 [.int r3, .int ((10 : Int32) * (c0 4 0)), .ref h0] rfl (fun H locs hW => ?_)
        refine lv_iadd S.1 S.2.1 dX7_takeNumber_50 ?_
        refine lv_bipush (v := (48 : Int32)) S.1 S.2.1 dX7_takeNumber_51 kb_48 ?_
        refine lv_isub S.1 S.2.1 dX7_takeNumber_53 ?_
        refine pf (C := RX7) (T := TX7) (N := 6) (ci := 3) (k := 4) (ty := .int) S hK hW wu_X7 rfl (by decide) tyX7 tyX7_ok nmX7 wf_X7_35 0 rfl rfl rfl rfl rfl (Nat.le_of_ble_eq_true rfl) dX7_takeNumber_54 (fun H locs hW => ?_)
        have hW : wd (dC, dI) A s.heap (clX7 cI cJ cZ cB h0 a0 (c0 0) (c0 1 0) (c0 2 0) (c0 3 0) ((((10 : Int32) * (c0 4 0)) + r3) - (48 : Int32)) (c0 5 0) []) H locs := hW
        refine lv_iinc (v := (x1 + (1 : Int32))) (lv' := [(1, .int (x1 + (1 : Int32))), (0, .ref h0)]) S.1 S.2.1 dX7_takeNumber_57 hl (k := 1) rfl (congrArg (fun z => x1 + z) ki_1) (by decide) rfl (fun ls hl => ?_)
        refine lv_goto (tgt := 29) S.1 S.2.1 dX7_takeNumber_60 (by decide) ?_
        exact ih29 _ _ h H locs hW ls (lv_sub hl [1, 0] rfl)
  refine lv_aload_n S.1 S.2.1 dX7_takeNumber_0 rfl (lv_at hl 0 rfl) ?_
  refine gf (C := RX7) (T := TX7) (N := 6) (ci := 3) (k := 5) S hK hW wu_X7 rfl (by decide) wf_X7_25 0 rfl rfl dX7_takeNumber_1 ?_
  refine lv_aload_n S.1 S.2.1 dX7_takeNumber_4 rfl (lv_at hl 0 rfl) ?_
  refine gf (C := RX7) (T := TX7) (N := 6) (ci := 3) (k := 3) S hK hW wu_X7 rfl (by decide) wf_X7_22 0 rfl rfl dX7_takeNumber_5 ?_
  refine lv_isub S.1 S.2.1 dX7_takeNumber_8 ?_
  refine lv_iconst (v := (2 : Int32)) S.1 S.2.1 dX7_takeNumber_9 ki_2 ?_
  refine lv_icmp_le (tgt := 19) S.1 S.2.1 dX7_takeNumber_10 (by decide) (fun u5 => ?_) (fun u5 => ?_)
  · have h := of_p u5 h
    refine lv_aload_n S.1 S.2.1 dX7_takeNumber_19 rfl (lv_at hl 0 rfl) ?_
    refine lv_iconst (v := (0 : Int32)) S.1 S.2.1 dX7_takeNumber_20 ki_0 ?_
    refine pf (C := RX7) (T := TX7) (N := 6) (ci := 3) (k := 4) (ty := .int) S hK hW wu_X7 rfl (by decide) tyX7 tyX7_ok nmX7 wf_X7_35 0 rfl rfl rfl rfl rfl (Nat.le_of_ble_eq_true rfl) dX7_takeNumber_21 (fun H locs hW => ?_)
    have hW : wd (dC, dI) A s.heap (clX7 cI cJ cZ cB h0 a0 (c0 0) (c0 1 0) (c0 2 0) (c0 3 0) (0 : Int32) (c0 5 0) []) H locs := hW
    refine lv_aload_n S.1 S.2.1 dX7_takeNumber_24 rfl (lv_at hl 0 rfl) ?_
    refine gf (C := RX7) (T := TX7) (N := 6) (ci := 3) (k := 3) S hK hW wu_X7 rfl (by decide) wf_X7_22 0 rfl rfl dX7_takeNumber_25 ?_
    refine lv_istore_n (lv' := [(1, .int (c0 3 0)), (0, .ref h0)]) S.1 S.2.1 dX7_takeNumber_28 rfl hl (by decide) rfl (fun ls hl => ?_)
    exact hL29 F _ _ h H locs hW ls (lv_sub hl [1, 0] rfl)
  · have h := of_n u5 h
    refine lv_aload_n S.1 S.2.1 dX7_takeNumber_13 rfl (lv_at hl 0 rfl) ?_
    refine lv_iconst (v := (4 : Int32)) S.1 S.2.1 dX7_takeNumber_14 ki_4 ?_
    refine pf (C := RX7) (T := TX7) (N := 6) (ci := 3) (k := 2) (ty := .int) S hK hW wu_X7 rfl (by decide) tyX7 tyX7_ok nmX7 wf_X7_19 0 rfl rfl rfl rfl rfl (Nat.le_of_ble_eq_true rfl) dX7_takeNumber_15 (fun H locs hW => ?_)
    have hW : wd (dC, dI) A s.heap (clX7 cI cJ cZ cB h0 a0 (c0 0) (c0 1 0) (4 : Int32) (c0 3 0) (c0 4 0) (c0 5 0) []) H locs := hW
    have f6 := Option.some.inj h
    subst f6
    exact rv S hr hlocks hW dX7_takeNumber_18
abbrev rmX7_next : Room := { frames := 2, cells := 0, slots := 0, locals := 43 }
set_option maxHeartbeats 4000000 in
set_option maxRecDepth 100000 in
theorem t_X7_next (l : Launch) (dC : Nat → ClassId) (dI : Nat → Nat → Nat) (cI cJ cZ cB : ClassId) (zz : ZT)  (h0 : Nat) (a0 : Nat → Nat) (F : Nat) (c0 : Nat → Nat → Int32) (c0' : Nat → Nat → Int32) (hm : md_X7_next F c0 = some (c0')) : ct l (dC, dI) zz (ty4 cI cJ cZ cB) yX7_next cX7_next 1 none rmX7_next [.ref h0] (cwX7 cI cJ cZ cB h0 a0 c0 []) (cwX7 cI cJ cZ cB h0 a0 c0' []) none := by
  refine ct_of (cc := cX7_next) (maxL := 1) (ret := none) (by decide) (Nat.le_of_ble_eq_true rfl) ?_
  intro p e s m below meth c A S hr hlocks hK hN hZ hA H locs hW ls hl
  have S : CallFix p m c cX7_next 1 s (List.toArray [.ref h0]) G RX7 := S
  have hl : lv_has ls 1 [(0, .ref h0)] := hl
  have h := hm
  rw [md_X7_next] at h
  have hW : wd (dC, dI) A s.heap (clX7 cI cJ cZ cB h0 a0 (c0 0) (c0 1 0) (c0 2 0) (c0 3 0) (c0 4 0) (c0 5 0) []) H locs := hW
  have hJ135 : ∀ (c0 : Nat → Nat → Int32), jd_X7_next_135 F c0 = some (c0') → ∀ (H : Heap) (locs : List Loc), wd (dC, dI) A s.heap (clX7 cI cJ cZ cB h0 a0 (c0 0) (c0 1 0) (c0 2 0) (c0 3 0) (c0 4 0) (c0 5 0) []) H locs → ∀ ls : Array Slot, lv_has ls 1 [(0, .ref h0)] → W p l e rmX7_next s m (List.toArray [.ref h0]) below meth c H locs 0 0 (MQ below (kQ (dC, dI) (cwX7 cI cJ cZ cB h0 a0 c0' []) none A) (List.toArray [.ref h0]) s 0 0 A) (F0 m 135 ls []) := by
    intro c0 h H locs hW ls hl
    rw [jd_X7_next_135] at h
    refine lv_aload_n S.1 S.2.1 dX7_next_135 rfl (lv_at hl 0 rfl) ?_
    refine gf (C := RX7) (T := TX7) (N := 6) (ci := 3) (k := 2) S hK hW wu_X7 rfl (by decide) wf_X7_19 0 rfl rfl dX7_next_136 ?_
    refine lv_iconst (v := (2 : Int32)) S.1 S.2.1 dX7_next_139 ki_2 ?_
    refine lv_icmp_ne (tgt := 147) S.1 S.2.1 dX7_next_140 (by decide) (fun u1 => ?_) (fun u1 => ?_)
    · have h := of_n u1 h
      have f2 := Option.some.inj h
      subst f2
      exact rv S hr hlocks hW dX7_next_147
    · have h := of_p u1 h
      refine lv_aload_n S.1 S.2.1 dX7_next_143 rfl (lv_at hl 0 rfl) ?_
      obtain ⟨cv3, hy4, h⟩ := bd1_e h
      refine kv (clX7 cI cJ cZ cB h0 a0 (cv3 0) (cv3 1 0) (cv3 2 0) (cv3 3 0) (cv3 4 0) (cv3 5 0) []) S hK hN hZ hA hW (rest := []) (t_X7_takeNumber l dC dI cI cJ cZ cB zz h0 a0 F c0 _  hy4) wl_X7_32 wv_X7_takeNumber rfl rfl ⟨Nat.le_of_ble_eq_true rfl, Nat.le_of_ble_eq_true rfl⟩ [] [] rfl rfl rfl 0 rfl rfl rfl rfl hl.1 rfl (Nat.le_of_ble_eq_true rfl) dX7_next_144 [] rfl (fun H locs hW => ?_)
      have f5 := Option.some.inj h
      subst f5
      exact rv S hr hlocks hW dX7_next_147
  have hL80 : ∀ (n80 : Nat) (c0 : Nat → Nat → Int32), ld_X7_next_80 F n80 c0 = some (c0') → ∀ (H : Heap) (locs : List Loc), wd (dC, dI) A s.heap (clX7 cI cJ cZ cB h0 a0 (c0 0) (c0 1 0) (c0 2 0) (c0 3 0) (c0 4 0) (c0 5 0) []) H locs → ∀ ls : Array Slot, lv_has ls 1 [(0, .ref h0)] → W p l e rmX7_next s m (List.toArray [.ref h0]) below meth c H locs 0 0 (MQ below (kQ (dC, dI) (cwX7 cI cJ cZ cB h0 a0 c0' []) none A) (List.toArray [.ref h0]) s 0 0 A) (F0 m 80 ls []) := by
    intro n80
    induction n80 with
    | zero => intro c0 h; rw [ld_X7_next_80] at h; cases h
    | succ n80 ih80 =>
      intro c0 h H locs hW ls hl
      rw [ld_X7_next_80] at h
      have hJ107 : ∀ (c0 : Nat → Nat → Int32), jd_X7_next_107 F (ld_X7_next_80 F n80) c0 = some (c0') → ∀ (H : Heap) (locs : List Loc), wd (dC, dI) A s.heap (clX7 cI cJ cZ cB h0 a0 (c0 0) (c0 1 0) (c0 2 0) (c0 3 0) (c0 4 0) (c0 5 0) []) H locs → ∀ ls : Array Slot, lv_has ls 1 [(0, .ref h0)] → W p l e rmX7_next s m (List.toArray [.ref h0]) below meth c H locs 0 0 (MQ below (kQ (dC, dI) (cwX7 cI cJ cZ cB h0 a0 c0' []) none A) (List.toArray [.ref h0]) s 0 0 A) (F0 m 107 ls []) := by
        intro c0 h H locs hW ls hl
        rw [jd_X7_next_107] at h
        refine lv_aload_n S.1 S.2.1 dX7_next_107 rfl (lv_at hl 0 rfl) ?_
        refine lv_aload_n S.1 S.2.1 dX7_next_108 rfl (lv_at hl 0 rfl) ?_
        refine gf (C := RX7) (T := TX7) (N := 6) (ci := 3) (k := 5) S hK hW wu_X7 rfl (by decide) wf_X7_25 0 rfl rfl dX7_next_109 ?_
        obtain ⟨r6, hy7, h⟩ := bd1_e h
        refine kv0 S hK hN hZ hA hW (rest := []) (t_X7_kindAt l dC dI cI cJ cZ cB zz h0 a0 c0 (c0 5 0) _  hy7) wl_X7_28 wv_X7_kindAt rfl rfl ⟨Nat.le_of_ble_eq_true rfl, Nat.le_of_ble_eq_true rfl⟩ [] [] rfl 0 rfl rfl rfl rfl hl.1 rfl (Nat.le_of_ble_eq_true rfl) dX7_next_112 [.int r6] rfl (fun H locs hW => ?_)
        refine lv_aload_n S.1 S.2.1 dX7_next_115 rfl (lv_at hl 0 rfl) ?_
        refine gf (C := RX7) (T := TX7) (N := 6) (ci := 3) (k := 2) S hK hW wu_X7 rfl (by decide) wf_X7_19 0 rfl rfl dX7_next_116 ?_
        refine lv_icmp_ne (tgt := 135) S.1 S.2.1 dX7_next_119 (by decide) (fun u8 => ?_) (fun u8 => ?_)
        · have h := of_n u8 h
          exact hJ135 _ h H locs hW ls (lv_sub hl [0] rfl)
        · have h := of_p u8 h
          refine lv_aload_n S.1 S.2.1 dX7_next_122 rfl (lv_at hl 0 rfl) ?_
          refine lv_dup S.1 S.2.1 dX7_next_123 rfl ?_
          refine gf (C := RX7) (T := TX7) (N := 6) (ci := 3) (k := 5) S hK hW wu_X7 rfl (by decide) wf_X7_25 0 rfl rfl dX7_next_124 ?_
          refine lv_iconst (v := (1 : Int32)) S.1 S.2.1 dX7_next_127 ki_1 ?_
          refine lv_iadd S.1 S.2.1 dX7_next_128 ?_
          refine pf (C := RX7) (T := TX7) (N := 6) (ci := 3) (k := 5) (ty := .int) S hK hW wu_X7 rfl (by decide) tyX7 tyX7_ok nmX7 wf_X7_25 0 rfl rfl rfl rfl rfl (Nat.le_of_ble_eq_true rfl) dX7_next_129 (fun H locs hW => ?_)
          have hW : wd (dC, dI) A s.heap (clX7 cI cJ cZ cB h0 a0 (c0 0) (c0 1 0) (c0 2 0) (c0 3 0) (c0 4 0) ((c0 5 0) + (1 : Int32)) []) H locs := hW
          refine lv_goto (tgt := 80) S.1 S.2.1 dX7_next_132 (by decide) ?_
          exact ih80 _ h H locs hW ls (lv_sub hl [0] rfl)
      refine lv_aload_n S.1 S.2.1 dX7_next_80 rfl (lv_at hl 0 rfl) ?_
      refine gf (C := RX7) (T := TX7) (N := 6) (ci := 3) (k := 5) S hK hW wu_X7 rfl (by decide) wf_X7_25 0 rfl rfl dX7_next_81 ?_
      refine lv_aload_n S.1 S.2.1 dX7_next_84 rfl (lv_at hl 0 rfl) ?_
      refine gf (C := RX7) (T := TX7) (N := 6) (ci := 3) (k := 1) S hK hW wu_X7 rfl (by decide) wf_X7_15 0 rfl rfl dX7_next_85 ?_
      refine lv_icmp_ge (tgt := 135) S.1 S.2.1 dX7_next_88 (by decide) (fun u9 => ?_) (fun u9 => ?_)
      · have h := of_p u9 h
        exact hJ135 _ h H locs hW ls (lv_sub hl [0] rfl)
      · have h := of_n u9 h
        refine lv_aload_n S.1 S.2.1 dX7_next_91 rfl (lv_at hl 0 rfl) ?_
        refine gf (C := RX7) (T := TX7) (N := 6) (ci := 3) (k := 2) S hK hW wu_X7 rfl (by decide) wf_X7_19 0 rfl rfl dX7_next_92 ?_
        refine lv_iconst (v := (1 : Int32)) S.1 S.2.1 dX7_next_95 ki_1 ?_
        refine lv_icmp_eq (tgt := 107) S.1 S.2.1 dX7_next_96 (by decide) (fun u10 => ?_) (fun u10 => ?_)
        · have h := of_p u10 h
          exact hJ107 _ h H locs hW ls (lv_sub hl [0] rfl)
        · have h := of_n u10 h
          refine lv_aload_n S.1 S.2.1 dX7_next_99 rfl (lv_at hl 0 rfl) ?_
          refine gf (C := RX7) (T := TX7) (N := 6) (ci := 3) (k := 2) S hK hW wu_X7 rfl (by decide) wf_X7_19 0 rfl rfl dX7_next_100 ?_
          refine lv_iconst (v := (2 : Int32)) S.1 S.2.1 dX7_next_103 ki_2 ?_
          refine lv_icmp_ne (tgt := 135) S.1 S.2.1 dX7_next_104 (by decide) (fun u11 => ?_) (fun u11 => ?_)
          · have h := of_n u11 h
            exact hJ135 _ h H locs hW ls (lv_sub hl [0] rfl)
          · have h := of_p u11 h
            exact hJ107 _ h H locs hW ls (lv_sub hl [0] rfl)
  have hJ44 : ∀ (c0 : Nat → Nat → Int32), jd_X7_next_44 F c0 = some (c0') → ∀ (H : Heap) (locs : List Loc), wd (dC, dI) A s.heap (clX7 cI cJ cZ cB h0 a0 (c0 0) (c0 1 0) (c0 2 0) (c0 3 0) (c0 4 0) (c0 5 0) []) H locs → ∀ ls : Array Slot, lv_has ls 1 [(0, .ref h0)] → W p l e rmX7_next s m (List.toArray [.ref h0]) below meth c H locs 0 0 (MQ below (kQ (dC, dI) (cwX7 cI cJ cZ cB h0 a0 c0' []) none A) (List.toArray [.ref h0]) s 0 0 A) (F0 m 44 ls []) := by
    intro c0 h H locs hW ls hl
    rw [jd_X7_next_44] at h
    refine lv_aload_n S.1 S.2.1 dX7_next_44 rfl (lv_at hl 0 rfl) ?_
    refine lv_aload_n S.1 S.2.1 dX7_next_45 rfl (lv_at hl 0 rfl) ?_
    refine lv_aload_n S.1 S.2.1 dX7_next_46 rfl (lv_at hl 0 rfl) ?_
    refine gf (C := RX7) (T := TX7) (N := 6) (ci := 3) (k := 3) S hK hW wu_X7 rfl (by decide) wf_X7_22 0 rfl rfl dX7_next_47 ?_
    obtain ⟨r12, hy13, h⟩ := bd1_e h
    refine kv0 S hK hN hZ hA hW (rest := [.ref h0]) (t_X7_kindAt l dC dI cI cJ cZ cB zz h0 a0 c0 (c0 3 0) _  hy13) wl_X7_28 wv_X7_kindAt rfl rfl ⟨Nat.le_of_ble_eq_true rfl, Nat.le_of_ble_eq_true rfl⟩ [] [] rfl 0 rfl rfl rfl rfl hl.1 rfl (Nat.le_of_ble_eq_true rfl) dX7_next_50 [.int r12, .ref h0] rfl (fun H locs hW => ?_)
    refine pf (C := RX7) (T := TX7) (N := 6) (ci := 3) (k := 2) (ty := .int) S hK hW wu_X7 rfl (by decide) tyX7 tyX7_ok nmX7 wf_X7_19 0 rfl rfl rfl rfl rfl (Nat.le_of_ble_eq_true rfl) dX7_next_53 (fun H locs hW => ?_)
    have hW : wd (dC, dI) A s.heap (clX7 cI cJ cZ cB h0 a0 (c0 0) (c0 1 0) r12 (c0 3 0) (c0 4 0) (c0 5 0) []) H locs := hW
    refine lv_aload_n S.1 S.2.1 dX7_next_56 rfl (lv_at hl 0 rfl) ?_
    refine lv_aload_n S.1 S.2.1 dX7_next_57 rfl (lv_at hl 0 rfl) ?_
    refine gf (C := RX7) (T := TX7) (N := 6) (ci := 3) (k := 2) S hK hW wu_X7 rfl (by decide) wf_X7_19 0 rfl rfl dX7_next_58 ?_
    obtain ⟨y14, e15, h⟩ := lt1_e h
    suffices hM16 : ∀ ls : Array Slot, lv_has ls 1 [(0, .ref h0)] → W p l e rmX7_next s m (List.toArray [.ref h0]) below meth c H locs 0 0 (MQ below (kQ (dC, dI) (cwX7 cI cJ cZ cB h0 a0 c0' []) none A) (List.toArray [.ref h0]) s 0 0 A) (F0 m 77 ls [.int y14, .ref h0]) by
      refine lv_if_ne (tgt := 71) S.1 S.2.1 dX7_next_61 (by decide) (fun u17 => ?_) (fun u17 => ?_)
      · refine lv_aload_n S.1 S.2.1 dX7_next_71 rfl (lv_at hl 0 rfl) ?_
        refine gf (C := RX7) (T := TX7) (N := 6) (ci := 3) (k := 3) S hK hW wu_X7 rfl (by decide) wf_X7_22 0 rfl rfl dX7_next_72 ?_
        refine lv_iconst (v := (1 : Int32)) S.1 S.2.1 dX7_next_75 ki_1 ?_
        refine lv_iadd S.1 S.2.1 dX7_next_76 ?_
        have e15 := e15.trans (if_neg u17)
        subst e15
        exact hM16 ls (lv_sub hl [0] rfl)
      · refine lv_aload_n S.1 S.2.1 dX7_next_64 rfl (lv_at hl 0 rfl) ?_
        refine gf (C := RX7) (T := TX7) (N := 6) (ci := 3) (k := 3) S hK hW wu_X7 rfl (by decide) wf_X7_22 0 rfl rfl dX7_next_65 ?_
        refine lv_goto (tgt := 77) S.1 S.2.1 dX7_next_68 (by decide) ?_
        have e15 := e15.trans (if_pos u17)
        subst e15
        exact hM16 ls (lv_sub hl [0] rfl)
    intro ls hl
    refine pf (C := RX7) (T := TX7) (N := 6) (ci := 3) (k := 5) (ty := .int) S hK hW wu_X7 rfl (by decide) tyX7 tyX7_ok nmX7 wf_X7_25 0 rfl rfl rfl rfl rfl (Nat.le_of_ble_eq_true rfl) dX7_next_77 (fun H locs hW => ?_)
    have hW : wd (dC, dI) A s.heap (clX7 cI cJ cZ cB h0 a0 (c0 0) (c0 1 0) r12 (c0 3 0) (c0 4 0) y14 []) H locs := hW
    exact hL80 F _ h H locs hW ls (lv_sub hl [0] rfl)
  have hL8 : ∀ (n8 : Nat) (c0 : Nat → Nat → Int32), ld_X7_next_8 F n8 c0 = some (c0') → ∀ (H : Heap) (locs : List Loc), wd (dC, dI) A s.heap (clX7 cI cJ cZ cB h0 a0 (c0 0) (c0 1 0) (c0 2 0) (c0 3 0) (c0 4 0) (c0 5 0) []) H locs → ∀ ls : Array Slot, lv_has ls 1 [(0, .ref h0)] → W p l e rmX7_next s m (List.toArray [.ref h0]) below meth c H locs 0 0 (MQ below (kQ (dC, dI) (cwX7 cI cJ cZ cB h0 a0 c0' []) none A) (List.toArray [.ref h0]) s 0 0 A) (F0 m 8 ls []) := by
    intro n8
    induction n8 with
    | zero => intro c0 h; rw [ld_X7_next_8] at h; cases h
    | succ n8 ih8 =>
      intro c0 h H locs hW ls hl
      rw [ld_X7_next_8] at h
      refine lv_aload_n S.1 S.2.1 dX7_next_8 rfl (lv_at hl 0 rfl) ?_
      refine gf (C := RX7) (T := TX7) (N := 6) (ci := 3) (k := 3) S hK hW wu_X7 rfl (by decide) wf_X7_22 0 rfl rfl dX7_next_9 ?_
      refine lv_aload_n S.1 S.2.1 dX7_next_12 rfl (lv_at hl 0 rfl) ?_
      refine gf (C := RX7) (T := TX7) (N := 6) (ci := 3) (k := 1) S hK hW wu_X7 rfl (by decide) wf_X7_15 0 rfl rfl dX7_next_13 ?_
      refine lv_icmp_ge (tgt := 44) S.1 S.2.1 dX7_next_16 (by decide) (fun u18 => ?_) (fun u18 => ?_)
      · have h := of_p u18 h
        exact hJ44 _ h H locs hW ls (lv_sub hl [0] rfl)
      · have h := of_n u18 h
        refine lv_aload_n S.1 S.2.1 dX7_next_19 rfl (lv_at hl 0 rfl) ?_
        refine lv_aload_n S.1 S.2.1 dX7_next_20 rfl (lv_at hl 0 rfl) ?_
        refine gf (C := RX7) (T := TX7) (N := 6) (ci := 3) (k := 3) S hK hW wu_X7 rfl (by decide) wf_X7_22 0 rfl rfl dX7_next_21 ?_
        obtain ⟨r19, hy20, h⟩ := bd1_e h
        refine kv0 S hK hN hZ hA hW (rest := []) (t_X7_kindAt l dC dI cI cJ cZ cB zz h0 a0 c0 (c0 3 0) _  hy20) wl_X7_28 wv_X7_kindAt rfl rfl ⟨Nat.le_of_ble_eq_true rfl, Nat.le_of_ble_eq_true rfl⟩ [] [] rfl 0 rfl rfl rfl rfl hl.1 rfl (Nat.le_of_ble_eq_true rfl) dX7_next_24 [.int r19] rfl (fun H locs hW => ?_)
        refine lv_iconst (v := (5 : Int32)) S.1 S.2.1 dX7_next_27 ki_5 ?_
        refine lv_icmp_ne (tgt := 44) S.1 S.2.1 dX7_next_28 (by decide) (fun u21 => ?_) (fun u21 => ?_)
        · have h := of_n u21 h
          exact hJ44 _ h H locs hW ls (lv_sub hl [0] rfl)
        · have h := of_p u21 h
          refine lv_aload_n S.1 S.2.1 dX7_next_31 rfl (lv_at hl 0 rfl) ?_
          refine lv_dup S.1 S.2.1 dX7_next_32 rfl ?_
          refine gf (C := RX7) (T := TX7) (N := 6) (ci := 3) (k := 3) S hK hW wu_X7 rfl (by decide) wf_X7_22 0 rfl rfl dX7_next_33 ?_
          refine lv_iconst (v := (1 : Int32)) S.1 S.2.1 dX7_next_36 ki_1 ?_
          refine lv_iadd S.1 S.2.1 dX7_next_37 ?_
          refine pf (C := RX7) (T := TX7) (N := 6) (ci := 3) (k := 3) (ty := .int) S hK hW wu_X7 rfl (by decide) tyX7 tyX7_ok nmX7 wf_X7_22 0 rfl rfl rfl rfl rfl (Nat.le_of_ble_eq_true rfl) dX7_next_38 (fun H locs hW => ?_)
          have hW : wd (dC, dI) A s.heap (clX7 cI cJ cZ cB h0 a0 (c0 0) (c0 1 0) (c0 2 0) ((c0 3 0) + (1 : Int32)) (c0 4 0) (c0 5 0) []) H locs := hW
          refine lv_goto (tgt := 8) S.1 S.2.1 dX7_next_41 (by decide) ?_
          exact ih8 _ h H locs hW ls (lv_sub hl [0] rfl)
  refine lv_aload_n S.1 S.2.1 dX7_next_0 rfl (lv_at hl 0 rfl) ?_
  refine lv_aload_n S.1 S.2.1 dX7_next_1 rfl (lv_at hl 0 rfl) ?_
  refine gf (C := RX7) (T := TX7) (N := 6) (ci := 3) (k := 5) S hK hW wu_X7 rfl (by decide) wf_X7_25 0 rfl rfl dX7_next_2 ?_
  refine pf (C := RX7) (T := TX7) (N := 6) (ci := 3) (k := 3) (ty := .int) S hK hW wu_X7 rfl (by decide) tyX7 tyX7_ok nmX7 wf_X7_22 0 rfl rfl rfl rfl rfl (Nat.le_of_ble_eq_true rfl) dX7_next_5 (fun H locs hW => ?_)
  have hW : wd (dC, dI) A s.heap (clX7 cI cJ cZ cB h0 a0 (c0 0) (c0 1 0) (c0 2 0) (c0 5 0) (c0 4 0) (c0 5 0) []) H locs := hW
  exact hL8 F _ h H locs hW ls (lv_sub hl [0] rfl)
abbrev rmX2_numberWithin : Room := { frames := 3, cells := 0, slots := 0, locals := 63 }
set_option maxHeartbeats 4000000 in
set_option maxRecDepth 100000 in
theorem t_X2_numberWithin (l : Launch) (dC : Nat → ClassId) (dI : Nat → Nat → Nat) (cI cJ cZ cB : ClassId) (zz : ZT)  (h0 : Nat) (a0 : Nat → Nat) (a1 : Nat → Nat) (F : Nat) (c1 : Nat → Nat → Int32) (p1 : Int32) (p2 : Int32) (r : Int32) (c1' : Nat → Nat → Int32) (hm : md_X2_numberWithin F c1 p1 p2 = some (r, c1')) : ct l (dC, dI) zz (ty4 cI cJ cZ cB) yX2_numberWithin cX2_numberWithin 3 (some .boolean) rmX2_numberWithin [.ref h0, .int p1, .int p2] (cwX2 cI cJ cZ cB h0 a0  (cwX7 cI cJ cZ cB (a0 0) a1 c1 [])) (cwX2 cI cJ cZ cB h0 a0  (cwX7 cI cJ cZ cB (a0 0) a1 c1' [])) (some (.int r)) := by
  refine ct_of (cc := cX2_numberWithin) (maxL := 3) (ret := (some .boolean)) (by decide) (Nat.le_of_ble_eq_true rfl) ?_
  intro p e s m below meth c A S hr hlocks hK hN hZ hA H locs hW ls hl
  have S : CallFix p m c cX2_numberWithin 3 s (List.toArray [.ref h0, .int p1, .int p2]) G RX2 := S
  have hl : lv_has ls 3 [(0, .ref h0), (1, .int p1), (2, .int p2)] := hl
  have h := hm
  rw [md_X2_numberWithin] at h
  have hW : wd (dC, dI) A s.heap (clX2 cI cJ cZ cB h0 a0  (clX7 cI cJ cZ cB (a0 0) a1 (c1 0) (c1 1 0) (c1 2 0) (c1 3 0) (c1 4 0) (c1 5 0) [])) H locs := hW
  refine lv_aload_n S.1 S.2.1 dX2_numberWithin_0 rfl (lv_at hl 0 rfl) ?_
  refine gf (C := RX2) (T := TX2) (N := 2) (ci := 1) (k := 0) S hK hW wu_X2 rfl (by decide) wf_X2_12 0 rfl rfl dX2_numberWithin_1 ?_
  obtain ⟨cv1, hy2, h⟩ := bd1_e h
  refine kv (clX2 cI cJ cZ cB h0 a0  (clX7 cI cJ cZ cB (a0 0) a1 (cv1 0) (cv1 1 0) (cv1 2 0) (cv1 3 0) (cv1 4 0) (cv1 5 0) [])) S hK hN hZ hA hW (rest := []) (t_X7_next l dC dI cI cJ cZ cB zz (a0 0) a1 F c1 _  hy2) wl_X2_28 wv_X7_next rfl rfl ⟨Nat.le_of_ble_eq_true rfl, Nat.le_of_ble_eq_true rfl⟩ (clX2 cI cJ cZ cB h0 a0  []) [] rfl rfl rfl 1 rfl rfl rfl rfl hl.1 rfl (Nat.le_of_ble_eq_true rfl) dX2_numberWithin_4 [] rfl (fun H locs hW => ?_)
  refine lv_aload_n S.1 S.2.1 dX2_numberWithin_7 rfl (lv_at hl 0 rfl) ?_
  refine gf (C := RX2) (T := TX2) (N := 2) (ci := 1) (k := 0) S hK hW wu_X2 rfl (by decide) wf_X2_12 0 rfl rfl dX2_numberWithin_8 ?_
  refine gf (C := RX7) (T := TX7) (N := 6) (ci := 3) (k := 2) S hK hW wu_X7 rfl (by decide) wf_X2_31 1 rfl rfl dX2_numberWithin_11 ?_
  refine lv_iconst (v := (2 : Int32)) S.1 S.2.1 dX2_numberWithin_14 ki_2 ?_
  refine lv_icmp_ne (tgt := 37) S.1 S.2.1 dX2_numberWithin_15 (by decide) (fun u3 => ?_) (fun u3 => ?_)
  · have h := of_n u3 h
    refine lv_iconst (v := (0 : Int32)) S.1 S.2.1 dX2_numberWithin_37 ki_0 ?_
    have f4 := Option.some.inj h
    obtain ⟨f5, f6⟩ := Prod.mk.inj f4
    subst f5
    subst f6
    exact rz S hr hlocks hW (nz (Or.inl rfl)) dX2_numberWithin_38
  · have h := of_p u3 h
    refine lv_iload_n S.1 S.2.1 dX2_numberWithin_18 rfl (lv_at hl 1 rfl) ?_
    refine lv_aload_n S.1 S.2.1 dX2_numberWithin_19 rfl (lv_at hl 0 rfl) ?_
    refine gf (C := RX2) (T := TX2) (N := 2) (ci := 1) (k := 0) S hK hW wu_X2 rfl (by decide) wf_X2_12 0 rfl rfl dX2_numberWithin_20 ?_
    refine gf (C := RX7) (T := TX7) (N := 6) (ci := 3) (k := 4) S hK hW wu_X7 rfl (by decide) wf_X2_73 1 rfl rfl dX2_numberWithin_23 ?_
    refine lv_iload_n S.1 S.2.1 dX2_numberWithin_26 rfl (lv_at hl 2 rfl) ?_
    obtain ⟨r7, hy8, h⟩ := bd1_e h
    refine kn0 S hK hN hZ hA hW (rest := []) (t_X8_within l dC dI cI cJ cZ cB zz p1 (cv1 4 0) p2 _  hy8) wx_X2_117 wv_X8_within rfl rfl ⟨Nat.le_of_ble_eq_true rfl, Nat.le_of_ble_eq_true rfl⟩ [] (clX2 cI cJ cZ cB h0 a0  (clX7 cI cJ cZ cB (a0 0) a1 (cv1 0) (cv1 1 0) (cv1 2 0) (cv1 3 0) (cv1 4 0) (cv1 5 0) [])) rfl rfl hl.1 rfl (Nat.le_of_ble_eq_true rfl) dX2_numberWithin_27 [.int r7] rfl (fun H locs hW => ?_)
    refine lv_if_eq (tgt := 37) S.1 S.2.1 dX2_numberWithin_30 (by decide) (fun u9 => ?_) (fun u9 => ?_)
    · have h := of_p u9 h
      refine lv_iconst (v := (0 : Int32)) S.1 S.2.1 dX2_numberWithin_37 ki_0 ?_
      have f10 := Option.some.inj h
      obtain ⟨f11, f12⟩ := Prod.mk.inj f10
      subst f11
      subst f12
      exact rz S hr hlocks hW (nz (Or.inl rfl)) dX2_numberWithin_38
    · have h := of_n u9 h
      refine lv_iconst (v := (1 : Int32)) S.1 S.2.1 dX2_numberWithin_33 ki_1 ?_
      refine lv_goto (tgt := 38) S.1 S.2.1 dX2_numberWithin_34 (by decide) ?_
      have f13 := Option.some.inj h
      obtain ⟨f14, f15⟩ := Prod.mk.inj f13
      subst f14
      subst f15
      exact rz S hr hlocks hW (nz (Or.inr rfl)) dX2_numberWithin_38
abbrev rmX2_semicolon : Room := { frames := 3, cells := 0, slots := 0, locals := 63 }
set_option maxHeartbeats 4000000 in
set_option maxRecDepth 100000 in
theorem t_X2_semicolon (l : Launch) (dC : Nat → ClassId) (dI : Nat → Nat → Nat) (cI cJ cZ cB : ClassId) (zz : ZT)  (h0 : Nat) (a0 : Nat → Nat) (a1 : Nat → Nat) (F : Nat) (c1 : Nat → Nat → Int32) (r : Int32) (c1' : Nat → Nat → Int32) (hm : md_X2_semicolon F c1 = some (r, c1')) : ct l (dC, dI) zz (ty4 cI cJ cZ cB) yX2_semicolon cX2_semicolon 1 (some .boolean) rmX2_semicolon [.ref h0] (cwX2 cI cJ cZ cB h0 a0  (cwX7 cI cJ cZ cB (a0 0) a1 c1 [])) (cwX2 cI cJ cZ cB h0 a0  (cwX7 cI cJ cZ cB (a0 0) a1 c1' [])) (some (.int r)) := by
  refine ct_of (cc := cX2_semicolon) (maxL := 1) (ret := (some .boolean)) (by decide) (Nat.le_of_ble_eq_true rfl) ?_
  intro p e s m below meth c A S hr hlocks hK hN hZ hA H locs hW ls hl
  have S : CallFix p m c cX2_semicolon 1 s (List.toArray [.ref h0]) G RX2 := S
  have hl : lv_has ls 1 [(0, .ref h0)] := hl
  have h := hm
  rw [md_X2_semicolon] at h
  have hW : wd (dC, dI) A s.heap (clX2 cI cJ cZ cB h0 a0  (clX7 cI cJ cZ cB (a0 0) a1 (c1 0) (c1 1 0) (c1 2 0) (c1 3 0) (c1 4 0) (c1 5 0) [])) H locs := hW
  refine lv_aload_n S.1 S.2.1 dX2_semicolon_0 rfl (lv_at hl 0 rfl) ?_
  refine gf (C := RX2) (T := TX2) (N := 2) (ci := 1) (k := 0) S hK hW wu_X2 rfl (by decide) wf_X2_12 0 rfl rfl dX2_semicolon_1 ?_
  obtain ⟨cv1, hy2, h⟩ := bd1_e h
  refine kv (clX2 cI cJ cZ cB h0 a0  (clX7 cI cJ cZ cB (a0 0) a1 (cv1 0) (cv1 1 0) (cv1 2 0) (cv1 3 0) (cv1 4 0) (cv1 5 0) [])) S hK hN hZ hA hW (rest := []) (t_X7_next l dC dI cI cJ cZ cB zz (a0 0) a1 F c1 _  hy2) wl_X2_28 wv_X7_next rfl rfl ⟨Nat.le_of_ble_eq_true rfl, Nat.le_of_ble_eq_true rfl⟩ (clX2 cI cJ cZ cB h0 a0  []) [] rfl rfl rfl 1 rfl rfl rfl rfl hl.1 rfl (Nat.le_of_ble_eq_true rfl) dX2_semicolon_4 [] rfl (fun H locs hW => ?_)
  refine lv_aload_n S.1 S.2.1 dX2_semicolon_7 rfl (lv_at hl 0 rfl) ?_
  refine gf (C := RX2) (T := TX2) (N := 2) (ci := 1) (k := 0) S hK hW wu_X2 rfl (by decide) wf_X2_12 0 rfl rfl dX2_semicolon_8 ?_
  refine gf (C := RX7) (T := TX7) (N := 6) (ci := 3) (k := 2) S hK hW wu_X7 rfl (by decide) wf_X2_31 1 rfl rfl dX2_semicolon_11 ?_
  refine lv_iconst (v := (3 : Int32)) S.1 S.2.1 dX2_semicolon_14 ki_3 ?_
  obtain ⟨y3, e4, h⟩ := lt1_e h
  suffices hM5 : ∀ ls : Array Slot, lv_has ls 1 [] → W p l e rmX2_semicolon s m (List.toArray [.ref h0]) below meth c H locs 0 0 (MQ below (kQ (dC, dI) (cwX2 cI cJ cZ cB h0 a0  (cwX7 cI cJ cZ cB (a0 0) a1 c1' [])) (some (.int r)) A) (List.toArray [.ref h0]) s 0 0 A) (F0 m 23 ls [.int y3]) by
    refine lv_icmp_ne (tgt := 22) S.1 S.2.1 dX2_semicolon_15 (by decide) (fun u6 => ?_) (fun u6 => ?_)
    · refine lv_iconst (v := (0 : Int32)) S.1 S.2.1 dX2_semicolon_22 ki_0 ?_
      have e4 := e4.trans (if_neg u6)
      subst e4
      exact hM5 ls (lv_sub hl [] rfl)
    · refine lv_iconst (v := (1 : Int32)) S.1 S.2.1 dX2_semicolon_18 ki_1 ?_
      refine lv_goto (tgt := 23) S.1 S.2.1 dX2_semicolon_19 (by decide) ?_
      have e4 := e4.trans (if_pos u6)
      subst e4
      exact hM5 ls (lv_sub hl [] rfl)
  intro ls hl
  obtain ⟨z7, h⟩ := of_g h
  have f8 := Option.some.inj h
  obtain ⟨f9, f10⟩ := Prod.mk.inj f8
  subst f9
  subst f10
  exact rz S hr hlocks hW (nz z7) dX2_semicolon_23
abbrev rmX2_readBows : Room := { frames := 4, cells := 0, slots := 0, locals := 85 }
set_option maxHeartbeats 4000000 in
set_option maxRecDepth 100000 in
theorem t_X2_readBows (l : Launch) (dC : Nat → ClassId) (dI : Nat → Nat → Nat) (cI cJ cZ cB : ClassId) (zz : ZT)  (h0 : Nat) (a0 : Nat → Nat) (a1 : Nat → Nat) (a2 : Nat → Nat) (F : Nat) (c1 : Nat → Nat → Int32) (c2 : Nat → Nat → Int32) (r : Int32) (c1' : Nat → Nat → Int32) (c2' : Nat → Nat → Int32) (hm : md_X2_readBows F c1 c2 = some (r, c1', c2')) : ct l (dC, dI) zz (ty4 cI cJ cZ cB) yX2_readBows cX2_readBows 2 (some .boolean) rmX2_readBows [.ref h0] (cwX2 cI cJ cZ cB h0 a0  (cwX3 cI cJ cZ cB (a0 1) a1 c1 (cwX7 cI cJ cZ cB (a0 0) a2 c2 []))) (cwX2 cI cJ cZ cB h0 a0  (cwX3 cI cJ cZ cB (a0 1) a1 c1' (cwX7 cI cJ cZ cB (a0 0) a2 c2' []))) (some (.int r)) := by
  refine ct_of (cc := cX2_readBows) (maxL := 2) (ret := (some .boolean)) (by decide) (Nat.le_of_ble_eq_true rfl) ?_
  intro p e s m below meth c A S hr hlocks hK hN hZ hA H locs hW ls hl
  have S : CallFix p m c cX2_readBows 2 s (List.toArray [.ref h0]) G RX2 := S
  have hl : lv_has ls 2 [(0, .ref h0)] := hl
  have h := hm
  rw [md_X2_readBows] at h
  have hW : wd (dC, dI) A s.heap (clX2 cI cJ cZ cB h0 a0  (clX3 cI cJ cZ cB (a0 1) a1 (c1 0) (c1 1) (c1 2) (c1 3) (c1 4) (c1 5 0) (c1 6 0) (c1 7 0) (c1 8 0) (c1 9 0) (clX7 cI cJ cZ cB (a0 0) a2 (c2 0) (c2 1 0) (c2 2 0) (c2 3 0) (c2 4 0) (c2 5 0) []))) H locs := hW
  have hJ53 : ∀ (c1 : Nat → Nat → Int32) (c2 : Nat → Nat → Int32), jd_X2_readBows_53 F c1 c2 = some (r, c1', c2') → ∀ (H : Heap) (locs : List Loc), wd (dC, dI) A s.heap (clX2 cI cJ cZ cB h0 a0  (clX3 cI cJ cZ cB (a0 1) a1 (c1 0) (c1 1) (c1 2) (c1 3) (c1 4) (c1 5 0) (c1 6 0) (c1 7 0) (c1 8 0) (c1 9 0) (clX7 cI cJ cZ cB (a0 0) a2 (c2 0) (c2 1 0) (c2 2 0) (c2 3 0) (c2 4 0) (c2 5 0) []))) H locs → ∀ ls : Array Slot, lv_has ls 2 [(0, .ref h0)] → W p l e rmX2_readBows s m (List.toArray [.ref h0]) below meth c H locs 0 0 (MQ below (kQ (dC, dI) (cwX2 cI cJ cZ cB h0 a0  (cwX3 cI cJ cZ cB (a0 1) a1 c1' (cwX7 cI cJ cZ cB (a0 0) a2 c2' []))) (some (.int r)) A) (List.toArray [.ref h0]) s 0 0 A) (F0 m 53 ls []) := by
    intro c1 c2 h H locs hW ls hl
    rw [jd_X2_readBows_53] at h
    refine lv_aload_n S.1 S.2.1 dX2_readBows_53 rfl (lv_at hl 0 rfl) ?_
    obtain ⟨r1, cv2, hy3, h⟩ := bd2_e h
    have hW : wd (dC, dI) A s.heap (clX2 cI cJ cZ cB h0 a0  (clX7 cI cJ cZ cB (a0 0) a2 (c2 0) (c2 1 0) (c2 2 0) (c2 3 0) (c2 4 0) (c2 5 0) (clX3 cI cJ cZ cB (a0 1) a1 (c1 0) (c1 1) (c1 2) (c1 3) (c1 4) (c1 5 0) (c1 6 0) (c1 7 0) (c1 8 0) (c1 9 0) []))) H locs := wd_sub hW [0, 7, 8, 1, 2, 3, 4, 5, 6] rfl rfl
    refine kv (clX2 cI cJ cZ cB h0 a0  (clX7 cI cJ cZ cB (a0 0) a2 (cv2 0) (cv2 1 0) (cv2 2 0) (cv2 3 0) (cv2 4 0) (cv2 5 0) (clX3 cI cJ cZ cB (a0 1) a1 (c1 0) (c1 1) (c1 2) (c1 3) (c1 4) (c1 5 0) (c1 6 0) (c1 7 0) (c1 8 0) (c1 9 0) []))) S hK hN hZ hA hW (rest := []) (t_X2_semicolon l dC dI cI cJ cZ cB zz h0 a0 a2 F c2 _ _  hy3) wl_X2_80 wv_X2_semicolon rfl rfl ⟨Nat.le_of_ble_eq_true rfl, Nat.le_of_ble_eq_true rfl⟩ [] (clX3 cI cJ cZ cB (a0 1) a1 (c1 0) (c1 1) (c1 2) (c1 3) (c1 4) (c1 5 0) (c1 6 0) (c1 7 0) (c1 8 0) (c1 9 0) []) rfl rfl rfl 0 rfl rfl rfl rfl hl.1 rfl (Nat.le_of_ble_eq_true rfl) dX2_readBows_54 [.int r1] rfl (fun H locs hW => ?_)
    have hW : wd (dC, dI) A s.heap (clX2 cI cJ cZ cB h0 a0  (clX3 cI cJ cZ cB (a0 1) a1 (c1 0) (c1 1) (c1 2) (c1 3) (c1 4) (c1 5 0) (c1 6 0) (c1 7 0) (c1 8 0) (c1 9 0) (clX7 cI cJ cZ cB (a0 0) a2 (cv2 0) (cv2 1 0) (cv2 2 0) (cv2 3 0) (cv2 4 0) (cv2 5 0) []))) H locs := wd_sub hW [0, 3, 4, 5, 6, 7, 8, 1, 2] rfl rfl
    obtain ⟨z4, h⟩ := of_g h
    have f5 := Option.some.inj h
    obtain ⟨f6, f7⟩ := Prod.mk.inj f5
    obtain ⟨f8, f9⟩ := Prod.mk.inj f7
    subst f6
    subst f8
    subst f9
    exact rz S hr hlocks hW (nz z4) dX2_readBows_57
  refine lv_aload_n S.1 S.2.1 dX2_readBows_0 rfl (lv_at hl 0 rfl) ?_
  refine lv_iconst (v := (0 : Int32)) S.1 S.2.1 dX2_readBows_1 ki_0 ?_
  refine lv_iconst (v := (1 : Int32)) S.1 S.2.1 dX2_readBows_2 ki_1 ?_
  obtain ⟨r10, cv11, hy12, h⟩ := bd2_e h
  have hW : wd (dC, dI) A s.heap (clX2 cI cJ cZ cB h0 a0  (clX7 cI cJ cZ cB (a0 0) a2 (c2 0) (c2 1 0) (c2 2 0) (c2 3 0) (c2 4 0) (c2 5 0) (clX3 cI cJ cZ cB (a0 1) a1 (c1 0) (c1 1) (c1 2) (c1 3) (c1 4) (c1 5 0) (c1 6 0) (c1 7 0) (c1 8 0) (c1 9 0) []))) H locs := wd_sub hW [0, 7, 8, 1, 2, 3, 4, 5, 6] rfl rfl
  refine kv (clX2 cI cJ cZ cB h0 a0  (clX7 cI cJ cZ cB (a0 0) a2 (cv11 0) (cv11 1 0) (cv11 2 0) (cv11 3 0) (cv11 4 0) (cv11 5 0) (clX3 cI cJ cZ cB (a0 1) a1 (c1 0) (c1 1) (c1 2) (c1 3) (c1 4) (c1 5 0) (c1 6 0) (c1 7 0) (c1 8 0) (c1 9 0) []))) S hK hN hZ hA hW (rest := []) (t_X2_numberWithin l dC dI cI cJ cZ cB zz h0 a0 a2 F c2 (0 : Int32) (1 : Int32) _ _  hy12) wl_X2_69 wv_X2_numberWithin rfl rfl ⟨Nat.le_of_ble_eq_true rfl, Nat.le_of_ble_eq_true rfl⟩ [] (clX3 cI cJ cZ cB (a0 1) a1 (c1 0) (c1 1) (c1 2) (c1 3) (c1 4) (c1 5 0) (c1 6 0) (c1 7 0) (c1 8 0) (c1 9 0) []) rfl rfl rfl 0 rfl rfl rfl rfl hl.1 rfl (Nat.le_of_ble_eq_true rfl) dX2_readBows_3 [.int r10] rfl (fun H locs hW => ?_)
  have hW : wd (dC, dI) A s.heap (clX2 cI cJ cZ cB h0 a0  (clX3 cI cJ cZ cB (a0 1) a1 (c1 0) (c1 1) (c1 2) (c1 3) (c1 4) (c1 5 0) (c1 6 0) (c1 7 0) (c1 8 0) (c1 9 0) (clX7 cI cJ cZ cB (a0 0) a2 (cv11 0) (cv11 1 0) (cv11 2 0) (cv11 3 0) (cv11 4 0) (cv11 5 0) []))) H locs := wd_sub hW [0, 3, 4, 5, 6, 7, 8, 1, 2] rfl rfl
  refine lv_if_ne (tgt := 11) S.1 S.2.1 dX2_readBows_6 (by decide) (fun u13 => ?_) (fun u13 => ?_)
  · have h := of_n u13 h
    refine lv_aload_n S.1 S.2.1 dX2_readBows_11 rfl (lv_at hl 0 rfl) ?_
    refine gf (C := RX2) (T := TX2) (N := 2) (ci := 1) (k := 0) S hK hW wu_X2 rfl (by decide) wf_X2_12 0 rfl rfl dX2_readBows_12 ?_
    refine gf (C := RX7) (T := TX7) (N := 6) (ci := 3) (k := 4) S hK hW wu_X7 rfl (by decide) wf_X2_73 7 rfl rfl dX2_readBows_15 ?_
    refine lv_istore_n (lv' := [(1, .int (cv11 4 0)), (0, .ref h0)]) S.1 S.2.1 dX2_readBows_18 rfl hl (by decide) rfl (fun ls hl => ?_)
    refine lv_aload_n S.1 S.2.1 dX2_readBows_19 rfl (lv_at hl 1 rfl) ?_
    refine lv_iconst (v := (0 : Int32)) S.1 S.2.1 dX2_readBows_20 ki_0 ?_
    refine lv_iconst (v := (3 : Int32)) S.1 S.2.1 dX2_readBows_21 ki_3 ?_
    obtain ⟨r14, cv15, hy16, h⟩ := bd2_e h
    have hW : wd (dC, dI) A s.heap (clX2 cI cJ cZ cB h0 a0  (clX7 cI cJ cZ cB (a0 0) a2 (cv11 0) (cv11 1 0) (cv11 2 0) (cv11 3 0) (cv11 4 0) (cv11 5 0) (clX3 cI cJ cZ cB (a0 1) a1 (c1 0) (c1 1) (c1 2) (c1 3) (c1 4) (c1 5 0) (c1 6 0) (c1 7 0) (c1 8 0) (c1 9 0) []))) H locs := wd_sub hW [0, 7, 8, 1, 2, 3, 4, 5, 6] rfl rfl
    refine kv (clX2 cI cJ cZ cB h0 a0  (clX7 cI cJ cZ cB (a0 0) a2 (cv15 0) (cv15 1 0) (cv15 2 0) (cv15 3 0) (cv15 4 0) (cv15 5 0) (clX3 cI cJ cZ cB (a0 1) a1 (c1 0) (c1 1) (c1 2) (c1 3) (c1 4) (c1 5 0) (c1 6 0) (c1 7 0) (c1 8 0) (c1 9 0) []))) S hK hN hZ hA hW (rest := []) (t_X2_numberWithin l dC dI cI cJ cZ cB zz h0 a0 a2 F cv11 (0 : Int32) (3 : Int32) _ _  hy16) wl_X2_69 wv_X2_numberWithin rfl rfl ⟨Nat.le_of_ble_eq_true rfl, Nat.le_of_ble_eq_true rfl⟩ [] (clX3 cI cJ cZ cB (a0 1) a1 (c1 0) (c1 1) (c1 2) (c1 3) (c1 4) (c1 5 0) (c1 6 0) (c1 7 0) (c1 8 0) (c1 9 0) []) rfl rfl rfl 0 rfl rfl rfl rfl hl.1 rfl (Nat.le_of_ble_eq_true rfl) dX2_readBows_22 [.int r14] rfl (fun H locs hW => ?_)
    have hW : wd (dC, dI) A s.heap (clX2 cI cJ cZ cB h0 a0  (clX3 cI cJ cZ cB (a0 1) a1 (c1 0) (c1 1) (c1 2) (c1 3) (c1 4) (c1 5 0) (c1 6 0) (c1 7 0) (c1 8 0) (c1 9 0) (clX7 cI cJ cZ cB (a0 0) a2 (cv15 0) (cv15 1 0) (cv15 2 0) (cv15 3 0) (cv15 4 0) (cv15 5 0) []))) H locs := wd_sub hW [0, 3, 4, 5, 6, 7, 8, 1, 2] rfl rfl
    refine lv_if_ne (tgt := 30) S.1 S.2.1 dX2_readBows_25 (by decide) (fun u17 => ?_) (fun u17 => ?_)
    · have h := of_n u17 h
      refine lv_iload_n S.1 S.2.1 dX2_readBows_30 rfl (lv_at hl 0 rfl) ?_
      obtain ⟨r18, hy19, h⟩ := bd1_e h
      refine kn0 S hK hN hZ hA hW (rest := []) (t_X8_isCounsel l dC dI cI cJ cZ cB zz (cv11 4 0) _  hy19) wx_X2_83 wv_X8_isCounsel rfl rfl ⟨Nat.le_of_ble_eq_true rfl, Nat.le_of_ble_eq_true rfl⟩ [] (clX2 cI cJ cZ cB h0 a0  (clX3 cI cJ cZ cB (a0 1) a1 (c1 0) (c1 1) (c1 2) (c1 3) (c1 4) (c1 5 0) (c1 6 0) (c1 7 0) (c1 8 0) (c1 9 0) (clX7 cI cJ cZ cB (a0 0) a2 (cv15 0) (cv15 1 0) (cv15 2 0) (cv15 3 0) (cv15 4 0) (cv15 5 0) []))) rfl rfl hl.1 rfl (Nat.le_of_ble_eq_true rfl) dX2_readBows_31 [.int r18] rfl (fun H locs hW => ?_)
      refine lv_if_eq (tgt := 53) S.1 S.2.1 dX2_readBows_34 (by decide) (fun u20 => ?_) (fun u20 => ?_)
      · have h := of_p u20 h
        exact hJ53 _ _ h H locs hW ls (lv_sub hl [1] rfl)
      · have h := of_n u20 h
        refine lv_aload_n S.1 S.2.1 dX2_readBows_37 rfl (lv_at hl 1 rfl) ?_
        refine gf (C := RX2) (T := TX2) (N := 2) (ci := 1) (k := 1) S hK hW wu_X2 rfl (by decide) wf_X2_21 0 rfl rfl dX2_readBows_38 ?_
        refine gf (C := RX3) (T := TX3) (N := 10) (ci := 2) (k := 1) S hK hW wu_X3 rfl (by decide) wf_X2_87 1 rfl rfl dX2_readBows_41 ?_
        refine lv_iload_n S.1 S.2.1 dX2_readBows_44 rfl (lv_at hl 0 rfl) ?_
        refine lv_aload_n S.1 S.2.1 dX2_readBows_45 rfl (lv_at hl 1 rfl) ?_
        refine gf (C := RX2) (T := TX2) (N := 2) (ci := 1) (k := 0) S hK hW wu_X2 rfl (by decide) wf_X2_12 0 rfl rfl dX2_readBows_46 ?_
        refine gf (C := RX7) (T := TX7) (N := 6) (ci := 3) (k := 4) S hK hW wu_X7 rfl (by decide) wf_X2_73 7 rfl rfl dX2_readBows_49 ?_
        obtain ⟨z21, h⟩ := of_g h
        refine ist S hK hW rfl 3 rfl z21 dX2_readBows_52 (fun H locs hW => ?_)
        have hW : wd (dC, dI) A s.heap (clX2 cI cJ cZ cB h0 a0  (clX3 cI cJ cZ cB (a0 1) a1 (c1 0) (upd (c1 1) (ix (cv11 4 0)) (cv15 4 0)) (c1 2) (c1 3) (c1 4) (c1 5 0) (c1 6 0) (c1 7 0) (c1 8 0) (c1 9 0) (clX7 cI cJ cZ cB (a0 0) a2 (cv15 0) (cv15 1 0) (cv15 2 0) (cv15 3 0) (cv15 4 0) (cv15 5 0) []))) H locs := hW
        exact hJ53 _ _ h H locs hW ls (lv_sub hl [1] rfl)
    · have h := of_p u17 h
      refine lv_iconst (v := (0 : Int32)) S.1 S.2.1 dX2_readBows_28 ki_0 ?_
      have f22 := Option.some.inj h
      obtain ⟨f23, f24⟩ := Prod.mk.inj f22
      obtain ⟨f25, f26⟩ := Prod.mk.inj f24
      subst f23
      subst f25
      subst f26
      exact rz S hr hlocks hW (nz (Or.inl rfl)) dX2_readBows_29
  · have h := of_p u13 h
    refine lv_iconst (v := (0 : Int32)) S.1 S.2.1 dX2_readBows_9 ki_0 ?_
    have f27 := Option.some.inj h
    obtain ⟨f28, f29⟩ := Prod.mk.inj f27
    obtain ⟨f30, f31⟩ := Prod.mk.inj f29
    subst f28
    subst f30
    subst f31
    exact rz S hr hlocks hW (nz (Or.inl rfl)) dX2_readBows_10
abbrev rmX2_readCase : Room := { frames := 4, cells := 0, slots := 0, locals := 85 }
set_option maxHeartbeats 4000000 in
set_option maxRecDepth 100000 in
theorem t_X2_readCase (l : Launch) (dC : Nat → ClassId) (dI : Nat → Nat → Nat) (cI cJ cZ cB : ClassId) (zz : ZT)  (h0 : Nat) (a0 : Nat → Nat) (a1 : Nat → Nat) (a2 : Nat → Nat) (F : Nat) (c1 : Nat → Nat → Int32) (c2 : Nat → Nat → Int32) (r : Int32) (c1' : Nat → Nat → Int32) (c2' : Nat → Nat → Int32) (hm : md_X2_readCase F c1 c2 = some (r, c1', c2')) : ct l (dC, dI) zz (ty4 cI cJ cZ cB) yX2_readCase cX2_readCase 2 (some .boolean) rmX2_readCase [.ref h0] (cwX2 cI cJ cZ cB h0 a0  (cwX3 cI cJ cZ cB (a0 1) a1 c1 (cwX7 cI cJ cZ cB (a0 0) a2 c2 []))) (cwX2 cI cJ cZ cB h0 a0  (cwX3 cI cJ cZ cB (a0 1) a1 c1' (cwX7 cI cJ cZ cB (a0 0) a2 c2' []))) (some (.int r)) := by
  refine ct_of (cc := cX2_readCase) (maxL := 2) (ret := (some .boolean)) (by decide) (Nat.le_of_ble_eq_true rfl) ?_
  intro p e s m below meth c A S hr hlocks hK hN hZ hA H locs hW ls hl
  have S : CallFix p m c cX2_readCase 2 s (List.toArray [.ref h0]) G RX2 := S
  have hl : lv_has ls 2 [(0, .ref h0)] := hl
  have h := hm
  rw [md_X2_readCase] at h
  have hW : wd (dC, dI) A s.heap (clX2 cI cJ cZ cB h0 a0  (clX3 cI cJ cZ cB (a0 1) a1 (c1 0) (c1 1) (c1 2) (c1 3) (c1 4) (c1 5 0) (c1 6 0) (c1 7 0) (c1 8 0) (c1 9 0) (clX7 cI cJ cZ cB (a0 0) a2 (c2 0) (c2 1 0) (c2 2 0) (c2 3 0) (c2 4 0) (c2 5 0) []))) H locs := hW
  refine lv_aload_n S.1 S.2.1 dX2_readCase_0 rfl (lv_at hl 0 rfl) ?_
  refine lv_iconst (v := (0 : Int32)) S.1 S.2.1 dX2_readCase_1 ki_0 ?_
  refine lv_iconst (v := (5 : Int32)) S.1 S.2.1 dX2_readCase_2 ki_5 ?_
  obtain ⟨r1, cv2, hy3, h⟩ := bd2_e h
  have hW : wd (dC, dI) A s.heap (clX2 cI cJ cZ cB h0 a0  (clX7 cI cJ cZ cB (a0 0) a2 (c2 0) (c2 1 0) (c2 2 0) (c2 3 0) (c2 4 0) (c2 5 0) (clX3 cI cJ cZ cB (a0 1) a1 (c1 0) (c1 1) (c1 2) (c1 3) (c1 4) (c1 5 0) (c1 6 0) (c1 7 0) (c1 8 0) (c1 9 0) []))) H locs := wd_sub hW [0, 7, 8, 1, 2, 3, 4, 5, 6] rfl rfl
  refine kv (clX2 cI cJ cZ cB h0 a0  (clX7 cI cJ cZ cB (a0 0) a2 (cv2 0) (cv2 1 0) (cv2 2 0) (cv2 3 0) (cv2 4 0) (cv2 5 0) (clX3 cI cJ cZ cB (a0 1) a1 (c1 0) (c1 1) (c1 2) (c1 3) (c1 4) (c1 5 0) (c1 6 0) (c1 7 0) (c1 8 0) (c1 9 0) []))) S hK hN hZ hA hW (rest := []) (t_X2_numberWithin l dC dI cI cJ cZ cB zz h0 a0 a2 F c2 (0 : Int32) (5 : Int32) _ _  hy3) wl_X2_69 wv_X2_numberWithin rfl rfl ⟨Nat.le_of_ble_eq_true rfl, Nat.le_of_ble_eq_true rfl⟩ [] (clX3 cI cJ cZ cB (a0 1) a1 (c1 0) (c1 1) (c1 2) (c1 3) (c1 4) (c1 5 0) (c1 6 0) (c1 7 0) (c1 8 0) (c1 9 0) []) rfl rfl rfl 0 rfl rfl rfl rfl hl.1 rfl (Nat.le_of_ble_eq_true rfl) dX2_readCase_3 [.int r1] rfl (fun H locs hW => ?_)
  have hW : wd (dC, dI) A s.heap (clX2 cI cJ cZ cB h0 a0  (clX3 cI cJ cZ cB (a0 1) a1 (c1 0) (c1 1) (c1 2) (c1 3) (c1 4) (c1 5 0) (c1 6 0) (c1 7 0) (c1 8 0) (c1 9 0) (clX7 cI cJ cZ cB (a0 0) a2 (cv2 0) (cv2 1 0) (cv2 2 0) (cv2 3 0) (cv2 4 0) (cv2 5 0) []))) H locs := wd_sub hW [0, 3, 4, 5, 6, 7, 8, 1, 2] rfl rfl
  refine lv_if_ne (tgt := 11) S.1 S.2.1 dX2_readCase_6 (by decide) (fun u4 => ?_) (fun u4 => ?_)
  · have h := of_n u4 h
    refine lv_aload_n S.1 S.2.1 dX2_readCase_11 rfl (lv_at hl 0 rfl) ?_
    refine gf (C := RX2) (T := TX2) (N := 2) (ci := 1) (k := 0) S hK hW wu_X2 rfl (by decide) wf_X2_12 0 rfl rfl dX2_readCase_12 ?_
    refine gf (C := RX7) (T := TX7) (N := 6) (ci := 3) (k := 4) S hK hW wu_X7 rfl (by decide) wf_X2_73 7 rfl rfl dX2_readCase_15 ?_
    refine lv_istore_n (lv' := [(1, .int (cv2 4 0)), (0, .ref h0)]) S.1 S.2.1 dX2_readCase_18 rfl hl (by decide) rfl (fun ls hl => ?_)
    refine lv_aload_n S.1 S.2.1 dX2_readCase_19 rfl (lv_at hl 1 rfl) ?_
    refine lv_iconst (v := (0 : Int32)) S.1 S.2.1 dX2_readCase_20 ki_0 ?_
    refine lv_iconst (v := (5 : Int32)) S.1 S.2.1 dX2_readCase_21 ki_5 ?_
    obtain ⟨r5, cv6, hy7, h⟩ := bd2_e h
    have hW : wd (dC, dI) A s.heap (clX2 cI cJ cZ cB h0 a0  (clX7 cI cJ cZ cB (a0 0) a2 (cv2 0) (cv2 1 0) (cv2 2 0) (cv2 3 0) (cv2 4 0) (cv2 5 0) (clX3 cI cJ cZ cB (a0 1) a1 (c1 0) (c1 1) (c1 2) (c1 3) (c1 4) (c1 5 0) (c1 6 0) (c1 7 0) (c1 8 0) (c1 9 0) []))) H locs := wd_sub hW [0, 7, 8, 1, 2, 3, 4, 5, 6] rfl rfl
    refine kv (clX2 cI cJ cZ cB h0 a0  (clX7 cI cJ cZ cB (a0 0) a2 (cv6 0) (cv6 1 0) (cv6 2 0) (cv6 3 0) (cv6 4 0) (cv6 5 0) (clX3 cI cJ cZ cB (a0 1) a1 (c1 0) (c1 1) (c1 2) (c1 3) (c1 4) (c1 5 0) (c1 6 0) (c1 7 0) (c1 8 0) (c1 9 0) []))) S hK hN hZ hA hW (rest := []) (t_X2_numberWithin l dC dI cI cJ cZ cB zz h0 a0 a2 F cv2 (0 : Int32) (5 : Int32) _ _  hy7) wl_X2_69 wv_X2_numberWithin rfl rfl ⟨Nat.le_of_ble_eq_true rfl, Nat.le_of_ble_eq_true rfl⟩ [] (clX3 cI cJ cZ cB (a0 1) a1 (c1 0) (c1 1) (c1 2) (c1 3) (c1 4) (c1 5 0) (c1 6 0) (c1 7 0) (c1 8 0) (c1 9 0) []) rfl rfl rfl 0 rfl rfl rfl rfl hl.1 rfl (Nat.le_of_ble_eq_true rfl) dX2_readCase_22 [.int r5] rfl (fun H locs hW => ?_)
    have hW : wd (dC, dI) A s.heap (clX2 cI cJ cZ cB h0 a0  (clX3 cI cJ cZ cB (a0 1) a1 (c1 0) (c1 1) (c1 2) (c1 3) (c1 4) (c1 5 0) (c1 6 0) (c1 7 0) (c1 8 0) (c1 9 0) (clX7 cI cJ cZ cB (a0 0) a2 (cv6 0) (cv6 1 0) (cv6 2 0) (cv6 3 0) (cv6 4 0) (cv6 5 0) []))) H locs := wd_sub hW [0, 3, 4, 5, 6, 7, 8, 1, 2] rfl rfl
    refine lv_if_ne (tgt := 30) S.1 S.2.1 dX2_readCase_25 (by decide) (fun u8 => ?_) (fun u8 => ?_)
    · have h := of_n u8 h
      refine lv_aload_n S.1 S.2.1 dX2_readCase_30 rfl (lv_at hl 1 rfl) ?_
      refine gf (C := RX2) (T := TX2) (N := 2) (ci := 1) (k := 1) S hK hW wu_X2 rfl (by decide) wf_X2_21 0 rfl rfl dX2_readCase_31 ?_
      refine lv_iload_n S.1 S.2.1 dX2_readCase_34 rfl (lv_at hl 0 rfl) ?_
      refine lv_aload_n S.1 S.2.1 dX2_readCase_35 rfl (lv_at hl 1 rfl) ?_
      refine gf (C := RX2) (T := TX2) (N := 2) (ci := 1) (k := 0) S hK hW wu_X2 rfl (by decide) wf_X2_12 0 rfl rfl dX2_readCase_36 ?_
      refine gf (C := RX7) (T := TX7) (N := 6) (ci := 3) (k := 4) S hK hW wu_X7 rfl (by decide) wf_X2_73 7 rfl rfl dX2_readCase_39 ?_
      obtain ⟨cv9, hy10, h⟩ := bd1_e h
      refine kv (clX2 cI cJ cZ cB h0 a0  (clX3 cI cJ cZ cB (a0 1) a1 (cv9 0) (cv9 1) (cv9 2) (cv9 3) (cv9 4) (cv9 5 0) (cv9 6 0) (cv9 7 0) (cv9 8 0) (cv9 9 0) (clX7 cI cJ cZ cB (a0 0) a2 (cv6 0) (cv6 1 0) (cv6 2 0) (cv6 3 0) (cv6 4 0) (cv6 5 0) []))) S hK hN hZ hA hW (rest := []) (t_X3_begin l dC dI cI cJ cZ cB zz (a0 1) a1 c1 (cv2 4 0) (cv6 4 0) _  hy10) wl_X2_76 wv_X3_begin rfl rfl ⟨Nat.le_of_ble_eq_true rfl, Nat.le_of_ble_eq_true rfl⟩ (clX2 cI cJ cZ cB h0 a0  []) (clX7 cI cJ cZ cB (a0 0) a2 (cv6 0) (cv6 1 0) (cv6 2 0) (cv6 3 0) (cv6 4 0) (cv6 5 0) []) rfl rfl rfl 1 rfl rfl rfl rfl hl.1 rfl (Nat.le_of_ble_eq_true rfl) dX2_readCase_42 [] rfl (fun H locs hW => ?_)
      refine lv_aload_n S.1 S.2.1 dX2_readCase_45 rfl (lv_at hl 1 rfl) ?_
      obtain ⟨r11, cv12, hy13, h⟩ := bd2_e h
      have hW : wd (dC, dI) A s.heap (clX2 cI cJ cZ cB h0 a0  (clX7 cI cJ cZ cB (a0 0) a2 (cv6 0) (cv6 1 0) (cv6 2 0) (cv6 3 0) (cv6 4 0) (cv6 5 0) (clX3 cI cJ cZ cB (a0 1) a1 (cv9 0) (cv9 1) (cv9 2) (cv9 3) (cv9 4) (cv9 5 0) (cv9 6 0) (cv9 7 0) (cv9 8 0) (cv9 9 0) []))) H locs := wd_sub hW [0, 7, 8, 1, 2, 3, 4, 5, 6] rfl rfl
      refine kv (clX2 cI cJ cZ cB h0 a0  (clX7 cI cJ cZ cB (a0 0) a2 (cv12 0) (cv12 1 0) (cv12 2 0) (cv12 3 0) (cv12 4 0) (cv12 5 0) (clX3 cI cJ cZ cB (a0 1) a1 (cv9 0) (cv9 1) (cv9 2) (cv9 3) (cv9 4) (cv9 5 0) (cv9 6 0) (cv9 7 0) (cv9 8 0) (cv9 9 0) []))) S hK hN hZ hA hW (rest := []) (t_X2_semicolon l dC dI cI cJ cZ cB zz h0 a0 a2 F cv6 _ _  hy13) wl_X2_80 wv_X2_semicolon rfl rfl ⟨Nat.le_of_ble_eq_true rfl, Nat.le_of_ble_eq_true rfl⟩ [] (clX3 cI cJ cZ cB (a0 1) a1 (cv9 0) (cv9 1) (cv9 2) (cv9 3) (cv9 4) (cv9 5 0) (cv9 6 0) (cv9 7 0) (cv9 8 0) (cv9 9 0) []) rfl rfl rfl 0 rfl rfl rfl rfl hl.1 rfl (Nat.le_of_ble_eq_true rfl) dX2_readCase_46 [.int r11] rfl (fun H locs hW => ?_)
      have hW : wd (dC, dI) A s.heap (clX2 cI cJ cZ cB h0 a0  (clX3 cI cJ cZ cB (a0 1) a1 (cv9 0) (cv9 1) (cv9 2) (cv9 3) (cv9 4) (cv9 5 0) (cv9 6 0) (cv9 7 0) (cv9 8 0) (cv9 9 0) (clX7 cI cJ cZ cB (a0 0) a2 (cv12 0) (cv12 1 0) (cv12 2 0) (cv12 3 0) (cv12 4 0) (cv12 5 0) []))) H locs := wd_sub hW [0, 3, 4, 5, 6, 7, 8, 1, 2] rfl rfl
      obtain ⟨z14, h⟩ := of_g h
      have f15 := Option.some.inj h
      obtain ⟨f16, f17⟩ := Prod.mk.inj f15
      obtain ⟨f18, f19⟩ := Prod.mk.inj f17
      subst f16
      subst f18
      subst f19
      exact rz S hr hlocks hW (nz z14) dX2_readCase_49
    · have h := of_p u8 h
      refine lv_iconst (v := (0 : Int32)) S.1 S.2.1 dX2_readCase_28 ki_0 ?_
      have f20 := Option.some.inj h
      obtain ⟨f21, f22⟩ := Prod.mk.inj f20
      obtain ⟨f23, f24⟩ := Prod.mk.inj f22
      subst f21
      subst f23
      subst f24
      exact rz S hr hlocks hW (nz (Or.inl rfl)) dX2_readCase_29
  · have h := of_p u4 h
    refine lv_iconst (v := (0 : Int32)) S.1 S.2.1 dX2_readCase_9 ki_0 ?_
    have f25 := Option.some.inj h
    obtain ⟨f26, f27⟩ := Prod.mk.inj f25
    obtain ⟨f28, f29⟩ := Prod.mk.inj f27
    subst f26
    subst f28
    subst f29
    exact rz S hr hlocks hW (nz (Or.inl rfl)) dX2_readCase_10
abbrev rmX2_readObjecting : Room := { frames := 4, cells := 0, slots := 0, locals := 83 }
set_option maxHeartbeats 4000000 in
set_option maxRecDepth 100000 in
theorem t_X2_readObjecting (l : Launch) (dC : Nat → ClassId) (dI : Nat → Nat → Nat) (cI cJ cZ cB : ClassId) (zz : ZT)  (h0 : Nat) (a0 : Nat → Nat) (a1 : Nat → Nat) (a2 : Nat → Nat) (F : Nat) (c1 : Nat → Nat → Int32) (c2 : Nat → Nat → Int32) (r : Int32) (c1' : Nat → Nat → Int32) (c2' : Nat → Nat → Int32) (hm : md_X2_readObjecting F c1 c2 = some (r, c1', c2')) : ct l (dC, dI) zz (ty4 cI cJ cZ cB) yX2_readObjecting cX2_readObjecting 1 (some .boolean) rmX2_readObjecting [.ref h0] (cwX2 cI cJ cZ cB h0 a0  (cwX3 cI cJ cZ cB (a0 1) a1 c1 (cwX7 cI cJ cZ cB (a0 0) a2 c2 []))) (cwX2 cI cJ cZ cB h0 a0  (cwX3 cI cJ cZ cB (a0 1) a1 c1' (cwX7 cI cJ cZ cB (a0 0) a2 c2' []))) (some (.int r)) := by
  refine ct_of (cc := cX2_readObjecting) (maxL := 1) (ret := (some .boolean)) (by decide) (Nat.le_of_ble_eq_true rfl) ?_
  intro p e s m below meth c A S hr hlocks hK hN hZ hA H locs hW ls hl
  have S : CallFix p m c cX2_readObjecting 1 s (List.toArray [.ref h0]) G RX2 := S
  have hl : lv_has ls 1 [(0, .ref h0)] := hl
  have h := hm
  rw [md_X2_readObjecting] at h
  have hW : wd (dC, dI) A s.heap (clX2 cI cJ cZ cB h0 a0  (clX3 cI cJ cZ cB (a0 1) a1 (c1 0) (c1 1) (c1 2) (c1 3) (c1 4) (c1 5 0) (c1 6 0) (c1 7 0) (c1 8 0) (c1 9 0) (clX7 cI cJ cZ cB (a0 0) a2 (c2 0) (c2 1 0) (c2 2 0) (c2 3 0) (c2 4 0) (c2 5 0) []))) H locs := hW
  refine lv_aload_n S.1 S.2.1 dX2_readObjecting_0 rfl (lv_at hl 0 rfl) ?_
  refine gf (C := RX2) (T := TX2) (N := 2) (ci := 1) (k := 1) S hK hW wu_X2 rfl (by decide) wf_X2_21 0 rfl rfl dX2_readObjecting_1 ?_
  obtain ⟨r1, hy2, h⟩ := bd1_e h
  refine kv0 S hK hN hZ hA hW (rest := []) (t_X3_mayObject l dC dI cI cJ cZ cB zz (a0 1) a1 c1 _  hy2) wl_X2_111 wv_X3_mayObject rfl rfl ⟨Nat.le_of_ble_eq_true rfl, Nat.le_of_ble_eq_true rfl⟩ (clX2 cI cJ cZ cB h0 a0  []) (clX7 cI cJ cZ cB (a0 0) a2 (c2 0) (c2 1 0) (c2 2 0) (c2 3 0) (c2 4 0) (c2 5 0) []) rfl 1 rfl rfl rfl rfl hl.1 rfl (Nat.le_of_ble_eq_true rfl) dX2_readObjecting_4 [.int r1] rfl (fun H locs hW => ?_)
  refine lv_if_ne (tgt := 12) S.1 S.2.1 dX2_readObjecting_7 (by decide) (fun u3 => ?_) (fun u3 => ?_)
  · have h := of_n u3 h
    refine lv_aload_n S.1 S.2.1 dX2_readObjecting_12 rfl (lv_at hl 0 rfl) ?_
    refine gf (C := RX2) (T := TX2) (N := 2) (ci := 1) (k := 1) S hK hW wu_X2 rfl (by decide) wf_X2_21 0 rfl rfl dX2_readObjecting_13 ?_
    obtain ⟨cv4, hy5, h⟩ := bd1_e h
    refine kv (clX2 cI cJ cZ cB h0 a0  (clX3 cI cJ cZ cB (a0 1) a1 (cv4 0) (cv4 1) (cv4 2) (cv4 3) (cv4 4) (cv4 5 0) (cv4 6 0) (cv4 7 0) (cv4 8 0) (cv4 9 0) (clX7 cI cJ cZ cB (a0 0) a2 (c2 0) (c2 1 0) (c2 2 0) (c2 3 0) (c2 4 0) (c2 5 0) []))) S hK hN hZ hA hW (rest := []) (t_X3_bow l dC dI cI cJ cZ cB zz (a0 1) a1 c1 _  hy5) wl_X2_114 wv_X3_bow rfl rfl ⟨Nat.le_of_ble_eq_true rfl, Nat.le_of_ble_eq_true rfl⟩ (clX2 cI cJ cZ cB h0 a0  []) (clX7 cI cJ cZ cB (a0 0) a2 (c2 0) (c2 1 0) (c2 2 0) (c2 3 0) (c2 4 0) (c2 5 0) []) rfl rfl rfl 1 rfl rfl rfl rfl hl.1 rfl (Nat.le_of_ble_eq_true rfl) dX2_readObjecting_16 [] rfl (fun H locs hW => ?_)
    refine lv_aload_n S.1 S.2.1 dX2_readObjecting_19 rfl (lv_at hl 0 rfl) ?_
    obtain ⟨r6, cv7, hy8, h⟩ := bd2_e h
    have hW : wd (dC, dI) A s.heap (clX2 cI cJ cZ cB h0 a0  (clX7 cI cJ cZ cB (a0 0) a2 (c2 0) (c2 1 0) (c2 2 0) (c2 3 0) (c2 4 0) (c2 5 0) (clX3 cI cJ cZ cB (a0 1) a1 (cv4 0) (cv4 1) (cv4 2) (cv4 3) (cv4 4) (cv4 5 0) (cv4 6 0) (cv4 7 0) (cv4 8 0) (cv4 9 0) []))) H locs := wd_sub hW [0, 7, 8, 1, 2, 3, 4, 5, 6] rfl rfl
    refine kv (clX2 cI cJ cZ cB h0 a0  (clX7 cI cJ cZ cB (a0 0) a2 (cv7 0) (cv7 1 0) (cv7 2 0) (cv7 3 0) (cv7 4 0) (cv7 5 0) (clX3 cI cJ cZ cB (a0 1) a1 (cv4 0) (cv4 1) (cv4 2) (cv4 3) (cv4 4) (cv4 5 0) (cv4 6 0) (cv4 7 0) (cv4 8 0) (cv4 9 0) []))) S hK hN hZ hA hW (rest := []) (t_X2_semicolon l dC dI cI cJ cZ cB zz h0 a0 a2 F c2 _ _  hy8) wl_X2_80 wv_X2_semicolon rfl rfl ⟨Nat.le_of_ble_eq_true rfl, Nat.le_of_ble_eq_true rfl⟩ [] (clX3 cI cJ cZ cB (a0 1) a1 (cv4 0) (cv4 1) (cv4 2) (cv4 3) (cv4 4) (cv4 5 0) (cv4 6 0) (cv4 7 0) (cv4 8 0) (cv4 9 0) []) rfl rfl rfl 0 rfl rfl rfl rfl hl.1 rfl (Nat.le_of_ble_eq_true rfl) dX2_readObjecting_20 [.int r6] rfl (fun H locs hW => ?_)
    have hW : wd (dC, dI) A s.heap (clX2 cI cJ cZ cB h0 a0  (clX3 cI cJ cZ cB (a0 1) a1 (cv4 0) (cv4 1) (cv4 2) (cv4 3) (cv4 4) (cv4 5 0) (cv4 6 0) (cv4 7 0) (cv4 8 0) (cv4 9 0) (clX7 cI cJ cZ cB (a0 0) a2 (cv7 0) (cv7 1 0) (cv7 2 0) (cv7 3 0) (cv7 4 0) (cv7 5 0) []))) H locs := wd_sub hW [0, 3, 4, 5, 6, 7, 8, 1, 2] rfl rfl
    obtain ⟨z9, h⟩ := of_g h
    have f10 := Option.some.inj h
    obtain ⟨f11, f12⟩ := Prod.mk.inj f10
    obtain ⟨f13, f14⟩ := Prod.mk.inj f12
    subst f11
    subst f13
    subst f14
    exact rz S hr hlocks hW (nz z9) dX2_readObjecting_23
  · have h := of_p u3 h
    refine lv_iconst (v := (0 : Int32)) S.1 S.2.1 dX2_readObjecting_10 ki_0 ?_
    have f15 := Option.some.inj h
    obtain ⟨f16, f17⟩ := Prod.mk.inj f15
    obtain ⟨f18, f19⟩ := Prod.mk.inj f17
    subst f16
    subst f18
    subst f19
    exact rz S hr hlocks hW (nz (Or.inl rfl)) dX2_readObjecting_11
abbrev rmX2_readPoint : Room := { frames := 4, cells := 0, slots := 0, locals := 85 }
set_option maxHeartbeats 4000000 in
set_option maxRecDepth 100000 in
theorem t_X2_readPoint (l : Launch) (dC : Nat → ClassId) (dI : Nat → Nat → Nat) (cI cJ cZ cB : ClassId) (zz : ZT)  (h0 : Nat) (a0 : Nat → Nat) (a1 : Nat → Nat) (a2 : Nat → Nat) (F : Nat) (c1 : Nat → Nat → Int32) (c2 : Nat → Nat → Int32) (r : Int32) (c1' : Nat → Nat → Int32) (c2' : Nat → Nat → Int32) (hm : md_X2_readPoint F c1 c2 = some (r, c1', c2')) : ct l (dC, dI) zz (ty4 cI cJ cZ cB) yX2_readPoint cX2_readPoint 3 (some .boolean) rmX2_readPoint [.ref h0] (cwX2 cI cJ cZ cB h0 a0  (cwX3 cI cJ cZ cB (a0 1) a1 c1 (cwX7 cI cJ cZ cB (a0 0) a2 c2 []))) (cwX2 cI cJ cZ cB h0 a0  (cwX3 cI cJ cZ cB (a0 1) a1 c1' (cwX7 cI cJ cZ cB (a0 0) a2 c2' []))) (some (.int r)) := by
  refine ct_of (cc := cX2_readPoint) (maxL := 3) (ret := (some .boolean)) (by decide) (Nat.le_of_ble_eq_true rfl) ?_
  intro p e s m below meth c A S hr hlocks hK hN hZ hA H locs hW ls hl
  have S : CallFix p m c cX2_readPoint 3 s (List.toArray [.ref h0]) G RX2 := S
  have hl : lv_has ls 3 [(0, .ref h0)] := hl
  have h := hm
  rw [md_X2_readPoint] at h
  have hW : wd (dC, dI) A s.heap (clX2 cI cJ cZ cB h0 a0  (clX3 cI cJ cZ cB (a0 1) a1 (c1 0) (c1 1) (c1 2) (c1 3) (c1 4) (c1 5 0) (c1 6 0) (c1 7 0) (c1 8 0) (c1 9 0) (clX7 cI cJ cZ cB (a0 0) a2 (c2 0) (c2 1 0) (c2 2 0) (c2 3 0) (c2 4 0) (c2 5 0) []))) H locs := hW
  refine lv_aload_n S.1 S.2.1 dX2_readPoint_0 rfl (lv_at hl 0 rfl) ?_
  refine gf (C := RX2) (T := TX2) (N := 2) (ci := 1) (k := 1) S hK hW wu_X2 rfl (by decide) wf_X2_21 0 rfl rfl dX2_readPoint_1 ?_
  obtain ⟨r1, hy2, h⟩ := bd1_e h
  refine kv0 S hK hN hZ hA hW (rest := []) (t_X3_hasRoom l dC dI cI cJ cZ cB zz (a0 1) a1 c1 _  hy2) wl_X2_91 wv_X3_hasRoom rfl rfl ⟨Nat.le_of_ble_eq_true rfl, Nat.le_of_ble_eq_true rfl⟩ (clX2 cI cJ cZ cB h0 a0  []) (clX7 cI cJ cZ cB (a0 0) a2 (c2 0) (c2 1 0) (c2 2 0) (c2 3 0) (c2 4 0) (c2 5 0) []) rfl 1 rfl rfl rfl rfl hl.1 rfl (Nat.le_of_ble_eq_true rfl) dX2_readPoint_4 [.int r1] rfl (fun H locs hW => ?_)
  refine lv_if_eq (tgt := 19) S.1 S.2.1 dX2_readPoint_7 (by decide) (fun u3 => ?_) (fun u3 => ?_)
  · have h := of_p u3 h
    refine lv_iconst (v := (0 : Int32)) S.1 S.2.1 dX2_readPoint_19 ki_0 ?_
    have f4 := Option.some.inj h
    obtain ⟨f5, f6⟩ := Prod.mk.inj f4
    obtain ⟨f7, f8⟩ := Prod.mk.inj f6
    subst f5
    subst f7
    subst f8
    exact rz S hr hlocks hW (nz (Or.inl rfl)) dX2_readPoint_20
  · have h := of_n u3 h
    refine lv_aload_n S.1 S.2.1 dX2_readPoint_10 rfl (lv_at hl 0 rfl) ?_
    refine lv_iconst (v := (0 : Int32)) S.1 S.2.1 dX2_readPoint_11 ki_0 ?_
    refine lv_iconst (v := (5 : Int32)) S.1 S.2.1 dX2_readPoint_12 ki_5 ?_
    obtain ⟨r9, cv10, hy11, h⟩ := bd2_e h
    have hW : wd (dC, dI) A s.heap (clX2 cI cJ cZ cB h0 a0  (clX7 cI cJ cZ cB (a0 0) a2 (c2 0) (c2 1 0) (c2 2 0) (c2 3 0) (c2 4 0) (c2 5 0) (clX3 cI cJ cZ cB (a0 1) a1 (c1 0) (c1 1) (c1 2) (c1 3) (c1 4) (c1 5 0) (c1 6 0) (c1 7 0) (c1 8 0) (c1 9 0) []))) H locs := wd_sub hW [0, 7, 8, 1, 2, 3, 4, 5, 6] rfl rfl
    refine kv (clX2 cI cJ cZ cB h0 a0  (clX7 cI cJ cZ cB (a0 0) a2 (cv10 0) (cv10 1 0) (cv10 2 0) (cv10 3 0) (cv10 4 0) (cv10 5 0) (clX3 cI cJ cZ cB (a0 1) a1 (c1 0) (c1 1) (c1 2) (c1 3) (c1 4) (c1 5 0) (c1 6 0) (c1 7 0) (c1 8 0) (c1 9 0) []))) S hK hN hZ hA hW (rest := []) (t_X2_numberWithin l dC dI cI cJ cZ cB zz h0 a0 a2 F c2 (0 : Int32) (5 : Int32) _ _  hy11) wl_X2_69 wv_X2_numberWithin rfl rfl ⟨Nat.le_of_ble_eq_true rfl, Nat.le_of_ble_eq_true rfl⟩ [] (clX3 cI cJ cZ cB (a0 1) a1 (c1 0) (c1 1) (c1 2) (c1 3) (c1 4) (c1 5 0) (c1 6 0) (c1 7 0) (c1 8 0) (c1 9 0) []) rfl rfl rfl 0 rfl rfl rfl rfl hl.1 rfl (Nat.le_of_ble_eq_true rfl) dX2_readPoint_13 [.int r9] rfl (fun H locs hW => ?_)
    have hW : wd (dC, dI) A s.heap (clX2 cI cJ cZ cB h0 a0  (clX3 cI cJ cZ cB (a0 1) a1 (c1 0) (c1 1) (c1 2) (c1 3) (c1 4) (c1 5 0) (c1 6 0) (c1 7 0) (c1 8 0) (c1 9 0) (clX7 cI cJ cZ cB (a0 0) a2 (cv10 0) (cv10 1 0) (cv10 2 0) (cv10 3 0) (cv10 4 0) (cv10 5 0) []))) H locs := wd_sub hW [0, 3, 4, 5, 6, 7, 8, 1, 2] rfl rfl
    refine lv_if_ne (tgt := 21) S.1 S.2.1 dX2_readPoint_16 (by decide) (fun u12 => ?_) (fun u12 => ?_)
    · have h := of_n u12 h
      refine lv_aload_n S.1 S.2.1 dX2_readPoint_21 rfl (lv_at hl 0 rfl) ?_
      refine gf (C := RX2) (T := TX2) (N := 2) (ci := 1) (k := 0) S hK hW wu_X2 rfl (by decide) wf_X2_12 0 rfl rfl dX2_readPoint_22 ?_
      refine gf (C := RX7) (T := TX7) (N := 6) (ci := 3) (k := 4) S hK hW wu_X7 rfl (by decide) wf_X2_73 7 rfl rfl dX2_readPoint_25 ?_
      refine lv_istore_n (lv' := [(1, .int (cv10 4 0)), (0, .ref h0)]) S.1 S.2.1 dX2_readPoint_28 rfl hl (by decide) rfl (fun ls hl => ?_)
      refine lv_aload_n S.1 S.2.1 dX2_readPoint_29 rfl (lv_at hl 1 rfl) ?_
      refine lv_iconst (v := (1 : Int32)) S.1 S.2.1 dX2_readPoint_30 ki_1 ?_
      refine lv_bipush (v := (9 : Int32)) S.1 S.2.1 dX2_readPoint_31 kb_9 ?_
      obtain ⟨r13, cv14, hy15, h⟩ := bd2_e h
      have hW : wd (dC, dI) A s.heap (clX2 cI cJ cZ cB h0 a0  (clX7 cI cJ cZ cB (a0 0) a2 (cv10 0) (cv10 1 0) (cv10 2 0) (cv10 3 0) (cv10 4 0) (cv10 5 0) (clX3 cI cJ cZ cB (a0 1) a1 (c1 0) (c1 1) (c1 2) (c1 3) (c1 4) (c1 5 0) (c1 6 0) (c1 7 0) (c1 8 0) (c1 9 0) []))) H locs := wd_sub hW [0, 7, 8, 1, 2, 3, 4, 5, 6] rfl rfl
      refine kv (clX2 cI cJ cZ cB h0 a0  (clX7 cI cJ cZ cB (a0 0) a2 (cv14 0) (cv14 1 0) (cv14 2 0) (cv14 3 0) (cv14 4 0) (cv14 5 0) (clX3 cI cJ cZ cB (a0 1) a1 (c1 0) (c1 1) (c1 2) (c1 3) (c1 4) (c1 5 0) (c1 6 0) (c1 7 0) (c1 8 0) (c1 9 0) []))) S hK hN hZ hA hW (rest := []) (t_X2_numberWithin l dC dI cI cJ cZ cB zz h0 a0 a2 F cv10 (1 : Int32) (9 : Int32) _ _  hy15) wl_X2_69 wv_X2_numberWithin rfl rfl ⟨Nat.le_of_ble_eq_true rfl, Nat.le_of_ble_eq_true rfl⟩ [] (clX3 cI cJ cZ cB (a0 1) a1 (c1 0) (c1 1) (c1 2) (c1 3) (c1 4) (c1 5 0) (c1 6 0) (c1 7 0) (c1 8 0) (c1 9 0) []) rfl rfl rfl 0 rfl rfl rfl rfl hl.1 rfl (Nat.le_of_ble_eq_true rfl) dX2_readPoint_33 [.int r13] rfl (fun H locs hW => ?_)
      have hW : wd (dC, dI) A s.heap (clX2 cI cJ cZ cB h0 a0  (clX3 cI cJ cZ cB (a0 1) a1 (c1 0) (c1 1) (c1 2) (c1 3) (c1 4) (c1 5 0) (c1 6 0) (c1 7 0) (c1 8 0) (c1 9 0) (clX7 cI cJ cZ cB (a0 0) a2 (cv14 0) (cv14 1 0) (cv14 2 0) (cv14 3 0) (cv14 4 0) (cv14 5 0) []))) H locs := wd_sub hW [0, 3, 4, 5, 6, 7, 8, 1, 2] rfl rfl
      refine lv_if_ne (tgt := 41) S.1 S.2.1 dX2_readPoint_36 (by decide) (fun u16 => ?_) (fun u16 => ?_)
      · have h := of_n u16 h
        refine lv_aload_n S.1 S.2.1 dX2_readPoint_41 rfl (lv_at hl 1 rfl) ?_
        refine gf (C := RX2) (T := TX2) (N := 2) (ci := 1) (k := 0) S hK hW wu_X2 rfl (by decide) wf_X2_12 0 rfl rfl dX2_readPoint_42 ?_
        refine gf (C := RX7) (T := TX7) (N := 6) (ci := 3) (k := 4) S hK hW wu_X7 rfl (by decide) wf_X2_73 7 rfl rfl dX2_readPoint_45 ?_
        refine lv_istore_n (lv' := [(2, .int (cv14 4 0)), (1, .int (cv10 4 0)), (0, .ref h0)]) S.1 S.2.1 dX2_readPoint_48 rfl hl (by decide) rfl (fun ls hl => ?_)
        refine lv_aload_n S.1 S.2.1 dX2_readPoint_49 rfl (lv_at hl 2 rfl) ?_
        refine lv_iconst (v := (0 : Int32)) S.1 S.2.1 dX2_readPoint_50 ki_0 ?_
        refine lv_iconst (v := (3 : Int32)) S.1 S.2.1 dX2_readPoint_51 ki_3 ?_
        obtain ⟨r17, cv18, hy19, h⟩ := bd2_e h
        have hW : wd (dC, dI) A s.heap (clX2 cI cJ cZ cB h0 a0  (clX7 cI cJ cZ cB (a0 0) a2 (cv14 0) (cv14 1 0) (cv14 2 0) (cv14 3 0) (cv14 4 0) (cv14 5 0) (clX3 cI cJ cZ cB (a0 1) a1 (c1 0) (c1 1) (c1 2) (c1 3) (c1 4) (c1 5 0) (c1 6 0) (c1 7 0) (c1 8 0) (c1 9 0) []))) H locs := wd_sub hW [0, 7, 8, 1, 2, 3, 4, 5, 6] rfl rfl
        refine kv (clX2 cI cJ cZ cB h0 a0  (clX7 cI cJ cZ cB (a0 0) a2 (cv18 0) (cv18 1 0) (cv18 2 0) (cv18 3 0) (cv18 4 0) (cv18 5 0) (clX3 cI cJ cZ cB (a0 1) a1 (c1 0) (c1 1) (c1 2) (c1 3) (c1 4) (c1 5 0) (c1 6 0) (c1 7 0) (c1 8 0) (c1 9 0) []))) S hK hN hZ hA hW (rest := []) (t_X2_numberWithin l dC dI cI cJ cZ cB zz h0 a0 a2 F cv14 (0 : Int32) (3 : Int32) _ _  hy19) wl_X2_69 wv_X2_numberWithin rfl rfl ⟨Nat.le_of_ble_eq_true rfl, Nat.le_of_ble_eq_true rfl⟩ [] (clX3 cI cJ cZ cB (a0 1) a1 (c1 0) (c1 1) (c1 2) (c1 3) (c1 4) (c1 5 0) (c1 6 0) (c1 7 0) (c1 8 0) (c1 9 0) []) rfl rfl rfl 0 rfl rfl rfl rfl hl.1 rfl (Nat.le_of_ble_eq_true rfl) dX2_readPoint_52 [.int r17] rfl (fun H locs hW => ?_)
        have hW : wd (dC, dI) A s.heap (clX2 cI cJ cZ cB h0 a0  (clX3 cI cJ cZ cB (a0 1) a1 (c1 0) (c1 1) (c1 2) (c1 3) (c1 4) (c1 5 0) (c1 6 0) (c1 7 0) (c1 8 0) (c1 9 0) (clX7 cI cJ cZ cB (a0 0) a2 (cv18 0) (cv18 1 0) (cv18 2 0) (cv18 3 0) (cv18 4 0) (cv18 5 0) []))) H locs := wd_sub hW [0, 3, 4, 5, 6, 7, 8, 1, 2] rfl rfl
        refine lv_if_ne (tgt := 60) S.1 S.2.1 dX2_readPoint_55 (by decide) (fun u20 => ?_) (fun u20 => ?_)
        · have h := of_n u20 h
          refine lv_aload_n S.1 S.2.1 dX2_readPoint_60 rfl (lv_at hl 2 rfl) ?_
          refine gf (C := RX2) (T := TX2) (N := 2) (ci := 1) (k := 1) S hK hW wu_X2 rfl (by decide) wf_X2_21 0 rfl rfl dX2_readPoint_61 ?_
          refine lv_iload_n S.1 S.2.1 dX2_readPoint_64 rfl (lv_at hl 1 rfl) ?_
          refine lv_iload_n S.1 S.2.1 dX2_readPoint_65 rfl (lv_at hl 0 rfl) ?_
          refine lv_aload_n S.1 S.2.1 dX2_readPoint_66 rfl (lv_at hl 2 rfl) ?_
          refine gf (C := RX2) (T := TX2) (N := 2) (ci := 1) (k := 0) S hK hW wu_X2 rfl (by decide) wf_X2_12 0 rfl rfl dX2_readPoint_67 ?_
          refine gf (C := RX7) (T := TX7) (N := 6) (ci := 3) (k := 4) S hK hW wu_X7 rfl (by decide) wf_X2_73 7 rfl rfl dX2_readPoint_70 ?_
          obtain ⟨cv21, hy22, h⟩ := bd1_e h
          refine kv (clX2 cI cJ cZ cB h0 a0  (clX3 cI cJ cZ cB (a0 1) a1 (cv21 0) (cv21 1) (cv21 2) (cv21 3) (cv21 4) (cv21 5 0) (cv21 6 0) (cv21 7 0) (cv21 8 0) (cv21 9 0) (clX7 cI cJ cZ cB (a0 0) a2 (cv18 0) (cv18 1 0) (cv18 2 0) (cv18 3 0) (cv18 4 0) (cv18 5 0) []))) S hK hN hZ hA hW (rest := []) (t_X3_add l dC dI cI cJ cZ cB zz (a0 1) a1 c1 (cv10 4 0) (cv14 4 0) (cv18 4 0) _  hy22) wl_X2_94 wv_X3_add rfl rfl ⟨Nat.le_of_ble_eq_true rfl, Nat.le_of_ble_eq_true rfl⟩ (clX2 cI cJ cZ cB h0 a0  []) (clX7 cI cJ cZ cB (a0 0) a2 (cv18 0) (cv18 1 0) (cv18 2 0) (cv18 3 0) (cv18 4 0) (cv18 5 0) []) rfl rfl rfl 1 rfl rfl rfl rfl hl.1 rfl (Nat.le_of_ble_eq_true rfl) dX2_readPoint_73 [] rfl (fun H locs hW => ?_)
          refine lv_aload_n S.1 S.2.1 dX2_readPoint_76 rfl (lv_at hl 2 rfl) ?_
          obtain ⟨r23, cv24, hy25, h⟩ := bd2_e h
          have hW : wd (dC, dI) A s.heap (clX2 cI cJ cZ cB h0 a0  (clX7 cI cJ cZ cB (a0 0) a2 (cv18 0) (cv18 1 0) (cv18 2 0) (cv18 3 0) (cv18 4 0) (cv18 5 0) (clX3 cI cJ cZ cB (a0 1) a1 (cv21 0) (cv21 1) (cv21 2) (cv21 3) (cv21 4) (cv21 5 0) (cv21 6 0) (cv21 7 0) (cv21 8 0) (cv21 9 0) []))) H locs := wd_sub hW [0, 7, 8, 1, 2, 3, 4, 5, 6] rfl rfl
          refine kv (clX2 cI cJ cZ cB h0 a0  (clX7 cI cJ cZ cB (a0 0) a2 (cv24 0) (cv24 1 0) (cv24 2 0) (cv24 3 0) (cv24 4 0) (cv24 5 0) (clX3 cI cJ cZ cB (a0 1) a1 (cv21 0) (cv21 1) (cv21 2) (cv21 3) (cv21 4) (cv21 5 0) (cv21 6 0) (cv21 7 0) (cv21 8 0) (cv21 9 0) []))) S hK hN hZ hA hW (rest := []) (t_X2_semicolon l dC dI cI cJ cZ cB zz h0 a0 a2 F cv18 _ _  hy25) wl_X2_80 wv_X2_semicolon rfl rfl ⟨Nat.le_of_ble_eq_true rfl, Nat.le_of_ble_eq_true rfl⟩ [] (clX3 cI cJ cZ cB (a0 1) a1 (cv21 0) (cv21 1) (cv21 2) (cv21 3) (cv21 4) (cv21 5 0) (cv21 6 0) (cv21 7 0) (cv21 8 0) (cv21 9 0) []) rfl rfl rfl 0 rfl rfl rfl rfl hl.1 rfl (Nat.le_of_ble_eq_true rfl) dX2_readPoint_77 [.int r23] rfl (fun H locs hW => ?_)
          have hW : wd (dC, dI) A s.heap (clX2 cI cJ cZ cB h0 a0  (clX3 cI cJ cZ cB (a0 1) a1 (cv21 0) (cv21 1) (cv21 2) (cv21 3) (cv21 4) (cv21 5 0) (cv21 6 0) (cv21 7 0) (cv21 8 0) (cv21 9 0) (clX7 cI cJ cZ cB (a0 0) a2 (cv24 0) (cv24 1 0) (cv24 2 0) (cv24 3 0) (cv24 4 0) (cv24 5 0) []))) H locs := wd_sub hW [0, 3, 4, 5, 6, 7, 8, 1, 2] rfl rfl
          obtain ⟨z26, h⟩ := of_g h
          have f27 := Option.some.inj h
          obtain ⟨f28, f29⟩ := Prod.mk.inj f27
          obtain ⟨f30, f31⟩ := Prod.mk.inj f29
          subst f28
          subst f30
          subst f31
          exact rz S hr hlocks hW (nz z26) dX2_readPoint_80
        · have h := of_p u20 h
          refine lv_iconst (v := (0 : Int32)) S.1 S.2.1 dX2_readPoint_58 ki_0 ?_
          have f32 := Option.some.inj h
          obtain ⟨f33, f34⟩ := Prod.mk.inj f32
          obtain ⟨f35, f36⟩ := Prod.mk.inj f34
          subst f33
          subst f35
          subst f36
          exact rz S hr hlocks hW (nz (Or.inl rfl)) dX2_readPoint_59
      · have h := of_p u16 h
        refine lv_iconst (v := (0 : Int32)) S.1 S.2.1 dX2_readPoint_39 ki_0 ?_
        have f37 := Option.some.inj h
        obtain ⟨f38, f39⟩ := Prod.mk.inj f37
        obtain ⟨f40, f41⟩ := Prod.mk.inj f39
        subst f38
        subst f40
        subst f41
        exact rz S hr hlocks hW (nz (Or.inl rfl)) dX2_readPoint_40
    · have h := of_p u12 h
      refine lv_iconst (v := (0 : Int32)) S.1 S.2.1 dX2_readPoint_19 ki_0 ?_
      have f42 := Option.some.inj h
      obtain ⟨f43, f44⟩ := Prod.mk.inj f42
      obtain ⟨f45, f46⟩ := Prod.mk.inj f44
      subst f43
      subst f45
      subst f46
      exact rz S hr hlocks hW (nz (Or.inl rfl)) dX2_readPoint_20
abbrev rmX2_readSaying : Room := { frames := 4, cells := 0, slots := 0, locals := 91 }
set_option maxHeartbeats 4000000 in
set_option maxRecDepth 100000 in
theorem t_X2_readSaying (l : Launch) (dC : Nat → ClassId) (dI : Nat → Nat → Nat) (cI cJ cZ cB : ClassId) (zz : ZT)  (h0 : Nat) (a0 : Nat → Nat) (a1 : Nat → Nat) (a2 : Nat → Nat) (F : Nat) (c1 : Nat → Nat → Int32) (c2 : Nat → Nat → Int32) (r : Int32) (c1' : Nat → Nat → Int32) (c2' : Nat → Nat → Int32) (hm : md_X2_readSaying F c1 c2 = some (r, c1', c2')) : ct l (dC, dI) zz (ty4 cI cJ cZ cB) yX2_readSaying cX2_readSaying 1 (some .boolean) rmX2_readSaying [.ref h0] (cwX2 cI cJ cZ cB h0 a0  (cwX3 cI cJ cZ cB (a0 1) a1 c1 (cwX7 cI cJ cZ cB (a0 0) a2 c2 []))) (cwX2 cI cJ cZ cB h0 a0  (cwX3 cI cJ cZ cB (a0 1) a1 c1' (cwX7 cI cJ cZ cB (a0 0) a2 c2' []))) (some (.int r)) := by
  refine ct_of (cc := cX2_readSaying) (maxL := 1) (ret := (some .boolean)) (by decide) (Nat.le_of_ble_eq_true rfl) ?_
  intro p e s m below meth c A S hr hlocks hK hN hZ hA H locs hW ls hl
  have S : CallFix p m c cX2_readSaying 1 s (List.toArray [.ref h0]) G RX2 := S
  have hl : lv_has ls 1 [(0, .ref h0)] := hl
  have h := hm
  rw [md_X2_readSaying] at h
  have hW : wd (dC, dI) A s.heap (clX2 cI cJ cZ cB h0 a0  (clX3 cI cJ cZ cB (a0 1) a1 (c1 0) (c1 1) (c1 2) (c1 3) (c1 4) (c1 5 0) (c1 6 0) (c1 7 0) (c1 8 0) (c1 9 0) (clX7 cI cJ cZ cB (a0 0) a2 (c2 0) (c2 1 0) (c2 2 0) (c2 3 0) (c2 4 0) (c2 5 0) []))) H locs := hW
  refine lv_aload_n S.1 S.2.1 dX2_readSaying_0 rfl (lv_at hl 0 rfl) ?_
  refine lv_iconst (v := (0 : Int32)) S.1 S.2.1 dX2_readSaying_1 ki_0 ?_
  refine lv_aload_n S.1 S.2.1 dX2_readSaying_2 rfl (lv_at hl 0 rfl) ?_
  refine gf (C := RX2) (T := TX2) (N := 2) (ci := 1) (k := 1) S hK hW wu_X2 rfl (by decide) wf_X2_21 0 rfl rfl dX2_readSaying_3 ?_
  refine gf (C := RX3) (T := TX3) (N := 10) (ci := 2) (k := 5) S hK hW wu_X3 rfl (by decide) wf_X2_98 1 rfl rfl dX2_readSaying_6 ?_
  refine lv_iconst (v := (1 : Int32)) S.1 S.2.1 dX2_readSaying_9 ki_1 ?_
  refine lv_isub S.1 S.2.1 dX2_readSaying_10 ?_
  obtain ⟨r1, cv2, hy3, h⟩ := bd2_e h
  have hW : wd (dC, dI) A s.heap (clX2 cI cJ cZ cB h0 a0  (clX7 cI cJ cZ cB (a0 0) a2 (c2 0) (c2 1 0) (c2 2 0) (c2 3 0) (c2 4 0) (c2 5 0) (clX3 cI cJ cZ cB (a0 1) a1 (c1 0) (c1 1) (c1 2) (c1 3) (c1 4) (c1 5 0) (c1 6 0) (c1 7 0) (c1 8 0) (c1 9 0) []))) H locs := wd_sub hW [0, 7, 8, 1, 2, 3, 4, 5, 6] rfl rfl
  refine kv (clX2 cI cJ cZ cB h0 a0  (clX7 cI cJ cZ cB (a0 0) a2 (cv2 0) (cv2 1 0) (cv2 2 0) (cv2 3 0) (cv2 4 0) (cv2 5 0) (clX3 cI cJ cZ cB (a0 1) a1 (c1 0) (c1 1) (c1 2) (c1 3) (c1 4) (c1 5 0) (c1 6 0) (c1 7 0) (c1 8 0) (c1 9 0) []))) S hK hN hZ hA hW (rest := []) (t_X2_numberWithin l dC dI cI cJ cZ cB zz h0 a0 a2 F c2 (0 : Int32) ((c1 5 0) - (1 : Int32)) _ _  hy3) wl_X2_69 wv_X2_numberWithin rfl rfl ⟨Nat.le_of_ble_eq_true rfl, Nat.le_of_ble_eq_true rfl⟩ [] (clX3 cI cJ cZ cB (a0 1) a1 (c1 0) (c1 1) (c1 2) (c1 3) (c1 4) (c1 5 0) (c1 6 0) (c1 7 0) (c1 8 0) (c1 9 0) []) rfl rfl rfl 0 rfl rfl rfl rfl hl.1 rfl (Nat.le_of_ble_eq_true rfl) dX2_readSaying_11 [.int r1] rfl (fun H locs hW => ?_)
  have hW : wd (dC, dI) A s.heap (clX2 cI cJ cZ cB h0 a0  (clX3 cI cJ cZ cB (a0 1) a1 (c1 0) (c1 1) (c1 2) (c1 3) (c1 4) (c1 5 0) (c1 6 0) (c1 7 0) (c1 8 0) (c1 9 0) (clX7 cI cJ cZ cB (a0 0) a2 (cv2 0) (cv2 1 0) (cv2 2 0) (cv2 3 0) (cv2 4 0) (cv2 5 0) []))) H locs := wd_sub hW [0, 3, 4, 5, 6, 7, 8, 1, 2] rfl rfl
  refine lv_if_eq (tgt := 37) S.1 S.2.1 dX2_readSaying_14 (by decide) (fun u4 => ?_) (fun u4 => ?_)
  · have h := of_p u4 h
    refine lv_iconst (v := (0 : Int32)) S.1 S.2.1 dX2_readSaying_37 ki_0 ?_
    have f5 := Option.some.inj h
    obtain ⟨f6, f7⟩ := Prod.mk.inj f5
    obtain ⟨f8, f9⟩ := Prod.mk.inj f7
    subst f6
    subst f8
    subst f9
    exact rz S hr hlocks hW (nz (Or.inl rfl)) dX2_readSaying_38
  · have h := of_n u4 h
    refine lv_aload_n S.1 S.2.1 dX2_readSaying_17 rfl (lv_at hl 0 rfl) ?_
    refine gf (C := RX2) (T := TX2) (N := 2) (ci := 1) (k := 1) S hK hW wu_X2 rfl (by decide) wf_X2_21 0 rfl rfl dX2_readSaying_18 ?_
    refine gf (C := RX3) (T := TX3) (N := 10) (ci := 2) (k := 6) S hK hW wu_X3 rfl (by decide) wf_X2_101 1 rfl rfl dX2_readSaying_21 ?_
    refine lv_aload_n S.1 S.2.1 dX2_readSaying_24 rfl (lv_at hl 0 rfl) ?_
    refine gf (C := RX2) (T := TX2) (N := 2) (ci := 1) (k := 0) S hK hW wu_X2 rfl (by decide) wf_X2_12 0 rfl rfl dX2_readSaying_25 ?_
    refine gf (C := RX7) (T := TX7) (N := 6) (ci := 3) (k := 4) S hK hW wu_X7 rfl (by decide) wf_X2_73 7 rfl rfl dX2_readSaying_28 ?_
    obtain ⟨r10, hy11, h⟩ := bd1_e h
    refine kn0 S hK hN hZ hA hW (rest := []) (t_X8_has l dC dI cI cJ cZ cB zz (c1 6 0) (cv2 4 0) _  hy11) wx_X2_104 wv_X8_has rfl rfl ⟨Nat.le_of_ble_eq_true rfl, Nat.le_of_ble_eq_true rfl⟩ [] (clX2 cI cJ cZ cB h0 a0  (clX3 cI cJ cZ cB (a0 1) a1 (c1 0) (c1 1) (c1 2) (c1 3) (c1 4) (c1 5 0) (c1 6 0) (c1 7 0) (c1 8 0) (c1 9 0) (clX7 cI cJ cZ cB (a0 0) a2 (cv2 0) (cv2 1 0) (cv2 2 0) (cv2 3 0) (cv2 4 0) (cv2 5 0) []))) rfl rfl hl.1 rfl (Nat.le_of_ble_eq_true rfl) dX2_readSaying_31 [.int r10] rfl (fun H locs hW => ?_)
    refine lv_if_eq (tgt := 39) S.1 S.2.1 dX2_readSaying_34 (by decide) (fun u12 => ?_) (fun u12 => ?_)
    · have h := of_p u12 h
      refine lv_aload_n S.1 S.2.1 dX2_readSaying_39 rfl (lv_at hl 0 rfl) ?_
      refine gf (C := RX2) (T := TX2) (N := 2) (ci := 1) (k := 1) S hK hW wu_X2 rfl (by decide) wf_X2_21 0 rfl rfl dX2_readSaying_40 ?_
      refine lv_aload_n S.1 S.2.1 dX2_readSaying_43 rfl (lv_at hl 0 rfl) ?_
      refine gf (C := RX2) (T := TX2) (N := 2) (ci := 1) (k := 0) S hK hW wu_X2 rfl (by decide) wf_X2_12 0 rfl rfl dX2_readSaying_44 ?_
      refine gf (C := RX7) (T := TX7) (N := 6) (ci := 3) (k := 4) S hK hW wu_X7 rfl (by decide) wf_X2_73 7 rfl rfl dX2_readSaying_47 ?_
      obtain ⟨cv13, hy14, h⟩ := bd1_e h
      refine kv (clX2 cI cJ cZ cB h0 a0  (clX3 cI cJ cZ cB (a0 1) a1 (cv13 0) (cv13 1) (cv13 2) (cv13 3) (cv13 4) (cv13 5 0) (cv13 6 0) (cv13 7 0) (cv13 8 0) (cv13 9 0) (clX7 cI cJ cZ cB (a0 0) a2 (cv2 0) (cv2 1 0) (cv2 2 0) (cv2 3 0) (cv2 4 0) (cv2 5 0) []))) S hK hN hZ hA hW (rest := []) (t_X3_speak l dC dI cI cJ cZ cB zz (a0 1) a1 c1 (cv2 4 0) _  hy14) wl_X2_107 wv_X3_speak rfl rfl ⟨Nat.le_of_ble_eq_true rfl, Nat.le_of_ble_eq_true rfl⟩ (clX2 cI cJ cZ cB h0 a0  []) (clX7 cI cJ cZ cB (a0 0) a2 (cv2 0) (cv2 1 0) (cv2 2 0) (cv2 3 0) (cv2 4 0) (cv2 5 0) []) rfl rfl rfl 1 rfl rfl rfl rfl hl.1 rfl (Nat.le_of_ble_eq_true rfl) dX2_readSaying_50 [] rfl (fun H locs hW => ?_)
      refine lv_aload_n S.1 S.2.1 dX2_readSaying_53 rfl (lv_at hl 0 rfl) ?_
      obtain ⟨r15, cv16, hy17, h⟩ := bd2_e h
      have hW : wd (dC, dI) A s.heap (clX2 cI cJ cZ cB h0 a0  (clX7 cI cJ cZ cB (a0 0) a2 (cv2 0) (cv2 1 0) (cv2 2 0) (cv2 3 0) (cv2 4 0) (cv2 5 0) (clX3 cI cJ cZ cB (a0 1) a1 (cv13 0) (cv13 1) (cv13 2) (cv13 3) (cv13 4) (cv13 5 0) (cv13 6 0) (cv13 7 0) (cv13 8 0) (cv13 9 0) []))) H locs := wd_sub hW [0, 7, 8, 1, 2, 3, 4, 5, 6] rfl rfl
      refine kv (clX2 cI cJ cZ cB h0 a0  (clX7 cI cJ cZ cB (a0 0) a2 (cv16 0) (cv16 1 0) (cv16 2 0) (cv16 3 0) (cv16 4 0) (cv16 5 0) (clX3 cI cJ cZ cB (a0 1) a1 (cv13 0) (cv13 1) (cv13 2) (cv13 3) (cv13 4) (cv13 5 0) (cv13 6 0) (cv13 7 0) (cv13 8 0) (cv13 9 0) []))) S hK hN hZ hA hW (rest := []) (t_X2_semicolon l dC dI cI cJ cZ cB zz h0 a0 a2 F cv2 _ _  hy17) wl_X2_80 wv_X2_semicolon rfl rfl ⟨Nat.le_of_ble_eq_true rfl, Nat.le_of_ble_eq_true rfl⟩ [] (clX3 cI cJ cZ cB (a0 1) a1 (cv13 0) (cv13 1) (cv13 2) (cv13 3) (cv13 4) (cv13 5 0) (cv13 6 0) (cv13 7 0) (cv13 8 0) (cv13 9 0) []) rfl rfl rfl 0 rfl rfl rfl rfl hl.1 rfl (Nat.le_of_ble_eq_true rfl) dX2_readSaying_54 [.int r15] rfl (fun H locs hW => ?_)
      have hW : wd (dC, dI) A s.heap (clX2 cI cJ cZ cB h0 a0  (clX3 cI cJ cZ cB (a0 1) a1 (cv13 0) (cv13 1) (cv13 2) (cv13 3) (cv13 4) (cv13 5 0) (cv13 6 0) (cv13 7 0) (cv13 8 0) (cv13 9 0) (clX7 cI cJ cZ cB (a0 0) a2 (cv16 0) (cv16 1 0) (cv16 2 0) (cv16 3 0) (cv16 4 0) (cv16 5 0) []))) H locs := wd_sub hW [0, 3, 4, 5, 6, 7, 8, 1, 2] rfl rfl
      obtain ⟨z18, h⟩ := of_g h
      have f19 := Option.some.inj h
      obtain ⟨f20, f21⟩ := Prod.mk.inj f19
      obtain ⟨f22, f23⟩ := Prod.mk.inj f21
      subst f20
      subst f22
      subst f23
      exact rz S hr hlocks hW (nz z18) dX2_readSaying_57
    · have h := of_n u12 h
      refine lv_iconst (v := (0 : Int32)) S.1 S.2.1 dX2_readSaying_37 ki_0 ?_
      have f24 := Option.some.inj h
      obtain ⟨f25, f26⟩ := Prod.mk.inj f24
      obtain ⟨f27, f28⟩ := Prod.mk.inj f26
      subst f25
      subst f27
      subst f28
      exact rz S hr hlocks hW (nz (Or.inl rfl)) dX2_readSaying_38
abbrev rmX7_tokenIs : Room := { frames := 4, cells := 0, slots := 0, locals := 140 }
set_option maxHeartbeats 4000000 in
set_option maxRecDepth 100000 in
theorem t_X7_tokenIs (l : Launch) (dC : Nat → ClassId) (dI : Nat → Nat → Nat) (cI cJ cZ cB : ClassId) (zz : ZT)  (h0 : Nat) (a0 : Nat → Nat) (F : Nat) (c0 : Nat → Nat → Int32) (i1 : Nat) (r : Int32) (hi1 : i1 < 5) (hm : md_X7_tokenIs F c0 i1 = some (r)) : ct l (dC, dI) zz (ty4 cI cJ cZ cB) yX7_tokenIs cX7_tokenIs 3 (some .boolean) rmX7_tokenIs [.ref h0, .ref (zz.1 i1)] (cwX7 cI cJ cZ cB h0 a0 c0 []) (cwX7 cI cJ cZ cB h0 a0 c0 []) (some (.int r)) := by
  refine ct_of (cc := cX7_tokenIs) (maxL := 3) (ret := (some .boolean)) (by decide) (Nat.le_of_ble_eq_true rfl) ?_
  intro p e s m below meth c A S hr hlocks hK hN hZ hA H locs hW ls hl
  have S : CallFix p m c cX7_tokenIs 3 s (List.toArray [.ref h0, .ref (zz.1 i1)]) G RX7 := S
  have hl : lv_has ls 3 [(0, .ref h0), (1, .ref (zz.1 i1))] := hl
  have h := hm
  rw [md_X7_tokenIs] at h
  have hW : wd (dC, dI) A s.heap (clX7 cI cJ cZ cB h0 a0 (c0 0) (c0 1 0) (c0 2 0) (c0 3 0) (c0 4 0) (c0 5 0) []) H locs := hW
  have hL28 : ∀ (n28 : Nat) (x2 : Int32), ld_X7_tokenIs_28 F i1 c0 n28 x2 = some (r) → ∀ (H : Heap) (locs : List Loc), wd (dC, dI) A s.heap (clX7 cI cJ cZ cB h0 a0 (c0 0) (c0 1 0) (c0 2 0) (c0 3 0) (c0 4 0) (c0 5 0) []) H locs → ∀ ls : Array Slot, lv_has ls 3 [(0, .ref h0), (1, .ref (zz.1 i1)), (2, .int x2)] → W p l e rmX7_tokenIs s m (List.toArray [.ref h0, .ref (zz.1 i1)]) below meth c H locs 0 0 (MQ below (kQ (dC, dI) (cwX7 cI cJ cZ cB h0 a0 c0 []) (some (.int r)) A) (List.toArray [.ref h0, .ref (zz.1 i1)]) s 0 0 A) (F0 m 28 ls []) := by
    intro n28
    induction n28 with
    | zero => intro x2 h; rw [ld_X7_tokenIs_28] at h; cases h
    | succ n28 ih28 =>
      intro x2 h H locs hW ls hl
      rw [ld_X7_tokenIs_28] at h
      refine lv_iload_n S.1 S.2.1 dX7_tokenIs_28 rfl (lv_at hl 2 rfl) ?_
      refine lv_aload_n S.1 S.2.1 dX7_tokenIs_29 rfl (lv_at hl 1 rfl) ?_
      refine kvz0 S hK hN hZ hA hW (rest := [.int x2]) (t_J0_length_8abf5 l dC dI cI cJ cZ cB zz i1 hi1) wl_X7_41 wv_J0_length_8abf5 rfl rfl ⟨Nat.le_of_ble_eq_true rfl, Nat.le_of_ble_eq_true rfl⟩ [] (clX7 cI cJ cZ cB h0 a0 (c0 0) (c0 1 0) (c0 2 0) (c0 3 0) (c0 4 0) (c0 5 0) []) rfl i1 hi1 rfl rfl rfl hl.1 rfl (Nat.le_of_ble_eq_true rfl) dX7_tokenIs_30 [.int (nI (lenZ.getD i1 0)), .int x2] rfl (fun H locs hW => ?_)
      refine lv_icmp_ge (tgt := 62) S.1 S.2.1 dX7_tokenIs_33 (by decide) (fun u1 => ?_) (fun u1 => ?_)
      · have h := of_p u1 h
        refine lv_iconst (v := (1 : Int32)) S.1 S.2.1 dX7_tokenIs_62 ki_1 ?_
        have f2 := Option.some.inj h
        subst f2
        exact rz S hr hlocks hW (nz (Or.inr rfl)) dX7_tokenIs_63
      · have h := of_n u1 h
        refine lv_aload_n S.1 S.2.1 dX7_tokenIs_36 rfl (lv_at hl 0 rfl) ?_
        refine lv_aload_n S.1 S.2.1 dX7_tokenIs_37 rfl (lv_at hl 0 rfl) ?_
        refine gf (C := RX7) (T := TX7) (N := 6) (ci := 3) (k := 3) S hK hW wu_X7 rfl (by decide) wf_X7_22 0 rfl rfl dX7_tokenIs_38 ?_
        refine lv_iload_n S.1 S.2.1 dX7_tokenIs_41 rfl (lv_at hl 2 rfl) ?_
        refine lv_iadd S.1 S.2.1 dX7_tokenIs_42 ?_
        obtain ⟨r3, hy4, h⟩ := bd1_e h
        refine kv0 S hK hN hZ hA hW (rest := []) (t_X7_byteAt l dC dI cI cJ cZ cB zz h0 a0 c0 ((c0 3 0) + x2) _  hy4) wl_X7_38 wv_X7_byteAt rfl rfl ⟨Nat.le_of_ble_eq_true rfl, Nat.le_of_ble_eq_true rfl⟩ [] [] rfl 0 rfl rfl rfl rfl hl.1 rfl (Nat.le_of_ble_eq_true rfl) dX7_tokenIs_43 [.int r3] rfl (fun H locs hW => ?_)
        refine lv_aload_n S.1 S.2.1 dX7_tokenIs_46 rfl (lv_at hl 1 rfl) ?_
        refine lv_iload_n S.1 S.2.1 dX7_tokenIs_47 rfl (lv_at hl 2 rfl) ?_
        obtain ⟨z5, h⟩ := of_g h
        refine kvz0 S hK hN hZ hA hW (rest := [.int r3]) (t_J0_charAt_5068e l dC dI cI cJ cZ cB zz i1 hi1 x2 z5) wl_X7_46 wv_J0_charAt_5068e rfl rfl ⟨Nat.le_of_ble_eq_true rfl, Nat.le_of_ble_eq_true rfl⟩ [] (clX7 cI cJ cZ cB h0 a0 (c0 0) (c0 1 0) (c0 2 0) (c0 3 0) (c0 4 0) (c0 5 0) []) rfl i1 hi1 rfl rfl rfl hl.1 rfl (Nat.le_of_ble_eq_true rfl) dX7_tokenIs_48 [.int (chZ i1 x2), .int r3] rfl (fun H locs hW => ?_)
        refine lv_icmp_eq (tgt := 56) S.1 S.2.1 dX7_tokenIs_51 (by decide) (fun u6 => ?_) (fun u6 => ?_)
        · have h := of_p u6 h
          refine lv_iinc (v := (x2 + (1 : Int32))) (lv' := [(2, .int (x2 + (1 : Int32))), (0, .ref h0), (1, .ref (zz.1 i1))]) S.1 S.2.1 dX7_tokenIs_56 hl (k := 2) rfl (congrArg (fun z => x2 + z) ki_1) (by decide) rfl (fun ls hl => ?_)
          refine lv_goto (tgt := 28) S.1 S.2.1 dX7_tokenIs_59 (by decide) ?_
          exact ih28 _ h H locs hW ls (lv_sub hl [1, 2, 0] rfl)
        · have h := of_n u6 h
          refine lv_iconst (v := (0 : Int32)) S.1 S.2.1 dX7_tokenIs_54 ki_0 ?_
          have f7 := Option.some.inj h
          subst f7
          exact rz S hr hlocks hW (nz (Or.inl rfl)) dX7_tokenIs_55
  refine lv_aload_n S.1 S.2.1 dX7_tokenIs_0 rfl (lv_at hl 0 rfl) ?_
  refine gf (C := RX7) (T := TX7) (N := 6) (ci := 3) (k := 2) S hK hW wu_X7 rfl (by decide) wf_X7_19 0 rfl rfl dX7_tokenIs_1 ?_
  refine lv_iconst (v := (1 : Int32)) S.1 S.2.1 dX7_tokenIs_4 ki_1 ?_
  refine lv_icmp_ne (tgt := 24) S.1 S.2.1 dX7_tokenIs_5 (by decide) (fun u8 => ?_) (fun u8 => ?_)
  · have h := of_n u8 h
    refine lv_iconst (v := (0 : Int32)) S.1 S.2.1 dX7_tokenIs_24 ki_0 ?_
    have f9 := Option.some.inj h
    subst f9
    exact rz S hr hlocks hW (nz (Or.inl rfl)) dX7_tokenIs_25
  · have h := of_p u8 h
    refine lv_aload_n S.1 S.2.1 dX7_tokenIs_8 rfl (lv_at hl 0 rfl) ?_
    refine gf (C := RX7) (T := TX7) (N := 6) (ci := 3) (k := 5) S hK hW wu_X7 rfl (by decide) wf_X7_25 0 rfl rfl dX7_tokenIs_9 ?_
    refine lv_aload_n S.1 S.2.1 dX7_tokenIs_12 rfl (lv_at hl 0 rfl) ?_
    refine gf (C := RX7) (T := TX7) (N := 6) (ci := 3) (k := 3) S hK hW wu_X7 rfl (by decide) wf_X7_22 0 rfl rfl dX7_tokenIs_13 ?_
    refine lv_isub S.1 S.2.1 dX7_tokenIs_16 ?_
    refine lv_aload_n S.1 S.2.1 dX7_tokenIs_17 rfl (lv_at hl 1 rfl) ?_
    refine kvz0 S hK hN hZ hA hW (rest := [.int ((c0 5 0) - (c0 3 0))]) (t_J0_length_8abf5 l dC dI cI cJ cZ cB zz i1 hi1) wl_X7_41 wv_J0_length_8abf5 rfl rfl ⟨Nat.le_of_ble_eq_true rfl, Nat.le_of_ble_eq_true rfl⟩ [] (clX7 cI cJ cZ cB h0 a0 (c0 0) (c0 1 0) (c0 2 0) (c0 3 0) (c0 4 0) (c0 5 0) []) rfl i1 hi1 rfl rfl rfl hl.1 rfl (Nat.le_of_ble_eq_true rfl) dX7_tokenIs_18 [.int (nI (lenZ.getD i1 0)), .int ((c0 5 0) - (c0 3 0))] rfl (fun H locs hW => ?_)
    refine lv_icmp_eq (tgt := 26) S.1 S.2.1 dX7_tokenIs_21 (by decide) (fun u10 => ?_) (fun u10 => ?_)
    · have h := of_p u10 h
      refine lv_iconst (v := (0 : Int32)) S.1 S.2.1 dX7_tokenIs_26 ki_0 ?_
      refine lv_istore_n (lv' := [(2, .int (0 : Int32)), (0, .ref h0), (1, .ref (zz.1 i1))]) S.1 S.2.1 dX7_tokenIs_27 rfl hl (by decide) rfl (fun ls hl => ?_)
      exact hL28 F _ h H locs hW ls (lv_sub hl [1, 2, 0] rfl)
    · have h := of_n u10 h
      refine lv_iconst (v := (0 : Int32)) S.1 S.2.1 dX7_tokenIs_24 ki_0 ?_
      have f11 := Option.some.inj h
      subst f11
      exact rz S hr hlocks hW (nz (Or.inl rfl)) dX7_tokenIs_25
abbrev rmX2_readItem : Room := { frames := 5, cells := 0, slots := 0, locals := 162 }
set_option maxHeartbeats 4000000 in
set_option maxRecDepth 100000 in
theorem t_X2_readItem (l : Launch) (dC : Nat → ClassId) (dI : Nat → Nat → Nat) (cI cJ cZ cB : ClassId) (zz : ZT)  (h0 : Nat) (a0 : Nat → Nat) (a1 : Nat → Nat) (a2 : Nat → Nat) (F : Nat) (c1 : Nat → Nat → Int32) (c2 : Nat → Nat → Int32) (p1 : Int32) (r : Int32) (c1' : Nat → Nat → Int32) (c2' : Nat → Nat → Int32) (hm : md_X2_readItem F c1 c2 p1 = some (r, c1', c2')) : ct l (dC, dI) zz (ty4 cI cJ cZ cB) yX2_readItem cX2_readItem 2 (some .boolean) rmX2_readItem [.ref h0, .int p1] (cwX2 cI cJ cZ cB h0 a0  (cwX3 cI cJ cZ cB (a0 1) a1 c1 (cwX7 cI cJ cZ cB (a0 0) a2 c2 []))) (cwX2 cI cJ cZ cB h0 a0  (cwX3 cI cJ cZ cB (a0 1) a1 c1' (cwX7 cI cJ cZ cB (a0 0) a2 c2' []))) (some (.int r)) := by
  refine ct_of (cc := cX2_readItem) (maxL := 2) (ret := (some .boolean)) (by decide) (Nat.le_of_ble_eq_true rfl) ?_
  intro p e s m below meth c A S hr hlocks hK hN hZ hA H locs hW ls hl
  have S : CallFix p m c cX2_readItem 2 s (List.toArray [.ref h0, .int p1]) G RX2 := S
  have hl : lv_has ls 2 [(0, .ref h0), (1, .int p1)] := hl
  have h := hm
  rw [md_X2_readItem] at h
  have hW : wd (dC, dI) A s.heap (clX2 cI cJ cZ cB h0 a0  (clX3 cI cJ cZ cB (a0 1) a1 (c1 0) (c1 1) (c1 2) (c1 3) (c1 4) (c1 5 0) (c1 6 0) (c1 7 0) (c1 8 0) (c1 9 0) (clX7 cI cJ cZ cB (a0 0) a2 (c2 0) (c2 1 0) (c2 2 0) (c2 3 0) (c2 4 0) (c2 5 0) []))) H locs := hW
  refine lv_iload_n S.1 S.2.1 dX2_readItem_0 rfl (lv_at hl 1 rfl) ?_
  refine lv_if_eq (tgt := 29) S.1 S.2.1 dX2_readItem_1 (by decide) (fun u1 => ?_) (fun u1 => ?_)
  · have h := of_p u1 h
    refine lv_aload_n S.1 S.2.1 dX2_readItem_29 rfl (lv_at hl 0 rfl) ?_
    refine gf (C := RX2) (T := TX2) (N := 2) (ci := 1) (k := 0) S hK hW wu_X2 rfl (by decide) wf_X2_12 0 rfl rfl dX2_readItem_30 ?_
    refine va_ldcS S.1 S.2.1 S.2.2.2.1 hZ.2.2.2.2.1 dX2_readItem_33 ?_
    obtain ⟨r2, hy3, h⟩ := bd1_e h
    refine kv0 S hK hN hZ hA hW (rest := []) (t_X7_tokenIs l dC dI cI cJ cZ cB zz (a0 0) a2 F c2 1 _ (by decide) hy3) wl_X2_41 wv_X7_tokenIs rfl rfl ⟨Nat.le_of_ble_eq_true rfl, Nat.le_of_ble_eq_true rfl⟩ (clX2 cI cJ cZ cB h0 a0  (clX3 cI cJ cZ cB (a0 1) a1 (c1 0) (c1 1) (c1 2) (c1 3) (c1 4) (c1 5 0) (c1 6 0) (c1 7 0) (c1 8 0) (c1 9 0) [])) [] rfl 7 rfl rfl rfl rfl hl.1 rfl (Nat.le_of_ble_eq_true rfl) dX2_readItem_35 [.int r2] rfl (fun H locs hW => ?_)
    refine lv_if_eq (tgt := 46) S.1 S.2.1 dX2_readItem_38 (by decide) (fun u4 => ?_) (fun u4 => ?_)
    · have h := of_p u4 h
      refine lv_aload_n S.1 S.2.1 dX2_readItem_46 rfl (lv_at hl 0 rfl) ?_
      refine gf (C := RX2) (T := TX2) (N := 2) (ci := 1) (k := 0) S hK hW wu_X2 rfl (by decide) wf_X2_12 0 rfl rfl dX2_readItem_47 ?_
      refine va_ldcS S.1 S.2.1 S.2.2.2.1 hZ.2.2.2.2.2.1 dX2_readItem_50 ?_
      obtain ⟨r5, hy6, h⟩ := bd1_e h
      refine kv0 S hK hN hZ hA hW (rest := []) (t_X7_tokenIs l dC dI cI cJ cZ cB zz (a0 0) a2 F c2 2 _ (by decide) hy6) wl_X2_41 wv_X7_tokenIs rfl rfl ⟨Nat.le_of_ble_eq_true rfl, Nat.le_of_ble_eq_true rfl⟩ (clX2 cI cJ cZ cB h0 a0  (clX3 cI cJ cZ cB (a0 1) a1 (c1 0) (c1 1) (c1 2) (c1 3) (c1 4) (c1 5 0) (c1 6 0) (c1 7 0) (c1 8 0) (c1 9 0) [])) [] rfl 7 rfl rfl rfl rfl hl.1 rfl (Nat.le_of_ble_eq_true rfl) dX2_readItem_52 [.int r5] rfl (fun H locs hW => ?_)
      refine lv_if_eq (tgt := 63) S.1 S.2.1 dX2_readItem_55 (by decide) (fun u7 => ?_) (fun u7 => ?_)
      · have h := of_p u7 h
        refine lv_aload_n S.1 S.2.1 dX2_readItem_63 rfl (lv_at hl 0 rfl) ?_
        refine gf (C := RX2) (T := TX2) (N := 2) (ci := 1) (k := 0) S hK hW wu_X2 rfl (by decide) wf_X2_12 0 rfl rfl dX2_readItem_64 ?_
        refine va_ldcS S.1 S.2.1 S.2.2.2.1 hZ.2.2.2.2.2.2.1 dX2_readItem_67 ?_
        obtain ⟨r8, hy9, h⟩ := bd1_e h
        refine kv0 S hK hN hZ hA hW (rest := []) (t_X7_tokenIs l dC dI cI cJ cZ cB zz (a0 0) a2 F c2 3 _ (by decide) hy9) wl_X2_41 wv_X7_tokenIs rfl rfl ⟨Nat.le_of_ble_eq_true rfl, Nat.le_of_ble_eq_true rfl⟩ (clX2 cI cJ cZ cB h0 a0  (clX3 cI cJ cZ cB (a0 1) a1 (c1 0) (c1 1) (c1 2) (c1 3) (c1 4) (c1 5 0) (c1 6 0) (c1 7 0) (c1 8 0) (c1 9 0) [])) [] rfl 7 rfl rfl rfl rfl hl.1 rfl (Nat.le_of_ble_eq_true rfl) dX2_readItem_69 [.int r8] rfl (fun H locs hW => ?_)
        refine lv_if_eq (tgt := 80) S.1 S.2.1 dX2_readItem_72 (by decide) (fun u10 => ?_) (fun u10 => ?_)
        · have h := of_p u10 h
          refine lv_aload_n S.1 S.2.1 dX2_readItem_80 rfl (lv_at hl 0 rfl) ?_
          refine gf (C := RX2) (T := TX2) (N := 2) (ci := 1) (k := 0) S hK hW wu_X2 rfl (by decide) wf_X2_12 0 rfl rfl dX2_readItem_81 ?_
          refine va_ldcS S.1 S.2.1 S.2.2.2.1 hZ.2.2.2.2.2.2.2 dX2_readItem_84 ?_
          obtain ⟨r11, hy12, h⟩ := bd1_e h
          refine kv0 S hK hN hZ hA hW (rest := []) (t_X7_tokenIs l dC dI cI cJ cZ cB zz (a0 0) a2 F c2 4 _ (by decide) hy12) wl_X2_41 wv_X7_tokenIs rfl rfl ⟨Nat.le_of_ble_eq_true rfl, Nat.le_of_ble_eq_true rfl⟩ (clX2 cI cJ cZ cB h0 a0  (clX3 cI cJ cZ cB (a0 1) a1 (c1 0) (c1 1) (c1 2) (c1 3) (c1 4) (c1 5 0) (c1 6 0) (c1 7 0) (c1 8 0) (c1 9 0) [])) [] rfl 7 rfl rfl rfl rfl hl.1 rfl (Nat.le_of_ble_eq_true rfl) dX2_readItem_86 [.int r11] rfl (fun H locs hW => ?_)
          refine lv_if_eq (tgt := 103) S.1 S.2.1 dX2_readItem_89 (by decide) (fun u13 => ?_) (fun u13 => ?_)
          · have h := of_p u13 h
            refine lv_iconst (v := (0 : Int32)) S.1 S.2.1 dX2_readItem_103 ki_0 ?_
            have f14 := Option.some.inj h
            obtain ⟨f15, f16⟩ := Prod.mk.inj f14
            obtain ⟨f17, f18⟩ := Prod.mk.inj f16
            subst f15
            subst f17
            subst f18
            exact rz S hr hlocks hW (nz (Or.inl rfl)) dX2_readItem_104
          · have h := of_n u13 h
            refine lv_aload_n S.1 S.2.1 dX2_readItem_92 rfl (lv_at hl 0 rfl) ?_
            obtain ⟨r19, cv20, cv21, hy22, h⟩ := bd3_e h
            refine kv (clX2 cI cJ cZ cB h0 a0  (clX3 cI cJ cZ cB (a0 1) a1 (cv20 0) (cv20 1) (cv20 2) (cv20 3) (cv20 4) (cv20 5 0) (cv20 6 0) (cv20 7 0) (cv20 8 0) (cv20 9 0) (clX7 cI cJ cZ cB (a0 0) a2 (cv21 0) (cv21 1 0) (cv21 2 0) (cv21 3 0) (cv21 4 0) (cv21 5 0) []))) S hK hN hZ hA hW (rest := []) (t_X2_readObjecting l dC dI cI cJ cZ cB zz h0 a0 a1 a2 F c1 c2 _ _ _  hy22) wl_X2_66 wv_X2_readObjecting rfl rfl ⟨Nat.le_of_ble_eq_true rfl, Nat.le_of_ble_eq_true rfl⟩ [] [] rfl rfl rfl 0 rfl rfl rfl rfl hl.1 rfl (Nat.le_of_ble_eq_true rfl) dX2_readItem_93 [.int r19] rfl (fun H locs hW => ?_)
            refine lv_if_eq (tgt := 103) S.1 S.2.1 dX2_readItem_96 (by decide) (fun u23 => ?_) (fun u23 => ?_)
            · have h := of_p u23 h
              refine lv_iconst (v := (0 : Int32)) S.1 S.2.1 dX2_readItem_103 ki_0 ?_
              have f24 := Option.some.inj h
              obtain ⟨f25, f26⟩ := Prod.mk.inj f24
              obtain ⟨f27, f28⟩ := Prod.mk.inj f26
              subst f25
              subst f27
              subst f28
              exact rz S hr hlocks hW (nz (Or.inl rfl)) dX2_readItem_104
            · have h := of_n u23 h
              refine lv_iconst (v := (1 : Int32)) S.1 S.2.1 dX2_readItem_99 ki_1 ?_
              refine lv_goto (tgt := 104) S.1 S.2.1 dX2_readItem_100 (by decide) ?_
              have f29 := Option.some.inj h
              obtain ⟨f30, f31⟩ := Prod.mk.inj f29
              obtain ⟨f32, f33⟩ := Prod.mk.inj f31
              subst f30
              subst f32
              subst f33
              exact rz S hr hlocks hW (nz (Or.inr rfl)) dX2_readItem_104
        · have h := of_n u10 h
          refine lv_aload_n S.1 S.2.1 dX2_readItem_75 rfl (lv_at hl 0 rfl) ?_
          obtain ⟨r34, cv35, cv36, hy37, h⟩ := bd3_e h
          refine kv (clX2 cI cJ cZ cB h0 a0  (clX3 cI cJ cZ cB (a0 1) a1 (cv35 0) (cv35 1) (cv35 2) (cv35 3) (cv35 4) (cv35 5 0) (cv35 6 0) (cv35 7 0) (cv35 8 0) (cv35 9 0) (clX7 cI cJ cZ cB (a0 0) a2 (cv36 0) (cv36 1 0) (cv36 2 0) (cv36 3 0) (cv36 4 0) (cv36 5 0) []))) S hK hN hZ hA hW (rest := []) (t_X2_readSaying l dC dI cI cJ cZ cB zz h0 a0 a1 a2 F c1 c2 _ _ _  hy37) wl_X2_61 wv_X2_readSaying rfl rfl ⟨Nat.le_of_ble_eq_true rfl, Nat.le_of_ble_eq_true rfl⟩ [] [] rfl rfl rfl 0 rfl rfl rfl rfl hl.1 rfl (Nat.le_of_ble_eq_true rfl) dX2_readItem_76 [.int r34] rfl (fun H locs hW => ?_)
          obtain ⟨z38, h⟩ := of_g h
          have f39 := Option.some.inj h
          obtain ⟨f40, f41⟩ := Prod.mk.inj f39
          obtain ⟨f42, f43⟩ := Prod.mk.inj f41
          subst f40
          subst f42
          subst f43
          exact rz S hr hlocks hW (nz z38) dX2_readItem_79
      · have h := of_n u7 h
        refine lv_aload_n S.1 S.2.1 dX2_readItem_58 rfl (lv_at hl 0 rfl) ?_
        obtain ⟨r44, cv45, cv46, hy47, h⟩ := bd3_e h
        refine kv (clX2 cI cJ cZ cB h0 a0  (clX3 cI cJ cZ cB (a0 1) a1 (cv45 0) (cv45 1) (cv45 2) (cv45 3) (cv45 4) (cv45 5 0) (cv45 6 0) (cv45 7 0) (cv45 8 0) (cv45 9 0) (clX7 cI cJ cZ cB (a0 0) a2 (cv46 0) (cv46 1 0) (cv46 2 0) (cv46 3 0) (cv46 4 0) (cv46 5 0) []))) S hK hN hZ hA hW (rest := []) (t_X2_readPoint l dC dI cI cJ cZ cB zz h0 a0 a1 a2 F c1 c2 _ _ _  hy47) wl_X2_56 wv_X2_readPoint rfl rfl ⟨Nat.le_of_ble_eq_true rfl, Nat.le_of_ble_eq_true rfl⟩ [] [] rfl rfl rfl 0 rfl rfl rfl rfl hl.1 rfl (Nat.le_of_ble_eq_true rfl) dX2_readItem_59 [.int r44] rfl (fun H locs hW => ?_)
        obtain ⟨z48, h⟩ := of_g h
        have f49 := Option.some.inj h
        obtain ⟨f50, f51⟩ := Prod.mk.inj f49
        obtain ⟨f52, f53⟩ := Prod.mk.inj f51
        subst f50
        subst f52
        subst f53
        exact rz S hr hlocks hW (nz z48) dX2_readItem_62
    · have h := of_n u4 h
      refine lv_aload_n S.1 S.2.1 dX2_readItem_41 rfl (lv_at hl 0 rfl) ?_
      obtain ⟨r54, cv55, cv56, hy57, h⟩ := bd3_e h
      refine kv (clX2 cI cJ cZ cB h0 a0  (clX3 cI cJ cZ cB (a0 1) a1 (cv55 0) (cv55 1) (cv55 2) (cv55 3) (cv55 4) (cv55 5 0) (cv55 6 0) (cv55 7 0) (cv55 8 0) (cv55 9 0) (clX7 cI cJ cZ cB (a0 0) a2 (cv56 0) (cv56 1 0) (cv56 2 0) (cv56 3 0) (cv56 4 0) (cv56 5 0) []))) S hK hN hZ hA hW (rest := []) (t_X2_readBows l dC dI cI cJ cZ cB zz h0 a0 a1 a2 F c1 c2 _ _ _  hy57) wl_X2_51 wv_X2_readBows rfl rfl ⟨Nat.le_of_ble_eq_true rfl, Nat.le_of_ble_eq_true rfl⟩ [] [] rfl rfl rfl 0 rfl rfl rfl rfl hl.1 rfl (Nat.le_of_ble_eq_true rfl) dX2_readItem_42 [.int r54] rfl (fun H locs hW => ?_)
      obtain ⟨z58, h⟩ := of_g h
      have f59 := Option.some.inj h
      obtain ⟨f60, f61⟩ := Prod.mk.inj f59
      obtain ⟨f62, f63⟩ := Prod.mk.inj f61
      subst f60
      subst f62
      subst f63
      exact rz S hr hlocks hW (nz z58) dX2_readItem_45
  · have h := of_n u1 h
    refine lv_aload_n S.1 S.2.1 dX2_readItem_4 rfl (lv_at hl 0 rfl) ?_
    refine gf (C := RX2) (T := TX2) (N := 2) (ci := 1) (k := 0) S hK hW wu_X2 rfl (by decide) wf_X2_12 0 rfl rfl dX2_readItem_5 ?_
    refine va_ldcS S.1 S.2.1 S.2.2.2.1 hZ.2.2.2.1 dX2_readItem_8 ?_
    obtain ⟨r64, hy65, h⟩ := bd1_e h
    refine kv0 S hK hN hZ hA hW (rest := []) (t_X7_tokenIs l dC dI cI cJ cZ cB zz (a0 0) a2 F c2 0 _ (by decide) hy65) wl_X2_41 wv_X7_tokenIs rfl rfl ⟨Nat.le_of_ble_eq_true rfl, Nat.le_of_ble_eq_true rfl⟩ (clX2 cI cJ cZ cB h0 a0  (clX3 cI cJ cZ cB (a0 1) a1 (c1 0) (c1 1) (c1 2) (c1 3) (c1 4) (c1 5 0) (c1 6 0) (c1 7 0) (c1 8 0) (c1 9 0) [])) [] rfl 7 rfl rfl rfl rfl hl.1 rfl (Nat.le_of_ble_eq_true rfl) dX2_readItem_10 [.int r64] rfl (fun H locs hW => ?_)
    refine lv_if_eq (tgt := 27) S.1 S.2.1 dX2_readItem_13 (by decide) (fun u66 => ?_) (fun u66 => ?_)
    · have h := of_p u66 h
      refine lv_iconst (v := (0 : Int32)) S.1 S.2.1 dX2_readItem_27 ki_0 ?_
      have f67 := Option.some.inj h
      obtain ⟨f68, f69⟩ := Prod.mk.inj f67
      obtain ⟨f70, f71⟩ := Prod.mk.inj f69
      subst f68
      subst f70
      subst f71
      exact rz S hr hlocks hW (nz (Or.inl rfl)) dX2_readItem_28
    · have h := of_n u66 h
      refine lv_aload_n S.1 S.2.1 dX2_readItem_16 rfl (lv_at hl 0 rfl) ?_
      obtain ⟨r72, cv73, cv74, hy75, h⟩ := bd3_e h
      refine kv (clX2 cI cJ cZ cB h0 a0  (clX3 cI cJ cZ cB (a0 1) a1 (cv73 0) (cv73 1) (cv73 2) (cv73 3) (cv73 4) (cv73 5 0) (cv73 6 0) (cv73 7 0) (cv73 8 0) (cv73 9 0) (clX7 cI cJ cZ cB (a0 0) a2 (cv74 0) (cv74 1 0) (cv74 2 0) (cv74 3 0) (cv74 4 0) (cv74 5 0) []))) S hK hN hZ hA hW (rest := []) (t_X2_readCase l dC dI cI cJ cZ cB zz h0 a0 a1 a2 F c1 c2 _ _ _  hy75) wl_X2_45 wv_X2_readCase rfl rfl ⟨Nat.le_of_ble_eq_true rfl, Nat.le_of_ble_eq_true rfl⟩ [] [] rfl rfl rfl 0 rfl rfl rfl rfl hl.1 rfl (Nat.le_of_ble_eq_true rfl) dX2_readItem_17 [.int r72] rfl (fun H locs hW => ?_)
      refine lv_if_eq (tgt := 27) S.1 S.2.1 dX2_readItem_20 (by decide) (fun u76 => ?_) (fun u76 => ?_)
      · have h := of_p u76 h
        refine lv_iconst (v := (0 : Int32)) S.1 S.2.1 dX2_readItem_27 ki_0 ?_
        have f77 := Option.some.inj h
        obtain ⟨f78, f79⟩ := Prod.mk.inj f77
        obtain ⟨f80, f81⟩ := Prod.mk.inj f79
        subst f78
        subst f80
        subst f81
        exact rz S hr hlocks hW (nz (Or.inl rfl)) dX2_readItem_28
      · have h := of_n u76 h
        refine lv_iconst (v := (1 : Int32)) S.1 S.2.1 dX2_readItem_23 ki_1 ?_
        refine lv_goto (tgt := 28) S.1 S.2.1 dX2_readItem_24 (by decide) ?_
        have f82 := Option.some.inj h
        obtain ⟨f83, f84⟩ := Prod.mk.inj f82
        obtain ⟨f85, f86⟩ := Prod.mk.inj f84
        subst f83
        subst f85
        subst f86
        exact rz S hr hlocks hW (nz (Or.inr rfl)) dX2_readItem_28
abbrev rmX7_rewind : Room := { frames := 0, cells := 0, slots := 0, locals := 0 }
set_option maxHeartbeats 4000000 in
set_option maxRecDepth 100000 in
theorem t_X7_rewind (l : Launch) (dC : Nat → ClassId) (dI : Nat → Nat → Nat) (cI cJ cZ cB : ClassId) (zz : ZT)  (h0 : Nat) (a0 : Nat → Nat) (c0 : Nat → Nat → Int32) (c0' : Nat → Nat → Int32) (hm : md_X7_rewind c0 = some (c0')) : ct l (dC, dI) zz (ty4 cI cJ cZ cB) yX7_rewind cX7_rewind 1 none rmX7_rewind [.ref h0] (cwX7 cI cJ cZ cB h0 a0 c0 []) (cwX7 cI cJ cZ cB h0 a0 c0' []) none := by
  refine ct_of (cc := cX7_rewind) (maxL := 1) (ret := none) (by decide) (Nat.le_of_ble_eq_true rfl) ?_
  intro p e s m below meth c A S hr hlocks hK hN hZ hA H locs hW ls hl
  have S : CallFix p m c cX7_rewind 1 s (List.toArray [.ref h0]) G RX7 := S
  have hl : lv_has ls 1 [(0, .ref h0)] := hl
  have h := hm
  rw [md_X7_rewind] at h
  have hW : wd (dC, dI) A s.heap (clX7 cI cJ cZ cB h0 a0 (c0 0) (c0 1 0) (c0 2 0) (c0 3 0) (c0 4 0) (c0 5 0) []) H locs := hW
  refine lv_aload_n S.1 S.2.1 dX7_rewind_0 rfl (lv_at hl 0 rfl) ?_
  refine lv_iconst (v := (0 : Int32)) S.1 S.2.1 dX7_rewind_1 ki_0 ?_
  refine pf (C := RX7) (T := TX7) (N := 6) (ci := 3) (k := 2) (ty := .int) S hK hW wu_X7 rfl (by decide) tyX7 tyX7_ok nmX7 wf_X7_19 0 rfl rfl rfl rfl rfl (Nat.le_of_ble_eq_true rfl) dX7_rewind_2 (fun H locs hW => ?_)
  have hW : wd (dC, dI) A s.heap (clX7 cI cJ cZ cB h0 a0 (c0 0) (c0 1 0) (0 : Int32) (c0 3 0) (c0 4 0) (c0 5 0) []) H locs := hW
  refine lv_aload_n S.1 S.2.1 dX7_rewind_5 rfl (lv_at hl 0 rfl) ?_
  refine lv_iconst (v := (0 : Int32)) S.1 S.2.1 dX7_rewind_6 ki_0 ?_
  refine pf (C := RX7) (T := TX7) (N := 6) (ci := 3) (k := 3) (ty := .int) S hK hW wu_X7 rfl (by decide) tyX7 tyX7_ok nmX7 wf_X7_22 0 rfl rfl rfl rfl rfl (Nat.le_of_ble_eq_true rfl) dX7_rewind_7 (fun H locs hW => ?_)
  have hW : wd (dC, dI) A s.heap (clX7 cI cJ cZ cB h0 a0 (c0 0) (c0 1 0) (0 : Int32) (0 : Int32) (c0 4 0) (c0 5 0) []) H locs := hW
  refine lv_aload_n S.1 S.2.1 dX7_rewind_10 rfl (lv_at hl 0 rfl) ?_
  refine lv_iconst (v := (0 : Int32)) S.1 S.2.1 dX7_rewind_11 ki_0 ?_
  refine pf (C := RX7) (T := TX7) (N := 6) (ci := 3) (k := 5) (ty := .int) S hK hW wu_X7 rfl (by decide) tyX7 tyX7_ok nmX7 wf_X7_25 0 rfl rfl rfl rfl rfl (Nat.le_of_ble_eq_true rfl) dX7_rewind_12 (fun H locs hW => ?_)
  have hW : wd (dC, dI) A s.heap (clX7 cI cJ cZ cB h0 a0 (c0 0) (c0 1 0) (0 : Int32) (0 : Int32) (c0 4 0) (0 : Int32) []) H locs := hW
  have f1 := Option.some.inj h
  subst f1
  exact rv S hr hlocks hW dX7_rewind_15
abbrev rmX2_readAll : Room := { frames := 6, cells := 0, slots := 0, locals := 183 }
set_option maxHeartbeats 4000000 in
set_option maxRecDepth 100000 in
theorem t_X2_readAll (l : Launch) (dC : Nat → ClassId) (dI : Nat → Nat → Nat) (cI cJ cZ cB : ClassId) (zz : ZT)  (h0 : Nat) (a0 : Nat → Nat) (a1 : Nat → Nat) (a2 : Nat → Nat) (F : Nat) (c1 : Nat → Nat → Int32) (c2 : Nat → Nat → Int32) (r : Int32) (c1' : Nat → Nat → Int32) (c2' : Nat → Nat → Int32) (hm : md_X2_readAll F c1 c2 = some (r, c1', c2')) : ct l (dC, dI) zz (ty4 cI cJ cZ cB) yX2_readAll cX2_readAll 2 (some .int) rmX2_readAll [.ref h0] (cwX2 cI cJ cZ cB h0 a0  (cwX3 cI cJ cZ cB (a0 1) a1 c1 (cwX7 cI cJ cZ cB (a0 0) a2 c2 []))) (cwX2 cI cJ cZ cB h0 a0  (cwX3 cI cJ cZ cB (a0 1) a1 c1' (cwX7 cI cJ cZ cB (a0 0) a2 c2' []))) (some (.int r)) := by
  refine ct_of (cc := cX2_readAll) (maxL := 2) (ret := (some .int)) (by decide) (Nat.le_of_ble_eq_true rfl) ?_
  intro p e s m below meth c A S hr hlocks hK hN hZ hA H locs hW ls hl
  have S : CallFix p m c cX2_readAll 2 s (List.toArray [.ref h0]) G RX2 := S
  have hl : lv_has ls 2 [(0, .ref h0)] := hl
  have h := hm
  rw [md_X2_readAll] at h
  have hW : wd (dC, dI) A s.heap (clX2 cI cJ cZ cB h0 a0  (clX3 cI cJ cZ cB (a0 1) a1 (c1 0) (c1 1) (c1 2) (c1 3) (c1 4) (c1 5 0) (c1 6 0) (c1 7 0) (c1 8 0) (c1 9 0) (clX7 cI cJ cZ cB (a0 0) a2 (c2 0) (c2 1 0) (c2 2 0) (c2 3 0) (c2 4 0) (c2 5 0) []))) H locs := hW
  have hL16 : ∀ (n16 : Nat) (c1 : Nat → Nat → Int32) (c2 : Nat → Nat → Int32) (x1 : Int32), ld_X2_readAll_16 F n16 c1 c2 x1 = some (r, c1', c2') → ∀ (H : Heap) (locs : List Loc), wd (dC, dI) A s.heap (clX2 cI cJ cZ cB h0 a0  (clX3 cI cJ cZ cB (a0 1) a1 (c1 0) (c1 1) (c1 2) (c1 3) (c1 4) (c1 5 0) (c1 6 0) (c1 7 0) (c1 8 0) (c1 9 0) (clX7 cI cJ cZ cB (a0 0) a2 (c2 0) (c2 1 0) (c2 2 0) (c2 3 0) (c2 4 0) (c2 5 0) []))) H locs → ∀ ls : Array Slot, lv_has ls 2 [(0, .ref h0), (1, .int x1)] → W p l e rmX2_readAll s m (List.toArray [.ref h0]) below meth c H locs 0 0 (MQ below (kQ (dC, dI) (cwX2 cI cJ cZ cB h0 a0  (cwX3 cI cJ cZ cB (a0 1) a1 c1' (cwX7 cI cJ cZ cB (a0 0) a2 c2' []))) (some (.int r)) A) (List.toArray [.ref h0]) s 0 0 A) (F0 m 16 ls []) := by
    intro n16
    induction n16 with
    | zero => intro c1 c2 x1 h; rw [ld_X2_readAll_16] at h; cases h
    | succ n16 ih16 =>
      intro c1 c2 x1 h H locs hW ls hl
      rw [ld_X2_readAll_16] at h
      have hJ37 : ∀ (c1 : Nat → Nat → Int32) (c2 : Nat → Nat → Int32) (x1 : Int32), jd_X2_readAll_37 F (ld_X2_readAll_16 F n16) c1 c2 x1 = some (r, c1', c2') → ∀ (H : Heap) (locs : List Loc), wd (dC, dI) A s.heap (clX2 cI cJ cZ cB h0 a0  (clX3 cI cJ cZ cB (a0 1) a1 (c1 0) (c1 1) (c1 2) (c1 3) (c1 4) (c1 5 0) (c1 6 0) (c1 7 0) (c1 8 0) (c1 9 0) (clX7 cI cJ cZ cB (a0 0) a2 (c2 0) (c2 1 0) (c2 2 0) (c2 3 0) (c2 4 0) (c2 5 0) []))) H locs → ∀ ls : Array Slot, lv_has ls 2 [(0, .ref h0), (1, .int x1)] → W p l e rmX2_readAll s m (List.toArray [.ref h0]) below meth c H locs 0 0 (MQ below (kQ (dC, dI) (cwX2 cI cJ cZ cB h0 a0  (cwX3 cI cJ cZ cB (a0 1) a1 c1' (cwX7 cI cJ cZ cB (a0 0) a2 c2' []))) (some (.int r)) A) (List.toArray [.ref h0]) s 0 0 A) (F0 m 37 ls []) := by
        intro c1 c2 x1 h H locs hW ls hl
        rw [jd_X2_readAll_37] at h
        refine lv_aload_n S.1 S.2.1 dX2_readAll_37 rfl (lv_at hl 0 rfl) ?_
        refine lv_iload_n S.1 S.2.1 dX2_readAll_38 rfl (lv_at hl 1 rfl) ?_
        obtain ⟨y1, e2, h⟩ := lt1_e h
        suffices hM3 : ∀ ls : Array Slot, lv_has ls 2 [(0, .ref h0), (1, .int x1)] → W p l e rmX2_readAll s m (List.toArray [.ref h0]) below meth c H locs 0 0 (MQ below (kQ (dC, dI) (cwX2 cI cJ cZ cB h0 a0  (cwX3 cI cJ cZ cB (a0 1) a1 c1' (cwX7 cI cJ cZ cB (a0 0) a2 c2' []))) (some (.int r)) A) (List.toArray [.ref h0]) s 0 0 A) (F0 m 47 ls [.int y1, .ref h0]) by
          refine lv_if_ne (tgt := 46) S.1 S.2.1 dX2_readAll_39 (by decide) (fun u4 => ?_) (fun u4 => ?_)
          · refine lv_iconst (v := (0 : Int32)) S.1 S.2.1 dX2_readAll_46 ki_0 ?_
            have e2 := e2.trans (if_neg u4)
            subst e2
            exact hM3 ls (lv_sub hl [0, 1] rfl)
          · refine lv_iconst (v := (1 : Int32)) S.1 S.2.1 dX2_readAll_42 ki_1 ?_
            refine lv_goto (tgt := 47) S.1 S.2.1 dX2_readAll_43 (by decide) ?_
            have e2 := e2.trans (if_pos u4)
            subst e2
            exact hM3 ls (lv_sub hl [0, 1] rfl)
        intro ls hl
        obtain ⟨r5, cv6, cv7, hy8, h⟩ := bd3_e h
        refine kv (clX2 cI cJ cZ cB h0 a0  (clX3 cI cJ cZ cB (a0 1) a1 (cv6 0) (cv6 1) (cv6 2) (cv6 3) (cv6 4) (cv6 5 0) (cv6 6 0) (cv6 7 0) (cv6 8 0) (cv6 9 0) (clX7 cI cJ cZ cB (a0 0) a2 (cv7 0) (cv7 1 0) (cv7 2 0) (cv7 3 0) (cv7 4 0) (cv7 5 0) []))) S hK hN hZ hA hW (rest := []) (t_X2_readItem l dC dI cI cJ cZ cB zz h0 a0 a1 a2 F c1 c2 y1 _ _ _  hy8) wl_X2_35 wv_X2_readItem rfl rfl ⟨Nat.le_of_ble_eq_true rfl, Nat.le_of_ble_eq_true rfl⟩ [] [] rfl rfl rfl 0 rfl rfl rfl rfl hl.1 rfl (Nat.le_of_ble_eq_true rfl) dX2_readAll_47 [.int r5] rfl (fun H locs hW => ?_)
        refine lv_if_ne (tgt := 55) S.1 S.2.1 dX2_readAll_50 (by decide) (fun u9 => ?_) (fun u9 => ?_)
        · have h := of_n u9 h
          refine lv_aload_n S.1 S.2.1 dX2_readAll_55 rfl (lv_at hl 0 rfl) ?_
          refine gf (C := RX2) (T := TX2) (N := 2) (ci := 1) (k := 0) S hK hW wu_X2 rfl (by decide) wf_X2_12 0 rfl rfl dX2_readAll_56 ?_
          obtain ⟨cv10, hy11, h⟩ := bd1_e h
          refine kv (clX2 cI cJ cZ cB h0 a0  (clX3 cI cJ cZ cB (a0 1) a1 (cv6 0) (cv6 1) (cv6 2) (cv6 3) (cv6 4) (cv6 5 0) (cv6 6 0) (cv6 7 0) (cv6 8 0) (cv6 9 0) (clX7 cI cJ cZ cB (a0 0) a2 (cv10 0) (cv10 1 0) (cv10 2 0) (cv10 3 0) (cv10 4 0) (cv10 5 0) []))) S hK hN hZ hA hW (rest := []) (t_X7_next l dC dI cI cJ cZ cB zz (a0 0) a2 F cv7 _  hy11) wl_X2_28 wv_X7_next rfl rfl ⟨Nat.le_of_ble_eq_true rfl, Nat.le_of_ble_eq_true rfl⟩ (clX2 cI cJ cZ cB h0 a0  (clX3 cI cJ cZ cB (a0 1) a1 (cv6 0) (cv6 1) (cv6 2) (cv6 3) (cv6 4) (cv6 5 0) (cv6 6 0) (cv6 7 0) (cv6 8 0) (cv6 9 0) [])) [] rfl rfl rfl 7 rfl rfl rfl rfl hl.1 rfl (Nat.le_of_ble_eq_true rfl) dX2_readAll_59 [] rfl (fun H locs hW => ?_)
          refine lv_iinc (v := (x1 + (1 : Int32))) (lv' := [(1, .int (x1 + (1 : Int32))), (0, .ref h0)]) S.1 S.2.1 dX2_readAll_62 hl (k := 1) rfl (congrArg (fun z => x1 + z) ki_1) (by decide) rfl (fun ls hl => ?_)
          refine lv_goto (tgt := 16) S.1 S.2.1 dX2_readAll_65 (by decide) ?_
          exact ih16 _ _ _ h H locs hW ls (lv_sub hl [1, 0] rfl)
        · have h := of_p u9 h
          refine lv_iconst (v := (-1 : Int32)) S.1 S.2.1 dX2_readAll_53 ki_m1 ?_
          have f12 := Option.some.inj h
          obtain ⟨f13, f14⟩ := Prod.mk.inj f12
          obtain ⟨f15, f16⟩ := Prod.mk.inj f14
          subst f13
          subst f15
          subst f16
          exact ri S hr hlocks hW dX2_readAll_54
      refine lv_iload_n S.1 S.2.1 dX2_readAll_16 rfl (lv_at hl 1 rfl) ?_
      refine lv_sipush (v := (150 : Int32)) S.1 S.2.1 dX2_readAll_17 ks_150 ?_
      refine lv_icmp_gt (tgt := 68) S.1 S.2.1 dX2_readAll_20 (by decide) (fun u17 => ?_) (fun u17 => ?_)
      · have h := of_p u17 h
        refine lv_iload_n S.1 S.2.1 dX2_readAll_68 rfl (lv_at hl 1 rfl) ?_
        have f18 := Option.some.inj h
        obtain ⟨f19, f20⟩ := Prod.mk.inj f18
        obtain ⟨f21, f22⟩ := Prod.mk.inj f20
        subst f19
        subst f21
        subst f22
        exact ri S hr hlocks hW dX2_readAll_69
      · have h := of_n u17 h
        refine lv_iload_n S.1 S.2.1 dX2_readAll_23 rfl (lv_at hl 1 rfl) ?_
        refine lv_if_eq (tgt := 37) S.1 S.2.1 dX2_readAll_24 (by decide) (fun u23 => ?_) (fun u23 => ?_)
        · have h := of_p u23 h
          exact hJ37 _ _ _ h H locs hW ls (lv_sub hl [0, 1] rfl)
        · have h := of_n u23 h
          refine lv_aload_n S.1 S.2.1 dX2_readAll_27 rfl (lv_at hl 0 rfl) ?_
          refine gf (C := RX2) (T := TX2) (N := 2) (ci := 1) (k := 0) S hK hW wu_X2 rfl (by decide) wf_X2_12 0 rfl rfl dX2_readAll_28 ?_
          refine gf (C := RX7) (T := TX7) (N := 6) (ci := 3) (k := 2) S hK hW wu_X7 rfl (by decide) wf_X2_31 7 rfl rfl dX2_readAll_31 ?_
          refine lv_if_eq (tgt := 68) S.1 S.2.1 dX2_readAll_34 (by decide) (fun u24 => ?_) (fun u24 => ?_)
          · have h := of_p u24 h
            refine lv_iload_n S.1 S.2.1 dX2_readAll_68 rfl (lv_at hl 1 rfl) ?_
            have f25 := Option.some.inj h
            obtain ⟨f26, f27⟩ := Prod.mk.inj f25
            obtain ⟨f28, f29⟩ := Prod.mk.inj f27
            subst f26
            subst f28
            subst f29
            exact ri S hr hlocks hW dX2_readAll_69
          · have h := of_n u24 h
            exact hJ37 _ _ _ h H locs hW ls (lv_sub hl [0, 1] rfl)
  refine lv_aload_n S.1 S.2.1 dX2_readAll_0 rfl (lv_at hl 0 rfl) ?_
  refine gf (C := RX2) (T := TX2) (N := 2) (ci := 1) (k := 0) S hK hW wu_X2 rfl (by decide) wf_X2_12 0 rfl rfl dX2_readAll_1 ?_
  obtain ⟨cv30, hy31, h⟩ := bd1_e h
  refine kv (clX2 cI cJ cZ cB h0 a0  (clX3 cI cJ cZ cB (a0 1) a1 (c1 0) (c1 1) (c1 2) (c1 3) (c1 4) (c1 5 0) (c1 6 0) (c1 7 0) (c1 8 0) (c1 9 0) (clX7 cI cJ cZ cB (a0 0) a2 (cv30 0) (cv30 1 0) (cv30 2 0) (cv30 3 0) (cv30 4 0) (cv30 5 0) []))) S hK hN hZ hA hW (rest := []) (t_X7_rewind l dC dI cI cJ cZ cB zz (a0 0) a2 c2 _  hy31) wl_X2_25 wv_X7_rewind rfl rfl ⟨Nat.le_of_ble_eq_true rfl, Nat.le_of_ble_eq_true rfl⟩ (clX2 cI cJ cZ cB h0 a0  (clX3 cI cJ cZ cB (a0 1) a1 (c1 0) (c1 1) (c1 2) (c1 3) (c1 4) (c1 5 0) (c1 6 0) (c1 7 0) (c1 8 0) (c1 9 0) [])) [] rfl rfl rfl 7 rfl rfl rfl rfl hl.1 rfl (Nat.le_of_ble_eq_true rfl) dX2_readAll_4 [] rfl (fun H locs hW => ?_)
  refine lv_aload_n S.1 S.2.1 dX2_readAll_7 rfl (lv_at hl 0 rfl) ?_
  refine gf (C := RX2) (T := TX2) (N := 2) (ci := 1) (k := 0) S hK hW wu_X2 rfl (by decide) wf_X2_12 0 rfl rfl dX2_readAll_8 ?_
  obtain ⟨cv32, hy33, h⟩ := bd1_e h
  refine kv (clX2 cI cJ cZ cB h0 a0  (clX3 cI cJ cZ cB (a0 1) a1 (c1 0) (c1 1) (c1 2) (c1 3) (c1 4) (c1 5 0) (c1 6 0) (c1 7 0) (c1 8 0) (c1 9 0) (clX7 cI cJ cZ cB (a0 0) a2 (cv32 0) (cv32 1 0) (cv32 2 0) (cv32 3 0) (cv32 4 0) (cv32 5 0) []))) S hK hN hZ hA hW (rest := []) (t_X7_next l dC dI cI cJ cZ cB zz (a0 0) a2 F cv30 _  hy33) wl_X2_28 wv_X7_next rfl rfl ⟨Nat.le_of_ble_eq_true rfl, Nat.le_of_ble_eq_true rfl⟩ (clX2 cI cJ cZ cB h0 a0  (clX3 cI cJ cZ cB (a0 1) a1 (c1 0) (c1 1) (c1 2) (c1 3) (c1 4) (c1 5 0) (c1 6 0) (c1 7 0) (c1 8 0) (c1 9 0) [])) [] rfl rfl rfl 7 rfl rfl rfl rfl hl.1 rfl (Nat.le_of_ble_eq_true rfl) dX2_readAll_11 [] rfl (fun H locs hW => ?_)
  refine lv_iconst (v := (0 : Int32)) S.1 S.2.1 dX2_readAll_14 ki_0 ?_
  refine lv_istore_n (lv' := [(1, .int (0 : Int32)), (0, .ref h0)]) S.1 S.2.1 dX2_readAll_15 rfl hl (by decide) rfl (fun ls hl => ?_)
  exact hL16 F _ _ _ h H locs hW ls (lv_sub hl [1, 0] rfl)
abbrev rmX7_append : Room := { frames := 0, cells := 0, slots := 0, locals := 0 }
set_option maxHeartbeats 4000000 in
set_option maxRecDepth 100000 in
theorem t_X7_append (l : Launch) (dC : Nat → ClassId) (dI : Nat → Nat → Nat) (cI cJ cZ cB : ClassId) (zz : ZT)  (h0 : Nat) (a0 : Nat → Nat) (c0 : Nat → Nat → Int32) (p1 : Int32) (c0' : Nat → Nat → Int32) (hm : md_X7_append c0 p1 = some (c0')) : ct l (dC, dI) zz (ty4 cI cJ cZ cB) yX7_append cX7_append 2 none rmX7_append [.ref h0, .int p1] (cwX7 cI cJ cZ cB h0 a0 c0 []) (cwX7 cI cJ cZ cB h0 a0 c0' []) none := by
  refine ct_of (cc := cX7_append) (maxL := 2) (ret := none) (by decide) (Nat.le_of_ble_eq_true rfl) ?_
  intro p e s m below meth c A S hr hlocks hK hN hZ hA H locs hW ls hl
  have S : CallFix p m c cX7_append 2 s (List.toArray [.ref h0, .int p1]) G RX7 := S
  have hl : lv_has ls 2 [(0, .ref h0), (1, .int p1)] := hl
  have h := hm
  rw [md_X7_append] at h
  have hW : wd (dC, dI) A s.heap (clX7 cI cJ cZ cB h0 a0 (c0 0) (c0 1 0) (c0 2 0) (c0 3 0) (c0 4 0) (c0 5 0) []) H locs := hW
  refine lv_aload_n S.1 S.2.1 dX7_append_0 rfl (lv_at hl 0 rfl) ?_
  refine gf (C := RX7) (T := TX7) (N := 6) (ci := 3) (k := 1) S hK hW wu_X7 rfl (by decide) wf_X7_15 0 rfl rfl dX7_append_1 ?_
  refine lv_sipush (v := (150 : Int32)) S.1 S.2.1 dX7_append_4 ks_150 ?_
  refine lv_icmp_ge (tgt := 30) S.1 S.2.1 dX7_append_7 (by decide) (fun u1 => ?_) (fun u1 => ?_)
  · have h := of_p u1 h
    have f2 := Option.some.inj h
    subst f2
    exact rv S hr hlocks hW dX7_append_30
  · have h := of_n u1 h
    refine lv_aload_n S.1 S.2.1 dX7_append_10 rfl (lv_at hl 0 rfl) ?_
    refine gf (C := RX7) (T := TX7) (N := 6) (ci := 3) (k := 0) S hK hW wu_X7 rfl (by decide) wf_X7_9 0 rfl rfl dX7_append_11 ?_
    refine lv_aload_n S.1 S.2.1 dX7_append_14 rfl (lv_at hl 0 rfl) ?_
    refine gf (C := RX7) (T := TX7) (N := 6) (ci := 3) (k := 1) S hK hW wu_X7 rfl (by decide) wf_X7_15 0 rfl rfl dX7_append_15 ?_
    refine lv_iload_n S.1 S.2.1 dX7_append_18 rfl (lv_at hl 1 rfl) ?_
    obtain ⟨z3, h⟩ := of_g h
    refine ist S hK hW rfl 1 rfl z3 dX7_append_19 (fun H locs hW => ?_)
    have hW : wd (dC, dI) A s.heap (clX7 cI cJ cZ cB h0 a0 (upd (c0 0) (ix (c0 1 0)) p1) (c0 1 0) (c0 2 0) (c0 3 0) (c0 4 0) (c0 5 0) []) H locs := hW
    refine lv_aload_n S.1 S.2.1 dX7_append_20 rfl (lv_at hl 0 rfl) ?_
    refine lv_dup S.1 S.2.1 dX7_append_21 rfl ?_
    refine gf (C := RX7) (T := TX7) (N := 6) (ci := 3) (k := 1) S hK hW wu_X7 rfl (by decide) wf_X7_15 0 rfl rfl dX7_append_22 ?_
    refine lv_iconst (v := (1 : Int32)) S.1 S.2.1 dX7_append_25 ki_1 ?_
    refine lv_iadd S.1 S.2.1 dX7_append_26 ?_
    refine pf (C := RX7) (T := TX7) (N := 6) (ci := 3) (k := 1) (ty := .int) S hK hW wu_X7 rfl (by decide) tyX7 tyX7_ok nmX7 wf_X7_15 0 rfl rfl rfl rfl rfl (Nat.le_of_ble_eq_true rfl) dX7_append_27 (fun H locs hW => ?_)
    have hW : wd (dC, dI) A s.heap (clX7 cI cJ cZ cB h0 a0 (upd (c0 0) (ix (c0 1 0)) p1) ((c0 1 0) + (1 : Int32)) (c0 2 0) (c0 3 0) (c0 4 0) (c0 5 0) []) H locs := hW
    have f4 := Option.some.inj h
    subst f4
    exact rv S hr hlocks hW dX7_append_30
