abbrev rmX8_refuseAsBad : Room := { frames := 0, cells := 0, slots := 0, locals := 0 }
set_option maxHeartbeats 4000000 in
set_option maxRecDepth 100000 in
theorem t_X8_refuseAsBad (l : Launch) (dC : Nat → ClassId) (dI : Nat → Nat → Nat) (cI cJ cZ cB : ClassId) (zz : ZT)  (h0 : Nat) (a0 : Nat → Nat) (c0 : Nat → Nat → Int32) (w0 : Nat → Nat → Int64) (p1 : Int32) (r : Int32) (c0' : Nat → Nat → Int32) (hm : md_X8_refuseAsBad c0 w0 p1 = some (r, c0')) : ct l (dC, dI) zz (ty4 cI cJ cZ cB) yX8_refuseAsBad cX8_refuseAsBad 2 (some .int) rmX8_refuseAsBad [.ref h0, .int p1] (cwX8 cI cJ cZ cB h0 a0 c0 w0 []) (cwX8 cI cJ cZ cB h0 a0 c0' w0 []) (some (.int r)) := by
  refine ct_of (cc := cX8_refuseAsBad) (maxL := 2) (ret := (some .int)) (by decide) (Nat.le_of_ble_eq_true rfl) ?_
  intro p e s m below meth c A S hr hlocks hK hN hZ hA H locs hW ls hl
  have S : CallFix p m c cX8_refuseAsBad 2 s (List.toArray [.ref h0, .int p1]) G RX8 := S
  have hl : lv_has ls 2 [(0, .ref h0), (1, .int p1)] := hl
  have h := hm
  rw [md_X8_refuseAsBad] at h
  have hW : wd (dC, dI) A s.heap (clX8 cI cJ cZ cB h0 a0 (c0 2) (c0 5) (w0 6 0) (w0 7 0) []) H locs := hW
  refine lv_aload_n S.1 S.2.1 dX8_refuseAsBad_0 rfl (lv_at hl 0 rfl) ?_
  refine gf (C := RX8) (T := TX8) (N := 8) (ci := 4) (k := 5) S hK hW wu_X8 rfl (by decide) wf_X8_38 0 rfl rfl dX8_refuseAsBad_1 ?_
  refine lv_iconst (v := (0 : Int32)) S.1 S.2.1 dX8_refuseAsBad_4 ki_0 ?_
  refine lv_dup2_11 S.1 S.2.1 dX8_refuseAsBad_5 rfl rfl ?_
  refine iaK S hK hW rfl 3 rfl b_0_3 x_0 dX8_refuseAsBad_6 ?_
  refine lv_iconst (v := (1 : Int32)) S.1 S.2.1 dX8_refuseAsBad_7 ki_1 ?_
  refine lv_iadd S.1 S.2.1 dX8_refuseAsBad_8 ?_
  refine istK S hK hW rfl 3 rfl b_0_3 x_0 dX8_refuseAsBad_9 (fun H locs hW => ?_)
  have hW : wd (dC, dI) A s.heap (clX8 cI cJ cZ cB h0 a0 (c0 2) (upd (c0 5) 0 (((c0 5) 0) + (1 : Int32))) (w0 6 0) (w0 7 0) []) H locs := hW
  refine lv_iload_n S.1 S.2.1 dX8_refuseAsBad_10 rfl (lv_at hl 1 rfl) ?_
  have f1 := Option.some.inj h
  obtain ⟨f2, f3⟩ := Prod.mk.inj f1
  subst f2
  subst f3
  exact ri S hr hlocks hW dX8_refuseAsBad_11
abbrev rmX8_suit : Room := { frames := 2, cells := 0, slots := 0, locals := 44 }
set_option maxHeartbeats 4000000 in
set_option maxRecDepth 100000 in
theorem t_X8_suit (l : Launch) (dC : Nat → ClassId) (dI : Nat → Nat → Nat) (cI cJ cZ cB : ClassId) (zz : ZT)  (h0 : Nat) (a0 : Nat → Nat) (a1 : Nat → Nat) (a2 : Nat → Nat) (c0 : Nat → Nat → Int32) (w0 : Nat → Nat → Int64) (c1 : Nat → Nat → Int32) (w1 : Nat → Nat → Int64) (c2 : Nat → Nat → Int32) (p1 : Int32) (p2 : Int32) (r : Int32) (c0' : Nat → Nat → Int32) (c1' : Nat → Nat → Int32) (c2' : Nat → Nat → Int32) (hm : md_X8_suit c0 w0 c1 w1 c2 p1 p2 = some (r, c0', c1', c2')) : ct l (dC, dI) zz (ty4 cI cJ cZ cB) yX8_suit cX8_suit 4 (some .int) rmX8_suit [.ref h0, .int p1, .int p2] (cwX8 cI cJ cZ cB h0 a0 c0 w0 (cwX1 cI cJ cZ cB (a0 0) a1 c1 w1 (cwX3 cI cJ cZ cB (a1 0) a2 c2 []))) (cwX8 cI cJ cZ cB h0 a0 c0' w0 (cwX1 cI cJ cZ cB (a0 0) a1 c1' w1 (cwX3 cI cJ cZ cB (a1 0) a2 c2' []))) (some (.int r)) := by
  refine ct_of (cc := cX8_suit) (maxL := 4) (ret := (some .int)) (by decide) (Nat.le_of_ble_eq_true rfl) ?_
  intro p e s m below meth c A S hr hlocks hK hN hZ hA H locs hW ls hl
  have S : CallFix p m c cX8_suit 4 s (List.toArray [.ref h0, .int p1, .int p2]) G RX8 := S
  have hl : lv_has ls 4 [(0, .ref h0), (1, .int p1), (2, .int p2)] := hl
  have h := hm
  rw [md_X8_suit] at h
  have hW : wd (dC, dI) A s.heap (clX8 cI cJ cZ cB h0 a0 (c0 2) (c0 5) (w0 6 0) (w0 7 0) (clX1 cI cJ cZ cB (a0 0) a1 (c1 1) (c1 2 0) (c1 3) (c1 4 0) (c1 5) (c1 6 0) (w1 7) (c1 8 0) (clX3 cI cJ cZ cB (a1 0) a2 (c2 0) (c2 1) (c2 2) (c2 3) (c2 4) (c2 5 0) (c2 6 0) (c2 7 0) (c2 8 0) (c2 9 0) []))) H locs := hW
  have hJ14 : ∀ (c0 : Nat → Nat → Int32) (c1 : Nat → Nat → Int32) (c2 : Nat → Nat → Int32), jd_X8_suit_14 w0 w1 c0 c1 c2 = some (r, c0', c1', c2') → ∀ (H : Heap) (locs : List Loc), wd (dC, dI) A s.heap (clX8 cI cJ cZ cB h0 a0 (c0 2) (c0 5) (w0 6 0) (w0 7 0) (clX1 cI cJ cZ cB (a0 0) a1 (c1 1) (c1 2 0) (c1 3) (c1 4 0) (c1 5) (c1 6 0) (w1 7) (c1 8 0) (clX3 cI cJ cZ cB (a1 0) a2 (c2 0) (c2 1) (c2 2) (c2 3) (c2 4) (c2 5 0) (c2 6 0) (c2 7 0) (c2 8 0) (c2 9 0) []))) H locs → ∀ ls : Array Slot, lv_has ls 4 [(0, .ref h0)] → W p l e rmX8_suit s m (List.toArray [.ref h0, .int p1, .int p2]) below meth c H locs 0 0 (MQ below (kQ (dC, dI) (cwX8 cI cJ cZ cB h0 a0 c0' w0 (cwX1 cI cJ cZ cB (a0 0) a1 c1' w1 (cwX3 cI cJ cZ cB (a1 0) a2 c2' []))) (some (.int r)) A) (List.toArray [.ref h0, .int p1, .int p2]) s 0 0 A) (F0 m 14 ls []) := by
    intro c0 c1 c2 h H locs hW ls hl
    rw [jd_X8_suit_14] at h
    refine lv_aload_n S.1 S.2.1 dX8_suit_14 rfl (lv_at hl 0 rfl) ?_
    refine lv_bipush (v := (-2 : Int32)) S.1 S.2.1 dX8_suit_15 kb_m2 ?_
    obtain ⟨r1, cv2, hy3, h⟩ := bd2_e h
    refine kv (clX8 cI cJ cZ cB h0 a0 (cv2 2) (cv2 5) (w0 6 0) (w0 7 0) (clX1 cI cJ cZ cB (a0 0) a1 (c1 1) (c1 2 0) (c1 3) (c1 4 0) (c1 5) (c1 6 0) (w1 7) (c1 8 0) (clX3 cI cJ cZ cB (a1 0) a2 (c2 0) (c2 1) (c2 2) (c2 3) (c2 4) (c2 5 0) (c2 6 0) (c2 7 0) (c2 8 0) (c2 9 0) []))) S hK hN hZ hA hW (rest := []) (t_X8_refuseAsBad l dC dI cI cJ cZ cB zz h0 a0 c0 w0 (-2 : Int32) _ _  hy3) wl_X8_53 wv_X8_refuseAsBad rfl rfl ⟨Nat.le_of_ble_eq_true rfl, Nat.le_of_ble_eq_true rfl⟩ [] (clX1 cI cJ cZ cB (a0 0) a1 (c1 1) (c1 2 0) (c1 3) (c1 4 0) (c1 5) (c1 6 0) (w1 7) (c1 8 0) (clX3 cI cJ cZ cB (a1 0) a2 (c2 0) (c2 1) (c2 2) (c2 3) (c2 4) (c2 5 0) (c2 6 0) (c2 7 0) (c2 8 0) (c2 9 0) [])) rfl rfl rfl 0 rfl rfl rfl rfl hl.1 rfl (Nat.le_of_ble_eq_true rfl) dX8_suit_17 [.int r1] rfl (fun H locs hW => ?_)
    have f4 := Option.some.inj h
    obtain ⟨f5, f6⟩ := Prod.mk.inj f4
    obtain ⟨f7, f8⟩ := Prod.mk.inj f6
    obtain ⟨f9, f10⟩ := Prod.mk.inj f8
    subst f5
    subst f7
    subst f9
    subst f10
    exact ri S hr hlocks hW dX8_suit_20
  refine lv_iload_n S.1 S.2.1 dX8_suit_0 rfl (lv_at hl 1 rfl) ?_
  obtain ⟨r11, hy12, h⟩ := bd1_e h
  refine ks0 S hK hN hZ hA hW (rest := []) (t_X8_isKind l dC dI cI cJ cZ cB zz p1 _  hy12) wl_X8_49 wv_X8_isKind rfl rfl ⟨Nat.le_of_ble_eq_true rfl, Nat.le_of_ble_eq_true rfl⟩ [] (clX8 cI cJ cZ cB h0 a0 (c0 2) (c0 5) (w0 6 0) (w0 7 0) (clX1 cI cJ cZ cB (a0 0) a1 (c1 1) (c1 2 0) (c1 3) (c1 4 0) (c1 5) (c1 6 0) (w1 7) (c1 8 0) (clX3 cI cJ cZ cB (a1 0) a2 (c2 0) (c2 1) (c2 2) (c2 3) (c2 4) (c2 5 0) (c2 6 0) (c2 7 0) (c2 8 0) (c2 9 0) []))) rfl rfl hl.1 rfl (Nat.le_of_ble_eq_true rfl) dX8_suit_1 [.int r11] rfl (fun H locs hW => ?_)
  refine lv_if_eq (tgt := 14) S.1 S.2.1 dX8_suit_4 (by decide) (fun u13 => ?_) (fun u13 => ?_)
  · have h := of_p u13 h
    exact hJ14 _ _ _ h H locs hW ls (lv_sub hl [0] rfl)
  · have h := of_n u13 h
    refine lv_iload_n S.1 S.2.1 dX8_suit_7 rfl (lv_at hl 2 rfl) ?_
    obtain ⟨r14, hy15, h⟩ := bd1_e h
    refine ks0 S hK hN hZ hA hW (rest := []) (t_X8_isKind l dC dI cI cJ cZ cB zz p2 _  hy15) wl_X8_49 wv_X8_isKind rfl rfl ⟨Nat.le_of_ble_eq_true rfl, Nat.le_of_ble_eq_true rfl⟩ [] (clX8 cI cJ cZ cB h0 a0 (c0 2) (c0 5) (w0 6 0) (w0 7 0) (clX1 cI cJ cZ cB (a0 0) a1 (c1 1) (c1 2 0) (c1 3) (c1 4 0) (c1 5) (c1 6 0) (w1 7) (c1 8 0) (clX3 cI cJ cZ cB (a1 0) a2 (c2 0) (c2 1) (c2 2) (c2 3) (c2 4) (c2 5 0) (c2 6 0) (c2 7 0) (c2 8 0) (c2 9 0) []))) rfl rfl hl.1 rfl (Nat.le_of_ble_eq_true rfl) dX8_suit_8 [.int r14] rfl (fun H locs hW => ?_)
    refine lv_if_ne (tgt := 21) S.1 S.2.1 dX8_suit_11 (by decide) (fun u16 => ?_) (fun u16 => ?_)
    · have h := of_n u16 h
      refine lv_aload_n S.1 S.2.1 dX8_suit_21 rfl (lv_at hl 0 rfl) ?_
      refine gf (C := RX8) (T := TX8) (N := 8) (ci := 4) (k := 0) S hK hW wu_X8 rfl (by decide) wf_X8_10 0 rfl rfl dX8_suit_22 ?_
      refine gf (C := RX1) (T := TX1) (N := 9) (ci := 0) (k := 0) S hK hW wu_X1 rfl (by decide) wf_X8_57 4 rfl rfl dX8_suit_25 ?_
      refine gf (C := RX3) (T := TX3) (N := 10) (ci := 2) (k := 5) S hK hW wu_X3 rfl (by decide) wf_X8_60 9 rfl rfl dX8_suit_28 ?_
      refine lv_istore_n (lv' := [(3, .int (c2 5 0)), (0, .ref h0), (1, .int p1), (2, .int p2)]) S.1 S.2.1 dX8_suit_31 rfl hl (by decide) rfl (fun ls hl => ?_)
      refine lv_aload_n S.1 S.2.1 dX8_suit_32 rfl (lv_at hl 1 rfl) ?_
      refine gf (C := RX8) (T := TX8) (N := 8) (ci := 4) (k := 0) S hK hW wu_X8 rfl (by decide) wf_X8_10 0 rfl rfl dX8_suit_33 ?_
      refine lv_iload_n S.1 S.2.1 dX8_suit_36 rfl (lv_at hl 2 rfl) ?_
      refine lv_iload_n S.1 S.2.1 dX8_suit_37 rfl (lv_at hl 3 rfl) ?_
      obtain ⟨cv17, cv18, hy19, h⟩ := bd2_e h
      refine kv (clX8 cI cJ cZ cB h0 a0 (c0 2) (c0 5) (w0 6 0) (w0 7 0) (clX1 cI cJ cZ cB (a0 0) a1 (cv17 1) (cv17 2 0) (cv17 3) (cv17 4 0) (cv17 5) (cv17 6 0) (w1 7) (cv17 8 0) (clX3 cI cJ cZ cB (a1 0) a2 (cv18 0) (cv18 1) (cv18 2) (cv18 3) (cv18 4) (cv18 5 0) (cv18 6 0) (cv18 7 0) (cv18 8 0) (cv18 9 0) []))) S hK hN hZ hA hW (rest := []) (t_X1_begin l dC dI cI cJ cZ cB zz (a0 0) a1 a2 c1 w1 c2 p1 p2 _ _  hy19) wl_X8_64 wv_X1_begin rfl rfl ⟨Nat.le_of_ble_eq_true rfl, Nat.le_of_ble_eq_true rfl⟩ (clX8 cI cJ cZ cB h0 a0 (c0 2) (c0 5) (w0 6 0) (w0 7 0) []) [] rfl rfl rfl 4 rfl rfl rfl rfl hl.1 rfl (Nat.le_of_ble_eq_true rfl) dX8_suit_38 [] rfl (fun H locs hW => ?_)
      refine lv_iload_n S.1 S.2.1 dX8_suit_41 rfl (lv_at hl 0 rfl) ?_
      have f20 := Option.some.inj h
      obtain ⟨f21, f22⟩ := Prod.mk.inj f20
      obtain ⟨f23, f24⟩ := Prod.mk.inj f22
      obtain ⟨f25, f26⟩ := Prod.mk.inj f24
      subst f21
      subst f23
      subst f25
      subst f26
      exact ri S hr hlocks hW dX8_suit_42
    · have h := of_p u16 h
      exact hJ14 _ _ _ h H locs hW ls (lv_sub hl [0] rfl)
abbrev rmX8_bows : Room := { frames := 2, cells := 0, slots := 0, locals := 42 }
set_option maxHeartbeats 4000000 in
set_option maxRecDepth 100000 in
theorem t_X8_bows (l : Launch) (dC : Nat → ClassId) (dI : Nat → Nat → Nat) (cI cJ cZ cB : ClassId) (zz : ZT)  (h0 : Nat) (a0 : Nat → Nat) (a1 : Nat → Nat) (a2 : Nat → Nat) (c0 : Nat → Nat → Int32) (w0 : Nat → Nat → Int64) (c1 : Nat → Nat → Int32) (w1 : Nat → Nat → Int64) (c2 : Nat → Nat → Int32) (p1 : Int32) (p2 : Int32) (r : Int32) (c0' : Nat → Nat → Int32) (c1' : Nat → Nat → Int32) (c2' : Nat → Nat → Int32) (hm : md_X8_bows c0 w0 c1 w1 c2 p1 p2 = some (r, c0', c1', c2')) : ct l (dC, dI) zz (ty4 cI cJ cZ cB) yX8_bows cX8_bows 4 (some .int) rmX8_bows [.ref h0, .int p1, .int p2] (cwX8 cI cJ cZ cB h0 a0 c0 w0 (cwX1 cI cJ cZ cB (a0 0) a1 c1 w1 (cwX3 cI cJ cZ cB (a1 0) a2 c2 []))) (cwX8 cI cJ cZ cB h0 a0 c0' w0 (cwX1 cI cJ cZ cB (a0 0) a1 c1' w1 (cwX3 cI cJ cZ cB (a1 0) a2 c2' []))) (some (.int r)) := by
  refine ct_of (cc := cX8_bows) (maxL := 4) (ret := (some .int)) (by decide) (Nat.le_of_ble_eq_true rfl) ?_
  intro p e s m below meth c A S hr hlocks hK hN hZ hA H locs hW ls hl
  have S : CallFix p m c cX8_bows 4 s (List.toArray [.ref h0, .int p1, .int p2]) G RX8 := S
  have hl : lv_has ls 4 [(0, .ref h0), (1, .int p1), (2, .int p2)] := hl
  have h := hm
  rw [md_X8_bows] at h
  have hW : wd (dC, dI) A s.heap (clX8 cI cJ cZ cB h0 a0 (c0 2) (c0 5) (w0 6 0) (w0 7 0) (clX1 cI cJ cZ cB (a0 0) a1 (c1 1) (c1 2 0) (c1 3) (c1 4 0) (c1 5) (c1 6 0) (w1 7) (c1 8 0) (clX3 cI cJ cZ cB (a1 0) a2 (c2 0) (c2 1) (c2 2) (c2 3) (c2 4) (c2 5 0) (c2 6 0) (c2 7 0) (c2 8 0) (c2 9 0) []))) H locs := hW
  have hJ16 : ∀ (c0 : Nat → Nat → Int32) (c1 : Nat → Nat → Int32) (c2 : Nat → Nat → Int32), jd_X8_bows_16 w0 w1 c0 c1 c2 = some (r, c0', c1', c2') → ∀ (H : Heap) (locs : List Loc), wd (dC, dI) A s.heap (clX8 cI cJ cZ cB h0 a0 (c0 2) (c0 5) (w0 6 0) (w0 7 0) (clX1 cI cJ cZ cB (a0 0) a1 (c1 1) (c1 2 0) (c1 3) (c1 4 0) (c1 5) (c1 6 0) (w1 7) (c1 8 0) (clX3 cI cJ cZ cB (a1 0) a2 (c2 0) (c2 1) (c2 2) (c2 3) (c2 4) (c2 5 0) (c2 6 0) (c2 7 0) (c2 8 0) (c2 9 0) []))) H locs → ∀ ls : Array Slot, lv_has ls 4 [(0, .ref h0)] → W p l e rmX8_bows s m (List.toArray [.ref h0, .int p1, .int p2]) below meth c H locs 0 0 (MQ below (kQ (dC, dI) (cwX8 cI cJ cZ cB h0 a0 c0' w0 (cwX1 cI cJ cZ cB (a0 0) a1 c1' w1 (cwX3 cI cJ cZ cB (a1 0) a2 c2' []))) (some (.int r)) A) (List.toArray [.ref h0, .int p1, .int p2]) s 0 0 A) (F0 m 16 ls []) := by
    intro c0 c1 c2 h H locs hW ls hl
    rw [jd_X8_bows_16] at h
    refine lv_aload_n S.1 S.2.1 dX8_bows_16 rfl (lv_at hl 0 rfl) ?_
    refine lv_bipush (v := (-2 : Int32)) S.1 S.2.1 dX8_bows_17 kb_m2 ?_
    obtain ⟨r1, cv2, hy3, h⟩ := bd2_e h
    refine kv (clX8 cI cJ cZ cB h0 a0 (cv2 2) (cv2 5) (w0 6 0) (w0 7 0) (clX1 cI cJ cZ cB (a0 0) a1 (c1 1) (c1 2 0) (c1 3) (c1 4 0) (c1 5) (c1 6 0) (w1 7) (c1 8 0) (clX3 cI cJ cZ cB (a1 0) a2 (c2 0) (c2 1) (c2 2) (c2 3) (c2 4) (c2 5 0) (c2 6 0) (c2 7 0) (c2 8 0) (c2 9 0) []))) S hK hN hZ hA hW (rest := []) (t_X8_refuseAsBad l dC dI cI cJ cZ cB zz h0 a0 c0 w0 (-2 : Int32) _ _  hy3) wl_X8_53 wv_X8_refuseAsBad rfl rfl ⟨Nat.le_of_ble_eq_true rfl, Nat.le_of_ble_eq_true rfl⟩ [] (clX1 cI cJ cZ cB (a0 0) a1 (c1 1) (c1 2 0) (c1 3) (c1 4 0) (c1 5) (c1 6 0) (w1 7) (c1 8 0) (clX3 cI cJ cZ cB (a1 0) a2 (c2 0) (c2 1) (c2 2) (c2 3) (c2 4) (c2 5 0) (c2 6 0) (c2 7 0) (c2 8 0) (c2 9 0) [])) rfl rfl rfl 0 rfl rfl rfl rfl hl.1 rfl (Nat.le_of_ble_eq_true rfl) dX8_bows_19 [.int r1] rfl (fun H locs hW => ?_)
    have f4 := Option.some.inj h
    obtain ⟨f5, f6⟩ := Prod.mk.inj f4
    obtain ⟨f7, f8⟩ := Prod.mk.inj f6
    obtain ⟨f9, f10⟩ := Prod.mk.inj f8
    subst f5
    subst f7
    subst f9
    subst f10
    exact ri S hr hlocks hW dX8_bows_22
  refine lv_iload_n S.1 S.2.1 dX8_bows_0 rfl (lv_at hl 1 rfl) ?_
  obtain ⟨r11, hy12, h⟩ := bd1_e h
  refine ks0 S hK hN hZ hA hW (rest := []) (t_X8_isCounsel l dC dI cI cJ cZ cB zz p1 _  hy12) wl_X8_68 wv_X8_isCounsel rfl rfl ⟨Nat.le_of_ble_eq_true rfl, Nat.le_of_ble_eq_true rfl⟩ [] (clX8 cI cJ cZ cB h0 a0 (c0 2) (c0 5) (w0 6 0) (w0 7 0) (clX1 cI cJ cZ cB (a0 0) a1 (c1 1) (c1 2 0) (c1 3) (c1 4 0) (c1 5) (c1 6 0) (w1 7) (c1 8 0) (clX3 cI cJ cZ cB (a1 0) a2 (c2 0) (c2 1) (c2 2) (c2 3) (c2 4) (c2 5 0) (c2 6 0) (c2 7 0) (c2 8 0) (c2 9 0) []))) rfl rfl hl.1 rfl (Nat.le_of_ble_eq_true rfl) dX8_bows_1 [.int r11] rfl (fun H locs hW => ?_)
  refine lv_if_eq (tgt := 16) S.1 S.2.1 dX8_bows_4 (by decide) (fun u13 => ?_) (fun u13 => ?_)
  · have h := of_p u13 h
    exact hJ16 _ _ _ h H locs hW ls (lv_sub hl [0] rfl)
  · have h := of_n u13 h
    refine lv_iconst (v := (0 : Int32)) S.1 S.2.1 dX8_bows_7 ki_0 ?_
    refine lv_iload_n S.1 S.2.1 dX8_bows_8 rfl (lv_at hl 2 rfl) ?_
    refine lv_iconst (v := (3 : Int32)) S.1 S.2.1 dX8_bows_9 ki_3 ?_
    obtain ⟨r14, hy15, h⟩ := bd1_e h
    refine ks0 S hK hN hZ hA hW (rest := []) (t_X8_within l dC dI cI cJ cZ cB zz (0 : Int32) p2 (3 : Int32) _  hy15) wl_X8_71 wv_X8_within rfl rfl ⟨Nat.le_of_ble_eq_true rfl, Nat.le_of_ble_eq_true rfl⟩ [] (clX8 cI cJ cZ cB h0 a0 (c0 2) (c0 5) (w0 6 0) (w0 7 0) (clX1 cI cJ cZ cB (a0 0) a1 (c1 1) (c1 2 0) (c1 3) (c1 4 0) (c1 5) (c1 6 0) (w1 7) (c1 8 0) (clX3 cI cJ cZ cB (a1 0) a2 (c2 0) (c2 1) (c2 2) (c2 3) (c2 4) (c2 5 0) (c2 6 0) (c2 7 0) (c2 8 0) (c2 9 0) []))) rfl rfl hl.1 rfl (Nat.le_of_ble_eq_true rfl) dX8_bows_10 [.int r14] rfl (fun H locs hW => ?_)
    refine lv_if_ne (tgt := 23) S.1 S.2.1 dX8_bows_13 (by decide) (fun u16 => ?_) (fun u16 => ?_)
    · have h := of_n u16 h
      refine lv_aload_n S.1 S.2.1 dX8_bows_23 rfl (lv_at hl 0 rfl) ?_
      refine gf (C := RX8) (T := TX8) (N := 8) (ci := 4) (k := 0) S hK hW wu_X8 rfl (by decide) wf_X8_10 0 rfl rfl dX8_bows_24 ?_
      refine gf (C := RX1) (T := TX1) (N := 9) (ci := 0) (k := 0) S hK hW wu_X1 rfl (by decide) wf_X8_57 4 rfl rfl dX8_bows_27 ?_
      refine gf (C := RX3) (T := TX3) (N := 10) (ci := 2) (k := 1) S hK hW wu_X3 rfl (by decide) wf_X8_75 9 rfl rfl dX8_bows_30 ?_
      refine lv_iload_n S.1 S.2.1 dX8_bows_33 rfl (lv_at hl 1 rfl) ?_
      obtain ⟨z17, h⟩ := of_g h
      refine ia S hK hW rfl 11 rfl z17 dX8_bows_34 ?_
      refine lv_istore_n (lv' := [(3, .int ((c2 1) (ix p1))), (0, .ref h0), (1, .int p1), (2, .int p2)]) S.1 S.2.1 dX8_bows_35 rfl hl (by decide) rfl (fun ls hl => ?_)
      refine lv_aload_n S.1 S.2.1 dX8_bows_36 rfl (lv_at hl 1 rfl) ?_
      refine gf (C := RX8) (T := TX8) (N := 8) (ci := 4) (k := 0) S hK hW wu_X8 rfl (by decide) wf_X8_10 0 rfl rfl dX8_bows_37 ?_
      refine gf (C := RX1) (T := TX1) (N := 9) (ci := 0) (k := 0) S hK hW wu_X1 rfl (by decide) wf_X8_57 4 rfl rfl dX8_bows_40 ?_
      refine gf (C := RX3) (T := TX3) (N := 10) (ci := 2) (k := 1) S hK hW wu_X3 rfl (by decide) wf_X8_75 9 rfl rfl dX8_bows_43 ?_
      refine lv_iload_n S.1 S.2.1 dX8_bows_46 rfl (lv_at hl 2 rfl) ?_
      refine lv_iload_n S.1 S.2.1 dX8_bows_47 rfl (lv_at hl 3 rfl) ?_
      obtain ⟨z18, h⟩ := of_g h
      refine ist S hK hW rfl 11 rfl z18 dX8_bows_48 (fun H locs hW => ?_)
      have hW : wd (dC, dI) A s.heap (clX8 cI cJ cZ cB h0 a0 (c0 2) (c0 5) (w0 6 0) (w0 7 0) (clX1 cI cJ cZ cB (a0 0) a1 (c1 1) (c1 2 0) (c1 3) (c1 4 0) (c1 5) (c1 6 0) (w1 7) (c1 8 0) (clX3 cI cJ cZ cB (a1 0) a2 (c2 0) (upd (c2 1) (ix p1) p2) (c2 2) (c2 3) (c2 4) (c2 5 0) (c2 6 0) (c2 7 0) (c2 8 0) (c2 9 0) []))) H locs := hW
      refine lv_aload_n S.1 S.2.1 dX8_bows_49 rfl (lv_at hl 1 rfl) ?_
      refine gf (C := RX8) (T := TX8) (N := 8) (ci := 4) (k := 0) S hK hW wu_X8 rfl (by decide) wf_X8_10 0 rfl rfl dX8_bows_50 ?_
      obtain ⟨cv19, hy20, h⟩ := bd1_e h
      refine kv (clX8 cI cJ cZ cB h0 a0 (c0 2) (c0 5) (w0 6 0) (w0 7 0) (clX1 cI cJ cZ cB (a0 0) a1 (cv19 1) (cv19 2 0) (cv19 3) (cv19 4 0) (cv19 5) (cv19 6 0) (w1 7) (cv19 8 0) (clX3 cI cJ cZ cB (a1 0) a2 (c2 0) (upd (c2 1) (ix p1) p2) (c2 2) (c2 3) (c2 4) (c2 5 0) (c2 6 0) (c2 7 0) (c2 8 0) (c2 9 0) []))) S hK hN hZ hA hW (rest := []) (t_X1_dropPast l dC dI cI cJ cZ cB zz (a0 0) a1 c1 w1 _  hy20) wl_X8_78 wv_X1_dropPast rfl rfl ⟨Nat.le_of_ble_eq_true rfl, Nat.le_of_ble_eq_true rfl⟩ (clX8 cI cJ cZ cB h0 a0 (c0 2) (c0 5) (w0 6 0) (w0 7 0) []) (clX3 cI cJ cZ cB (a1 0) a2 (c2 0) (upd (c2 1) (ix p1) p2) (c2 2) (c2 3) (c2 4) (c2 5 0) (c2 6 0) (c2 7 0) (c2 8 0) (c2 9 0) []) rfl rfl rfl 4 rfl rfl rfl rfl hl.1 rfl (Nat.le_of_ble_eq_true rfl) dX8_bows_53 [] rfl (fun H locs hW => ?_)
      refine lv_iload_n S.1 S.2.1 dX8_bows_56 rfl (lv_at hl 0 rfl) ?_
      have f21 := Option.some.inj h
      obtain ⟨f22, f23⟩ := Prod.mk.inj f21
      obtain ⟨f24, f25⟩ := Prod.mk.inj f23
      obtain ⟨f26, f27⟩ := Prod.mk.inj f25
      subst f22
      subst f24
      subst f26
      subst f27
      exact ri S hr hlocks hW dX8_bows_57
    · have h := of_p u16 h
      exact hJ16 _ _ _ h H locs hW ls (lv_sub hl [0] rfl)
abbrev rmX8_refuseAsFull : Room := { frames := 0, cells := 0, slots := 0, locals := 0 }
set_option maxHeartbeats 4000000 in
set_option maxRecDepth 100000 in
theorem t_X8_refuseAsFull (l : Launch) (dC : Nat → ClassId) (dI : Nat → Nat → Nat) (cI cJ cZ cB : ClassId) (zz : ZT)  (h0 : Nat) (a0 : Nat → Nat) (c0 : Nat → Nat → Int32) (w0 : Nat → Nat → Int64) (r : Int32) (c0' : Nat → Nat → Int32) (hm : md_X8_refuseAsFull c0 w0 = some (r, c0')) : ct l (dC, dI) zz (ty4 cI cJ cZ cB) yX8_refuseAsFull cX8_refuseAsFull 1 (some .int) rmX8_refuseAsFull [.ref h0] (cwX8 cI cJ cZ cB h0 a0 c0 w0 []) (cwX8 cI cJ cZ cB h0 a0 c0' w0 []) (some (.int r)) := by
  refine ct_of (cc := cX8_refuseAsFull) (maxL := 1) (ret := (some .int)) (by decide) (Nat.le_of_ble_eq_true rfl) ?_
  intro p e s m below meth c A S hr hlocks hK hN hZ hA H locs hW ls hl
  have S : CallFix p m c cX8_refuseAsFull 1 s (List.toArray [.ref h0]) G RX8 := S
  have hl : lv_has ls 1 [(0, .ref h0)] := hl
  have h := hm
  rw [md_X8_refuseAsFull] at h
  have hW : wd (dC, dI) A s.heap (clX8 cI cJ cZ cB h0 a0 (c0 2) (c0 5) (w0 6 0) (w0 7 0) []) H locs := hW
  refine lv_aload_n S.1 S.2.1 dX8_refuseAsFull_0 rfl (lv_at hl 0 rfl) ?_
  refine gf (C := RX8) (T := TX8) (N := 8) (ci := 4) (k := 5) S hK hW wu_X8 rfl (by decide) wf_X8_38 0 rfl rfl dX8_refuseAsFull_1 ?_
  refine lv_iconst (v := (2 : Int32)) S.1 S.2.1 dX8_refuseAsFull_4 ki_2 ?_
  refine lv_dup2_11 S.1 S.2.1 dX8_refuseAsFull_5 rfl rfl ?_
  refine iaK S hK hW rfl 3 rfl b_2_3 x_2 dX8_refuseAsFull_6 ?_
  refine lv_iconst (v := (1 : Int32)) S.1 S.2.1 dX8_refuseAsFull_7 ki_1 ?_
  refine lv_iadd S.1 S.2.1 dX8_refuseAsFull_8 ?_
  refine istK S hK hW rfl 3 rfl b_2_3 x_2 dX8_refuseAsFull_9 (fun H locs hW => ?_)
  have hW : wd (dC, dI) A s.heap (clX8 cI cJ cZ cB h0 a0 (c0 2) (upd (c0 5) 2 (((c0 5) 2) + (1 : Int32))) (w0 6 0) (w0 7 0) []) H locs := hW
  refine lv_bipush (v := (-4 : Int32)) S.1 S.2.1 dX8_refuseAsFull_10 kb_m4 ?_
  have f1 := Option.some.inj h
  obtain ⟨f2, f3⟩ := Prod.mk.inj f1
  subst f2
  subst f3
  exact ri S hr hlocks hW dX8_refuseAsFull_12
abbrev rmX8_point : Room := { frames := 2, cells := 0, slots := 0, locals := 45 }
set_option maxHeartbeats 4000000 in
set_option maxRecDepth 100000 in
theorem t_X8_point (l : Launch) (dC : Nat → ClassId) (dI : Nat → Nat → Nat) (cI cJ cZ cB : ClassId) (zz : ZT)  (h0 : Nat) (a0 : Nat → Nat) (a1 : Nat → Nat) (a2 : Nat → Nat) (c0 : Nat → Nat → Int32) (w0 : Nat → Nat → Int64) (c1 : Nat → Nat → Int32) (w1 : Nat → Nat → Int64) (c2 : Nat → Nat → Int32) (p1 : Int32) (p2 : Int32) (p3 : Int32) (r : Int32) (c0' : Nat → Nat → Int32) (c1' : Nat → Nat → Int32) (c2' : Nat → Nat → Int32) (hm : md_X8_point c0 w0 c1 w1 c2 p1 p2 p3 = some (r, c0', c1', c2')) : ct l (dC, dI) zz (ty4 cI cJ cZ cB) yX8_point cX8_point 5 (some .int) rmX8_point [.ref h0, .int p1, .int p2, .int p3] (cwX8 cI cJ cZ cB h0 a0 c0 w0 (cwX1 cI cJ cZ cB (a0 0) a1 c1 w1 (cwX3 cI cJ cZ cB (a1 0) a2 c2 []))) (cwX8 cI cJ cZ cB h0 a0 c0' w0 (cwX1 cI cJ cZ cB (a0 0) a1 c1' w1 (cwX3 cI cJ cZ cB (a1 0) a2 c2' []))) (some (.int r)) := by
  refine ct_of (cc := cX8_point) (maxL := 5) (ret := (some .int)) (by decide) (Nat.le_of_ble_eq_true rfl) ?_
  intro p e s m below meth c A S hr hlocks hK hN hZ hA H locs hW ls hl
  have S : CallFix p m c cX8_point 5 s (List.toArray [.ref h0, .int p1, .int p2, .int p3]) G RX8 := S
  have hl : lv_has ls 5 [(0, .ref h0), (1, .int p1), (2, .int p2), (3, .int p3)] := hl
  have h := hm
  rw [md_X8_point] at h
  have hW : wd (dC, dI) A s.heap (clX8 cI cJ cZ cB h0 a0 (c0 2) (c0 5) (w0 6 0) (w0 7 0) (clX1 cI cJ cZ cB (a0 0) a1 (c1 1) (c1 2 0) (c1 3) (c1 4 0) (c1 5) (c1 6 0) (w1 7) (c1 8 0) (clX3 cI cJ cZ cB (a1 0) a2 (c2 0) (c2 1) (c2 2) (c2 3) (c2 4) (c2 5 0) (c2 6 0) (c2 7 0) (c2 8 0) (c2 9 0) []))) H locs := hW
  have hJ26 : ∀ (c0 : Nat → Nat → Int32) (c1 : Nat → Nat → Int32) (c2 : Nat → Nat → Int32), jd_X8_point_26 w0 w1 c0 c1 c2 = some (r, c0', c1', c2') → ∀ (H : Heap) (locs : List Loc), wd (dC, dI) A s.heap (clX8 cI cJ cZ cB h0 a0 (c0 2) (c0 5) (w0 6 0) (w0 7 0) (clX1 cI cJ cZ cB (a0 0) a1 (c1 1) (c1 2 0) (c1 3) (c1 4 0) (c1 5) (c1 6 0) (w1 7) (c1 8 0) (clX3 cI cJ cZ cB (a1 0) a2 (c2 0) (c2 1) (c2 2) (c2 3) (c2 4) (c2 5 0) (c2 6 0) (c2 7 0) (c2 8 0) (c2 9 0) []))) H locs → ∀ ls : Array Slot, lv_has ls 5 [(0, .ref h0)] → W p l e rmX8_point s m (List.toArray [.ref h0, .int p1, .int p2, .int p3]) below meth c H locs 0 0 (MQ below (kQ (dC, dI) (cwX8 cI cJ cZ cB h0 a0 c0' w0 (cwX1 cI cJ cZ cB (a0 0) a1 c1' w1 (cwX3 cI cJ cZ cB (a1 0) a2 c2' []))) (some (.int r)) A) (List.toArray [.ref h0, .int p1, .int p2, .int p3]) s 0 0 A) (F0 m 26 ls []) := by
    intro c0 c1 c2 h H locs hW ls hl
    rw [jd_X8_point_26] at h
    refine lv_aload_n S.1 S.2.1 dX8_point_26 rfl (lv_at hl 0 rfl) ?_
    refine lv_bipush (v := (-2 : Int32)) S.1 S.2.1 dX8_point_27 kb_m2 ?_
    obtain ⟨r1, cv2, hy3, h⟩ := bd2_e h
    refine kv (clX8 cI cJ cZ cB h0 a0 (cv2 2) (cv2 5) (w0 6 0) (w0 7 0) (clX1 cI cJ cZ cB (a0 0) a1 (c1 1) (c1 2 0) (c1 3) (c1 4 0) (c1 5) (c1 6 0) (w1 7) (c1 8 0) (clX3 cI cJ cZ cB (a1 0) a2 (c2 0) (c2 1) (c2 2) (c2 3) (c2 4) (c2 5 0) (c2 6 0) (c2 7 0) (c2 8 0) (c2 9 0) []))) S hK hN hZ hA hW (rest := []) (t_X8_refuseAsBad l dC dI cI cJ cZ cB zz h0 a0 c0 w0 (-2 : Int32) _ _  hy3) wl_X8_53 wv_X8_refuseAsBad rfl rfl ⟨Nat.le_of_ble_eq_true rfl, Nat.le_of_ble_eq_true rfl⟩ [] (clX1 cI cJ cZ cB (a0 0) a1 (c1 1) (c1 2 0) (c1 3) (c1 4 0) (c1 5) (c1 6 0) (w1 7) (c1 8 0) (clX3 cI cJ cZ cB (a1 0) a2 (c2 0) (c2 1) (c2 2) (c2 3) (c2 4) (c2 5 0) (c2 6 0) (c2 7 0) (c2 8 0) (c2 9 0) [])) rfl rfl rfl 0 rfl rfl rfl rfl hl.1 rfl (Nat.le_of_ble_eq_true rfl) dX8_point_29 [.int r1] rfl (fun H locs hW => ?_)
    have f4 := Option.some.inj h
    obtain ⟨f5, f6⟩ := Prod.mk.inj f4
    obtain ⟨f7, f8⟩ := Prod.mk.inj f6
    obtain ⟨f9, f10⟩ := Prod.mk.inj f8
    subst f5
    subst f7
    subst f9
    subst f10
    exact ri S hr hlocks hW dX8_point_32
  refine lv_iload_n S.1 S.2.1 dX8_point_0 rfl (lv_at hl 1 rfl) ?_
  obtain ⟨r11, hy12, h⟩ := bd1_e h
  refine ks0 S hK hN hZ hA hW (rest := []) (t_X8_isKind l dC dI cI cJ cZ cB zz p1 _  hy12) wl_X8_49 wv_X8_isKind rfl rfl ⟨Nat.le_of_ble_eq_true rfl, Nat.le_of_ble_eq_true rfl⟩ [] (clX8 cI cJ cZ cB h0 a0 (c0 2) (c0 5) (w0 6 0) (w0 7 0) (clX1 cI cJ cZ cB (a0 0) a1 (c1 1) (c1 2 0) (c1 3) (c1 4 0) (c1 5) (c1 6 0) (w1 7) (c1 8 0) (clX3 cI cJ cZ cB (a1 0) a2 (c2 0) (c2 1) (c2 2) (c2 3) (c2 4) (c2 5 0) (c2 6 0) (c2 7 0) (c2 8 0) (c2 9 0) []))) rfl rfl hl.1 rfl (Nat.le_of_ble_eq_true rfl) dX8_point_1 [.int r11] rfl (fun H locs hW => ?_)
  refine lv_if_eq (tgt := 26) S.1 S.2.1 dX8_point_4 (by decide) (fun u13 => ?_) (fun u13 => ?_)
  · have h := of_p u13 h
    exact hJ26 _ _ _ h H locs hW ls (lv_sub hl [0] rfl)
  · have h := of_n u13 h
    refine lv_iconst (v := (1 : Int32)) S.1 S.2.1 dX8_point_7 ki_1 ?_
    refine lv_iload_n S.1 S.2.1 dX8_point_8 rfl (lv_at hl 2 rfl) ?_
    refine lv_bipush (v := (9 : Int32)) S.1 S.2.1 dX8_point_9 kb_9 ?_
    obtain ⟨r14, hy15, h⟩ := bd1_e h
    refine ks0 S hK hN hZ hA hW (rest := []) (t_X8_within l dC dI cI cJ cZ cB zz (1 : Int32) p2 (9 : Int32) _  hy15) wl_X8_71 wv_X8_within rfl rfl ⟨Nat.le_of_ble_eq_true rfl, Nat.le_of_ble_eq_true rfl⟩ [] (clX8 cI cJ cZ cB h0 a0 (c0 2) (c0 5) (w0 6 0) (w0 7 0) (clX1 cI cJ cZ cB (a0 0) a1 (c1 1) (c1 2 0) (c1 3) (c1 4 0) (c1 5) (c1 6 0) (w1 7) (c1 8 0) (clX3 cI cJ cZ cB (a1 0) a2 (c2 0) (c2 1) (c2 2) (c2 3) (c2 4) (c2 5 0) (c2 6 0) (c2 7 0) (c2 8 0) (c2 9 0) []))) rfl rfl hl.1 rfl (Nat.le_of_ble_eq_true rfl) dX8_point_11 [.int r14] rfl (fun H locs hW => ?_)
    refine lv_if_eq (tgt := 26) S.1 S.2.1 dX8_point_14 (by decide) (fun u16 => ?_) (fun u16 => ?_)
    · have h := of_p u16 h
      exact hJ26 _ _ _ h H locs hW ls (lv_sub hl [0] rfl)
    · have h := of_n u16 h
      refine lv_iconst (v := (0 : Int32)) S.1 S.2.1 dX8_point_17 ki_0 ?_
      refine lv_iload_n S.1 S.2.1 dX8_point_18 rfl (lv_at hl 3 rfl) ?_
      refine lv_iconst (v := (3 : Int32)) S.1 S.2.1 dX8_point_19 ki_3 ?_
      obtain ⟨r17, hy18, h⟩ := bd1_e h
      refine ks0 S hK hN hZ hA hW (rest := []) (t_X8_within l dC dI cI cJ cZ cB zz (0 : Int32) p3 (3 : Int32) _  hy18) wl_X8_71 wv_X8_within rfl rfl ⟨Nat.le_of_ble_eq_true rfl, Nat.le_of_ble_eq_true rfl⟩ [] (clX8 cI cJ cZ cB h0 a0 (c0 2) (c0 5) (w0 6 0) (w0 7 0) (clX1 cI cJ cZ cB (a0 0) a1 (c1 1) (c1 2 0) (c1 3) (c1 4 0) (c1 5) (c1 6 0) (w1 7) (c1 8 0) (clX3 cI cJ cZ cB (a1 0) a2 (c2 0) (c2 1) (c2 2) (c2 3) (c2 4) (c2 5 0) (c2 6 0) (c2 7 0) (c2 8 0) (c2 9 0) []))) rfl rfl hl.1 rfl (Nat.le_of_ble_eq_true rfl) dX8_point_20 [.int r17] rfl (fun H locs hW => ?_)
      refine lv_if_ne (tgt := 33) S.1 S.2.1 dX8_point_23 (by decide) (fun u19 => ?_) (fun u19 => ?_)
      · have h := of_n u19 h
        refine lv_aload_n S.1 S.2.1 dX8_point_33 rfl (lv_at hl 0 rfl) ?_
        refine gf (C := RX8) (T := TX8) (N := 8) (ci := 4) (k := 0) S hK hW wu_X8 rfl (by decide) wf_X8_10 0 rfl rfl dX8_point_34 ?_
        refine gf (C := RX1) (T := TX1) (N := 9) (ci := 0) (k := 0) S hK hW wu_X1 rfl (by decide) wf_X8_57 4 rfl rfl dX8_point_37 ?_
        obtain ⟨r20, hy21, h⟩ := bd1_e h
        refine kv0 S hK hN hZ hA hW (rest := []) (t_X3_hasRoom l dC dI cI cJ cZ cB zz (a1 0) a2 c2 _  hy21) wl_X8_81 wv_X3_hasRoom rfl rfl ⟨Nat.le_of_ble_eq_true rfl, Nat.le_of_ble_eq_true rfl⟩ (clX8 cI cJ cZ cB h0 a0 (c0 2) (c0 5) (w0 6 0) (w0 7 0) (clX1 cI cJ cZ cB (a0 0) a1 (c1 1) (c1 2 0) (c1 3) (c1 4 0) (c1 5) (c1 6 0) (w1 7) (c1 8 0) [])) [] rfl 9 rfl rfl rfl rfl hl.1 rfl (Nat.le_of_ble_eq_true rfl) dX8_point_40 [.int r20] rfl (fun H locs hW => ?_)
        refine lv_if_ne (tgt := 51) S.1 S.2.1 dX8_point_43 (by decide) (fun u22 => ?_) (fun u22 => ?_)
        · have h := of_n u22 h
          refine lv_aload_n S.1 S.2.1 dX8_point_51 rfl (lv_at hl 0 rfl) ?_
          refine gf (C := RX8) (T := TX8) (N := 8) (ci := 4) (k := 0) S hK hW wu_X8 rfl (by decide) wf_X8_10 0 rfl rfl dX8_point_52 ?_
          refine gf (C := RX1) (T := TX1) (N := 9) (ci := 0) (k := 0) S hK hW wu_X1 rfl (by decide) wf_X8_57 4 rfl rfl dX8_point_55 ?_
          refine gf (C := RX3) (T := TX3) (N := 10) (ci := 2) (k := 5) S hK hW wu_X3 rfl (by decide) wf_X8_60 9 rfl rfl dX8_point_58 ?_
          refine lv_istore (lv' := [(4, .int (c2 5 0)), (0, .ref h0), (1, .int p1), (2, .int p2), (3, .int p3)]) S.1 S.2.1 dX8_point_61 hl (by decide) rfl (fun ls hl => ?_)
          refine lv_aload_n S.1 S.2.1 dX8_point_63 rfl (lv_at hl 1 rfl) ?_
          refine gf (C := RX8) (T := TX8) (N := 8) (ci := 4) (k := 0) S hK hW wu_X8 rfl (by decide) wf_X8_10 0 rfl rfl dX8_point_64 ?_
          refine gf (C := RX1) (T := TX1) (N := 9) (ci := 0) (k := 0) S hK hW wu_X1 rfl (by decide) wf_X8_57 4 rfl rfl dX8_point_67 ?_
          refine lv_iload_n S.1 S.2.1 dX8_point_70 rfl (lv_at hl 2 rfl) ?_
          refine lv_iload_n S.1 S.2.1 dX8_point_71 rfl (lv_at hl 3 rfl) ?_
          refine lv_iload_n S.1 S.2.1 dX8_point_72 rfl (lv_at hl 4 rfl) ?_
          obtain ⟨cv23, hy24, h⟩ := bd1_e h
          refine kv (clX8 cI cJ cZ cB h0 a0 (c0 2) (c0 5) (w0 6 0) (w0 7 0) (clX1 cI cJ cZ cB (a0 0) a1 (c1 1) (c1 2 0) (c1 3) (c1 4 0) (c1 5) (c1 6 0) (w1 7) (c1 8 0) (clX3 cI cJ cZ cB (a1 0) a2 (cv23 0) (cv23 1) (cv23 2) (cv23 3) (cv23 4) (cv23 5 0) (cv23 6 0) (cv23 7 0) (cv23 8 0) (cv23 9 0) []))) S hK hN hZ hA hW (rest := []) (t_X3_add l dC dI cI cJ cZ cB zz (a1 0) a2 c2 p1 p2 p3 _  hy24) wl_X8_89 wv_X3_add rfl rfl ⟨Nat.le_of_ble_eq_true rfl, Nat.le_of_ble_eq_true rfl⟩ (clX8 cI cJ cZ cB h0 a0 (c0 2) (c0 5) (w0 6 0) (w0 7 0) (clX1 cI cJ cZ cB (a0 0) a1 (c1 1) (c1 2 0) (c1 3) (c1 4 0) (c1 5) (c1 6 0) (w1 7) (c1 8 0) [])) [] rfl rfl rfl 9 rfl rfl rfl rfl hl.1 rfl (Nat.le_of_ble_eq_true rfl) dX8_point_73 [] rfl (fun H locs hW => ?_)
          refine lv_aload_n S.1 S.2.1 dX8_point_76 rfl (lv_at hl 1 rfl) ?_
          refine gf (C := RX8) (T := TX8) (N := 8) (ci := 4) (k := 0) S hK hW wu_X8 rfl (by decide) wf_X8_10 0 rfl rfl dX8_point_77 ?_
          obtain ⟨cv25, hy26, h⟩ := bd1_e h
          refine kv (clX8 cI cJ cZ cB h0 a0 (c0 2) (c0 5) (w0 6 0) (w0 7 0) (clX1 cI cJ cZ cB (a0 0) a1 (cv25 1) (cv25 2 0) (cv25 3) (cv25 4 0) (cv25 5) (cv25 6 0) (w1 7) (cv25 8 0) (clX3 cI cJ cZ cB (a1 0) a2 (cv23 0) (cv23 1) (cv23 2) (cv23 3) (cv23 4) (cv23 5 0) (cv23 6 0) (cv23 7 0) (cv23 8 0) (cv23 9 0) []))) S hK hN hZ hA hW (rest := []) (t_X1_dropPast l dC dI cI cJ cZ cB zz (a0 0) a1 c1 w1 _  hy26) wl_X8_78 wv_X1_dropPast rfl rfl ⟨Nat.le_of_ble_eq_true rfl, Nat.le_of_ble_eq_true rfl⟩ (clX8 cI cJ cZ cB h0 a0 (c0 2) (c0 5) (w0 6 0) (w0 7 0) []) (clX3 cI cJ cZ cB (a1 0) a2 (cv23 0) (cv23 1) (cv23 2) (cv23 3) (cv23 4) (cv23 5 0) (cv23 6 0) (cv23 7 0) (cv23 8 0) (cv23 9 0) []) rfl rfl rfl 4 rfl rfl rfl rfl hl.1 rfl (Nat.le_of_ble_eq_true rfl) dX8_point_80 [] rfl (fun H locs hW => ?_)
          refine lv_iload S.1 S.2.1 dX8_point_83 (lv_at hl 0 rfl) ?_
          have f27 := Option.some.inj h
          obtain ⟨f28, f29⟩ := Prod.mk.inj f27
          obtain ⟨f30, f31⟩ := Prod.mk.inj f29
          obtain ⟨f32, f33⟩ := Prod.mk.inj f31
          subst f28
          subst f30
          subst f32
          subst f33
          exact ri S hr hlocks hW dX8_point_85
        · have h := of_p u22 h
          refine lv_aload_n S.1 S.2.1 dX8_point_46 rfl (lv_at hl 0 rfl) ?_
          obtain ⟨r34, cv35, hy36, h⟩ := bd2_e h
          refine kv (clX8 cI cJ cZ cB h0 a0 (cv35 2) (cv35 5) (w0 6 0) (w0 7 0) (clX1 cI cJ cZ cB (a0 0) a1 (c1 1) (c1 2 0) (c1 3) (c1 4 0) (c1 5) (c1 6 0) (w1 7) (c1 8 0) (clX3 cI cJ cZ cB (a1 0) a2 (c2 0) (c2 1) (c2 2) (c2 3) (c2 4) (c2 5 0) (c2 6 0) (c2 7 0) (c2 8 0) (c2 9 0) []))) S hK hN hZ hA hW (rest := []) (t_X8_refuseAsFull l dC dI cI cJ cZ cB zz h0 a0 c0 w0 _ _  hy36) wl_X8_85 wv_X8_refuseAsFull rfl rfl ⟨Nat.le_of_ble_eq_true rfl, Nat.le_of_ble_eq_true rfl⟩ [] (clX1 cI cJ cZ cB (a0 0) a1 (c1 1) (c1 2 0) (c1 3) (c1 4 0) (c1 5) (c1 6 0) (w1 7) (c1 8 0) (clX3 cI cJ cZ cB (a1 0) a2 (c2 0) (c2 1) (c2 2) (c2 3) (c2 4) (c2 5 0) (c2 6 0) (c2 7 0) (c2 8 0) (c2 9 0) [])) rfl rfl rfl 0 rfl rfl rfl rfl hl.1 rfl (Nat.le_of_ble_eq_true rfl) dX8_point_47 [.int r34] rfl (fun H locs hW => ?_)
          have f37 := Option.some.inj h
          obtain ⟨f38, f39⟩ := Prod.mk.inj f37
          obtain ⟨f40, f41⟩ := Prod.mk.inj f39
          obtain ⟨f42, f43⟩ := Prod.mk.inj f41
          subst f38
          subst f40
          subst f42
          subst f43
          exact ri S hr hlocks hW dX8_point_50
      · have h := of_p u19 h
        exact hJ26 _ _ _ h H locs hW ls (lv_sub hl [0] rfl)
abbrev rmX8_type : Room := { frames := 1, cells := 0, slots := 0, locals := 22 }
set_option maxHeartbeats 4000000 in
set_option maxRecDepth 100000 in
theorem t_X8_type (l : Launch) (dC : Nat → ClassId) (dI : Nat → Nat → Nat) (cI cJ cZ cB : ClassId) (zz : ZT)  (h0 : Nat) (a0 : Nat → Nat) (a1 : Nat → Nat) (a2 : Nat → Nat) (c0 : Nat → Nat → Int32) (w0 : Nat → Nat → Int64) (c2 : Nat → Nat → Int32) (p1 : Int32) (r : Int32) (c0' : Nat → Nat → Int32) (c2' : Nat → Nat → Int32) (hm : md_X8_type c0 w0 c2 p1 = some (r, c0', c2')) : ct l (dC, dI) zz (ty4 cI cJ cZ cB) yX8_type cX8_type 2 (some .int) rmX8_type [.ref h0, .int p1] (cwX8 cI cJ cZ cB h0 a0 c0 w0 (cwX2 cI cJ cZ cB (a0 4) a1  (cwX7 cI cJ cZ cB (a1 0) a2 c2 []))) (cwX8 cI cJ cZ cB h0 a0 c0' w0 (cwX2 cI cJ cZ cB (a0 4) a1  (cwX7 cI cJ cZ cB (a1 0) a2 c2' []))) (some (.int r)) := by
  refine ct_of (cc := cX8_type) (maxL := 2) (ret := (some .int)) (by decide) (Nat.le_of_ble_eq_true rfl) ?_
  intro p e s m below meth c A S hr hlocks hK hN hZ hA H locs hW ls hl
  have S : CallFix p m c cX8_type 2 s (List.toArray [.ref h0, .int p1]) G RX8 := S
  have hl : lv_has ls 2 [(0, .ref h0), (1, .int p1)] := hl
  have h := hm
  rw [md_X8_type] at h
  have hW : wd (dC, dI) A s.heap (clX8 cI cJ cZ cB h0 a0 (c0 2) (c0 5) (w0 6 0) (w0 7 0) (clX2 cI cJ cZ cB (a0 4) a1  (clX7 cI cJ cZ cB (a1 0) a2 (c2 0) (c2 1 0) (c2 2 0) (c2 3 0) (c2 4 0) (c2 5 0) []))) H locs := hW
  refine lv_iconst (v := (0 : Int32)) S.1 S.2.1 dX8_type_0 ki_0 ?_
  refine lv_iload_n S.1 S.2.1 dX8_type_1 rfl (lv_at hl 1 rfl) ?_
  refine lv_bipush (v := (127 : Int32)) S.1 S.2.1 dX8_type_2 kb_127 ?_
  obtain ⟨r1, hy2, h⟩ := bd1_e h
  refine ks0 S hK hN hZ hA hW (rest := []) (t_X8_within l dC dI cI cJ cZ cB zz (0 : Int32) p1 (127 : Int32) _  hy2) wl_X8_71 wv_X8_within rfl rfl ⟨Nat.le_of_ble_eq_true rfl, Nat.le_of_ble_eq_true rfl⟩ [] (clX8 cI cJ cZ cB h0 a0 (c0 2) (c0 5) (w0 6 0) (w0 7 0) (clX2 cI cJ cZ cB (a0 4) a1  (clX7 cI cJ cZ cB (a1 0) a2 (c2 0) (c2 1 0) (c2 2 0) (c2 3 0) (c2 4 0) (c2 5 0) []))) rfl rfl hl.1 rfl (Nat.le_of_ble_eq_true rfl) dX8_type_4 [.int r1] rfl (fun H locs hW => ?_)
  refine lv_if_ne (tgt := 17) S.1 S.2.1 dX8_type_7 (by decide) (fun u3 => ?_) (fun u3 => ?_)
  · have h := of_n u3 h
    refine lv_aload_n S.1 S.2.1 dX8_type_17 rfl (lv_at hl 0 rfl) ?_
    refine gf (C := RX8) (T := TX8) (N := 8) (ci := 4) (k := 4) S hK hW wu_X8 rfl (by decide) wf_X8_34 0 rfl rfl dX8_type_18 ?_
    refine gf (C := RX2) (T := TX2) (N := 2) (ci := 1) (k := 0) S hK hW wu_X2 rfl (by decide) wf_X8_93 4 rfl rfl dX8_type_21 ?_
    refine gf (C := RX7) (T := TX7) (N := 6) (ci := 3) (k := 1) S hK hW wu_X7 rfl (by decide) wf_X8_97 5 rfl rfl dX8_type_24 ?_
    refine lv_sipush (v := (150 : Int32)) S.1 S.2.1 dX8_type_27 ks_150 ?_
    refine lv_icmp_lt (tgt := 38) S.1 S.2.1 dX8_type_30 (by decide) (fun u4 => ?_) (fun u4 => ?_)
    · have h := of_p u4 h
      refine lv_aload_n S.1 S.2.1 dX8_type_38 rfl (lv_at hl 0 rfl) ?_
      refine gf (C := RX8) (T := TX8) (N := 8) (ci := 4) (k := 4) S hK hW wu_X8 rfl (by decide) wf_X8_34 0 rfl rfl dX8_type_39 ?_
      refine gf (C := RX2) (T := TX2) (N := 2) (ci := 1) (k := 0) S hK hW wu_X2 rfl (by decide) wf_X8_93 4 rfl rfl dX8_type_42 ?_
      refine lv_iload_n S.1 S.2.1 dX8_type_45 rfl (lv_at hl 1 rfl) ?_
      obtain ⟨cv5, hy6, h⟩ := bd1_e h
      refine kv (clX8 cI cJ cZ cB h0 a0 (c0 2) (c0 5) (w0 6 0) (w0 7 0) (clX2 cI cJ cZ cB (a0 4) a1  (clX7 cI cJ cZ cB (a1 0) a2 (cv5 0) (cv5 1 0) (cv5 2 0) (cv5 3 0) (cv5 4 0) (cv5 5 0) []))) S hK hN hZ hA hW (rest := []) (t_X7_append l dC dI cI cJ cZ cB zz (a1 0) a2 c2 p1 _  hy6) wl_X8_102 wv_X7_append rfl rfl ⟨Nat.le_of_ble_eq_true rfl, Nat.le_of_ble_eq_true rfl⟩ (clX8 cI cJ cZ cB h0 a0 (c0 2) (c0 5) (w0 6 0) (w0 7 0) (clX2 cI cJ cZ cB (a0 4) a1  [])) [] rfl rfl rfl 5 rfl rfl rfl rfl hl.1 rfl (Nat.le_of_ble_eq_true rfl) dX8_type_46 [] rfl (fun H locs hW => ?_)
      refine lv_aload_n S.1 S.2.1 dX8_type_49 rfl (lv_at hl 0 rfl) ?_
      refine gf (C := RX8) (T := TX8) (N := 8) (ci := 4) (k := 4) S hK hW wu_X8 rfl (by decide) wf_X8_34 0 rfl rfl dX8_type_50 ?_
      refine gf (C := RX2) (T := TX2) (N := 2) (ci := 1) (k := 0) S hK hW wu_X2 rfl (by decide) wf_X8_93 4 rfl rfl dX8_type_53 ?_
      refine gf (C := RX7) (T := TX7) (N := 6) (ci := 3) (k := 1) S hK hW wu_X7 rfl (by decide) wf_X8_97 5 rfl rfl dX8_type_56 ?_
      have f7 := Option.some.inj h
      obtain ⟨f8, f9⟩ := Prod.mk.inj f7
      obtain ⟨f10, f11⟩ := Prod.mk.inj f9
      subst f8
      subst f10
      subst f11
      exact ri S hr hlocks hW dX8_type_59
    · have h := of_n u4 h
      refine lv_aload_n S.1 S.2.1 dX8_type_33 rfl (lv_at hl 0 rfl) ?_
      obtain ⟨r12, cv13, hy14, h⟩ := bd2_e h
      refine kv (clX8 cI cJ cZ cB h0 a0 (cv13 2) (cv13 5) (w0 6 0) (w0 7 0) (clX2 cI cJ cZ cB (a0 4) a1  (clX7 cI cJ cZ cB (a1 0) a2 (c2 0) (c2 1 0) (c2 2 0) (c2 3 0) (c2 4 0) (c2 5 0) []))) S hK hN hZ hA hW (rest := []) (t_X8_refuseAsFull l dC dI cI cJ cZ cB zz h0 a0 c0 w0 _ _  hy14) wl_X8_85 wv_X8_refuseAsFull rfl rfl ⟨Nat.le_of_ble_eq_true rfl, Nat.le_of_ble_eq_true rfl⟩ [] (clX2 cI cJ cZ cB (a0 4) a1  (clX7 cI cJ cZ cB (a1 0) a2 (c2 0) (c2 1 0) (c2 2 0) (c2 3 0) (c2 4 0) (c2 5 0) [])) rfl rfl rfl 0 rfl rfl rfl rfl hl.1 rfl (Nat.le_of_ble_eq_true rfl) dX8_type_34 [.int r12] rfl (fun H locs hW => ?_)
      have f15 := Option.some.inj h
      obtain ⟨f16, f17⟩ := Prod.mk.inj f15
      obtain ⟨f18, f19⟩ := Prod.mk.inj f17
      subst f16
      subst f18
      subst f19
      exact ri S hr hlocks hW dX8_type_37
  · have h := of_p u3 h
    refine lv_aload_n S.1 S.2.1 dX8_type_10 rfl (lv_at hl 0 rfl) ?_
    refine lv_bipush (v := (-2 : Int32)) S.1 S.2.1 dX8_type_11 kb_m2 ?_
    obtain ⟨r20, cv21, hy22, h⟩ := bd2_e h
    refine kv (clX8 cI cJ cZ cB h0 a0 (cv21 2) (cv21 5) (w0 6 0) (w0 7 0) (clX2 cI cJ cZ cB (a0 4) a1  (clX7 cI cJ cZ cB (a1 0) a2 (c2 0) (c2 1 0) (c2 2 0) (c2 3 0) (c2 4 0) (c2 5 0) []))) S hK hN hZ hA hW (rest := []) (t_X8_refuseAsBad l dC dI cI cJ cZ cB zz h0 a0 c0 w0 (-2 : Int32) _ _  hy22) wl_X8_53 wv_X8_refuseAsBad rfl rfl ⟨Nat.le_of_ble_eq_true rfl, Nat.le_of_ble_eq_true rfl⟩ [] (clX2 cI cJ cZ cB (a0 4) a1  (clX7 cI cJ cZ cB (a1 0) a2 (c2 0) (c2 1 0) (c2 2 0) (c2 3 0) (c2 4 0) (c2 5 0) [])) rfl rfl rfl 0 rfl rfl rfl rfl hl.1 rfl (Nat.le_of_ble_eq_true rfl) dX8_type_13 [.int r20] rfl (fun H locs hW => ?_)
    have f23 := Option.some.inj h
    obtain ⟨f24, f25⟩ := Prod.mk.inj f23
    obtain ⟨f26, f27⟩ := Prod.mk.inj f25
    subst f24
    subst f26
    subst f27
    exact ri S hr hlocks hW dX8_type_16
abbrev rmX8_clear : Room := { frames := 0, cells := 0, slots := 0, locals := 0 }
set_option maxHeartbeats 4000000 in
set_option maxRecDepth 100000 in
theorem t_X8_clear (l : Launch) (dC : Nat → ClassId) (dI : Nat → Nat → Nat) (cI cJ cZ cB : ClassId) (zz : ZT)  (h0 : Nat) (a0 : Nat → Nat) (a1 : Nat → Nat) (a2 : Nat → Nat) (c0 : Nat → Nat → Int32) (w0 : Nat → Nat → Int64) (c2 : Nat → Nat → Int32) (r : Int32) (c2' : Nat → Nat → Int32) (hm : md_X8_clear c0 w0 c2 = some (r, c2')) : ct l (dC, dI) zz (ty4 cI cJ cZ cB) yX8_clear cX8_clear 2 (some .int) rmX8_clear [.ref h0] (cwX8 cI cJ cZ cB h0 a0 c0 w0 (cwX2 cI cJ cZ cB (a0 4) a1  (cwX7 cI cJ cZ cB (a1 0) a2 c2 []))) (cwX8 cI cJ cZ cB h0 a0 c0 w0 (cwX2 cI cJ cZ cB (a0 4) a1  (cwX7 cI cJ cZ cB (a1 0) a2 c2' []))) (some (.int r)) := by
  refine ct_of (cc := cX8_clear) (maxL := 2) (ret := (some .int)) (by decide) (Nat.le_of_ble_eq_true rfl) ?_
  intro p e s m below meth c A S hr hlocks hK hN hZ hA H locs hW ls hl
  have S : CallFix p m c cX8_clear 2 s (List.toArray [.ref h0]) G RX8 := S
  have hl : lv_has ls 2 [(0, .ref h0)] := hl
  have h := hm
  rw [md_X8_clear] at h
  have hW : wd (dC, dI) A s.heap (clX8 cI cJ cZ cB h0 a0 (c0 2) (c0 5) (w0 6 0) (w0 7 0) (clX2 cI cJ cZ cB (a0 4) a1  (clX7 cI cJ cZ cB (a1 0) a2 (c2 0) (c2 1 0) (c2 2 0) (c2 3 0) (c2 4 0) (c2 5 0) []))) H locs := hW
  refine lv_aload_n S.1 S.2.1 dX8_clear_0 rfl (lv_at hl 0 rfl) ?_
  refine gf (C := RX8) (T := TX8) (N := 8) (ci := 4) (k := 4) S hK hW wu_X8 rfl (by decide) wf_X8_34 0 rfl rfl dX8_clear_1 ?_
  refine gf (C := RX2) (T := TX2) (N := 2) (ci := 1) (k := 0) S hK hW wu_X2 rfl (by decide) wf_X8_93 4 rfl rfl dX8_clear_4 ?_
  refine gf (C := RX7) (T := TX7) (N := 6) (ci := 3) (k := 1) S hK hW wu_X7 rfl (by decide) wf_X8_97 5 rfl rfl dX8_clear_7 ?_
  refine lv_istore_n (lv' := [(1, .int (c2 1 0)), (0, .ref h0)]) S.1 S.2.1 dX8_clear_10 rfl hl (by decide) rfl (fun ls hl => ?_)
  refine lv_aload_n S.1 S.2.1 dX8_clear_11 rfl (lv_at hl 1 rfl) ?_
  refine gf (C := RX8) (T := TX8) (N := 8) (ci := 4) (k := 4) S hK hW wu_X8 rfl (by decide) wf_X8_34 0 rfl rfl dX8_clear_12 ?_
  refine gf (C := RX2) (T := TX2) (N := 2) (ci := 1) (k := 0) S hK hW wu_X2 rfl (by decide) wf_X8_93 4 rfl rfl dX8_clear_15 ?_
  refine lv_iconst (v := (0 : Int32)) S.1 S.2.1 dX8_clear_18 ki_0 ?_
  refine pf (C := RX7) (T := TX7) (N := 6) (ci := 3) (k := 1) (ty := .int) S hK hW wu_X7 rfl (by decide) tyX7 tyX7_ok nmX7 wf_X8_97 5 rfl rfl rfl rfl rfl (Nat.le_of_ble_eq_true rfl) dX8_clear_19 (fun H locs hW => ?_)
  have hW : wd (dC, dI) A s.heap (clX8 cI cJ cZ cB h0 a0 (c0 2) (c0 5) (w0 6 0) (w0 7 0) (clX2 cI cJ cZ cB (a0 4) a1  (clX7 cI cJ cZ cB (a1 0) a2 (c2 0) (0 : Int32) (c2 2 0) (c2 3 0) (c2 4 0) (c2 5 0) []))) H locs := hW
  refine lv_iload_n S.1 S.2.1 dX8_clear_22 rfl (lv_at hl 0 rfl) ?_
  have f1 := Option.some.inj h
  obtain ⟨f2, f3⟩ := Prod.mk.inj f1
  subst f2
  subst f3
  exact ri S hr hlocks hW dX8_clear_23
abbrev rmX8_read : Room := { frames := 7, cells := 0, slots := 0, locals := 204 }
set_option maxHeartbeats 4000000 in
set_option maxRecDepth 100000 in
theorem t_X8_read (l : Launch) (dC : Nat → ClassId) (dI : Nat → Nat → Nat) (cI cJ cZ cB : ClassId) (zz : ZT)  (h0 : Nat) (a0 : Nat → Nat) (a1 : Nat → Nat) (a2 : Nat → Nat) (a3 : Nat → Nat) (a4 : Nat → Nat) (a5 : Nat → Nat) (F : Nat) (c0 : Nat → Nat → Int32) (w0 : Nat → Nat → Int64) (c1 : Nat → Nat → Int32) (w1 : Nat → Nat → Int64) (c2 : Nat → Nat → Int32) (c4 : Nat → Nat → Int32) (c5 : Nat → Nat → Int32) (r : Int32) (c1' : Nat → Nat → Int32) (c2' : Nat → Nat → Int32) (c4' : Nat → Nat → Int32) (c5' : Nat → Nat → Int32) (hm : md_X8_read F c0 w0 c1 w1 c2 c4 c5 = some (r, c1', c2', c4', c5')) : ct l (dC, dI) zz (ty4 cI cJ cZ cB) yX8_read cX8_read 2 (some .int) rmX8_read [.ref h0] (cwX8 cI cJ cZ cB h0 a0 c0 w0 (cwX1 cI cJ cZ cB (a0 0) a1 c1 w1 (cwX3 cI cJ cZ cB (a1 0) a2 c2 (cwX2 cI cJ cZ cB (a0 4) a3  (cwX3 cI cJ cZ cB (a3 1) a4 c4 (cwX7 cI cJ cZ cB (a3 0) a5 c5 [])))))) (cwX8 cI cJ cZ cB h0 a0 c0 w0 (cwX1 cI cJ cZ cB (a0 0) a1 c1' w1 (cwX3 cI cJ cZ cB (a1 0) a2 c2' (cwX2 cI cJ cZ cB (a0 4) a3  (cwX3 cI cJ cZ cB (a3 1) a4 c4' (cwX7 cI cJ cZ cB (a3 0) a5 c5' [])))))) (some (.int r)) := by
  refine ct_of (cc := cX8_read) (maxL := 2) (ret := (some .int)) (by decide) (Nat.le_of_ble_eq_true rfl) ?_
  intro p e s m below meth c A S hr hlocks hK hN hZ hA H locs hW ls hl
  have S : CallFix p m c cX8_read 2 s (List.toArray [.ref h0]) G RX8 := S
  have hl : lv_has ls 2 [(0, .ref h0)] := hl
  have h := hm
  rw [md_X8_read] at h
  have hW : wd (dC, dI) A s.heap (clX8 cI cJ cZ cB h0 a0 (c0 2) (c0 5) (w0 6 0) (w0 7 0) (clX1 cI cJ cZ cB (a0 0) a1 (c1 1) (c1 2 0) (c1 3) (c1 4 0) (c1 5) (c1 6 0) (w1 7) (c1 8 0) (clX3 cI cJ cZ cB (a1 0) a2 (c2 0) (c2 1) (c2 2) (c2 3) (c2 4) (c2 5 0) (c2 6 0) (c2 7 0) (c2 8 0) (c2 9 0) (clX2 cI cJ cZ cB (a0 4) a3  (clX3 cI cJ cZ cB (a3 1) a4 (c4 0) (c4 1) (c4 2) (c4 3) (c4 4) (c4 5 0) (c4 6 0) (c4 7 0) (c4 8 0) (c4 9 0) (clX7 cI cJ cZ cB (a3 0) a5 (c5 0) (c5 1 0) (c5 2 0) (c5 3 0) (c5 4 0) (c5 5 0) [])))))) H locs := hW
  refine lv_aload_n S.1 S.2.1 dX8_read_0 rfl (lv_at hl 0 rfl) ?_
  refine gf (C := RX8) (T := TX8) (N := 8) (ci := 4) (k := 4) S hK hW wu_X8 rfl (by decide) wf_X8_34 0 rfl rfl dX8_read_1 ?_
  obtain ⟨r1, cv2, cv3, hy4, h⟩ := bd3_e h
  refine kv (clX8 cI cJ cZ cB h0 a0 (c0 2) (c0 5) (w0 6 0) (w0 7 0) (clX1 cI cJ cZ cB (a0 0) a1 (c1 1) (c1 2 0) (c1 3) (c1 4 0) (c1 5) (c1 6 0) (w1 7) (c1 8 0) (clX3 cI cJ cZ cB (a1 0) a2 (c2 0) (c2 1) (c2 2) (c2 3) (c2 4) (c2 5 0) (c2 6 0) (c2 7 0) (c2 8 0) (c2 9 0) (clX2 cI cJ cZ cB (a0 4) a3  (clX3 cI cJ cZ cB (a3 1) a4 (cv2 0) (cv2 1) (cv2 2) (cv2 3) (cv2 4) (cv2 5 0) (cv2 6 0) (cv2 7 0) (cv2 8 0) (cv2 9 0) (clX7 cI cJ cZ cB (a3 0) a5 (cv3 0) (cv3 1 0) (cv3 2 0) (cv3 3 0) (cv3 4 0) (cv3 5 0) [])))))) S hK hN hZ hA hW (rest := []) (t_X2_readAll l dC dI cI cJ cZ cB zz (a0 4) a3 a4 a5 F c4 c5 _ _ _  hy4) wl_X8_106 wv_X2_readAll rfl rfl ⟨Nat.le_of_ble_eq_true rfl, Nat.le_of_ble_eq_true rfl⟩ (clX8 cI cJ cZ cB h0 a0 (c0 2) (c0 5) (w0 6 0) (w0 7 0) (clX1 cI cJ cZ cB (a0 0) a1 (c1 1) (c1 2 0) (c1 3) (c1 4 0) (c1 5) (c1 6 0) (w1 7) (c1 8 0) (clX3 cI cJ cZ cB (a1 0) a2 (c2 0) (c2 1) (c2 2) (c2 3) (c2 4) (c2 5 0) (c2 6 0) (c2 7 0) (c2 8 0) (c2 9 0) []))) [] rfl rfl rfl 15 rfl rfl rfl rfl hl.1 rfl (Nat.le_of_ble_eq_true rfl) dX8_read_4 [.int r1] rfl (fun H locs hW => ?_)
  refine lv_istore_n (lv' := [(1, .int r1), (0, .ref h0)]) S.1 S.2.1 dX8_read_7 rfl hl (by decide) rfl (fun ls hl => ?_)
  refine lv_iload_n S.1 S.2.1 dX8_read_8 rfl (lv_at hl 0 rfl) ?_
  refine lv_iconst (v := (-1 : Int32)) S.1 S.2.1 dX8_read_9 ki_m1 ?_
  refine lv_icmp_ne (tgt := 27) S.1 S.2.1 dX8_read_10 (by decide) (fun u5 => ?_) (fun u5 => ?_)
  · have h := of_n u5 h
    refine lv_aload_n S.1 S.2.1 dX8_read_27 rfl (lv_at hl 1 rfl) ?_
    refine gf (C := RX8) (T := TX8) (N := 8) (ci := 4) (k := 0) S hK hW wu_X8 rfl (by decide) wf_X8_10 0 rfl rfl dX8_read_28 ?_
    refine lv_iconst (v := (0 : Int32)) S.1 S.2.1 dX8_read_31 ki_0 ?_
    refine lv_iconst (v := (0 : Int32)) S.1 S.2.1 dX8_read_32 ki_0 ?_
    obtain ⟨cv6, cv7, hy8, h⟩ := bd2_e h
    refine kv (clX8 cI cJ cZ cB h0 a0 (c0 2) (c0 5) (w0 6 0) (w0 7 0) (clX1 cI cJ cZ cB (a0 0) a1 (cv6 1) (cv6 2 0) (cv6 3) (cv6 4 0) (cv6 5) (cv6 6 0) (w1 7) (cv6 8 0) (clX3 cI cJ cZ cB (a1 0) a2 (cv7 0) (cv7 1) (cv7 2) (cv7 3) (cv7 4) (cv7 5 0) (cv7 6 0) (cv7 7 0) (cv7 8 0) (cv7 9 0) (clX2 cI cJ cZ cB (a0 4) a3  (clX3 cI cJ cZ cB (a3 1) a4 (cv2 0) (cv2 1) (cv2 2) (cv2 3) (cv2 4) (cv2 5 0) (cv2 6 0) (cv2 7 0) (cv2 8 0) (cv2 9 0) (clX7 cI cJ cZ cB (a3 0) a5 (cv3 0) (cv3 1 0) (cv3 2 0) (cv3 3 0) (cv3 4 0) (cv3 5 0) [])))))) S hK hN hZ hA hW (rest := []) (t_X1_begin l dC dI cI cJ cZ cB zz (a0 0) a1 a2 c1 w1 c2 (0 : Int32) (0 : Int32) _ _  hy8) wl_X8_64 wv_X1_begin rfl rfl ⟨Nat.le_of_ble_eq_true rfl, Nat.le_of_ble_eq_true rfl⟩ (clX8 cI cJ cZ cB h0 a0 (c0 2) (c0 5) (w0 6 0) (w0 7 0) []) (clX2 cI cJ cZ cB (a0 4) a3  (clX3 cI cJ cZ cB (a3 1) a4 (cv2 0) (cv2 1) (cv2 2) (cv2 3) (cv2 4) (cv2 5 0) (cv2 6 0) (cv2 7 0) (cv2 8 0) (cv2 9 0) (clX7 cI cJ cZ cB (a3 0) a5 (cv3 0) (cv3 1 0) (cv3 2 0) (cv3 3 0) (cv3 4 0) (cv3 5 0) []))) rfl rfl rfl 4 rfl rfl rfl rfl hl.1 rfl (Nat.le_of_ble_eq_true rfl) dX8_read_33 [] rfl (fun H locs hW => ?_)
    refine lv_aload_n S.1 S.2.1 dX8_read_36 rfl (lv_at hl 1 rfl) ?_
    refine gf (C := RX8) (T := TX8) (N := 8) (ci := 4) (k := 0) S hK hW wu_X8 rfl (by decide) wf_X8_10 0 rfl rfl dX8_read_37 ?_
    refine gf (C := RX1) (T := TX1) (N := 9) (ci := 0) (k := 0) S hK hW wu_X1 rfl (by decide) wf_X8_57 4 rfl rfl dX8_read_40 ?_
    refine lv_aload_n S.1 S.2.1 dX8_read_43 rfl (lv_at hl 1 rfl) ?_
    refine gf (C := RX8) (T := TX8) (N := 8) (ci := 4) (k := 4) S hK hW wu_X8 rfl (by decide) wf_X8_34 0 rfl rfl dX8_read_44 ?_
    refine gf (C := RX2) (T := TX2) (N := 2) (ci := 1) (k := 1) S hK hW wu_X2 rfl (by decide) wf_X8_112 15 rfl rfl dX8_read_47 ?_
    obtain ⟨cv9, hy10, h⟩ := bd1_e h
    have hW : wd (dC, dI) A s.heap (clX3 cI cJ cZ cB (a3 1) a4 (cv2 0) (cv2 1) (cv2 2) (cv2 3) (cv2 4) (cv2 5 0) (cv2 6 0) (cv2 7 0) (cv2 8 0) (cv2 9 0) (clX3 cI cJ cZ cB (a1 0) a2 (cv7 0) (cv7 1) (cv7 2) (cv7 3) (cv7 4) (cv7 5 0) (cv7 6 0) (cv7 7 0) (cv7 8 0) (cv7 9 0) (clX8 cI cJ cZ cB h0 a0 (c0 2) (c0 5) (w0 6 0) (w0 7 0) (clX1 cI cJ cZ cB (a0 0) a1 (cv6 1) (cv6 2 0) (cv6 3) (cv6 4 0) (cv6 5) (cv6 6 0) (w1 7) (cv6 8 0) (clX2 cI cJ cZ cB (a0 4) a3  (clX7 cI cJ cZ cB (a3 0) a5 (cv3 0) (cv3 1 0) (cv3 2 0) (cv3 3 0) (cv3 4 0) (cv3 5 0) [])))))) H locs := wd_sub hW [16, 17, 18, 19, 20, 21, 9, 10, 11, 12, 13, 14, 0, 1, 2, 3, 4, 5, 6, 7, 8, 15, 22, 23] rfl rfl
    refine kv (clX3 cI cJ cZ cB (a3 1) a4 (cv2 0) (cv2 1) (cv2 2) (cv2 3) (cv2 4) (cv2 5 0) (cv2 6 0) (cv2 7 0) (cv2 8 0) (cv2 9 0) (clX3 cI cJ cZ cB (a1 0) a2 (cv9 0) (cv9 1) (cv9 2) (cv9 3) (cv9 4) (cv9 5 0) (cv9 6 0) (cv9 7 0) (cv9 8 0) (cv9 9 0) (clX8 cI cJ cZ cB h0 a0 (c0 2) (c0 5) (w0 6 0) (w0 7 0) (clX1 cI cJ cZ cB (a0 0) a1 (cv6 1) (cv6 2 0) (cv6 3) (cv6 4 0) (cv6 5) (cv6 6 0) (w1 7) (cv6 8 0) (clX2 cI cJ cZ cB (a0 4) a3  (clX7 cI cJ cZ cB (a3 0) a5 (cv3 0) (cv3 1 0) (cv3 2 0) (cv3 3 0) (cv3 4 0) (cv3 5 0) [])))))) S hK hN hZ hA hW (rest := []) (t_X3_copy l dC dI cI cJ cZ cB zz (a3 1) a4 (a1 0) a2 F cv2 cv7 _  hy10) wl_X8_113 wv_X3_copy rfl rfl ⟨Nat.le_of_ble_eq_true rfl, Nat.le_of_ble_eq_true rfl⟩ [] (clX8 cI cJ cZ cB h0 a0 (c0 2) (c0 5) (w0 6 0) (w0 7 0) (clX1 cI cJ cZ cB (a0 0) a1 (cv6 1) (cv6 2 0) (cv6 3) (cv6 4 0) (cv6 5) (cv6 6 0) (w1 7) (cv6 8 0) (clX2 cI cJ cZ cB (a0 4) a3  (clX7 cI cJ cZ cB (a3 0) a5 (cv3 0) (cv3 1 0) (cv3 2 0) (cv3 3 0) (cv3 4 0) (cv3 5 0) [])))) rfl rfl rfl 6 rfl rfl rfl rfl hl.1 rfl (Nat.le_of_ble_eq_true rfl) dX8_read_50 [] rfl (fun H locs hW => ?_)
    have hW : wd (dC, dI) A s.heap (clX8 cI cJ cZ cB h0 a0 (c0 2) (c0 5) (w0 6 0) (w0 7 0) (clX1 cI cJ cZ cB (a0 0) a1 (cv6 1) (cv6 2 0) (cv6 3) (cv6 4 0) (cv6 5) (cv6 6 0) (w1 7) (cv6 8 0) (clX3 cI cJ cZ cB (a1 0) a2 (cv9 0) (cv9 1) (cv9 2) (cv9 3) (cv9 4) (cv9 5 0) (cv9 6 0) (cv9 7 0) (cv9 8 0) (cv9 9 0) (clX2 cI cJ cZ cB (a0 4) a3  (clX3 cI cJ cZ cB (a3 1) a4 (cv2 0) (cv2 1) (cv2 2) (cv2 3) (cv2 4) (cv2 5 0) (cv2 6 0) (cv2 7 0) (cv2 8 0) (cv2 9 0) (clX7 cI cJ cZ cB (a3 0) a5 (cv3 0) (cv3 1 0) (cv3 2 0) (cv3 3 0) (cv3 4 0) (cv3 5 0) [])))))) H locs := wd_sub hW [12, 13, 14, 15, 16, 17, 18, 19, 20, 6, 7, 8, 9, 10, 11, 21, 0, 1, 2, 3, 4, 5, 22, 23] rfl rfl
    refine lv_iload_n S.1 S.2.1 dX8_read_53 rfl (lv_at hl 0 rfl) ?_
    have f11 := Option.some.inj h
    obtain ⟨f12, f13⟩ := Prod.mk.inj f11
    obtain ⟨f14, f15⟩ := Prod.mk.inj f13
    obtain ⟨f16, f17⟩ := Prod.mk.inj f15
    obtain ⟨f18, f19⟩ := Prod.mk.inj f17
    subst f12
    subst f14
    subst f16
    subst f18
    subst f19
    exact ri S hr hlocks hW dX8_read_54
  · have h := of_p u5 h
    refine lv_bipush (v := (-10 : Int32)) S.1 S.2.1 dX8_read_13 kb_m10 ?_
    refine lv_aload_n S.1 S.2.1 dX8_read_15 rfl (lv_at hl 1 rfl) ?_
    refine gf (C := RX8) (T := TX8) (N := 8) (ci := 4) (k := 4) S hK hW wu_X8 rfl (by decide) wf_X8_34 0 rfl rfl dX8_read_16 ?_
    refine gf (C := RX2) (T := TX2) (N := 2) (ci := 1) (k := 0) S hK hW wu_X2 rfl (by decide) wf_X8_93 15 rfl rfl dX8_read_19 ?_
    refine gf (C := RX7) (T := TX7) (N := 6) (ci := 3) (k := 3) S hK hW wu_X7 rfl (by decide) wf_X8_109 22 rfl rfl dX8_read_22 ?_
    refine lv_isub S.1 S.2.1 dX8_read_25 ?_
    have f20 := Option.some.inj h
    obtain ⟨f21, f22⟩ := Prod.mk.inj f20
    obtain ⟨f23, f24⟩ := Prod.mk.inj f22
    obtain ⟨f25, f26⟩ := Prod.mk.inj f24
    obtain ⟨f27, f28⟩ := Prod.mk.inj f26
    subst f21
    subst f23
    subst f25
    subst f27
    subst f28
    exact ri S hr hlocks hW dX8_read_26
abbrev rmX8_refuseAsNo : Room := { frames := 0, cells := 0, slots := 0, locals := 0 }
set_option maxHeartbeats 4000000 in
set_option maxRecDepth 100000 in
theorem t_X8_refuseAsNo (l : Launch) (dC : Nat → ClassId) (dI : Nat → Nat → Nat) (cI cJ cZ cB : ClassId) (zz : ZT)  (h0 : Nat) (a0 : Nat → Nat) (c0 : Nat → Nat → Int32) (w0 : Nat → Nat → Int64) (p1 : Int32) (r : Int32) (c0' : Nat → Nat → Int32) (hm : md_X8_refuseAsNo c0 w0 p1 = some (r, c0')) : ct l (dC, dI) zz (ty4 cI cJ cZ cB) yX8_refuseAsNo cX8_refuseAsNo 2 (some .int) rmX8_refuseAsNo [.ref h0, .int p1] (cwX8 cI cJ cZ cB h0 a0 c0 w0 []) (cwX8 cI cJ cZ cB h0 a0 c0' w0 []) (some (.int r)) := by
  refine ct_of (cc := cX8_refuseAsNo) (maxL := 2) (ret := (some .int)) (by decide) (Nat.le_of_ble_eq_true rfl) ?_
  intro p e s m below meth c A S hr hlocks hK hN hZ hA H locs hW ls hl
  have S : CallFix p m c cX8_refuseAsNo 2 s (List.toArray [.ref h0, .int p1]) G RX8 := S
  have hl : lv_has ls 2 [(0, .ref h0), (1, .int p1)] := hl
  have h := hm
  rw [md_X8_refuseAsNo] at h
  have hW : wd (dC, dI) A s.heap (clX8 cI cJ cZ cB h0 a0 (c0 2) (c0 5) (w0 6 0) (w0 7 0) []) H locs := hW
  refine lv_aload_n S.1 S.2.1 dX8_refuseAsNo_0 rfl (lv_at hl 0 rfl) ?_
  refine gf (C := RX8) (T := TX8) (N := 8) (ci := 4) (k := 5) S hK hW wu_X8 rfl (by decide) wf_X8_38 0 rfl rfl dX8_refuseAsNo_1 ?_
  refine lv_iconst (v := (1 : Int32)) S.1 S.2.1 dX8_refuseAsNo_4 ki_1 ?_
  refine lv_dup2_11 S.1 S.2.1 dX8_refuseAsNo_5 rfl rfl ?_
  refine iaK S hK hW rfl 3 rfl b_1_3 x_1 dX8_refuseAsNo_6 ?_
  refine lv_iconst (v := (1 : Int32)) S.1 S.2.1 dX8_refuseAsNo_7 ki_1 ?_
  refine lv_iadd S.1 S.2.1 dX8_refuseAsNo_8 ?_
  refine istK S hK hW rfl 3 rfl b_1_3 x_1 dX8_refuseAsNo_9 (fun H locs hW => ?_)
  have hW : wd (dC, dI) A s.heap (clX8 cI cJ cZ cB h0 a0 (c0 2) (upd (c0 5) 1 (((c0 5) 1) + (1 : Int32))) (w0 6 0) (w0 7 0) []) H locs := hW
  refine lv_iload_n S.1 S.2.1 dX8_refuseAsNo_10 rfl (lv_at hl 1 rfl) ?_
  have f1 := Option.some.inj h
  obtain ⟨f2, f3⟩ := Prod.mk.inj f1
  subst f2
  subst f3
  exact ri S hr hlocks hW dX8_refuseAsNo_11
abbrev rmX8_says : Room := { frames := 4, cells := 0, slots := 0, locals := 91 }
set_option maxHeartbeats 4000000 in
set_option maxRecDepth 100000 in
theorem t_X8_says (l : Launch) (dC : Nat → ClassId) (dI : Nat → Nat → Nat) (cI cJ cZ cB : ClassId) (zz : ZT)  (h0 : Nat) (a0 : Nat → Nat) (a1 : Nat → Nat) (a2 : Nat → Nat) (F : Nat) (c0 : Nat → Nat → Int32) (w0 : Nat → Nat → Int64) (c1 : Nat → Nat → Int32) (w1 : Nat → Nat → Int64) (c2 : Nat → Nat → Int32) (p1 : Int32) (r : Int32) (c0' : Nat → Nat → Int32) (c1' : Nat → Nat → Int32) (w1' : Nat → Nat → Int64) (c2' : Nat → Nat → Int32) (hm : md_X8_says F c0 w0 c1 w1 c2 p1 = some (r, c0', c1', w1', c2')) : ct l (dC, dI) zz (ty4 cI cJ cZ cB) yX8_says cX8_says 3 (some .int) rmX8_says [.ref h0, .int p1] (cwX8 cI cJ cZ cB h0 a0 c0 w0 (cwX1 cI cJ cZ cB (a0 0) a1 c1 w1 (cwX3 cI cJ cZ cB (a1 0) a2 c2 []))) (cwX8 cI cJ cZ cB h0 a0 c0' w0 (cwX1 cI cJ cZ cB (a0 0) a1 c1' w1' (cwX3 cI cJ cZ cB (a1 0) a2 c2' []))) (some (.int r)) := by
  refine ct_of (cc := cX8_says) (maxL := 3) (ret := (some .int)) (by decide) (Nat.le_of_ble_eq_true rfl) ?_
  intro p e s m below meth c A S hr hlocks hK hN hZ hA H locs hW ls hl
  have S : CallFix p m c cX8_says 3 s (List.toArray [.ref h0, .int p1]) G RX8 := S
  have hl : lv_has ls 3 [(0, .ref h0), (1, .int p1)] := hl
  have h := hm
  rw [md_X8_says] at h
  have hW : wd (dC, dI) A s.heap (clX8 cI cJ cZ cB h0 a0 (c0 2) (c0 5) (w0 6 0) (w0 7 0) (clX1 cI cJ cZ cB (a0 0) a1 (c1 1) (c1 2 0) (c1 3) (c1 4 0) (c1 5) (c1 6 0) (w1 7) (c1 8 0) (clX3 cI cJ cZ cB (a1 0) a2 (c2 0) (c2 1) (c2 2) (c2 3) (c2 4) (c2 5 0) (c2 6 0) (c2 7 0) (c2 8 0) (c2 9 0) []))) H locs := hW
  refine lv_aload_n S.1 S.2.1 dX8_says_0 rfl (lv_at hl 0 rfl) ?_
  refine gf (C := RX8) (T := TX8) (N := 8) (ci := 4) (k := 0) S hK hW wu_X8 rfl (by decide) wf_X8_10 0 rfl rfl dX8_says_1 ?_
  refine gf (C := RX1) (T := TX1) (N := 9) (ci := 0) (k := 0) S hK hW wu_X1 rfl (by decide) wf_X8_57 4 rfl rfl dX8_says_4 ?_
  refine lv_astore_n (lv' := [(2, .ref (a1 0)), (0, .ref h0), (1, .int p1)]) S.1 S.2.1 dX8_says_7 rfl hl (by decide) rfl (fun ls hl => ?_)
  refine lv_aload_n S.1 S.2.1 dX8_says_8 rfl (lv_at hl 0 rfl) ?_
  refine lv_iload_n S.1 S.2.1 dX8_says_9 rfl (lv_at hl 2 rfl) ?_
  obtain ⟨r1, hy2, h⟩ := bd1_e h
  refine kv0 S hK hN hZ hA hW (rest := []) (t_X3_hasPoint l dC dI cI cJ cZ cB zz (a1 0) a2 c2 p1 _  hy2) wl_X8_117 wv_X3_hasPoint rfl rfl ⟨Nat.le_of_ble_eq_true rfl, Nat.le_of_ble_eq_true rfl⟩ (clX8 cI cJ cZ cB h0 a0 (c0 2) (c0 5) (w0 6 0) (w0 7 0) (clX1 cI cJ cZ cB (a0 0) a1 (c1 1) (c1 2 0) (c1 3) (c1 4 0) (c1 5) (c1 6 0) (w1 7) (c1 8 0) [])) [] rfl 9 rfl rfl rfl rfl hl.1 rfl (Nat.le_of_ble_eq_true rfl) dX8_says_10 [.int r1] rfl (fun H locs hW => ?_)
  refine lv_if_ne (tgt := 24) S.1 S.2.1 dX8_says_13 (by decide) (fun u3 => ?_) (fun u3 => ?_)
  · have h := of_n u3 h
    refine lv_aload_n S.1 S.2.1 dX8_says_24 rfl (lv_at hl 0 rfl) ?_
    refine gf (C := RX3) (T := TX3) (N := 10) (ci := 2) (k := 6) S hK hW wu_X3 rfl (by decide) wf_X8_120 9 rfl rfl dX8_says_25 ?_
    refine lv_iload_n S.1 S.2.1 dX8_says_28 rfl (lv_at hl 2 rfl) ?_
    obtain ⟨r4, hy5, h⟩ := bd1_e h
    refine ks0 S hK hN hZ hA hW (rest := []) (t_X8_has l dC dI cI cJ cZ cB zz (c2 6 0) p1 _  hy5) wl_X8_123 wv_X8_has rfl rfl ⟨Nat.le_of_ble_eq_true rfl, Nat.le_of_ble_eq_true rfl⟩ [] (clX8 cI cJ cZ cB h0 a0 (c0 2) (c0 5) (w0 6 0) (w0 7 0) (clX1 cI cJ cZ cB (a0 0) a1 (c1 1) (c1 2 0) (c1 3) (c1 4 0) (c1 5) (c1 6 0) (w1 7) (c1 8 0) (clX3 cI cJ cZ cB (a1 0) a2 (c2 0) (c2 1) (c2 2) (c2 3) (c2 4) (c2 5 0) (c2 6 0) (c2 7 0) (c2 8 0) (c2 9 0) []))) rfl rfl hl.1 rfl (Nat.le_of_ble_eq_true rfl) dX8_says_29 [.int r4] rfl (fun H locs hW => ?_)
    refine lv_if_eq (tgt := 43) S.1 S.2.1 dX8_says_32 (by decide) (fun u6 => ?_) (fun u6 => ?_)
    · have h := of_p u6 h
      refine lv_aload_n S.1 S.2.1 dX8_says_43 rfl (lv_at hl 1 rfl) ?_
      refine gf (C := RX8) (T := TX8) (N := 8) (ci := 4) (k := 0) S hK hW wu_X8 rfl (by decide) wf_X8_10 0 rfl rfl dX8_says_44 ?_
      obtain ⟨cv7, wv8, hy9, h⟩ := bd2_e h
      refine kv (clX8 cI cJ cZ cB h0 a0 (c0 2) (c0 5) (w0 6 0) (w0 7 0) (clX1 cI cJ cZ cB (a0 0) a1 (cv7 1) (cv7 2 0) (cv7 3) (cv7 4 0) (cv7 5) (cv7 6 0) (wv8 7) (cv7 8 0) (clX3 cI cJ cZ cB (a1 0) a2 (c2 0) (c2 1) (c2 2) (c2 3) (c2 4) (c2 5 0) (c2 6 0) (c2 7 0) (c2 8 0) (c2 9 0) []))) S hK hN hZ hA hW (rest := []) (t_X1_remember l dC dI cI cJ cZ cB zz (a0 0) a1 a2 F c1 w1 c2 _ _  hy9) wl_X8_130 wv_X1_remember rfl rfl ⟨Nat.le_of_ble_eq_true rfl, Nat.le_of_ble_eq_true rfl⟩ (clX8 cI cJ cZ cB h0 a0 (c0 2) (c0 5) (w0 6 0) (w0 7 0) []) [] rfl rfl rfl 4 rfl rfl rfl rfl hl.1 rfl (Nat.le_of_ble_eq_true rfl) dX8_says_47 [] rfl (fun H locs hW => ?_)
      refine lv_aload_n S.1 S.2.1 dX8_says_50 rfl (lv_at hl 0 rfl) ?_
      refine lv_iload_n S.1 S.2.1 dX8_says_51 rfl (lv_at hl 2 rfl) ?_
      obtain ⟨cv10, hy11, h⟩ := bd1_e h
      refine kv (clX8 cI cJ cZ cB h0 a0 (c0 2) (c0 5) (w0 6 0) (w0 7 0) (clX1 cI cJ cZ cB (a0 0) a1 (cv7 1) (cv7 2 0) (cv7 3) (cv7 4 0) (cv7 5) (cv7 6 0) (wv8 7) (cv7 8 0) (clX3 cI cJ cZ cB (a1 0) a2 (cv10 0) (cv10 1) (cv10 2) (cv10 3) (cv10 4) (cv10 5 0) (cv10 6 0) (cv10 7 0) (cv10 8 0) (cv10 9 0) []))) S hK hN hZ hA hW (rest := []) (t_X3_speak l dC dI cI cJ cZ cB zz (a1 0) a2 c2 p1 _  hy11) wl_X8_133 wv_X3_speak rfl rfl ⟨Nat.le_of_ble_eq_true rfl, Nat.le_of_ble_eq_true rfl⟩ (clX8 cI cJ cZ cB h0 a0 (c0 2) (c0 5) (w0 6 0) (w0 7 0) (clX1 cI cJ cZ cB (a0 0) a1 (cv7 1) (cv7 2 0) (cv7 3) (cv7 4 0) (cv7 5) (cv7 6 0) (wv8 7) (cv7 8 0) [])) [] rfl rfl rfl 9 rfl rfl rfl rfl hl.1 rfl (Nat.le_of_ble_eq_true rfl) dX8_says_52 [] rfl (fun H locs hW => ?_)
      refine lv_aload_n S.1 S.2.1 dX8_says_55 rfl (lv_at hl 0 rfl) ?_
      refine gf (C := RX3) (T := TX3) (N := 10) (ci := 2) (k := 7) S hK hW wu_X3 rfl (by decide) wf_X8_136 9 rfl rfl dX8_says_56 ?_
      have f12 := Option.some.inj h
      obtain ⟨f13, f14⟩ := Prod.mk.inj f12
      obtain ⟨f15, f16⟩ := Prod.mk.inj f14
      obtain ⟨f17, f18⟩ := Prod.mk.inj f16
      obtain ⟨f19, f20⟩ := Prod.mk.inj f18
      subst f13
      subst f15
      subst f17
      subst f19
      subst f20
      exact ri S hr hlocks hW dX8_says_59
    · have h := of_n u6 h
      refine lv_aload_n S.1 S.2.1 dX8_says_35 rfl (lv_at hl 1 rfl) ?_
      refine lv_sipush (v := (-1001 : Int32)) S.1 S.2.1 dX8_says_36 ks_m1001 ?_
      obtain ⟨r21, cv22, hy23, h⟩ := bd2_e h
      refine kv (clX8 cI cJ cZ cB h0 a0 (cv22 2) (cv22 5) (w0 6 0) (w0 7 0) (clX1 cI cJ cZ cB (a0 0) a1 (c1 1) (c1 2 0) (c1 3) (c1 4 0) (c1 5) (c1 6 0) (w1 7) (c1 8 0) (clX3 cI cJ cZ cB (a1 0) a2 (c2 0) (c2 1) (c2 2) (c2 3) (c2 4) (c2 5 0) (c2 6 0) (c2 7 0) (c2 8 0) (c2 9 0) []))) S hK hN hZ hA hW (rest := []) (t_X8_refuseAsNo l dC dI cI cJ cZ cB zz h0 a0 c0 w0 (-1001 : Int32) _ _  hy23) wl_X8_127 wv_X8_refuseAsNo rfl rfl ⟨Nat.le_of_ble_eq_true rfl, Nat.le_of_ble_eq_true rfl⟩ [] (clX1 cI cJ cZ cB (a0 0) a1 (c1 1) (c1 2 0) (c1 3) (c1 4 0) (c1 5) (c1 6 0) (w1 7) (c1 8 0) (clX3 cI cJ cZ cB (a1 0) a2 (c2 0) (c2 1) (c2 2) (c2 3) (c2 4) (c2 5 0) (c2 6 0) (c2 7 0) (c2 8 0) (c2 9 0) [])) rfl rfl rfl 0 rfl rfl rfl rfl hl.1 rfl (Nat.le_of_ble_eq_true rfl) dX8_says_39 [.int r21] rfl (fun H locs hW => ?_)
      have f24 := Option.some.inj h
      obtain ⟨f25, f26⟩ := Prod.mk.inj f24
      obtain ⟨f27, f28⟩ := Prod.mk.inj f26
      obtain ⟨f29, f30⟩ := Prod.mk.inj f28
      obtain ⟨f31, f32⟩ := Prod.mk.inj f30
      subst f25
      subst f27
      subst f29
      subst f31
      subst f32
      exact ri S hr hlocks hW dX8_says_42
  · have h := of_p u3 h
    refine lv_aload_n S.1 S.2.1 dX8_says_16 rfl (lv_at hl 1 rfl) ?_
    refine lv_sipush (v := (-1000 : Int32)) S.1 S.2.1 dX8_says_17 ks_m1000 ?_
    obtain ⟨r33, cv34, hy35, h⟩ := bd2_e h
    refine kv (clX8 cI cJ cZ cB h0 a0 (cv34 2) (cv34 5) (w0 6 0) (w0 7 0) (clX1 cI cJ cZ cB (a0 0) a1 (c1 1) (c1 2 0) (c1 3) (c1 4 0) (c1 5) (c1 6 0) (w1 7) (c1 8 0) (clX3 cI cJ cZ cB (a1 0) a2 (c2 0) (c2 1) (c2 2) (c2 3) (c2 4) (c2 5 0) (c2 6 0) (c2 7 0) (c2 8 0) (c2 9 0) []))) S hK hN hZ hA hW (rest := []) (t_X8_refuseAsBad l dC dI cI cJ cZ cB zz h0 a0 c0 w0 (-1000 : Int32) _ _  hy35) wl_X8_53 wv_X8_refuseAsBad rfl rfl ⟨Nat.le_of_ble_eq_true rfl, Nat.le_of_ble_eq_true rfl⟩ [] (clX1 cI cJ cZ cB (a0 0) a1 (c1 1) (c1 2 0) (c1 3) (c1 4 0) (c1 5) (c1 6 0) (w1 7) (c1 8 0) (clX3 cI cJ cZ cB (a1 0) a2 (c2 0) (c2 1) (c2 2) (c2 3) (c2 4) (c2 5 0) (c2 6 0) (c2 7 0) (c2 8 0) (c2 9 0) [])) rfl rfl rfl 0 rfl rfl rfl rfl hl.1 rfl (Nat.le_of_ble_eq_true rfl) dX8_says_20 [.int r33] rfl (fun H locs hW => ?_)
    have f36 := Option.some.inj h
    obtain ⟨f37, f38⟩ := Prod.mk.inj f36
    obtain ⟨f39, f40⟩ := Prod.mk.inj f38
    obtain ⟨f41, f42⟩ := Prod.mk.inj f40
    obtain ⟨f43, f44⟩ := Prod.mk.inj f42
    subst f37
    subst f39
    subst f41
    subst f43
    subst f44
    exact ri S hr hlocks hW dX8_says_23
abbrev rmX8_objects : Room := { frames := 4, cells := 0, slots := 0, locals := 80 }
set_option maxHeartbeats 4000000 in
set_option maxRecDepth 100000 in
theorem t_X8_objects (l : Launch) (dC : Nat → ClassId) (dI : Nat → Nat → Nat) (cI cJ cZ cB : ClassId) (zz : ZT)  (h0 : Nat) (a0 : Nat → Nat) (a1 : Nat → Nat) (a2 : Nat → Nat) (F : Nat) (c0 : Nat → Nat → Int32) (w0 : Nat → Nat → Int64) (c1 : Nat → Nat → Int32) (w1 : Nat → Nat → Int64) (c2 : Nat → Nat → Int32) (r : Int32) (c0' : Nat → Nat → Int32) (c1' : Nat → Nat → Int32) (w1' : Nat → Nat → Int64) (c2' : Nat → Nat → Int32) (hm : md_X8_objects F c0 w0 c1 w1 c2 = some (r, c0', c1', w1', c2')) : ct l (dC, dI) zz (ty4 cI cJ cZ cB) yX8_objects cX8_objects 1 (some .int) rmX8_objects [.ref h0] (cwX8 cI cJ cZ cB h0 a0 c0 w0 (cwX1 cI cJ cZ cB (a0 0) a1 c1 w1 (cwX3 cI cJ cZ cB (a1 0) a2 c2 []))) (cwX8 cI cJ cZ cB h0 a0 c0' w0 (cwX1 cI cJ cZ cB (a0 0) a1 c1' w1' (cwX3 cI cJ cZ cB (a1 0) a2 c2' []))) (some (.int r)) := by
  refine ct_of (cc := cX8_objects) (maxL := 1) (ret := (some .int)) (by decide) (Nat.le_of_ble_eq_true rfl) ?_
  intro p e s m below meth c A S hr hlocks hK hN hZ hA H locs hW ls hl
  have S : CallFix p m c cX8_objects 1 s (List.toArray [.ref h0]) G RX8 := S
  have hl : lv_has ls 1 [(0, .ref h0)] := hl
  have h := hm
  rw [md_X8_objects] at h
  have hW : wd (dC, dI) A s.heap (clX8 cI cJ cZ cB h0 a0 (c0 2) (c0 5) (w0 6 0) (w0 7 0) (clX1 cI cJ cZ cB (a0 0) a1 (c1 1) (c1 2 0) (c1 3) (c1 4 0) (c1 5) (c1 6 0) (w1 7) (c1 8 0) (clX3 cI cJ cZ cB (a1 0) a2 (c2 0) (c2 1) (c2 2) (c2 3) (c2 4) (c2 5 0) (c2 6 0) (c2 7 0) (c2 8 0) (c2 9 0) []))) H locs := hW
  refine lv_aload_n S.1 S.2.1 dX8_objects_0 rfl (lv_at hl 0 rfl) ?_
  refine gf (C := RX8) (T := TX8) (N := 8) (ci := 4) (k := 0) S hK hW wu_X8 rfl (by decide) wf_X8_10 0 rfl rfl dX8_objects_1 ?_
  refine gf (C := RX1) (T := TX1) (N := 9) (ci := 0) (k := 0) S hK hW wu_X1 rfl (by decide) wf_X8_57 4 rfl rfl dX8_objects_4 ?_
  obtain ⟨r1, hy2, h⟩ := bd1_e h
  refine kv0 S hK hN hZ hA hW (rest := []) (t_X3_mayObject l dC dI cI cJ cZ cB zz (a1 0) a2 c2 _  hy2) wl_X8_139 wv_X3_mayObject rfl rfl ⟨Nat.le_of_ble_eq_true rfl, Nat.le_of_ble_eq_true rfl⟩ (clX8 cI cJ cZ cB h0 a0 (c0 2) (c0 5) (w0 6 0) (w0 7 0) (clX1 cI cJ cZ cB (a0 0) a1 (c1 1) (c1 2 0) (c1 3) (c1 4 0) (c1 5) (c1 6 0) (w1 7) (c1 8 0) [])) [] rfl 9 rfl rfl rfl rfl hl.1 rfl (Nat.le_of_ble_eq_true rfl) dX8_objects_7 [.int r1] rfl (fun H locs hW => ?_)
  refine lv_if_ne (tgt := 20) S.1 S.2.1 dX8_objects_10 (by decide) (fun u3 => ?_) (fun u3 => ?_)
  · have h := of_n u3 h
    refine lv_aload_n S.1 S.2.1 dX8_objects_20 rfl (lv_at hl 0 rfl) ?_
    refine gf (C := RX8) (T := TX8) (N := 8) (ci := 4) (k := 0) S hK hW wu_X8 rfl (by decide) wf_X8_10 0 rfl rfl dX8_objects_21 ?_
    obtain ⟨cv4, wv5, hy6, h⟩ := bd2_e h
    refine kv (clX8 cI cJ cZ cB h0 a0 (c0 2) (c0 5) (w0 6 0) (w0 7 0) (clX1 cI cJ cZ cB (a0 0) a1 (cv4 1) (cv4 2 0) (cv4 3) (cv4 4 0) (cv4 5) (cv4 6 0) (wv5 7) (cv4 8 0) (clX3 cI cJ cZ cB (a1 0) a2 (c2 0) (c2 1) (c2 2) (c2 3) (c2 4) (c2 5 0) (c2 6 0) (c2 7 0) (c2 8 0) (c2 9 0) []))) S hK hN hZ hA hW (rest := []) (t_X1_remember l dC dI cI cJ cZ cB zz (a0 0) a1 a2 F c1 w1 c2 _ _  hy6) wl_X8_130 wv_X1_remember rfl rfl ⟨Nat.le_of_ble_eq_true rfl, Nat.le_of_ble_eq_true rfl⟩ (clX8 cI cJ cZ cB h0 a0 (c0 2) (c0 5) (w0 6 0) (w0 7 0) []) [] rfl rfl rfl 4 rfl rfl rfl rfl hl.1 rfl (Nat.le_of_ble_eq_true rfl) dX8_objects_24 [] rfl (fun H locs hW => ?_)
    refine lv_aload_n S.1 S.2.1 dX8_objects_27 rfl (lv_at hl 0 rfl) ?_
    refine gf (C := RX8) (T := TX8) (N := 8) (ci := 4) (k := 0) S hK hW wu_X8 rfl (by decide) wf_X8_10 0 rfl rfl dX8_objects_28 ?_
    refine gf (C := RX1) (T := TX1) (N := 9) (ci := 0) (k := 0) S hK hW wu_X1 rfl (by decide) wf_X8_57 4 rfl rfl dX8_objects_31 ?_
    obtain ⟨cv7, hy8, h⟩ := bd1_e h
    refine kv (clX8 cI cJ cZ cB h0 a0 (c0 2) (c0 5) (w0 6 0) (w0 7 0) (clX1 cI cJ cZ cB (a0 0) a1 (cv4 1) (cv4 2 0) (cv4 3) (cv4 4 0) (cv4 5) (cv4 6 0) (wv5 7) (cv4 8 0) (clX3 cI cJ cZ cB (a1 0) a2 (cv7 0) (cv7 1) (cv7 2) (cv7 3) (cv7 4) (cv7 5 0) (cv7 6 0) (cv7 7 0) (cv7 8 0) (cv7 9 0) []))) S hK hN hZ hA hW (rest := []) (t_X3_bow l dC dI cI cJ cZ cB zz (a1 0) a2 c2 _  hy8) wl_X8_142 wv_X3_bow rfl rfl ⟨Nat.le_of_ble_eq_true rfl, Nat.le_of_ble_eq_true rfl⟩ (clX8 cI cJ cZ cB h0 a0 (c0 2) (c0 5) (w0 6 0) (w0 7 0) (clX1 cI cJ cZ cB (a0 0) a1 (cv4 1) (cv4 2 0) (cv4 3) (cv4 4 0) (cv4 5) (cv4 6 0) (wv5 7) (cv4 8 0) [])) [] rfl rfl rfl 9 rfl rfl rfl rfl hl.1 rfl (Nat.le_of_ble_eq_true rfl) dX8_objects_34 [] rfl (fun H locs hW => ?_)
    refine lv_aload_n S.1 S.2.1 dX8_objects_37 rfl (lv_at hl 0 rfl) ?_
    refine gf (C := RX8) (T := TX8) (N := 8) (ci := 4) (k := 0) S hK hW wu_X8 rfl (by decide) wf_X8_10 0 rfl rfl dX8_objects_38 ?_
    refine gf (C := RX1) (T := TX1) (N := 9) (ci := 0) (k := 0) S hK hW wu_X1 rfl (by decide) wf_X8_57 4 rfl rfl dX8_objects_41 ?_
    refine gf (C := RX3) (T := TX3) (N := 10) (ci := 2) (k := 8) S hK hW wu_X3 rfl (by decide) wf_X8_145 9 rfl rfl dX8_objects_44 ?_
    have f9 := Option.some.inj h
    obtain ⟨f10, f11⟩ := Prod.mk.inj f9
    obtain ⟨f12, f13⟩ := Prod.mk.inj f11
    obtain ⟨f14, f15⟩ := Prod.mk.inj f13
    obtain ⟨f16, f17⟩ := Prod.mk.inj f15
    subst f10
    subst f12
    subst f14
    subst f16
    subst f17
    exact ri S hr hlocks hW dX8_objects_47
  · have h := of_p u3 h
    refine lv_aload_n S.1 S.2.1 dX8_objects_13 rfl (lv_at hl 0 rfl) ?_
    refine lv_bipush (v := (-3 : Int32)) S.1 S.2.1 dX8_objects_14 kb_m3 ?_
    obtain ⟨r18, cv19, hy20, h⟩ := bd2_e h
    refine kv (clX8 cI cJ cZ cB h0 a0 (cv19 2) (cv19 5) (w0 6 0) (w0 7 0) (clX1 cI cJ cZ cB (a0 0) a1 (c1 1) (c1 2 0) (c1 3) (c1 4 0) (c1 5) (c1 6 0) (w1 7) (c1 8 0) (clX3 cI cJ cZ cB (a1 0) a2 (c2 0) (c2 1) (c2 2) (c2 3) (c2 4) (c2 5 0) (c2 6 0) (c2 7 0) (c2 8 0) (c2 9 0) []))) S hK hN hZ hA hW (rest := []) (t_X8_refuseAsNo l dC dI cI cJ cZ cB zz h0 a0 c0 w0 (-3 : Int32) _ _  hy20) wl_X8_127 wv_X8_refuseAsNo rfl rfl ⟨Nat.le_of_ble_eq_true rfl, Nat.le_of_ble_eq_true rfl⟩ [] (clX1 cI cJ cZ cB (a0 0) a1 (c1 1) (c1 2 0) (c1 3) (c1 4 0) (c1 5) (c1 6 0) (w1 7) (c1 8 0) (clX3 cI cJ cZ cB (a1 0) a2 (c2 0) (c2 1) (c2 2) (c2 3) (c2 4) (c2 5 0) (c2 6 0) (c2 7 0) (c2 8 0) (c2 9 0) [])) rfl rfl rfl 0 rfl rfl rfl rfl hl.1 rfl (Nat.le_of_ble_eq_true rfl) dX8_objects_16 [.int r18] rfl (fun H locs hW => ?_)
    have f21 := Option.some.inj h
    obtain ⟨f22, f23⟩ := Prod.mk.inj f21
    obtain ⟨f24, f25⟩ := Prod.mk.inj f23
    obtain ⟨f26, f27⟩ := Prod.mk.inj f25
    obtain ⟨f28, f29⟩ := Prod.mk.inj f27
    subst f22
    subst f24
    subst f26
    subst f28
    subst f29
    exact ri S hr hlocks hW dX8_objects_19
abbrev rmX8_undo : Room := { frames := 2, cells := 0, slots := 0, locals := 45 }
set_option maxHeartbeats 4000000 in
set_option maxRecDepth 100000 in
theorem t_X8_undo (l : Launch) (dC : Nat → ClassId) (dI : Nat → Nat → Nat) (cI cJ cZ cB : ClassId) (zz : ZT)  (h0 : Nat) (a0 : Nat → Nat) (a1 : Nat → Nat) (a2 : Nat → Nat) (F : Nat) (c0 : Nat → Nat → Int32) (w0 : Nat → Nat → Int64) (c1 : Nat → Nat → Int32) (w1 : Nat → Nat → Int64) (c2 : Nat → Nat → Int32) (r : Int32) (c0' : Nat → Nat → Int32) (c1' : Nat → Nat → Int32) (c2' : Nat → Nat → Int32) (hm : md_X8_undo F c0 w0 c1 w1 c2 = some (r, c0', c1', c2')) : ct l (dC, dI) zz (ty4 cI cJ cZ cB) yX8_undo cX8_undo 1 (some .int) rmX8_undo [.ref h0] (cwX8 cI cJ cZ cB h0 a0 c0 w0 (cwX1 cI cJ cZ cB (a0 0) a1 c1 w1 (cwX3 cI cJ cZ cB (a1 0) a2 c2 []))) (cwX8 cI cJ cZ cB h0 a0 c0' w0 (cwX1 cI cJ cZ cB (a0 0) a1 c1' w1 (cwX3 cI cJ cZ cB (a1 0) a2 c2' []))) (some (.int r)) := by
  refine ct_of (cc := cX8_undo) (maxL := 1) (ret := (some .int)) (by decide) (Nat.le_of_ble_eq_true rfl) ?_
  intro p e s m below meth c A S hr hlocks hK hN hZ hA H locs hW ls hl
  have S : CallFix p m c cX8_undo 1 s (List.toArray [.ref h0]) G RX8 := S
  have hl : lv_has ls 1 [(0, .ref h0)] := hl
  have h := hm
  rw [md_X8_undo] at h
  have hW : wd (dC, dI) A s.heap (clX8 cI cJ cZ cB h0 a0 (c0 2) (c0 5) (w0 6 0) (w0 7 0) (clX1 cI cJ cZ cB (a0 0) a1 (c1 1) (c1 2 0) (c1 3) (c1 4 0) (c1 5) (c1 6 0) (w1 7) (c1 8 0) (clX3 cI cJ cZ cB (a1 0) a2 (c2 0) (c2 1) (c2 2) (c2 3) (c2 4) (c2 5 0) (c2 6 0) (c2 7 0) (c2 8 0) (c2 9 0) []))) H locs := hW
  refine lv_aload_n S.1 S.2.1 dX8_undo_0 rfl (lv_at hl 0 rfl) ?_
  refine gf (C := RX8) (T := TX8) (N := 8) (ci := 4) (k := 0) S hK hW wu_X8 rfl (by decide) wf_X8_10 0 rfl rfl dX8_undo_1 ?_
  refine gf (C := RX1) (T := TX1) (N := 9) (ci := 0) (k := 8) S hK hW wu_X1 rfl (by decide) wf_X8_148 4 rfl rfl dX8_undo_4 ?_
  refine lv_if_ne (tgt := 17) S.1 S.2.1 dX8_undo_7 (by decide) (fun u1 => ?_) (fun u1 => ?_)
  · have h := of_n u1 h
    refine lv_aload_n S.1 S.2.1 dX8_undo_17 rfl (lv_at hl 0 rfl) ?_
    refine gf (C := RX8) (T := TX8) (N := 8) (ci := 4) (k := 0) S hK hW wu_X8 rfl (by decide) wf_X8_10 0 rfl rfl dX8_undo_18 ?_
    obtain ⟨cv2, cv3, hy4, h⟩ := bd2_e h
    refine kv (clX8 cI cJ cZ cB h0 a0 (c0 2) (c0 5) (w0 6 0) (w0 7 0) (clX1 cI cJ cZ cB (a0 0) a1 (cv2 1) (cv2 2 0) (cv2 3) (cv2 4 0) (cv2 5) (cv2 6 0) (w1 7) (cv2 8 0) (clX3 cI cJ cZ cB (a1 0) a2 (cv3 0) (cv3 1) (cv3 2) (cv3 3) (cv3 4) (cv3 5 0) (cv3 6 0) (cv3 7 0) (cv3 8 0) (cv3 9 0) []))) S hK hN hZ hA hW (rest := []) (t_X1_goBack l dC dI cI cJ cZ cB zz (a0 0) a1 a2 F c1 w1 c2 _ _  hy4) wl_X8_151 wv_X1_goBack rfl rfl ⟨Nat.le_of_ble_eq_true rfl, Nat.le_of_ble_eq_true rfl⟩ (clX8 cI cJ cZ cB h0 a0 (c0 2) (c0 5) (w0 6 0) (w0 7 0) []) [] rfl rfl rfl 4 rfl rfl rfl rfl hl.1 rfl (Nat.le_of_ble_eq_true rfl) dX8_undo_21 [] rfl (fun H locs hW => ?_)
    refine lv_aload_n S.1 S.2.1 dX8_undo_24 rfl (lv_at hl 0 rfl) ?_
    refine gf (C := RX8) (T := TX8) (N := 8) (ci := 4) (k := 0) S hK hW wu_X8 rfl (by decide) wf_X8_10 0 rfl rfl dX8_undo_25 ?_
    refine gf (C := RX1) (T := TX1) (N := 9) (ci := 0) (k := 0) S hK hW wu_X1 rfl (by decide) wf_X8_57 4 rfl rfl dX8_undo_28 ?_
    obtain ⟨r5, hy6, h⟩ := bd1_e h
    refine kv0 S hK hN hZ hA hW (rest := []) (t_X3_turn l dC dI cI cJ cZ cB zz (a1 0) a2 cv3 _  hy6) wl_X8_154 wv_X3_turn rfl rfl ⟨Nat.le_of_ble_eq_true rfl, Nat.le_of_ble_eq_true rfl⟩ (clX8 cI cJ cZ cB h0 a0 (c0 2) (c0 5) (w0 6 0) (w0 7 0) (clX1 cI cJ cZ cB (a0 0) a1 (cv2 1) (cv2 2 0) (cv2 3) (cv2 4 0) (cv2 5) (cv2 6 0) (w1 7) (cv2 8 0) [])) [] rfl 9 rfl rfl rfl rfl hl.1 rfl (Nat.le_of_ble_eq_true rfl) dX8_undo_31 [.int r5] rfl (fun H locs hW => ?_)
    have f7 := Option.some.inj h
    obtain ⟨f8, f9⟩ := Prod.mk.inj f7
    obtain ⟨f10, f11⟩ := Prod.mk.inj f9
    obtain ⟨f12, f13⟩ := Prod.mk.inj f11
    subst f8
    subst f10
    subst f12
    subst f13
    exact ri S hr hlocks hW dX8_undo_34
  · have h := of_p u1 h
    refine lv_aload_n S.1 S.2.1 dX8_undo_10 rfl (lv_at hl 0 rfl) ?_
    refine lv_bipush (v := (-3 : Int32)) S.1 S.2.1 dX8_undo_11 kb_m3 ?_
    obtain ⟨r14, cv15, hy16, h⟩ := bd2_e h
    refine kv (clX8 cI cJ cZ cB h0 a0 (cv15 2) (cv15 5) (w0 6 0) (w0 7 0) (clX1 cI cJ cZ cB (a0 0) a1 (c1 1) (c1 2 0) (c1 3) (c1 4 0) (c1 5) (c1 6 0) (w1 7) (c1 8 0) (clX3 cI cJ cZ cB (a1 0) a2 (c2 0) (c2 1) (c2 2) (c2 3) (c2 4) (c2 5 0) (c2 6 0) (c2 7 0) (c2 8 0) (c2 9 0) []))) S hK hN hZ hA hW (rest := []) (t_X8_refuseAsNo l dC dI cI cJ cZ cB zz h0 a0 c0 w0 (-3 : Int32) _ _  hy16) wl_X8_127 wv_X8_refuseAsNo rfl rfl ⟨Nat.le_of_ble_eq_true rfl, Nat.le_of_ble_eq_true rfl⟩ [] (clX1 cI cJ cZ cB (a0 0) a1 (c1 1) (c1 2 0) (c1 3) (c1 4 0) (c1 5) (c1 6 0) (w1 7) (c1 8 0) (clX3 cI cJ cZ cB (a1 0) a2 (c2 0) (c2 1) (c2 2) (c2 3) (c2 4) (c2 5 0) (c2 6 0) (c2 7 0) (c2 8 0) (c2 9 0) [])) rfl rfl rfl 0 rfl rfl rfl rfl hl.1 rfl (Nat.le_of_ble_eq_true rfl) dX8_undo_13 [.int r14] rfl (fun H locs hW => ?_)
    have f17 := Option.some.inj h
    obtain ⟨f18, f19⟩ := Prod.mk.inj f17
    obtain ⟨f20, f21⟩ := Prod.mk.inj f19
    obtain ⟨f22, f23⟩ := Prod.mk.inj f21
    subst f18
    subst f20
    subst f22
    subst f23
    exact ri S hr hlocks hW dX8_undo_16
abbrev rmX8_now : Room := { frames := 3, cells := 0, slots := 0, locals := 60 }
set_option maxHeartbeats 4000000 in
set_option maxRecDepth 100000 in
theorem t_X8_now (l : Launch) (dC : Nat → ClassId) (dI : Nat → Nat → Nat) (cI cJ cZ cB : ClassId) (zz : ZT)  (h0 : Nat) (a0 : Nat → Nat) (a1 : Nat → Nat) (a2 : Nat → Nat) (c0 : Nat → Nat → Int32) (w0 : Nat → Nat → Int64) (c1 : Nat → Nat → Int32) (w1 : Nat → Nat → Int64) (c2 : Nat → Nat → Int32) (p1 : Int32) (r : Int32) (c0' : Nat → Nat → Int32) (hm : md_X8_now c0 w0 c1 w1 c2 p1 = some (r, c0')) : ct l (dC, dI) zz (ty4 cI cJ cZ cB) yX8_now cX8_now 3 (some .int) rmX8_now [.ref h0, .int p1] (cwX8 cI cJ cZ cB h0 a0 c0 w0 (cwX1 cI cJ cZ cB (a0 0) a1 c1 w1 (cwX3 cI cJ cZ cB (a1 0) a2 c2 []))) (cwX8 cI cJ cZ cB h0 a0 c0' w0 (cwX1 cI cJ cZ cB (a0 0) a1 c1 w1 (cwX3 cI cJ cZ cB (a1 0) a2 c2 []))) (some (.int r)) := by
  refine ct_of (cc := cX8_now) (maxL := 3) (ret := (some .int)) (by decide) (Nat.le_of_ble_eq_true rfl) ?_
  intro p e s m below meth c A S hr hlocks hK hN hZ hA H locs hW ls hl
  have S : CallFix p m c cX8_now 3 s (List.toArray [.ref h0, .int p1]) G RX8 := S
  have hl : lv_has ls 3 [(0, .ref h0), (1, .int p1)] := hl
  have h := hm
  rw [md_X8_now] at h
  have hW : wd (dC, dI) A s.heap (clX8 cI cJ cZ cB h0 a0 (c0 2) (c0 5) (w0 6 0) (w0 7 0) (clX1 cI cJ cZ cB (a0 0) a1 (c1 1) (c1 2 0) (c1 3) (c1 4 0) (c1 5) (c1 6 0) (w1 7) (c1 8 0) (clX3 cI cJ cZ cB (a1 0) a2 (c2 0) (c2 1) (c2 2) (c2 3) (c2 4) (c2 5 0) (c2 6 0) (c2 7 0) (c2 8 0) (c2 9 0) []))) H locs := hW
  refine lv_aload_n S.1 S.2.1 dX8_now_0 rfl (lv_at hl 0 rfl) ?_
  refine gf (C := RX8) (T := TX8) (N := 8) (ci := 4) (k := 0) S hK hW wu_X8 rfl (by decide) wf_X8_10 0 rfl rfl dX8_now_1 ?_
  refine gf (C := RX1) (T := TX1) (N := 9) (ci := 0) (k := 0) S hK hW wu_X1 rfl (by decide) wf_X8_57 4 rfl rfl dX8_now_4 ?_
  refine lv_astore_n (lv' := [(2, .ref (a1 0)), (0, .ref h0), (1, .int p1)]) S.1 S.2.1 dX8_now_7 rfl hl (by decide) rfl (fun ls hl => ?_)
  refine lv_iload_n S.1 S.2.1 dX8_now_8 rfl (lv_at hl 2 rfl) ?_
  by_cases u1 : p1 = (0 : Int32)
  · have h := of_p u1 h
    refine lv_tableIn (off := 39) (tgt := 48) S.1 S.2.1 dX8_now_9 (by rw [u1]; decide) (by rw [u1]; decide) (by rw [u1]; decide +kernel) (by decide) ?_
    refine lv_aload_n S.1 S.2.1 dX8_now_48 rfl (lv_at hl 0 rfl) ?_
    refine gf (C := RX3) (T := TX3) (N := 10) (ci := 2) (k := 7) S hK hW wu_X3 rfl (by decide) wf_X8_136 9 rfl rfl dX8_now_49 ?_
    have f2 := Option.some.inj h
    obtain ⟨f3, f4⟩ := Prod.mk.inj f2
    subst f3
    subst f4
    exact ri S hr hlocks hW dX8_now_52
  · have h := of_n u1 h
    by_cases u5 : p1 = (1 : Int32)
    · have h := of_p u5 h
      refine lv_tableIn (off := 44) (tgt := 53) S.1 S.2.1 dX8_now_9 (by rw [u5]; decide) (by rw [u5]; decide) (by rw [u5]; decide +kernel) (by decide) ?_
      refine lv_aload_n S.1 S.2.1 dX8_now_53 rfl (lv_at hl 0 rfl) ?_
      refine gf (C := RX3) (T := TX3) (N := 10) (ci := 2) (k := 8) S hK hW wu_X3 rfl (by decide) wf_X8_145 9 rfl rfl dX8_now_54 ?_
      have f6 := Option.some.inj h
      obtain ⟨f7, f8⟩ := Prod.mk.inj f6
      subst f7
      subst f8
      exact ri S hr hlocks hW dX8_now_57
    · have h := of_n u5 h
      by_cases u9 : p1 = (2 : Int32)
      · have h := of_p u9 h
        refine lv_tableIn (off := 49) (tgt := 58) S.1 S.2.1 dX8_now_9 (by rw [u9]; decide) (by rw [u9]; decide) (by rw [u9]; decide +kernel) (by decide) ?_
        refine lv_aload_n S.1 S.2.1 dX8_now_58 rfl (lv_at hl 0 rfl) ?_
        obtain ⟨r10, hy11, h⟩ := bd1_e h
        refine kv0 S hK hN hZ hA hW (rest := []) (t_X3_turn l dC dI cI cJ cZ cB zz (a1 0) a2 c2 _  hy11) wl_X8_154 wv_X3_turn rfl rfl ⟨Nat.le_of_ble_eq_true rfl, Nat.le_of_ble_eq_true rfl⟩ (clX8 cI cJ cZ cB h0 a0 (c0 2) (c0 5) (w0 6 0) (w0 7 0) (clX1 cI cJ cZ cB (a0 0) a1 (c1 1) (c1 2 0) (c1 3) (c1 4 0) (c1 5) (c1 6 0) (w1 7) (c1 8 0) [])) [] rfl 9 rfl rfl rfl rfl hl.1 rfl (Nat.le_of_ble_eq_true rfl) dX8_now_59 [.int r10] rfl (fun H locs hW => ?_)
        have f12 := Option.some.inj h
        obtain ⟨f13, f14⟩ := Prod.mk.inj f12
        subst f13
        subst f14
        exact ri S hr hlocks hW dX8_now_62
      · have h := of_n u9 h
        by_cases u15 : p1 = (3 : Int32)
        · have h := of_p u15 h
          refine lv_tableIn (off := 54) (tgt := 63) S.1 S.2.1 dX8_now_9 (by rw [u15]; decide) (by rw [u15]; decide) (by rw [u15]; decide +kernel) (by decide) ?_
          refine lv_aload_n S.1 S.2.1 dX8_now_63 rfl (lv_at hl 0 rfl) ?_
          obtain ⟨r16, hy17, h⟩ := bd1_e h
          refine kv0 S hK hN hZ hA hW (rest := []) (t_X3_speaker l dC dI cI cJ cZ cB zz (a1 0) a2 c2 _  hy17) wl_X8_157 wv_X3_speaker rfl rfl ⟨Nat.le_of_ble_eq_true rfl, Nat.le_of_ble_eq_true rfl⟩ (clX8 cI cJ cZ cB h0 a0 (c0 2) (c0 5) (w0 6 0) (w0 7 0) (clX1 cI cJ cZ cB (a0 0) a1 (c1 1) (c1 2 0) (c1 3) (c1 4 0) (c1 5) (c1 6 0) (w1 7) (c1 8 0) [])) [] rfl 9 rfl rfl rfl rfl hl.1 rfl (Nat.le_of_ble_eq_true rfl) dX8_now_64 [.int r16] rfl (fun H locs hW => ?_)
          have f18 := Option.some.inj h
          obtain ⟨f19, f20⟩ := Prod.mk.inj f18
          subst f19
          subst f20
          exact ri S hr hlocks hW dX8_now_67
        · have h := of_n u15 h
          by_cases u21 : p1 = (4 : Int32)
          · have h := of_p u21 h
            refine lv_tableIn (off := 59) (tgt := 68) S.1 S.2.1 dX8_now_9 (by rw [u21]; decide) (by rw [u21]; decide) (by rw [u21]; decide +kernel) (by decide) ?_
            refine lv_aload_n S.1 S.2.1 dX8_now_68 rfl (lv_at hl 0 rfl) ?_
            obtain ⟨r22, hy23, h⟩ := bd1_e h
            refine kv0 S hK hN hZ hA hW (rest := []) (t_X3_mayObject l dC dI cI cJ cZ cB zz (a1 0) a2 c2 _  hy23) wl_X8_139 wv_X3_mayObject rfl rfl ⟨Nat.le_of_ble_eq_true rfl, Nat.le_of_ble_eq_true rfl⟩ (clX8 cI cJ cZ cB h0 a0 (c0 2) (c0 5) (w0 6 0) (w0 7 0) (clX1 cI cJ cZ cB (a0 0) a1 (c1 1) (c1 2 0) (c1 3) (c1 4 0) (c1 5) (c1 6 0) (w1 7) (c1 8 0) [])) [] rfl 9 rfl rfl rfl rfl hl.1 rfl (Nat.le_of_ble_eq_true rfl) dX8_now_69 [.int r22] rfl (fun H locs hW => ?_)
            obtain ⟨y24, e25, h⟩ := lt1_e h
            suffices hM26 : ∀ ls : Array Slot, lv_has ls 3 [] → W p l e rmX8_now s m (List.toArray [.ref h0, .int p1]) below meth c H locs 0 0 (MQ below (kQ (dC, dI) (cwX8 cI cJ cZ cB h0 a0 c0' w0 (cwX1 cI cJ cZ cB (a0 0) a1 c1 w1 (cwX3 cI cJ cZ cB (a1 0) a2 c2 []))) (some (.int r)) A) (List.toArray [.ref h0, .int p1]) s 0 0 A) (F0 m 80 ls [.int y24]) by
              refine lv_if_eq (tgt := 79) S.1 S.2.1 dX8_now_72 (by decide) (fun u27 => ?_) (fun u27 => ?_)
              · refine lv_iconst (v := (0 : Int32)) S.1 S.2.1 dX8_now_79 ki_0 ?_
                have e25 := e25.trans (if_pos u27)
                subst e25
                exact hM26 ls (lv_sub hl [] rfl)
              · refine lv_iconst (v := (1 : Int32)) S.1 S.2.1 dX8_now_75 ki_1 ?_
                refine lv_goto (tgt := 80) S.1 S.2.1 dX8_now_76 (by decide) ?_
                have e25 := e25.trans (if_neg u27)
                subst e25
                exact hM26 ls (lv_sub hl [] rfl)
            intro ls hl
            have f28 := Option.some.inj h
            obtain ⟨f29, f30⟩ := Prod.mk.inj f28
            subst f29
            subst f30
            exact ri S hr hlocks hW dX8_now_80
          · have h := of_n u21 h
            by_cases u31 : p1 = (5 : Int32)
            · have h := of_p u31 h
              refine lv_tableIn (off := 72) (tgt := 81) S.1 S.2.1 dX8_now_9 (by rw [u31]; decide) (by rw [u31]; decide) (by rw [u31]; decide +kernel) (by decide) ?_
              refine lv_aload_n S.1 S.2.1 dX8_now_81 rfl (lv_at hl 0 rfl) ?_
              obtain ⟨r32, hy33, h⟩ := bd1_e h
              refine kv0 S hK hN hZ hA hW (rest := []) (t_X3_unsaid l dC dI cI cJ cZ cB zz (a1 0) a2 c2 _  hy33) wl_X8_160 wv_X3_unsaid rfl rfl ⟨Nat.le_of_ble_eq_true rfl, Nat.le_of_ble_eq_true rfl⟩ (clX8 cI cJ cZ cB h0 a0 (c0 2) (c0 5) (w0 6 0) (w0 7 0) (clX1 cI cJ cZ cB (a0 0) a1 (c1 1) (c1 2 0) (c1 3) (c1 4 0) (c1 5) (c1 6 0) (w1 7) (c1 8 0) [])) [] rfl 9 rfl rfl rfl rfl hl.1 rfl (Nat.le_of_ble_eq_true rfl) dX8_now_82 [.int r32] rfl (fun H locs hW => ?_)
              refine lv_if_ne (tgt := 95) S.1 S.2.1 dX8_now_85 (by decide) (fun u34 => ?_) (fun u34 => ?_)
              · have h := of_n u34 h
                refine lv_iconst (v := (-1 : Int32)) S.1 S.2.1 dX8_now_95 ki_m1 ?_
                have f35 := Option.some.inj h
                obtain ⟨f36, f37⟩ := Prod.mk.inj f35
                subst f36
                subst f37
                exact ri S hr hlocks hW dX8_now_96
              · have h := of_p u34 h
                refine lv_aload_n S.1 S.2.1 dX8_now_88 rfl (lv_at hl 0 rfl) ?_
                obtain ⟨r38, hy39, h⟩ := bd1_e h
                refine kv0 S hK hN hZ hA hW (rest := []) (t_X3_winner l dC dI cI cJ cZ cB zz (a1 0) a2 c2 _  hy39) wl_X8_163 wv_X3_winner rfl rfl ⟨Nat.le_of_ble_eq_true rfl, Nat.le_of_ble_eq_true rfl⟩ (clX8 cI cJ cZ cB h0 a0 (c0 2) (c0 5) (w0 6 0) (w0 7 0) (clX1 cI cJ cZ cB (a0 0) a1 (c1 1) (c1 2 0) (c1 3) (c1 4 0) (c1 5) (c1 6 0) (w1 7) (c1 8 0) [])) [] rfl 9 rfl rfl rfl rfl hl.1 rfl (Nat.le_of_ble_eq_true rfl) dX8_now_89 [.int r38] rfl (fun H locs hW => ?_)
                refine lv_goto (tgt := 96) S.1 S.2.1 dX8_now_92 (by decide) ?_
                have f40 := Option.some.inj h
                obtain ⟨f41, f42⟩ := Prod.mk.inj f40
                subst f41
                subst f42
                exact ri S hr hlocks hW dX8_now_96
            · have h := of_n u31 h
              refine lv_tableOut (tgt := 97) S.1 S.2.1 dX8_now_9 (by have z0 := lv_neT u1 (a := 0) (by decide); have z1 := lv_neT u5 (a := 1) (by decide); have z2 := lv_neT u9 (a := 2) (by decide); have z3 := lv_neT u15 (a := 3) (by decide); have z4 := lv_neT u21 (a := 4) (by decide); have z5 := lv_neT u31 (a := 5) (by decide); omega) (by decide) ?_
              refine lv_aload_n S.1 S.2.1 dX8_now_97 rfl (lv_at hl 1 rfl) ?_
              refine lv_sipush (v := (-1000 : Int32)) S.1 S.2.1 dX8_now_98 ks_m1000 ?_
              obtain ⟨r43, cv44, hy45, h⟩ := bd2_e h
              refine kv (clX8 cI cJ cZ cB h0 a0 (cv44 2) (cv44 5) (w0 6 0) (w0 7 0) (clX1 cI cJ cZ cB (a0 0) a1 (c1 1) (c1 2 0) (c1 3) (c1 4 0) (c1 5) (c1 6 0) (w1 7) (c1 8 0) (clX3 cI cJ cZ cB (a1 0) a2 (c2 0) (c2 1) (c2 2) (c2 3) (c2 4) (c2 5 0) (c2 6 0) (c2 7 0) (c2 8 0) (c2 9 0) []))) S hK hN hZ hA hW (rest := []) (t_X8_refuseAsBad l dC dI cI cJ cZ cB zz h0 a0 c0 w0 (-1000 : Int32) _ _  hy45) wl_X8_53 wv_X8_refuseAsBad rfl rfl ⟨Nat.le_of_ble_eq_true rfl, Nat.le_of_ble_eq_true rfl⟩ [] (clX1 cI cJ cZ cB (a0 0) a1 (c1 1) (c1 2 0) (c1 3) (c1 4 0) (c1 5) (c1 6 0) (w1 7) (c1 8 0) (clX3 cI cJ cZ cB (a1 0) a2 (c2 0) (c2 1) (c2 2) (c2 3) (c2 4) (c2 5 0) (c2 6 0) (c2 7 0) (c2 8 0) (c2 9 0) [])) rfl rfl rfl 0 rfl rfl rfl rfl hl.1 rfl (Nat.le_of_ble_eq_true rfl) dX8_now_101 [.int r43] rfl (fun H locs hW => ?_)
              have f46 := Option.some.inj h
              obtain ⟨f47, f48⟩ := Prod.mk.inj f46
              subst f47
              subst f48
              exact ri S hr hlocks hW dX8_now_104
abbrev rmX8_of : Room := { frames := 1, cells := 0, slots := 0, locals := 21 }
set_option maxHeartbeats 4000000 in
set_option maxRecDepth 100000 in
theorem t_X8_of (l : Launch) (dC : Nat → ClassId) (dI : Nat → Nat → Nat) (cI cJ cZ cB : ClassId) (zz : ZT)  (h0 : Nat) (a0 : Nat → Nat) (a1 : Nat → Nat) (a2 : Nat → Nat) (c0 : Nat → Nat → Int32) (w0 : Nat → Nat → Int64) (c1 : Nat → Nat → Int32) (w1 : Nat → Nat → Int64) (c2 : Nat → Nat → Int32) (p1 : Int32) (p2 : Int32) (r : Int32) (c0' : Nat → Nat → Int32) (hm : md_X8_of c0 w0 c1 w1 c2 p1 p2 = some (r, c0')) : ct l (dC, dI) zz (ty4 cI cJ cZ cB) yX8_of cX8_of 4 (some .int) rmX8_of [.ref h0, .int p1, .int p2] (cwX8 cI cJ cZ cB h0 a0 c0 w0 (cwX1 cI cJ cZ cB (a0 0) a1 c1 w1 (cwX3 cI cJ cZ cB (a1 0) a2 c2 []))) (cwX8 cI cJ cZ cB h0 a0 c0' w0 (cwX1 cI cJ cZ cB (a0 0) a1 c1 w1 (cwX3 cI cJ cZ cB (a1 0) a2 c2 []))) (some (.int r)) := by
  refine ct_of (cc := cX8_of) (maxL := 4) (ret := (some .int)) (by decide) (Nat.le_of_ble_eq_true rfl) ?_
  intro p e s m below meth c A S hr hlocks hK hN hZ hA H locs hW ls hl
  have S : CallFix p m c cX8_of 4 s (List.toArray [.ref h0, .int p1, .int p2]) G RX8 := S
  have hl : lv_has ls 4 [(0, .ref h0), (1, .int p1), (2, .int p2)] := hl
  have h := hm
  rw [md_X8_of] at h
  have hW : wd (dC, dI) A s.heap (clX8 cI cJ cZ cB h0 a0 (c0 2) (c0 5) (w0 6 0) (w0 7 0) (clX1 cI cJ cZ cB (a0 0) a1 (c1 1) (c1 2 0) (c1 3) (c1 4 0) (c1 5) (c1 6 0) (w1 7) (c1 8 0) (clX3 cI cJ cZ cB (a1 0) a2 (c2 0) (c2 1) (c2 2) (c2 3) (c2 4) (c2 5 0) (c2 6 0) (c2 7 0) (c2 8 0) (c2 9 0) []))) H locs := hW
  refine lv_aload_n S.1 S.2.1 dX8_of_0 rfl (lv_at hl 0 rfl) ?_
  refine gf (C := RX8) (T := TX8) (N := 8) (ci := 4) (k := 0) S hK hW wu_X8 rfl (by decide) wf_X8_10 0 rfl rfl dX8_of_1 ?_
  refine gf (C := RX1) (T := TX1) (N := 9) (ci := 0) (k := 0) S hK hW wu_X1 rfl (by decide) wf_X8_57 4 rfl rfl dX8_of_4 ?_
  refine lv_astore_n (lv' := [(3, .ref (a1 0)), (0, .ref h0), (1, .int p1), (2, .int p2)]) S.1 S.2.1 dX8_of_7 rfl hl (by decide) rfl (fun ls hl => ?_)
  refine lv_aload_n S.1 S.2.1 dX8_of_8 rfl (lv_at hl 0 rfl) ?_
  refine lv_iload_n S.1 S.2.1 dX8_of_9 rfl (lv_at hl 2 rfl) ?_
  obtain ⟨r1, hy2, h⟩ := bd1_e h
  refine kv0 S hK hN hZ hA hW (rest := []) (t_X3_hasPoint l dC dI cI cJ cZ cB zz (a1 0) a2 c2 p1 _  hy2) wl_X8_117 wv_X3_hasPoint rfl rfl ⟨Nat.le_of_ble_eq_true rfl, Nat.le_of_ble_eq_true rfl⟩ (clX8 cI cJ cZ cB h0 a0 (c0 2) (c0 5) (w0 6 0) (w0 7 0) (clX1 cI cJ cZ cB (a0 0) a1 (c1 1) (c1 2 0) (c1 3) (c1 4 0) (c1 5) (c1 6 0) (w1 7) (c1 8 0) [])) [] rfl 9 rfl rfl rfl rfl hl.1 rfl (Nat.le_of_ble_eq_true rfl) dX8_of_10 [.int r1] rfl (fun H locs hW => ?_)
  refine lv_if_ne (tgt := 23) S.1 S.2.1 dX8_of_13 (by decide) (fun u3 => ?_) (fun u3 => ?_)
  · have h := of_n u3 h
    refine lv_iload_n S.1 S.2.1 dX8_of_23 rfl (lv_at hl 3 rfl) ?_
    by_cases u4 : p2 = (0 : Int32)
    · have h := of_p u4 h
      refine lv_tableIn (off := 32) (tgt := 56) S.1 S.2.1 dX8_of_24 (by rw [u4]; decide) (by rw [u4]; decide) (by rw [u4]; decide +kernel) (by decide) ?_
      refine lv_aload_n S.1 S.2.1 dX8_of_56 rfl (lv_at hl 0 rfl) ?_
      refine gf (C := RX3) (T := TX3) (N := 10) (ci := 2) (k := 2) S hK hW wu_X3 rfl (by decide) wf_X8_166 9 rfl rfl dX8_of_57 ?_
      refine lv_iload_n S.1 S.2.1 dX8_of_60 rfl (lv_at hl 2 rfl) ?_
      obtain ⟨z5, h⟩ := of_g h
      refine ia S hK hW rfl 12 rfl z5 dX8_of_61 ?_
      have f6 := Option.some.inj h
      obtain ⟨f7, f8⟩ := Prod.mk.inj f6
      subst f7
      subst f8
      exact ri S hr hlocks hW dX8_of_62
    · have h := of_n u4 h
      by_cases u9 : p2 = (1 : Int32)
      · have h := of_p u9 h
        refine lv_tableIn (off := 39) (tgt := 63) S.1 S.2.1 dX8_of_24 (by rw [u9]; decide) (by rw [u9]; decide) (by rw [u9]; decide +kernel) (by decide) ?_
        refine lv_aload_n S.1 S.2.1 dX8_of_63 rfl (lv_at hl 0 rfl) ?_
        refine gf (C := RX3) (T := TX3) (N := 10) (ci := 2) (k := 3) S hK hW wu_X3 rfl (by decide) wf_X8_169 9 rfl rfl dX8_of_64 ?_
        refine lv_iload_n S.1 S.2.1 dX8_of_67 rfl (lv_at hl 2 rfl) ?_
        obtain ⟨z10, h⟩ := of_g h
        refine ia S hK hW rfl 13 rfl z10 dX8_of_68 ?_
        have f11 := Option.some.inj h
        obtain ⟨f12, f13⟩ := Prod.mk.inj f11
        subst f12
        subst f13
        exact ri S hr hlocks hW dX8_of_69
      · have h := of_n u9 h
        by_cases u14 : p2 = (2 : Int32)
        · have h := of_p u14 h
          refine lv_tableIn (off := 46) (tgt := 70) S.1 S.2.1 dX8_of_24 (by rw [u14]; decide) (by rw [u14]; decide) (by rw [u14]; decide +kernel) (by decide) ?_
          refine lv_aload_n S.1 S.2.1 dX8_of_70 rfl (lv_at hl 0 rfl) ?_
          refine gf (C := RX3) (T := TX3) (N := 10) (ci := 2) (k := 4) S hK hW wu_X3 rfl (by decide) wf_X8_172 9 rfl rfl dX8_of_71 ?_
          refine lv_iload_n S.1 S.2.1 dX8_of_74 rfl (lv_at hl 2 rfl) ?_
          obtain ⟨z15, h⟩ := of_g h
          refine ia S hK hW rfl 14 rfl z15 dX8_of_75 ?_
          have f16 := Option.some.inj h
          obtain ⟨f17, f18⟩ := Prod.mk.inj f16
          subst f17
          subst f18
          exact ri S hr hlocks hW dX8_of_76
        · have h := of_n u14 h
          by_cases u19 : p2 = (3 : Int32)
          · have h := of_p u19 h
            refine lv_tableIn (off := 53) (tgt := 77) S.1 S.2.1 dX8_of_24 (by rw [u19]; decide) (by rw [u19]; decide) (by rw [u19]; decide +kernel) (by decide) ?_
            refine lv_aload_n S.1 S.2.1 dX8_of_77 rfl (lv_at hl 0 rfl) ?_
            refine gf (C := RX3) (T := TX3) (N := 10) (ci := 2) (k := 6) S hK hW wu_X3 rfl (by decide) wf_X8_120 9 rfl rfl dX8_of_78 ?_
            refine lv_iload_n S.1 S.2.1 dX8_of_81 rfl (lv_at hl 2 rfl) ?_
            obtain ⟨r20, hy21, h⟩ := bd1_e h
            refine ks0 S hK hN hZ hA hW (rest := []) (t_X8_has l dC dI cI cJ cZ cB zz (c2 6 0) p1 _  hy21) wl_X8_123 wv_X8_has rfl rfl ⟨Nat.le_of_ble_eq_true rfl, Nat.le_of_ble_eq_true rfl⟩ [] (clX8 cI cJ cZ cB h0 a0 (c0 2) (c0 5) (w0 6 0) (w0 7 0) (clX1 cI cJ cZ cB (a0 0) a1 (c1 1) (c1 2 0) (c1 3) (c1 4 0) (c1 5) (c1 6 0) (w1 7) (c1 8 0) (clX3 cI cJ cZ cB (a1 0) a2 (c2 0) (c2 1) (c2 2) (c2 3) (c2 4) (c2 5 0) (c2 6 0) (c2 7 0) (c2 8 0) (c2 9 0) []))) rfl rfl hl.1 rfl (Nat.le_of_ble_eq_true rfl) dX8_of_82 [.int r20] rfl (fun H locs hW => ?_)
            obtain ⟨y22, e23, h⟩ := lt1_e h
            suffices hM24 : ∀ ls : Array Slot, lv_has ls 4 [] → W p l e rmX8_of s m (List.toArray [.ref h0, .int p1, .int p2]) below meth c H locs 0 0 (MQ below (kQ (dC, dI) (cwX8 cI cJ cZ cB h0 a0 c0' w0 (cwX1 cI cJ cZ cB (a0 0) a1 c1 w1 (cwX3 cI cJ cZ cB (a1 0) a2 c2 []))) (some (.int r)) A) (List.toArray [.ref h0, .int p1, .int p2]) s 0 0 A) (F0 m 93 ls [.int y22]) by
              refine lv_if_eq (tgt := 92) S.1 S.2.1 dX8_of_85 (by decide) (fun u25 => ?_) (fun u25 => ?_)
              · refine lv_iconst (v := (0 : Int32)) S.1 S.2.1 dX8_of_92 ki_0 ?_
                have e23 := e23.trans (if_pos u25)
                subst e23
                exact hM24 ls (lv_sub hl [] rfl)
              · refine lv_iconst (v := (1 : Int32)) S.1 S.2.1 dX8_of_88 ki_1 ?_
                refine lv_goto (tgt := 93) S.1 S.2.1 dX8_of_89 (by decide) ?_
                have e23 := e23.trans (if_neg u25)
                subst e23
                exact hM24 ls (lv_sub hl [] rfl)
            intro ls hl
            have f26 := Option.some.inj h
            obtain ⟨f27, f28⟩ := Prod.mk.inj f26
            subst f27
            subst f28
            exact ri S hr hlocks hW dX8_of_93
          · have h := of_n u19 h
            refine lv_tableOut (tgt := 94) S.1 S.2.1 dX8_of_24 (by have z0 := lv_neT u4 (a := 0) (by decide); have z1 := lv_neT u9 (a := 1) (by decide); have z2 := lv_neT u14 (a := 2) (by decide); have z3 := lv_neT u19 (a := 3) (by decide); omega) (by decide) ?_
            refine lv_aload_n S.1 S.2.1 dX8_of_94 rfl (lv_at hl 1 rfl) ?_
            refine lv_bipush (v := (-2 : Int32)) S.1 S.2.1 dX8_of_95 kb_m2 ?_
            obtain ⟨r29, cv30, hy31, h⟩ := bd2_e h
            refine kv (clX8 cI cJ cZ cB h0 a0 (cv30 2) (cv30 5) (w0 6 0) (w0 7 0) (clX1 cI cJ cZ cB (a0 0) a1 (c1 1) (c1 2 0) (c1 3) (c1 4 0) (c1 5) (c1 6 0) (w1 7) (c1 8 0) (clX3 cI cJ cZ cB (a1 0) a2 (c2 0) (c2 1) (c2 2) (c2 3) (c2 4) (c2 5 0) (c2 6 0) (c2 7 0) (c2 8 0) (c2 9 0) []))) S hK hN hZ hA hW (rest := []) (t_X8_refuseAsBad l dC dI cI cJ cZ cB zz h0 a0 c0 w0 (-2 : Int32) _ _  hy31) wl_X8_53 wv_X8_refuseAsBad rfl rfl ⟨Nat.le_of_ble_eq_true rfl, Nat.le_of_ble_eq_true rfl⟩ [] (clX1 cI cJ cZ cB (a0 0) a1 (c1 1) (c1 2 0) (c1 3) (c1 4 0) (c1 5) (c1 6 0) (w1 7) (c1 8 0) (clX3 cI cJ cZ cB (a1 0) a2 (c2 0) (c2 1) (c2 2) (c2 3) (c2 4) (c2 5 0) (c2 6 0) (c2 7 0) (c2 8 0) (c2 9 0) [])) rfl rfl rfl 0 rfl rfl rfl rfl hl.1 rfl (Nat.le_of_ble_eq_true rfl) dX8_of_97 [.int r29] rfl (fun H locs hW => ?_)
            have f32 := Option.some.inj h
            obtain ⟨f33, f34⟩ := Prod.mk.inj f32
            subst f33
            subst f34
            exact ri S hr hlocks hW dX8_of_100
  · have h := of_p u3 h
    refine lv_aload_n S.1 S.2.1 dX8_of_16 rfl (lv_at hl 1 rfl) ?_
    refine lv_bipush (v := (-2 : Int32)) S.1 S.2.1 dX8_of_17 kb_m2 ?_
    obtain ⟨r35, cv36, hy37, h⟩ := bd2_e h
    refine kv (clX8 cI cJ cZ cB h0 a0 (cv36 2) (cv36 5) (w0 6 0) (w0 7 0) (clX1 cI cJ cZ cB (a0 0) a1 (c1 1) (c1 2 0) (c1 3) (c1 4 0) (c1 5) (c1 6 0) (w1 7) (c1 8 0) (clX3 cI cJ cZ cB (a1 0) a2 (c2 0) (c2 1) (c2 2) (c2 3) (c2 4) (c2 5 0) (c2 6 0) (c2 7 0) (c2 8 0) (c2 9 0) []))) S hK hN hZ hA hW (rest := []) (t_X8_refuseAsBad l dC dI cI cJ cZ cB zz h0 a0 c0 w0 (-2 : Int32) _ _  hy37) wl_X8_53 wv_X8_refuseAsBad rfl rfl ⟨Nat.le_of_ble_eq_true rfl, Nat.le_of_ble_eq_true rfl⟩ [] (clX1 cI cJ cZ cB (a0 0) a1 (c1 1) (c1 2 0) (c1 3) (c1 4 0) (c1 5) (c1 6 0) (w1 7) (c1 8 0) (clX3 cI cJ cZ cB (a1 0) a2 (c2 0) (c2 1) (c2 2) (c2 3) (c2 4) (c2 5 0) (c2 6 0) (c2 7 0) (c2 8 0) (c2 9 0) [])) rfl rfl rfl 0 rfl rfl rfl rfl hl.1 rfl (Nat.le_of_ble_eq_true rfl) dX8_of_19 [.int r35] rfl (fun H locs hW => ?_)
    have f38 := Option.some.inj h
    obtain ⟨f39, f40⟩ := Prod.mk.inj f38
    subst f39
    subst f40
    exact ri S hr hlocks hW dX8_of_22
abbrev rmX8_about : Room := { frames := 2, cells := 0, slots := 0, locals := 42 }
set_option maxHeartbeats 4000000 in
set_option maxRecDepth 100000 in
theorem t_X8_about (l : Launch) (dC : Nat → ClassId) (dI : Nat → Nat → Nat) (cI cJ cZ cB : ClassId) (zz : ZT)  (h0 : Nat) (a0 : Nat → Nat) (a1 : Nat → Nat) (a2 : Nat → Nat) (c0 : Nat → Nat → Int32) (w0 : Nat → Nat → Int64) (c1 : Nat → Nat → Int32) (w1 : Nat → Nat → Int64) (c2 : Nat → Nat → Int32) (p1 : Int32) (p2 : Int32) (r : Int32) (c0' : Nat → Nat → Int32) (hm : md_X8_about c0 w0 c1 w1 c2 p1 p2 = some (r, c0')) : ct l (dC, dI) zz (ty4 cI cJ cZ cB) yX8_about cX8_about 4 (some .int) rmX8_about [.ref h0, .int p1, .int p2] (cwX8 cI cJ cZ cB h0 a0 c0 w0 (cwX1 cI cJ cZ cB (a0 0) a1 c1 w1 (cwX3 cI cJ cZ cB (a1 0) a2 c2 []))) (cwX8 cI cJ cZ cB h0 a0 c0' w0 (cwX1 cI cJ cZ cB (a0 0) a1 c1 w1 (cwX3 cI cJ cZ cB (a1 0) a2 c2 []))) (some (.int r)) := by
  refine ct_of (cc := cX8_about) (maxL := 4) (ret := (some .int)) (by decide) (Nat.le_of_ble_eq_true rfl) ?_
  intro p e s m below meth c A S hr hlocks hK hN hZ hA H locs hW ls hl
  have S : CallFix p m c cX8_about 4 s (List.toArray [.ref h0, .int p1, .int p2]) G RX8 := S
  have hl : lv_has ls 4 [(0, .ref h0), (1, .int p1), (2, .int p2)] := hl
  have h := hm
  rw [md_X8_about] at h
  have hW : wd (dC, dI) A s.heap (clX8 cI cJ cZ cB h0 a0 (c0 2) (c0 5) (w0 6 0) (w0 7 0) (clX1 cI cJ cZ cB (a0 0) a1 (c1 1) (c1 2 0) (c1 3) (c1 4 0) (c1 5) (c1 6 0) (w1 7) (c1 8 0) (clX3 cI cJ cZ cB (a1 0) a2 (c2 0) (c2 1) (c2 2) (c2 3) (c2 4) (c2 5 0) (c2 6 0) (c2 7 0) (c2 8 0) (c2 9 0) []))) H locs := hW
  refine lv_aload_n S.1 S.2.1 dX8_about_0 rfl (lv_at hl 0 rfl) ?_
  refine gf (C := RX8) (T := TX8) (N := 8) (ci := 4) (k := 0) S hK hW wu_X8 rfl (by decide) wf_X8_10 0 rfl rfl dX8_about_1 ?_
  refine gf (C := RX1) (T := TX1) (N := 9) (ci := 0) (k := 0) S hK hW wu_X1 rfl (by decide) wf_X8_57 4 rfl rfl dX8_about_4 ?_
  refine lv_astore_n (lv' := [(3, .ref (a1 0)), (0, .ref h0), (1, .int p1), (2, .int p2)]) S.1 S.2.1 dX8_about_7 rfl hl (by decide) rfl (fun ls hl => ?_)
  refine lv_iload_n S.1 S.2.1 dX8_about_8 rfl (lv_at hl 2 rfl) ?_
  obtain ⟨r1, hy2, h⟩ := bd1_e h
  refine ks0 S hK hN hZ hA hW (rest := []) (t_X8_isCounsel l dC dI cI cJ cZ cB zz p1 _  hy2) wl_X8_68 wv_X8_isCounsel rfl rfl ⟨Nat.le_of_ble_eq_true rfl, Nat.le_of_ble_eq_true rfl⟩ [] (clX8 cI cJ cZ cB h0 a0 (c0 2) (c0 5) (w0 6 0) (w0 7 0) (clX1 cI cJ cZ cB (a0 0) a1 (c1 1) (c1 2 0) (c1 3) (c1 4 0) (c1 5) (c1 6 0) (w1 7) (c1 8 0) (clX3 cI cJ cZ cB (a1 0) a2 (c2 0) (c2 1) (c2 2) (c2 3) (c2 4) (c2 5 0) (c2 6 0) (c2 7 0) (c2 8 0) (c2 9 0) []))) rfl rfl hl.1 rfl (Nat.le_of_ble_eq_true rfl) dX8_about_9 [.int r1] rfl (fun H locs hW => ?_)
  refine lv_if_ne (tgt := 22) S.1 S.2.1 dX8_about_12 (by decide) (fun u3 => ?_) (fun u3 => ?_)
  · have h := of_n u3 h
    refine lv_iload_n S.1 S.2.1 dX8_about_22 rfl (lv_at hl 3 rfl) ?_
    by_cases u4 : p2 = (0 : Int32)
    · have h := of_p u4 h
      refine lv_tableIn (off := 25) (tgt := 48) S.1 S.2.1 dX8_about_23 (by rw [u4]; decide) (by rw [u4]; decide) (by rw [u4]; decide +kernel) (by decide) ?_
      refine lv_aload_n S.1 S.2.1 dX8_about_48 rfl (lv_at hl 0 rfl) ?_
      refine gf (C := RX3) (T := TX3) (N := 10) (ci := 2) (k := 0) S hK hW wu_X3 rfl (by decide) wf_X8_175 9 rfl rfl dX8_about_49 ?_
      refine lv_iload_n S.1 S.2.1 dX8_about_52 rfl (lv_at hl 2 rfl) ?_
      obtain ⟨z5, h⟩ := of_g h
      refine ia S hK hW rfl 10 rfl z5 dX8_about_53 ?_
      have f6 := Option.some.inj h
      obtain ⟨f7, f8⟩ := Prod.mk.inj f6
      subst f7
      subst f8
      exact ri S hr hlocks hW dX8_about_54
    · have h := of_n u4 h
      by_cases u9 : p2 = (1 : Int32)
      · have h := of_p u9 h
        refine lv_tableIn (off := 32) (tgt := 55) S.1 S.2.1 dX8_about_23 (by rw [u9]; decide) (by rw [u9]; decide) (by rw [u9]; decide +kernel) (by decide) ?_
        refine lv_aload_n S.1 S.2.1 dX8_about_55 rfl (lv_at hl 0 rfl) ?_
        refine gf (C := RX3) (T := TX3) (N := 10) (ci := 2) (k := 1) S hK hW wu_X3 rfl (by decide) wf_X8_75 9 rfl rfl dX8_about_56 ?_
        refine lv_iload_n S.1 S.2.1 dX8_about_59 rfl (lv_at hl 2 rfl) ?_
        obtain ⟨z10, h⟩ := of_g h
        refine ia S hK hW rfl 11 rfl z10 dX8_about_60 ?_
        have f11 := Option.some.inj h
        obtain ⟨f12, f13⟩ := Prod.mk.inj f11
        subst f12
        subst f13
        exact ri S hr hlocks hW dX8_about_61
      · have h := of_n u9 h
        by_cases u14 : p2 = (2 : Int32)
        · have h := of_p u14 h
          refine lv_tableIn (off := 39) (tgt := 62) S.1 S.2.1 dX8_about_23 (by rw [u14]; decide) (by rw [u14]; decide) (by rw [u14]; decide +kernel) (by decide) ?_
          refine lv_aload_n S.1 S.2.1 dX8_about_62 rfl (lv_at hl 0 rfl) ?_
          refine lv_iload_n S.1 S.2.1 dX8_about_63 rfl (lv_at hl 2 rfl) ?_
          obtain ⟨r15, hy16, h⟩ := bd1_e h
          refine kv0 S hK hN hZ hA hW (rest := []) (t_X3_chairOf l dC dI cI cJ cZ cB zz (a1 0) a2 c2 p1 _  hy16) wl_X8_178 wv_X3_chairOf rfl rfl ⟨Nat.le_of_ble_eq_true rfl, Nat.le_of_ble_eq_true rfl⟩ (clX8 cI cJ cZ cB h0 a0 (c0 2) (c0 5) (w0 6 0) (w0 7 0) (clX1 cI cJ cZ cB (a0 0) a1 (c1 1) (c1 2 0) (c1 3) (c1 4 0) (c1 5) (c1 6 0) (w1 7) (c1 8 0) [])) [] rfl 9 rfl rfl rfl rfl hl.1 rfl (Nat.le_of_ble_eq_true rfl) dX8_about_64 [.int r15] rfl (fun H locs hW => ?_)
          have f17 := Option.some.inj h
          obtain ⟨f18, f19⟩ := Prod.mk.inj f17
          subst f18
          subst f19
          exact ri S hr hlocks hW dX8_about_67
        · have h := of_n u14 h
          refine lv_tableOut (tgt := 68) S.1 S.2.1 dX8_about_23 (by have z0 := lv_neT u4 (a := 0) (by decide); have z1 := lv_neT u9 (a := 1) (by decide); have z2 := lv_neT u14 (a := 2) (by decide); omega) (by decide) ?_
          refine lv_aload_n S.1 S.2.1 dX8_about_68 rfl (lv_at hl 1 rfl) ?_
          refine lv_bipush (v := (-2 : Int32)) S.1 S.2.1 dX8_about_69 kb_m2 ?_
          obtain ⟨r20, cv21, hy22, h⟩ := bd2_e h
          refine kv (clX8 cI cJ cZ cB h0 a0 (cv21 2) (cv21 5) (w0 6 0) (w0 7 0) (clX1 cI cJ cZ cB (a0 0) a1 (c1 1) (c1 2 0) (c1 3) (c1 4 0) (c1 5) (c1 6 0) (w1 7) (c1 8 0) (clX3 cI cJ cZ cB (a1 0) a2 (c2 0) (c2 1) (c2 2) (c2 3) (c2 4) (c2 5 0) (c2 6 0) (c2 7 0) (c2 8 0) (c2 9 0) []))) S hK hN hZ hA hW (rest := []) (t_X8_refuseAsBad l dC dI cI cJ cZ cB zz h0 a0 c0 w0 (-2 : Int32) _ _  hy22) wl_X8_53 wv_X8_refuseAsBad rfl rfl ⟨Nat.le_of_ble_eq_true rfl, Nat.le_of_ble_eq_true rfl⟩ [] (clX1 cI cJ cZ cB (a0 0) a1 (c1 1) (c1 2 0) (c1 3) (c1 4 0) (c1 5) (c1 6 0) (w1 7) (c1 8 0) (clX3 cI cJ cZ cB (a1 0) a2 (c2 0) (c2 1) (c2 2) (c2 3) (c2 4) (c2 5 0) (c2 6 0) (c2 7 0) (c2 8 0) (c2 9 0) [])) rfl rfl rfl 0 rfl rfl rfl rfl hl.1 rfl (Nat.le_of_ble_eq_true rfl) dX8_about_71 [.int r20] rfl (fun H locs hW => ?_)
          have f23 := Option.some.inj h
          obtain ⟨f24, f25⟩ := Prod.mk.inj f23
          subst f24
          subst f25
          exact ri S hr hlocks hW dX8_about_74
  · have h := of_p u3 h
    refine lv_aload_n S.1 S.2.1 dX8_about_15 rfl (lv_at hl 1 rfl) ?_
    refine lv_bipush (v := (-2 : Int32)) S.1 S.2.1 dX8_about_16 kb_m2 ?_
    obtain ⟨r26, cv27, hy28, h⟩ := bd2_e h
    refine kv (clX8 cI cJ cZ cB h0 a0 (cv27 2) (cv27 5) (w0 6 0) (w0 7 0) (clX1 cI cJ cZ cB (a0 0) a1 (c1 1) (c1 2 0) (c1 3) (c1 4 0) (c1 5) (c1 6 0) (w1 7) (c1 8 0) (clX3 cI cJ cZ cB (a1 0) a2 (c2 0) (c2 1) (c2 2) (c2 3) (c2 4) (c2 5 0) (c2 6 0) (c2 7 0) (c2 8 0) (c2 9 0) []))) S hK hN hZ hA hW (rest := []) (t_X8_refuseAsBad l dC dI cI cJ cZ cB zz h0 a0 c0 w0 (-2 : Int32) _ _  hy28) wl_X8_53 wv_X8_refuseAsBad rfl rfl ⟨Nat.le_of_ble_eq_true rfl, Nat.le_of_ble_eq_true rfl⟩ [] (clX1 cI cJ cZ cB (a0 0) a1 (c1 1) (c1 2 0) (c1 3) (c1 4 0) (c1 5) (c1 6 0) (w1 7) (c1 8 0) (clX3 cI cJ cZ cB (a1 0) a2 (c2 0) (c2 1) (c2 2) (c2 3) (c2 4) (c2 5 0) (c2 6 0) (c2 7 0) (c2 8 0) (c2 9 0) [])) rfl rfl rfl 0 rfl rfl rfl rfl hl.1 rfl (Nat.le_of_ble_eq_true rfl) dX8_about_18 [.int r26] rfl (fun H locs hW => ?_)
    have f29 := Option.some.inj h
    obtain ⟨f30, f31⟩ := Prod.mk.inj f29
    subst f30
    subst f31
    exact ri S hr hlocks hW dX8_about_21
abbrev rmX8_moves : Room := { frames := 3, cells := 0, slots := 0, locals := 68 }
set_option maxHeartbeats 4000000 in
set_option maxRecDepth 100000 in
theorem t_X8_moves (l : Launch) (dC : Nat → ClassId) (dI : Nat → Nat → Nat) (cI cJ cZ cB : ClassId) (zz : ZT)  (h0 : Nat) (a0 : Nat → Nat) (a1 : Nat → Nat) (a2 : Nat → Nat) (c0 : Nat → Nat → Int32) (w0 : Nat → Nat → Int64) (c1 : Nat → Nat → Int32) (w1 : Nat → Nat → Int64) (c2 : Nat → Nat → Int32) (p1 : Int32) (r : Int32) (c0' : Nat → Nat → Int32) (hm : md_X8_moves c0 w0 c1 w1 c2 p1 = some (r, c0')) : ct l (dC, dI) zz (ty4 cI cJ cZ cB) yX8_moves cX8_moves 3 (some .int) rmX8_moves [.ref h0, .int p1] (cwX8 cI cJ cZ cB h0 a0 c0 w0 (cwX1 cI cJ cZ cB (a0 0) a1 c1 w1 (cwX3 cI cJ cZ cB (a1 0) a2 c2 []))) (cwX8 cI cJ cZ cB h0 a0 c0' w0 (cwX1 cI cJ cZ cB (a0 0) a1 c1 w1 (cwX3 cI cJ cZ cB (a1 0) a2 c2 []))) (some (.int r)) := by
  refine ct_of (cc := cX8_moves) (maxL := 3) (ret := (some .int)) (by decide) (Nat.le_of_ble_eq_true rfl) ?_
  intro p e s m below meth c A S hr hlocks hK hN hZ hA H locs hW ls hl
  have S : CallFix p m c cX8_moves 3 s (List.toArray [.ref h0, .int p1]) G RX8 := S
  have hl : lv_has ls 3 [(0, .ref h0), (1, .int p1)] := hl
  have h := hm
  rw [md_X8_moves] at h
  have hW : wd (dC, dI) A s.heap (clX8 cI cJ cZ cB h0 a0 (c0 2) (c0 5) (w0 6 0) (w0 7 0) (clX1 cI cJ cZ cB (a0 0) a1 (c1 1) (c1 2 0) (c1 3) (c1 4 0) (c1 5) (c1 6 0) (w1 7) (c1 8 0) (clX3 cI cJ cZ cB (a1 0) a2 (c2 0) (c2 1) (c2 2) (c2 3) (c2 4) (c2 5 0) (c2 6 0) (c2 7 0) (c2 8 0) (c2 9 0) []))) H locs := hW
  refine lv_aload_n S.1 S.2.1 dX8_moves_0 rfl (lv_at hl 0 rfl) ?_
  refine gf (C := RX8) (T := TX8) (N := 8) (ci := 4) (k := 0) S hK hW wu_X8 rfl (by decide) wf_X8_10 0 rfl rfl dX8_moves_1 ?_
  refine gf (C := RX1) (T := TX1) (N := 9) (ci := 0) (k := 0) S hK hW wu_X1 rfl (by decide) wf_X8_57 4 rfl rfl dX8_moves_4 ?_
  refine lv_astore_n (lv' := [(2, .ref (a1 0)), (0, .ref h0), (1, .int p1)]) S.1 S.2.1 dX8_moves_7 rfl hl (by decide) rfl (fun ls hl => ?_)
  refine lv_aload_n S.1 S.2.1 dX8_moves_8 rfl (lv_at hl 0 rfl) ?_
  refine lv_iload_n S.1 S.2.1 dX8_moves_9 rfl (lv_at hl 2 rfl) ?_
  obtain ⟨r1, hy2, h⟩ := bd1_e h
  refine kv0 S hK hN hZ hA hW (rest := []) (t_X3_hasPoint l dC dI cI cJ cZ cB zz (a1 0) a2 c2 p1 _  hy2) wl_X8_117 wv_X3_hasPoint rfl rfl ⟨Nat.le_of_ble_eq_true rfl, Nat.le_of_ble_eq_true rfl⟩ (clX8 cI cJ cZ cB h0 a0 (c0 2) (c0 5) (w0 6 0) (w0 7 0) (clX1 cI cJ cZ cB (a0 0) a1 (c1 1) (c1 2 0) (c1 3) (c1 4 0) (c1 5) (c1 6 0) (w1 7) (c1 8 0) [])) [] rfl 9 rfl rfl rfl rfl hl.1 rfl (Nat.le_of_ble_eq_true rfl) dX8_moves_10 [.int r1] rfl (fun H locs hW => ?_)
  refine lv_if_ne (tgt := 24) S.1 S.2.1 dX8_moves_13 (by decide) (fun u3 => ?_) (fun u3 => ?_)
  · have h := of_n u3 h
    refine lv_aload_n S.1 S.2.1 dX8_moves_24 rfl (lv_at hl 0 rfl) ?_
    refine gf (C := RX3) (T := TX3) (N := 10) (ci := 2) (k := 6) S hK hW wu_X3 rfl (by decide) wf_X8_120 9 rfl rfl dX8_moves_25 ?_
    refine lv_iload_n S.1 S.2.1 dX8_moves_28 rfl (lv_at hl 2 rfl) ?_
    obtain ⟨r4, hy5, h⟩ := bd1_e h
    refine ks0 S hK hN hZ hA hW (rest := []) (t_X8_has l dC dI cI cJ cZ cB zz (c2 6 0) p1 _  hy5) wl_X8_123 wv_X8_has rfl rfl ⟨Nat.le_of_ble_eq_true rfl, Nat.le_of_ble_eq_true rfl⟩ [] (clX8 cI cJ cZ cB h0 a0 (c0 2) (c0 5) (w0 6 0) (w0 7 0) (clX1 cI cJ cZ cB (a0 0) a1 (c1 1) (c1 2 0) (c1 3) (c1 4 0) (c1 5) (c1 6 0) (w1 7) (c1 8 0) (clX3 cI cJ cZ cB (a1 0) a2 (c2 0) (c2 1) (c2 2) (c2 3) (c2 4) (c2 5 0) (c2 6 0) (c2 7 0) (c2 8 0) (c2 9 0) []))) rfl rfl hl.1 rfl (Nat.le_of_ble_eq_true rfl) dX8_moves_29 [.int r4] rfl (fun H locs hW => ?_)
    refine lv_if_eq (tgt := 43) S.1 S.2.1 dX8_moves_32 (by decide) (fun u6 => ?_) (fun u6 => ?_)
    · have h := of_p u6 h
      refine lv_aload_n S.1 S.2.1 dX8_moves_43 rfl (lv_at hl 0 rfl) ?_
      refine lv_iload_n S.1 S.2.1 dX8_moves_44 rfl (lv_at hl 2 rfl) ?_
      obtain ⟨r7, hy8, h⟩ := bd1_e h
      refine kv0 S hK hN hZ hA hW (rest := []) (t_X3_counting l dC dI cI cJ cZ cB zz (a1 0) a2 c2 p1 _  hy8) wl_X8_181 wv_X3_counting rfl rfl ⟨Nat.le_of_ble_eq_true rfl, Nat.le_of_ble_eq_true rfl⟩ (clX8 cI cJ cZ cB h0 a0 (c0 2) (c0 5) (w0 6 0) (w0 7 0) (clX1 cI cJ cZ cB (a0 0) a1 (c1 1) (c1 2 0) (c1 3) (c1 4 0) (c1 5) (c1 6 0) (w1 7) (c1 8 0) [])) [] rfl 9 rfl rfl rfl rfl hl.1 rfl (Nat.le_of_ble_eq_true rfl) dX8_moves_45 [.int r7] rfl (fun H locs hW => ?_)
      have f9 := Option.some.inj h
      obtain ⟨f10, f11⟩ := Prod.mk.inj f9
      subst f10
      subst f11
      exact ri S hr hlocks hW dX8_moves_48
    · have h := of_n u6 h
      refine lv_aload_n S.1 S.2.1 dX8_moves_35 rfl (lv_at hl 1 rfl) ?_
      refine lv_sipush (v := (-1001 : Int32)) S.1 S.2.1 dX8_moves_36 ks_m1001 ?_
      obtain ⟨r12, cv13, hy14, h⟩ := bd2_e h
      refine kv (clX8 cI cJ cZ cB h0 a0 (cv13 2) (cv13 5) (w0 6 0) (w0 7 0) (clX1 cI cJ cZ cB (a0 0) a1 (c1 1) (c1 2 0) (c1 3) (c1 4 0) (c1 5) (c1 6 0) (w1 7) (c1 8 0) (clX3 cI cJ cZ cB (a1 0) a2 (c2 0) (c2 1) (c2 2) (c2 3) (c2 4) (c2 5 0) (c2 6 0) (c2 7 0) (c2 8 0) (c2 9 0) []))) S hK hN hZ hA hW (rest := []) (t_X8_refuseAsNo l dC dI cI cJ cZ cB zz h0 a0 c0 w0 (-1001 : Int32) _ _  hy14) wl_X8_127 wv_X8_refuseAsNo rfl rfl ⟨Nat.le_of_ble_eq_true rfl, Nat.le_of_ble_eq_true rfl⟩ [] (clX1 cI cJ cZ cB (a0 0) a1 (c1 1) (c1 2 0) (c1 3) (c1 4 0) (c1 5) (c1 6 0) (w1 7) (c1 8 0) (clX3 cI cJ cZ cB (a1 0) a2 (c2 0) (c2 1) (c2 2) (c2 3) (c2 4) (c2 5 0) (c2 6 0) (c2 7 0) (c2 8 0) (c2 9 0) [])) rfl rfl rfl 0 rfl rfl rfl rfl hl.1 rfl (Nat.le_of_ble_eq_true rfl) dX8_moves_39 [.int r12] rfl (fun H locs hW => ?_)
      have f15 := Option.some.inj h
      obtain ⟨f16, f17⟩ := Prod.mk.inj f15
      subst f16
      subst f17
      exact ri S hr hlocks hW dX8_moves_42
  · have h := of_p u3 h
    refine lv_aload_n S.1 S.2.1 dX8_moves_16 rfl (lv_at hl 1 rfl) ?_
    refine lv_sipush (v := (-1000 : Int32)) S.1 S.2.1 dX8_moves_17 ks_m1000 ?_
    obtain ⟨r18, cv19, hy20, h⟩ := bd2_e h
    refine kv (clX8 cI cJ cZ cB h0 a0 (cv19 2) (cv19 5) (w0 6 0) (w0 7 0) (clX1 cI cJ cZ cB (a0 0) a1 (c1 1) (c1 2 0) (c1 3) (c1 4 0) (c1 5) (c1 6 0) (w1 7) (c1 8 0) (clX3 cI cJ cZ cB (a1 0) a2 (c2 0) (c2 1) (c2 2) (c2 3) (c2 4) (c2 5 0) (c2 6 0) (c2 7 0) (c2 8 0) (c2 9 0) []))) S hK hN hZ hA hW (rest := []) (t_X8_refuseAsBad l dC dI cI cJ cZ cB zz h0 a0 c0 w0 (-1000 : Int32) _ _  hy20) wl_X8_53 wv_X8_refuseAsBad rfl rfl ⟨Nat.le_of_ble_eq_true rfl, Nat.le_of_ble_eq_true rfl⟩ [] (clX1 cI cJ cZ cB (a0 0) a1 (c1 1) (c1 2 0) (c1 3) (c1 4 0) (c1 5) (c1 6 0) (w1 7) (c1 8 0) (clX3 cI cJ cZ cB (a1 0) a2 (c2 0) (c2 1) (c2 2) (c2 3) (c2 4) (c2 5 0) (c2 6 0) (c2 7 0) (c2 8 0) (c2 9 0) [])) rfl rfl rfl 0 rfl rfl rfl rfl hl.1 rfl (Nat.le_of_ble_eq_true rfl) dX8_moves_20 [.int r18] rfl (fun H locs hW => ?_)
    have f21 := Option.some.inj h
    obtain ⟨f22, f23⟩ := Prod.mk.inj f21
    subst f22
    subst f23
    exact ri S hr hlocks hW dX8_moves_23
abbrev rmX8_play : Room := { frames := 27, cells := 0, slots := 0, locals := 800 }
set_option maxHeartbeats 4000000 in
set_option maxRecDepth 100000 in
theorem t_X8_play (l : Launch) (dC : Nat → ClassId) (dI : Nat → Nat → Nat) (cI cJ cZ cB : ClassId) (zz : ZT)  (h0 : Nat) (a0 : Nat → Nat) (a1 : Nat → Nat) (a2 : Nat → Nat) (a3 : Nat → Nat) (F : Nat) (c0 : Nat → Nat → Int32) (w0 : Nat → Nat → Int64) (c1 : Nat → Nat → Int32) (w1 : Nat → Nat → Int64) (c2 : Nat → Nat → Int32) (c3 : Nat → Nat → Int32) (p1 : Int32) (r : Int32) (c0' : Nat → Nat → Int32) (c3' : Nat → Nat → Int32) (hm : md_X8_play F c0 w0 c1 w1 c2 c3 p1 = some (r, c0', c3')) : ct l (dC, dI) zz (ty4 cI cJ cZ cB) yX8_play cX8_play 2 (some .int) rmX8_play [.ref h0, .int p1] (cwX8 cI cJ cZ cB h0 a0 c0 w0 (cwX1 cI cJ cZ cB (a0 0) a1 c1 w1 (cwX3 cI cJ cZ cB (a1 0) a2 c2 (cwX3 cI cJ cZ cB (a0 3) a3 c3 [])))) (cwX8 cI cJ cZ cB h0 a0 c0' w0 (cwX1 cI cJ cZ cB (a0 0) a1 c1 w1 (cwX3 cI cJ cZ cB (a1 0) a2 c2 (cwX3 cI cJ cZ cB (a0 3) a3 c3' [])))) (some (.int r)) := by
  refine ct_of (cc := cX8_play) (maxL := 2) (ret := (some .int)) (by decide) (Nat.le_of_ble_eq_true rfl) ?_
  intro p e s m below meth c A S hr hlocks hK hN hZ hA H locs hW ls hl
  have S : CallFix p m c cX8_play 2 s (List.toArray [.ref h0, .int p1]) G RX8 := S
  have hl : lv_has ls 2 [(0, .ref h0), (1, .int p1)] := hl
  have h := hm
  rw [md_X8_play] at h
  have hW : wd (dC, dI) A s.heap (clX8 cI cJ cZ cB h0 a0 (c0 2) (c0 5) (w0 6 0) (w0 7 0) (clX1 cI cJ cZ cB (a0 0) a1 (c1 1) (c1 2 0) (c1 3) (c1 4 0) (c1 5) (c1 6 0) (w1 7) (c1 8 0) (clX3 cI cJ cZ cB (a1 0) a2 (c2 0) (c2 1) (c2 2) (c2 3) (c2 4) (c2 5 0) (c2 6 0) (c2 7 0) (c2 8 0) (c2 9 0) (clX3 cI cJ cZ cB (a0 3) a3 (c3 0) (c3 1) (c3 2) (c3 3) (c3 4) (c3 5 0) (c3 6 0) (c3 7 0) (c3 8 0) (c3 9 0) [])))) H locs := hW
  refine lv_iconst (v := (0 : Int32)) S.1 S.2.1 dX8_play_0 ki_0 ?_
  refine lv_iload_n S.1 S.2.1 dX8_play_1 rfl (lv_at hl 1 rfl) ?_
  refine lv_iconst (v := (2 : Int32)) S.1 S.2.1 dX8_play_2 ki_2 ?_
  obtain ⟨r1, hy2, h⟩ := bd1_e h
  refine ks0 S hK hN hZ hA hW (rest := []) (t_X8_within l dC dI cI cJ cZ cB zz (0 : Int32) p1 (2 : Int32) _  hy2) wl_X8_71 wv_X8_within rfl rfl ⟨Nat.le_of_ble_eq_true rfl, Nat.le_of_ble_eq_true rfl⟩ [] (clX8 cI cJ cZ cB h0 a0 (c0 2) (c0 5) (w0 6 0) (w0 7 0) (clX1 cI cJ cZ cB (a0 0) a1 (c1 1) (c1 2 0) (c1 3) (c1 4 0) (c1 5) (c1 6 0) (w1 7) (c1 8 0) (clX3 cI cJ cZ cB (a1 0) a2 (c2 0) (c2 1) (c2 2) (c2 3) (c2 4) (c2 5 0) (c2 6 0) (c2 7 0) (c2 8 0) (c2 9 0) (clX3 cI cJ cZ cB (a0 3) a3 (c3 0) (c3 1) (c3 2) (c3 3) (c3 4) (c3 5 0) (c3 6 0) (c3 7 0) (c3 8 0) (c3 9 0) [])))) rfl rfl hl.1 rfl (Nat.le_of_ble_eq_true rfl) dX8_play_3 [.int r1] rfl (fun H locs hW => ?_)
  refine lv_if_ne (tgt := 17) S.1 S.2.1 dX8_play_6 (by decide) (fun u3 => ?_) (fun u3 => ?_)
  · have h := of_n u3 h
    refine lv_aload_n S.1 S.2.1 dX8_play_17 rfl (lv_at hl 0 rfl) ?_
    refine gf (C := RX8) (T := TX8) (N := 8) (ci := 4) (k := 3) S hK hW wu_X8 rfl (by decide) wf_X8_27 0 rfl rfl dX8_play_18 ?_
    refine lv_aload_n S.1 S.2.1 dX8_play_21 rfl (lv_at hl 0 rfl) ?_
    refine gf (C := RX8) (T := TX8) (N := 8) (ci := 4) (k := 0) S hK hW wu_X8 rfl (by decide) wf_X8_10 0 rfl rfl dX8_play_22 ?_
    refine gf (C := RX1) (T := TX1) (N := 9) (ci := 0) (k := 0) S hK hW wu_X1 rfl (by decide) wf_X8_57 4 rfl rfl dX8_play_25 ?_
    obtain ⟨cv4, hy5, h⟩ := bd1_e h
    refine kv (clX8 cI cJ cZ cB h0 a0 (c0 2) (c0 5) (w0 6 0) (w0 7 0) (clX1 cI cJ cZ cB (a0 0) a1 (c1 1) (c1 2 0) (c1 3) (c1 4 0) (c1 5) (c1 6 0) (w1 7) (c1 8 0) (clX3 cI cJ cZ cB (a1 0) a2 (c2 0) (c2 1) (c2 2) (c2 3) (c2 4) (c2 5 0) (c2 6 0) (c2 7 0) (c2 8 0) (c2 9 0) (clX3 cI cJ cZ cB (a0 3) a3 (cv4 0) (cv4 1) (cv4 2) (cv4 3) (cv4 4) (cv4 5 0) (cv4 6 0) (cv4 7 0) (cv4 8 0) (cv4 9 0) [])))) S hK hN hZ hA hW (rest := []) (t_X3_copy l dC dI cI cJ cZ cB zz (a1 0) a2 (a0 3) a3 F c2 c3 _  hy5) wl_X8_113 wv_X3_copy rfl rfl ⟨Nat.le_of_ble_eq_true rfl, Nat.le_of_ble_eq_true rfl⟩ (clX8 cI cJ cZ cB h0 a0 (c0 2) (c0 5) (w0 6 0) (w0 7 0) (clX1 cI cJ cZ cB (a0 0) a1 (c1 1) (c1 2 0) (c1 3) (c1 4 0) (c1 5) (c1 6 0) (w1 7) (c1 8 0) [])) [] rfl rfl rfl 15 rfl rfl rfl rfl hl.1 rfl (Nat.le_of_ble_eq_true rfl) dX8_play_28 [] rfl (fun H locs hW => ?_)
    refine lv_iload_n S.1 S.2.1 dX8_play_31 rfl (lv_at hl 1 rfl) ?_
    refine lv_if_ne (tgt := 50) S.1 S.2.1 dX8_play_32 (by decide) (fun u6 => ?_) (fun u6 => ?_)
    · have h := of_n u6 h
      refine lv_iload_n S.1 S.2.1 dX8_play_50 rfl (lv_at hl 1 rfl) ?_
      refine lv_iconst (v := (1 : Int32)) S.1 S.2.1 dX8_play_51 ki_1 ?_
      refine lv_icmp_ne (tgt := 65) S.1 S.2.1 dX8_play_52 (by decide) (fun u7 => ?_) (fun u7 => ?_)
      · have h := of_n u7 h
        refine lv_aload_n S.1 S.2.1 dX8_play_65 rfl (lv_at hl 0 rfl) ?_
        refine gf (C := RX8) (T := TX8) (N := 8) (ci := 4) (k := 3) S hK hW wu_X8 rfl (by decide) wf_X8_27 0 rfl rfl dX8_play_66 ?_
        obtain ⟨r8, cv9, hy10, h⟩ := bd2_e h
        refine ks (clX8 cI cJ cZ cB h0 a0 (c0 2) (c0 5) (w0 6 0) (w0 7 0) (clX1 cI cJ cZ cB (a0 0) a1 (c1 1) (c1 2 0) (c1 3) (c1 4 0) (c1 5) (c1 6 0) (w1 7) (c1 8 0) (clX3 cI cJ cZ cB (a1 0) a2 (c2 0) (c2 1) (c2 2) (c2 3) (c2 4) (c2 5 0) (c2 6 0) (c2 7 0) (c2 8 0) (c2 9 0) (clX3 cI cJ cZ cB (a0 3) a3 (cv9 0) (cv9 1) (cv9 2) (cv9 3) (cv9 4) (cv9 5 0) (cv9 6 0) (cv9 7 0) (cv9 8 0) (cv9 9 0) [])))) S hK hN hZ hA hW (rest := []) (t_X0_whatToSay l dC dI cI cJ cZ cB zz (a0 3) a3 F cv4 _ _  hy10) wl_X8_194 wv_X0_whatToSay rfl rfl ⟨Nat.le_of_ble_eq_true rfl, Nat.le_of_ble_eq_true rfl⟩ (clX8 cI cJ cZ cB h0 a0 (c0 2) (c0 5) (w0 6 0) (w0 7 0) (clX1 cI cJ cZ cB (a0 0) a1 (c1 1) (c1 2 0) (c1 3) (c1 4 0) (c1 5) (c1 6 0) (w1 7) (c1 8 0) (clX3 cI cJ cZ cB (a1 0) a2 (c2 0) (c2 1) (c2 2) (c2 3) (c2 4) (c2 5 0) (c2 6 0) (c2 7 0) (c2 8 0) (c2 9 0) []))) [] rfl rfl rfl rfl hl.1 rfl (Nat.le_of_ble_eq_true rfl) dX8_play_69 [.int r8] rfl (fun H locs hW => ?_)
        have f11 := Option.some.inj h
        obtain ⟨f12, f13⟩ := Prod.mk.inj f11
        obtain ⟨f14, f15⟩ := Prod.mk.inj f13
        subst f12
        subst f14
        subst f15
        exact ri S hr hlocks hW dX8_play_72
      · have h := of_p u7 h
        refine lv_aload_n S.1 S.2.1 dX8_play_55 rfl (lv_at hl 0 rfl) ?_
        refine gf (C := RX8) (T := TX8) (N := 8) (ci := 4) (k := 3) S hK hW wu_X8 rfl (by decide) wf_X8_27 0 rfl rfl dX8_play_56 ?_
        obtain ⟨r16, cv17, hy18, h⟩ := bd2_e h
        refine ks (clX8 cI cJ cZ cB h0 a0 (c0 2) (c0 5) (w0 6 0) (w0 7 0) (clX1 cI cJ cZ cB (a0 0) a1 (c1 1) (c1 2 0) (c1 3) (c1 4 0) (c1 5) (c1 6 0) (w1 7) (c1 8 0) (clX3 cI cJ cZ cB (a1 0) a2 (c2 0) (c2 1) (c2 2) (c2 3) (c2 4) (c2 5 0) (c2 6 0) (c2 7 0) (c2 8 0) (c2 9 0) (clX3 cI cJ cZ cB (a0 3) a3 (cv17 0) (cv17 1) (cv17 2) (cv17 3) (cv17 4) (cv17 5 0) (cv17 6 0) (cv17 7 0) (cv17 8 0) (cv17 9 0) [])))) S hK hN hZ hA hW (rest := []) (t_X0_whetherToBow l dC dI cI cJ cZ cB zz (a0 3) a3 F cv4 _ _  hy18) wl_X8_190 wv_X0_whetherToBow rfl rfl ⟨Nat.le_of_ble_eq_true rfl, Nat.le_of_ble_eq_true rfl⟩ (clX8 cI cJ cZ cB h0 a0 (c0 2) (c0 5) (w0 6 0) (w0 7 0) (clX1 cI cJ cZ cB (a0 0) a1 (c1 1) (c1 2 0) (c1 3) (c1 4 0) (c1 5) (c1 6 0) (w1 7) (c1 8 0) (clX3 cI cJ cZ cB (a1 0) a2 (c2 0) (c2 1) (c2 2) (c2 3) (c2 4) (c2 5 0) (c2 6 0) (c2 7 0) (c2 8 0) (c2 9 0) []))) [] rfl rfl rfl rfl hl.1 rfl (Nat.le_of_ble_eq_true rfl) dX8_play_59 [.int r16] rfl (fun H locs hW => ?_)
        refine lv_goto (tgt := 72) S.1 S.2.1 dX8_play_62 (by decide) ?_
        have f19 := Option.some.inj h
        obtain ⟨f20, f21⟩ := Prod.mk.inj f19
        obtain ⟨f22, f23⟩ := Prod.mk.inj f21
        subst f20
        subst f22
        subst f23
        exact ri S hr hlocks hW dX8_play_72
    · have h := of_p u6 h
      refine lv_aload_n S.1 S.2.1 dX8_play_35 rfl (lv_at hl 0 rfl) ?_
      refine gf (C := RX8) (T := TX8) (N := 8) (ci := 4) (k := 3) S hK hW wu_X8 rfl (by decide) wf_X8_27 0 rfl rfl dX8_play_36 ?_
      refine lv_sipush (v := (-1000 : Int32)) S.1 S.2.1 dX8_play_39 ks_m1000 ?_
      refine lv_sipush (v := (1000 : Int32)) S.1 S.2.1 dX8_play_42 ks_1000 ?_
      refine lv_iconst (v := (0 : Int32)) S.1 S.2.1 dX8_play_45 ki_0 ?_
      obtain ⟨r24, cv25, hy26, h⟩ := bd2_e h
      refine kn (clX8 cI cJ cZ cB h0 a0 (c0 2) (c0 5) (w0 6 0) (w0 7 0) (clX1 cI cJ cZ cB (a0 0) a1 (c1 1) (c1 2 0) (c1 3) (c1 4 0) (c1 5) (c1 6 0) (w1 7) (c1 8 0) (clX3 cI cJ cZ cB (a1 0) a2 (c2 0) (c2 1) (c2 2) (c2 3) (c2 4) (c2 5 0) (c2 6 0) (c2 7 0) (c2 8 0) (c2 9 0) (clX3 cI cJ cZ cB (a0 3) a3 (cv25 0) (cv25 1) (cv25 2) (cv25 3) (cv25 4) (cv25 5 0) (cv25 6 0) (cv25 7 0) (cv25 8 0) (cv25 9 0) [])))) S hK hN hZ hA hW (rest := []) (t_wD8 l dC dI cI cJ cZ cB zz (a0 3) a3 F cv4 (-1000 : Int32) (1000 : Int32) (0 : Int32) _ _  hy26) wx_X8_186 wv_X0_worth rfl rfl ⟨Nat.le_of_ble_eq_true rfl, Nat.le_of_ble_eq_true rfl⟩ (clX8 cI cJ cZ cB h0 a0 (c0 2) (c0 5) (w0 6 0) (w0 7 0) (clX1 cI cJ cZ cB (a0 0) a1 (c1 1) (c1 2 0) (c1 3) (c1 4 0) (c1 5) (c1 6 0) (w1 7) (c1 8 0) (clX3 cI cJ cZ cB (a1 0) a2 (c2 0) (c2 1) (c2 2) (c2 3) (c2 4) (c2 5 0) (c2 6 0) (c2 7 0) (c2 8 0) (c2 9 0) []))) [] rfl rfl rfl rfl hl.1 rfl (Nat.le_of_ble_eq_true rfl) dX8_play_46 [.int r24] rfl (fun H locs hW => ?_)
      have f27 := Option.some.inj h
      obtain ⟨f28, f29⟩ := Prod.mk.inj f27
      obtain ⟨f30, f31⟩ := Prod.mk.inj f29
      subst f28
      subst f30
      subst f31
      exact ri S hr hlocks hW dX8_play_49
  · have h := of_p u3 h
    refine lv_aload_n S.1 S.2.1 dX8_play_9 rfl (lv_at hl 0 rfl) ?_
    refine lv_sipush (v := (-1000 : Int32)) S.1 S.2.1 dX8_play_10 ks_m1000 ?_
    obtain ⟨r32, cv33, hy34, h⟩ := bd2_e h
    refine kv (clX8 cI cJ cZ cB h0 a0 (cv33 2) (cv33 5) (w0 6 0) (w0 7 0) (clX1 cI cJ cZ cB (a0 0) a1 (c1 1) (c1 2 0) (c1 3) (c1 4 0) (c1 5) (c1 6 0) (w1 7) (c1 8 0) (clX3 cI cJ cZ cB (a1 0) a2 (c2 0) (c2 1) (c2 2) (c2 3) (c2 4) (c2 5 0) (c2 6 0) (c2 7 0) (c2 8 0) (c2 9 0) (clX3 cI cJ cZ cB (a0 3) a3 (c3 0) (c3 1) (c3 2) (c3 3) (c3 4) (c3 5 0) (c3 6 0) (c3 7 0) (c3 8 0) (c3 9 0) [])))) S hK hN hZ hA hW (rest := []) (t_X8_refuseAsBad l dC dI cI cJ cZ cB zz h0 a0 c0 w0 (-1000 : Int32) _ _  hy34) wl_X8_53 wv_X8_refuseAsBad rfl rfl ⟨Nat.le_of_ble_eq_true rfl, Nat.le_of_ble_eq_true rfl⟩ [] (clX1 cI cJ cZ cB (a0 0) a1 (c1 1) (c1 2 0) (c1 3) (c1 4 0) (c1 5) (c1 6 0) (w1 7) (c1 8 0) (clX3 cI cJ cZ cB (a1 0) a2 (c2 0) (c2 1) (c2 2) (c2 3) (c2 4) (c2 5 0) (c2 6 0) (c2 7 0) (c2 8 0) (c2 9 0) (clX3 cI cJ cZ cB (a0 3) a3 (c3 0) (c3 1) (c3 2) (c3 3) (c3 4) (c3 5 0) (c3 6 0) (c3 7 0) (c3 8 0) (c3 9 0) []))) rfl rfl rfl 0 rfl rfl rfl rfl hl.1 rfl (Nat.le_of_ble_eq_true rfl) dX8_play_13 [.int r32] rfl (fun H locs hW => ?_)
    have f35 := Option.some.inj h
    obtain ⟨f36, f37⟩ := Prod.mk.inj f35
    obtain ⟨f38, f39⟩ := Prod.mk.inj f37
    subst f36
    subst f38
    subst f39
    exact ri S hr hlocks hW dX8_play_16
abbrev rmX8_proof : Room := { frames := 6, cells := 0, slots := 0, locals := 139 }
set_option maxHeartbeats 4000000 in
set_option maxRecDepth 100000 in
theorem t_X8_proof (l : Launch) (dC : Nat → ClassId) (dI : Nat → Nat → Nat) (cI cJ cZ cB : ClassId) (zz : ZT)  (h0 : Nat) (a0 : Nat → Nat) (a1 : Nat → Nat) (a2 : Nat → Nat) (a3 : Nat → Nat) (F : Nat) (c0 : Nat → Nat → Int32) (w0 : Nat → Nat → Int64) (c1 : Nat → Nat → Int32) (w1 : Nat → Nat → Int64) (c2 : Nat → Nat → Int32) (c3 : Nat → Nat → Int32) (p1 : Int32) (r : Int32) (c0' : Nat → Nat → Int32) (c3' : Nat → Nat → Int32) (hm : md_X8_proof F c0 w0 c1 w1 c2 c3 p1 = some (r, c0', c3')) : ct l (dC, dI) zz (ty4 cI cJ cZ cB) yX8_proof cX8_proof 2 (some .int) rmX8_proof [.ref h0, .int p1] (cwX8 cI cJ cZ cB h0 a0 c0 w0 (cwX1 cI cJ cZ cB (a0 0) a1 c1 w1 (cwX3 cI cJ cZ cB (a1 0) a2 c2 (cwX3 cI cJ cZ cB (a0 3) a3 c3 [])))) (cwX8 cI cJ cZ cB h0 a0 c0' w0 (cwX1 cI cJ cZ cB (a0 0) a1 c1 w1 (cwX3 cI cJ cZ cB (a1 0) a2 c2 (cwX3 cI cJ cZ cB (a0 3) a3 c3' [])))) (some (.int r)) := by
  refine ct_of (cc := cX8_proof) (maxL := 2) (ret := (some .int)) (by decide) (Nat.le_of_ble_eq_true rfl) ?_
  intro p e s m below meth c A S hr hlocks hK hN hZ hA H locs hW ls hl
  have S : CallFix p m c cX8_proof 2 s (List.toArray [.ref h0, .int p1]) G RX8 := S
  have hl : lv_has ls 2 [(0, .ref h0), (1, .int p1)] := hl
  have h := hm
  rw [md_X8_proof] at h
  have hW : wd (dC, dI) A s.heap (clX8 cI cJ cZ cB h0 a0 (c0 2) (c0 5) (w0 6 0) (w0 7 0) (clX1 cI cJ cZ cB (a0 0) a1 (c1 1) (c1 2 0) (c1 3) (c1 4 0) (c1 5) (c1 6 0) (w1 7) (c1 8 0) (clX3 cI cJ cZ cB (a1 0) a2 (c2 0) (c2 1) (c2 2) (c2 3) (c2 4) (c2 5 0) (c2 6 0) (c2 7 0) (c2 8 0) (c2 9 0) (clX3 cI cJ cZ cB (a0 3) a3 (c3 0) (c3 1) (c3 2) (c3 3) (c3 4) (c3 5 0) (c3 6 0) (c3 7 0) (c3 8 0) (c3 9 0) [])))) H locs := hW
  refine lv_iload_n S.1 S.2.1 dX8_proof_0 rfl (lv_at hl 1 rfl) ?_
  obtain ⟨r1, hy2, h⟩ := bd1_e h
  refine ks0 S hK hN hZ hA hW (rest := []) (t_X8_isChair l dC dI cI cJ cZ cB zz p1 _  hy2) wl_X8_197 wv_X8_isChair rfl rfl ⟨Nat.le_of_ble_eq_true rfl, Nat.le_of_ble_eq_true rfl⟩ [] (clX8 cI cJ cZ cB h0 a0 (c0 2) (c0 5) (w0 6 0) (w0 7 0) (clX1 cI cJ cZ cB (a0 0) a1 (c1 1) (c1 2 0) (c1 3) (c1 4 0) (c1 5) (c1 6 0) (w1 7) (c1 8 0) (clX3 cI cJ cZ cB (a1 0) a2 (c2 0) (c2 1) (c2 2) (c2 3) (c2 4) (c2 5 0) (c2 6 0) (c2 7 0) (c2 8 0) (c2 9 0) (clX3 cI cJ cZ cB (a0 3) a3 (c3 0) (c3 1) (c3 2) (c3 3) (c3 4) (c3 5 0) (c3 6 0) (c3 7 0) (c3 8 0) (c3 9 0) [])))) rfl rfl hl.1 rfl (Nat.le_of_ble_eq_true rfl) dX8_proof_1 [.int r1] rfl (fun H locs hW => ?_)
  refine lv_if_ne (tgt := 14) S.1 S.2.1 dX8_proof_4 (by decide) (fun u3 => ?_) (fun u3 => ?_)
  · have h := of_n u3 h
    refine lv_aload_n S.1 S.2.1 dX8_proof_14 rfl (lv_at hl 0 rfl) ?_
    refine gf (C := RX8) (T := TX8) (N := 8) (ci := 4) (k := 3) S hK hW wu_X8 rfl (by decide) wf_X8_27 0 rfl rfl dX8_proof_15 ?_
    refine lv_aload_n S.1 S.2.1 dX8_proof_18 rfl (lv_at hl 0 rfl) ?_
    refine gf (C := RX8) (T := TX8) (N := 8) (ci := 4) (k := 0) S hK hW wu_X8 rfl (by decide) wf_X8_10 0 rfl rfl dX8_proof_19 ?_
    refine gf (C := RX1) (T := TX1) (N := 9) (ci := 0) (k := 0) S hK hW wu_X1 rfl (by decide) wf_X8_57 4 rfl rfl dX8_proof_22 ?_
    obtain ⟨cv4, hy5, h⟩ := bd1_e h
    refine kv (clX8 cI cJ cZ cB h0 a0 (c0 2) (c0 5) (w0 6 0) (w0 7 0) (clX1 cI cJ cZ cB (a0 0) a1 (c1 1) (c1 2 0) (c1 3) (c1 4 0) (c1 5) (c1 6 0) (w1 7) (c1 8 0) (clX3 cI cJ cZ cB (a1 0) a2 (c2 0) (c2 1) (c2 2) (c2 3) (c2 4) (c2 5 0) (c2 6 0) (c2 7 0) (c2 8 0) (c2 9 0) (clX3 cI cJ cZ cB (a0 3) a3 (cv4 0) (cv4 1) (cv4 2) (cv4 3) (cv4 4) (cv4 5 0) (cv4 6 0) (cv4 7 0) (cv4 8 0) (cv4 9 0) [])))) S hK hN hZ hA hW (rest := []) (t_X3_copy l dC dI cI cJ cZ cB zz (a1 0) a2 (a0 3) a3 F c2 c3 _  hy5) wl_X8_113 wv_X3_copy rfl rfl ⟨Nat.le_of_ble_eq_true rfl, Nat.le_of_ble_eq_true rfl⟩ (clX8 cI cJ cZ cB h0 a0 (c0 2) (c0 5) (w0 6 0) (w0 7 0) (clX1 cI cJ cZ cB (a0 0) a1 (c1 1) (c1 2 0) (c1 3) (c1 4 0) (c1 5) (c1 6 0) (w1 7) (c1 8 0) [])) [] rfl rfl rfl 15 rfl rfl rfl rfl hl.1 rfl (Nat.le_of_ble_eq_true rfl) dX8_proof_25 [] rfl (fun H locs hW => ?_)
    refine lv_aload_n S.1 S.2.1 dX8_proof_28 rfl (lv_at hl 0 rfl) ?_
    refine gf (C := RX8) (T := TX8) (N := 8) (ci := 4) (k := 3) S hK hW wu_X8 rfl (by decide) wf_X8_27 0 rfl rfl dX8_proof_29 ?_
    refine lv_iload_n S.1 S.2.1 dX8_proof_32 rfl (lv_at hl 1 rfl) ?_
    obtain ⟨r6, cv7, hy8, h⟩ := bd2_e h
    refine ks (clX8 cI cJ cZ cB h0 a0 (c0 2) (c0 5) (w0 6 0) (w0 7 0) (clX1 cI cJ cZ cB (a0 0) a1 (c1 1) (c1 2 0) (c1 3) (c1 4 0) (c1 5) (c1 6 0) (w1 7) (c1 8 0) (clX3 cI cJ cZ cB (a1 0) a2 (c2 0) (c2 1) (c2 2) (c2 3) (c2 4) (c2 5 0) (c2 6 0) (c2 7 0) (c2 8 0) (c2 9 0) (clX3 cI cJ cZ cB (a0 3) a3 (cv7 0) (cv7 1) (cv7 2) (cv7 3) (cv7 4) (cv7 5 0) (cv7 6 0) (cv7 7 0) (cv7 8 0) (cv7 9 0) [])))) S hK hN hZ hA hW (rest := []) (t_X4_proofFor l dC dI cI cJ cZ cB zz (a0 3) a3 F cv4 p1 _ _  hy8) wl_X8_200 wv_X4_proofFor rfl rfl ⟨Nat.le_of_ble_eq_true rfl, Nat.le_of_ble_eq_true rfl⟩ (clX8 cI cJ cZ cB h0 a0 (c0 2) (c0 5) (w0 6 0) (w0 7 0) (clX1 cI cJ cZ cB (a0 0) a1 (c1 1) (c1 2 0) (c1 3) (c1 4 0) (c1 5) (c1 6 0) (w1 7) (c1 8 0) (clX3 cI cJ cZ cB (a1 0) a2 (c2 0) (c2 1) (c2 2) (c2 3) (c2 4) (c2 5 0) (c2 6 0) (c2 7 0) (c2 8 0) (c2 9 0) []))) [] rfl rfl rfl rfl hl.1 rfl (Nat.le_of_ble_eq_true rfl) dX8_proof_33 [.int r6] rfl (fun H locs hW => ?_)
    have f9 := Option.some.inj h
    obtain ⟨f10, f11⟩ := Prod.mk.inj f9
    obtain ⟨f12, f13⟩ := Prod.mk.inj f11
    subst f10
    subst f12
    subst f13
    exact ri S hr hlocks hW dX8_proof_36
  · have h := of_p u3 h
    refine lv_aload_n S.1 S.2.1 dX8_proof_7 rfl (lv_at hl 0 rfl) ?_
    refine lv_bipush (v := (-2 : Int32)) S.1 S.2.1 dX8_proof_8 kb_m2 ?_
    obtain ⟨r14, cv15, hy16, h⟩ := bd2_e h
    refine kv (clX8 cI cJ cZ cB h0 a0 (cv15 2) (cv15 5) (w0 6 0) (w0 7 0) (clX1 cI cJ cZ cB (a0 0) a1 (c1 1) (c1 2 0) (c1 3) (c1 4 0) (c1 5) (c1 6 0) (w1 7) (c1 8 0) (clX3 cI cJ cZ cB (a1 0) a2 (c2 0) (c2 1) (c2 2) (c2 3) (c2 4) (c2 5 0) (c2 6 0) (c2 7 0) (c2 8 0) (c2 9 0) (clX3 cI cJ cZ cB (a0 3) a3 (c3 0) (c3 1) (c3 2) (c3 3) (c3 4) (c3 5 0) (c3 6 0) (c3 7 0) (c3 8 0) (c3 9 0) [])))) S hK hN hZ hA hW (rest := []) (t_X8_refuseAsBad l dC dI cI cJ cZ cB zz h0 a0 c0 w0 (-2 : Int32) _ _  hy16) wl_X8_53 wv_X8_refuseAsBad rfl rfl ⟨Nat.le_of_ble_eq_true rfl, Nat.le_of_ble_eq_true rfl⟩ [] (clX1 cI cJ cZ cB (a0 0) a1 (c1 1) (c1 2 0) (c1 3) (c1 4 0) (c1 5) (c1 6 0) (w1 7) (c1 8 0) (clX3 cI cJ cZ cB (a1 0) a2 (c2 0) (c2 1) (c2 2) (c2 3) (c2 4) (c2 5 0) (c2 6 0) (c2 7 0) (c2 8 0) (c2 9 0) (clX3 cI cJ cZ cB (a0 3) a3 (c3 0) (c3 1) (c3 2) (c3 3) (c3 4) (c3 5 0) (c3 6 0) (c3 7 0) (c3 8 0) (c3 9 0) []))) rfl rfl rfl 0 rfl rfl rfl rfl hl.1 rfl (Nat.le_of_ble_eq_true rfl) dX8_proof_10 [.int r14] rfl (fun H locs hW => ?_)
    have f17 := Option.some.inj h
    obtain ⟨f18, f19⟩ := Prod.mk.inj f17
    obtain ⟨f20, f21⟩ := Prod.mk.inj f19
    subst f18
    subst f20
    subst f21
    exact ri S hr hlocks hW dX8_proof_13
abbrev rmX8_ends : Room := { frames := 1, cells := 0, slots := 0, locals := 22 }
set_option maxHeartbeats 4000000 in
set_option maxRecDepth 100000 in
theorem t_X8_ends (l : Launch) (dC : Nat → ClassId) (dI : Nat → Nat → Nat) (cI cJ cZ cB : ClassId) (zz : ZT)  (h0 : Nat) (a0 : Nat → Nat) (a1 : Nat → Nat) (c0 : Nat → Nat → Int32) (w0 : Nat → Nat → Int64) (c1 : Nat → Nat → Int32) (w1 : Nat → Nat → Int64) (p1 : Int32) (r : Int32) (c0' : Nat → Nat → Int32) (c1' : Nat → Nat → Int32) (hm : md_X8_ends c0 w0 c1 w1 p1 = some (r, c0', c1')) : ct l (dC, dI) zz (ty4 cI cJ cZ cB) yX8_ends cX8_ends 2 (some .int) rmX8_ends [.ref h0, .int p1] (cwX8 cI cJ cZ cB h0 a0 c0 w0 (cwX1 cI cJ cZ cB (a0 0) a1 c1 w1 [])) (cwX8 cI cJ cZ cB h0 a0 c0' w0 (cwX1 cI cJ cZ cB (a0 0) a1 c1' w1 [])) (some (.int r)) := by
  refine ct_of (cc := cX8_ends) (maxL := 2) (ret := (some .int)) (by decide) (Nat.le_of_ble_eq_true rfl) ?_
  intro p e s m below meth c A S hr hlocks hK hN hZ hA H locs hW ls hl
  have S : CallFix p m c cX8_ends 2 s (List.toArray [.ref h0, .int p1]) G RX8 := S
  have hl : lv_has ls 2 [(0, .ref h0), (1, .int p1)] := hl
  have h := hm
  rw [md_X8_ends] at h
  have hW : wd (dC, dI) A s.heap (clX8 cI cJ cZ cB h0 a0 (c0 2) (c0 5) (w0 6 0) (w0 7 0) (clX1 cI cJ cZ cB (a0 0) a1 (c1 1) (c1 2 0) (c1 3) (c1 4 0) (c1 5) (c1 6 0) (w1 7) (c1 8 0) [])) H locs := hW
  refine lv_bipush (v := (-99 : Int32)) S.1 S.2.1 dX8_ends_0 kb_m99 ?_
  refine lv_iload_n S.1 S.2.1 dX8_ends_2 rfl (lv_at hl 1 rfl) ?_
  refine lv_bipush (v := (99 : Int32)) S.1 S.2.1 dX8_ends_3 kb_99 ?_
  obtain ⟨r1, hy2, h⟩ := bd1_e h
  refine ks0 S hK hN hZ hA hW (rest := []) (t_X8_within l dC dI cI cJ cZ cB zz (-99 : Int32) p1 (99 : Int32) _  hy2) wl_X8_71 wv_X8_within rfl rfl ⟨Nat.le_of_ble_eq_true rfl, Nat.le_of_ble_eq_true rfl⟩ [] (clX8 cI cJ cZ cB h0 a0 (c0 2) (c0 5) (w0 6 0) (w0 7 0) (clX1 cI cJ cZ cB (a0 0) a1 (c1 1) (c1 2 0) (c1 3) (c1 4 0) (c1 5) (c1 6 0) (w1 7) (c1 8 0) [])) rfl rfl hl.1 rfl (Nat.le_of_ble_eq_true rfl) dX8_ends_5 [.int r1] rfl (fun H locs hW => ?_)
  refine lv_if_ne (tgt := 18) S.1 S.2.1 dX8_ends_8 (by decide) (fun u3 => ?_) (fun u3 => ?_)
  · have h := of_n u3 h
    refine lv_aload_n S.1 S.2.1 dX8_ends_18 rfl (lv_at hl 0 rfl) ?_
    refine gf (C := RX8) (T := TX8) (N := 8) (ci := 4) (k := 0) S hK hW wu_X8 rfl (by decide) wf_X8_10 0 rfl rfl dX8_ends_19 ?_
    refine gf (C := RX1) (T := TX1) (N := 9) (ci := 0) (k := 2) S hK hW wu_X1 rfl (by decide) wf_X8_206 4 rfl rfl dX8_ends_22 ?_
    refine lv_iconst (v := (4 : Int32)) S.1 S.2.1 dX8_ends_25 ki_4 ?_
    refine lv_icmp_lt (tgt := 34) S.1 S.2.1 dX8_ends_26 (by decide) (fun u4 => ?_) (fun u4 => ?_)
    · have h := of_p u4 h
      refine lv_aload_n S.1 S.2.1 dX8_ends_34 rfl (lv_at hl 0 rfl) ?_
      refine gf (C := RX8) (T := TX8) (N := 8) (ci := 4) (k := 0) S hK hW wu_X8 rfl (by decide) wf_X8_10 0 rfl rfl dX8_ends_35 ?_
      refine gf (C := RX1) (T := TX1) (N := 9) (ci := 0) (k := 1) S hK hW wu_X1 rfl (by decide) wf_X8_209 4 rfl rfl dX8_ends_38 ?_
      refine lv_aload_n S.1 S.2.1 dX8_ends_41 rfl (lv_at hl 0 rfl) ?_
      refine gf (C := RX8) (T := TX8) (N := 8) (ci := 4) (k := 0) S hK hW wu_X8 rfl (by decide) wf_X8_10 0 rfl rfl dX8_ends_42 ?_
      refine gf (C := RX1) (T := TX1) (N := 9) (ci := 0) (k := 2) S hK hW wu_X1 rfl (by decide) wf_X8_206 4 rfl rfl dX8_ends_45 ?_
      refine lv_iload_n S.1 S.2.1 dX8_ends_48 rfl (lv_at hl 1 rfl) ?_
      obtain ⟨z5, h⟩ := of_g h
      refine ist S hK hW rfl 5 rfl z5 dX8_ends_49 (fun H locs hW => ?_)
      have hW : wd (dC, dI) A s.heap (clX8 cI cJ cZ cB h0 a0 (c0 2) (c0 5) (w0 6 0) (w0 7 0) (clX1 cI cJ cZ cB (a0 0) a1 (upd (c1 1) (ix (c1 2 0)) p1) (c1 2 0) (c1 3) (c1 4 0) (c1 5) (c1 6 0) (w1 7) (c1 8 0) [])) H locs := hW
      refine lv_aload_n S.1 S.2.1 dX8_ends_50 rfl (lv_at hl 0 rfl) ?_
      refine gf (C := RX8) (T := TX8) (N := 8) (ci := 4) (k := 0) S hK hW wu_X8 rfl (by decide) wf_X8_10 0 rfl rfl dX8_ends_51 ?_
      refine lv_dup S.1 S.2.1 dX8_ends_54 rfl ?_
      refine gf (C := RX1) (T := TX1) (N := 9) (ci := 0) (k := 2) S hK hW wu_X1 rfl (by decide) wf_X8_206 4 rfl rfl dX8_ends_55 ?_
      refine lv_iconst (v := (1 : Int32)) S.1 S.2.1 dX8_ends_58 ki_1 ?_
      refine lv_iadd S.1 S.2.1 dX8_ends_59 ?_
      refine pf (C := RX1) (T := TX1) (N := 9) (ci := 0) (k := 2) (ty := .int) S hK hW wu_X1 rfl (by decide) tyX1 tyX1_ok nmX1 wf_X8_206 4 rfl rfl rfl rfl rfl (Nat.le_of_ble_eq_true rfl) dX8_ends_60 (fun H locs hW => ?_)
      have hW : wd (dC, dI) A s.heap (clX8 cI cJ cZ cB h0 a0 (c0 2) (c0 5) (w0 6 0) (w0 7 0) (clX1 cI cJ cZ cB (a0 0) a1 (upd (c1 1) (ix (c1 2 0)) p1) ((c1 2 0) + (1 : Int32)) (c1 3) (c1 4 0) (c1 5) (c1 6 0) (w1 7) (c1 8 0) [])) H locs := hW
      refine lv_aload_n S.1 S.2.1 dX8_ends_63 rfl (lv_at hl 0 rfl) ?_
      refine gf (C := RX8) (T := TX8) (N := 8) (ci := 4) (k := 0) S hK hW wu_X8 rfl (by decide) wf_X8_10 0 rfl rfl dX8_ends_64 ?_
      refine gf (C := RX1) (T := TX1) (N := 9) (ci := 0) (k := 2) S hK hW wu_X1 rfl (by decide) wf_X8_206 4 rfl rfl dX8_ends_67 ?_
      have f6 := Option.some.inj h
      obtain ⟨f7, f8⟩ := Prod.mk.inj f6
      obtain ⟨f9, f10⟩ := Prod.mk.inj f8
      subst f7
      subst f9
      subst f10
      exact ri S hr hlocks hW dX8_ends_70
    · have h := of_n u4 h
      refine lv_aload_n S.1 S.2.1 dX8_ends_29 rfl (lv_at hl 0 rfl) ?_
      obtain ⟨r11, cv12, hy13, h⟩ := bd2_e h
      refine kv (clX8 cI cJ cZ cB h0 a0 (cv12 2) (cv12 5) (w0 6 0) (w0 7 0) (clX1 cI cJ cZ cB (a0 0) a1 (c1 1) (c1 2 0) (c1 3) (c1 4 0) (c1 5) (c1 6 0) (w1 7) (c1 8 0) [])) S hK hN hZ hA hW (rest := []) (t_X8_refuseAsFull l dC dI cI cJ cZ cB zz h0 a0 c0 w0 _ _  hy13) wl_X8_85 wv_X8_refuseAsFull rfl rfl ⟨Nat.le_of_ble_eq_true rfl, Nat.le_of_ble_eq_true rfl⟩ [] (clX1 cI cJ cZ cB (a0 0) a1 (c1 1) (c1 2 0) (c1 3) (c1 4 0) (c1 5) (c1 6 0) (w1 7) (c1 8 0) []) rfl rfl rfl 0 rfl rfl rfl rfl hl.1 rfl (Nat.le_of_ble_eq_true rfl) dX8_ends_30 [.int r11] rfl (fun H locs hW => ?_)
      have f14 := Option.some.inj h
      obtain ⟨f15, f16⟩ := Prod.mk.inj f14
      obtain ⟨f17, f18⟩ := Prod.mk.inj f16
      subst f15
      subst f17
      subst f18
      exact ri S hr hlocks hW dX8_ends_33
  · have h := of_p u3 h
    refine lv_aload_n S.1 S.2.1 dX8_ends_11 rfl (lv_at hl 0 rfl) ?_
    refine lv_bipush (v := (-2 : Int32)) S.1 S.2.1 dX8_ends_12 kb_m2 ?_
    obtain ⟨r19, cv20, hy21, h⟩ := bd2_e h
    refine kv (clX8 cI cJ cZ cB h0 a0 (cv20 2) (cv20 5) (w0 6 0) (w0 7 0) (clX1 cI cJ cZ cB (a0 0) a1 (c1 1) (c1 2 0) (c1 3) (c1 4 0) (c1 5) (c1 6 0) (w1 7) (c1 8 0) [])) S hK hN hZ hA hW (rest := []) (t_X8_refuseAsBad l dC dI cI cJ cZ cB zz h0 a0 c0 w0 (-2 : Int32) _ _  hy21) wl_X8_53 wv_X8_refuseAsBad rfl rfl ⟨Nat.le_of_ble_eq_true rfl, Nat.le_of_ble_eq_true rfl⟩ [] (clX1 cI cJ cZ cB (a0 0) a1 (c1 1) (c1 2 0) (c1 3) (c1 4 0) (c1 5) (c1 6 0) (w1 7) (c1 8 0) []) rfl rfl rfl 0 rfl rfl rfl rfl hl.1 rfl (Nat.le_of_ble_eq_true rfl) dX8_ends_14 [.int r19] rfl (fun H locs hW => ?_)
    have f22 := Option.some.inj h
    obtain ⟨f23, f24⟩ := Prod.mk.inj f22
    obtain ⟨f25, f26⟩ := Prod.mk.inj f24
    subst f23
    subst f25
    subst f26
    exact ri S hr hlocks hW dX8_ends_17
abbrev rmX8_bowed : Room := { frames := 5, cells := 0, slots := 0, locals := 114 }
set_option maxHeartbeats 4000000 in
set_option maxRecDepth 100000 in
theorem t_X8_bowed (l : Launch) (dC : Nat → ClassId) (dI : Nat → Nat → Nat) (cI cJ cZ cB : ClassId) (zz : ZT)  (h0 : Nat) (a0 : Nat → Nat) (a1 : Nat → Nat) (a2 : Nat → Nat) (a3 : Nat → Nat) (F : Nat) (c0 : Nat → Nat → Int32) (w0 : Nat → Nat → Int64) (c1 : Nat → Nat → Int32) (w1 : Nat → Nat → Int64) (c2 : Nat → Nat → Int32) (c3 : Nat → Nat → Int32) (p1 : Int32) (r : Int32) (c0' : Nat → Nat → Int32) (c3' : Nat → Nat → Int32) (hm : md_X8_bowed F c0 w0 c1 w1 c2 c3 p1 = some (r, c0', c3')) : ct l (dC, dI) zz (ty4 cI cJ cZ cB) yX8_bowed cX8_bowed 8 (some .int) rmX8_bowed [.ref h0, .int p1] (cwX8 cI cJ cZ cB h0 a0 c0 w0 (cwX1 cI cJ cZ cB (a0 0) a1 c1 w1 (cwX3 cI cJ cZ cB (a1 0) a2 c2 (cwX3 cI cJ cZ cB (a0 3) a3 c3 [])))) (cwX8 cI cJ cZ cB h0 a0 c0' w0 (cwX1 cI cJ cZ cB (a0 0) a1 c1 w1 (cwX3 cI cJ cZ cB (a1 0) a2 c2 (cwX3 cI cJ cZ cB (a0 3) a3 c3' [])))) (some (.int r)) := by
  refine ct_of (cc := cX8_bowed) (maxL := 8) (ret := (some .int)) (by decide) (Nat.le_of_ble_eq_true rfl) ?_
  intro p e s m below meth c A S hr hlocks hK hN hZ hA H locs hW ls hl
  have S : CallFix p m c cX8_bowed 8 s (List.toArray [.ref h0, .int p1]) G RX8 := S
  have hl : lv_has ls 8 [(0, .ref h0), (1, .int p1)] := hl
  have h := hm
  rw [md_X8_bowed] at h
  have hW : wd (dC, dI) A s.heap (clX8 cI cJ cZ cB h0 a0 (c0 2) (c0 5) (w0 6 0) (w0 7 0) (clX1 cI cJ cZ cB (a0 0) a1 (c1 1) (c1 2 0) (c1 3) (c1 4 0) (c1 5) (c1 6 0) (w1 7) (c1 8 0) (clX3 cI cJ cZ cB (a1 0) a2 (c2 0) (c2 1) (c2 2) (c2 3) (c2 4) (c2 5 0) (c2 6 0) (c2 7 0) (c2 8 0) (c2 9 0) (clX3 cI cJ cZ cB (a0 3) a3 (c3 0) (c3 1) (c3 2) (c3 3) (c3 4) (c3 5 0) (c3 6 0) (c3 7 0) (c3 8 0) (c3 9 0) [])))) H locs := hW
  have hL41 : ∀ (n41 : Nat) (c0 : Nat → Nat → Int32) (c3 : Nat → Nat → Int32) (x1 : Int32) (x3 : Int32) (x4 : Int32) (x5 : Int32) (x6 : Int32) (x7 : Int32), ld_X8_bowed_41 F w0 c1 w1 c2 n41 c0 c3 x1 x3 x4 x5 x6 x7 = some (r, c0', c3') → ∀ (H : Heap) (locs : List Loc), wd (dC, dI) A s.heap (clX8 cI cJ cZ cB h0 a0 (c0 2) (c0 5) (w0 6 0) (w0 7 0) (clX1 cI cJ cZ cB (a0 0) a1 (c1 1) (c1 2 0) (c1 3) (c1 4 0) (c1 5) (c1 6 0) (w1 7) (c1 8 0) (clX3 cI cJ cZ cB (a1 0) a2 (c2 0) (c2 1) (c2 2) (c2 3) (c2 4) (c2 5 0) (c2 6 0) (c2 7 0) (c2 8 0) (c2 9 0) (clX3 cI cJ cZ cB (a0 3) a3 (c3 0) (c3 1) (c3 2) (c3 3) (c3 4) (c3 5 0) (c3 6 0) (c3 7 0) (c3 8 0) (c3 9 0) [])))) H locs → ∀ ls : Array Slot, lv_has ls 8 [(0, .ref h0), (1, .int x1), (2, .ref (a1 0)), (3, .int x3), (4, .int x4), (5, .int x5), (6, .int x6), (7, .int x7)] → W p l e rmX8_bowed s m (List.toArray [.ref h0, .int p1]) below meth c H locs 0 0 (MQ below (kQ (dC, dI) (cwX8 cI cJ cZ cB h0 a0 c0' w0 (cwX1 cI cJ cZ cB (a0 0) a1 c1 w1 (cwX3 cI cJ cZ cB (a1 0) a2 c2 (cwX3 cI cJ cZ cB (a0 3) a3 c3' [])))) (some (.int r)) A) (List.toArray [.ref h0, .int p1]) s 0 0 A) (F0 m 41 ls []) := by
    intro n41
    induction n41 with
    | zero => intro c0 c3 x1 x3 x4 x5 x6 x7 h; rw [ld_X8_bowed_41] at h; cases h
    | succ n41 ih41 =>
      intro c0 c3 x1 x3 x4 x5 x6 x7 h H locs hW ls hl
      rw [ld_X8_bowed_41] at h
      refine lv_iload S.1 S.2.1 dX8_bowed_41 (lv_at hl 7 rfl) ?_
      refine lv_iload_n S.1 S.2.1 dX8_bowed_43 rfl (lv_at hl 3 rfl) ?_
      refine lv_icmp_gt (tgt := 119) S.1 S.2.1 dX8_bowed_44 (by decide) (fun u1 => ?_) (fun u1 => ?_)
      · have h := of_p u1 h
        refine lv_iload_n S.1 S.2.1 dX8_bowed_119 rfl (lv_at hl 1 rfl) ?_
        refine lv_if_ne (tgt := 126) S.1 S.2.1 dX8_bowed_120 (by decide) (fun u2 => ?_) (fun u2 => ?_)
        · have h := of_n u2 h
          refine lv_iload_n S.1 S.2.1 dX8_bowed_126 rfl (lv_at hl 1 rfl) ?_
          refine lv_iconst (v := (2 : Int32)) S.1 S.2.1 dX8_bowed_127 ki_2 ?_
          obtain ⟨y3, e4, h⟩ := lt1_e h
          suffices hM5 : ∀ ls : Array Slot, lv_has ls 8 [] → W p l e rmX8_bowed s m (List.toArray [.ref h0, .int p1]) below meth c H locs 0 0 (MQ below (kQ (dC, dI) (cwX8 cI cJ cZ cB h0 a0 c0' w0 (cwX1 cI cJ cZ cB (a0 0) a1 c1 w1 (cwX3 cI cJ cZ cB (a1 0) a2 c2 (cwX3 cI cJ cZ cB (a0 3) a3 c3' [])))) (some (.int r)) A) (List.toArray [.ref h0, .int p1]) s 0 0 A) (F0 m 147 ls [.int y3]) by
            refine lv_icmp_ne (tgt := 136) S.1 S.2.1 dX8_bowed_128 (by decide) (fun u6 => ?_) (fun u6 => ?_)
            · refine lv_iload S.1 S.2.1 dX8_bowed_136 (lv_at hl 4 rfl) ?_
              refine lv_if_ne (tgt := 145) S.1 S.2.1 dX8_bowed_138 (by decide) (fun u7 => ?_) (fun u7 => ?_)
              · refine lv_iload S.1 S.2.1 dX8_bowed_145 (lv_at hl 5 rfl) ?_
                have e4 := e4.trans ((if_neg u6).trans (if_neg u7))
                subst e4
                exact hM5 ls (lv_sub hl [] rfl)
              · refine lv_iconst (v := (-1 : Int32)) S.1 S.2.1 dX8_bowed_141 ki_m1 ?_
                refine lv_goto (tgt := 147) S.1 S.2.1 dX8_bowed_142 (by decide) ?_
                have e4 := e4.trans ((if_neg u6).trans (if_pos u7))
                subst e4
                exact hM5 ls (lv_sub hl [] rfl)
            · refine lv_iload S.1 S.2.1 dX8_bowed_131 (lv_at hl 6 rfl) ?_
              refine lv_goto (tgt := 147) S.1 S.2.1 dX8_bowed_133 (by decide) ?_
              have e4 := e4.trans (if_pos u6)
              subst e4
              exact hM5 ls (lv_sub hl [] rfl)
          intro ls hl
          have f8 := Option.some.inj h
          obtain ⟨f9, f10⟩ := Prod.mk.inj f8
          obtain ⟨f11, f12⟩ := Prod.mk.inj f10
          subst f9
          subst f11
          subst f12
          exact ri S hr hlocks hW dX8_bowed_147
        · have h := of_p u2 h
          refine lv_iload S.1 S.2.1 dX8_bowed_123 (lv_at hl 4 rfl) ?_
          have f13 := Option.some.inj h
          obtain ⟨f14, f15⟩ := Prod.mk.inj f13
          obtain ⟨f16, f17⟩ := Prod.mk.inj f15
          subst f14
          subst f16
          subst f17
          exact ri S hr hlocks hW dX8_bowed_125
      · have h := of_n u1 h
        refine lv_iload S.1 S.2.1 dX8_bowed_47 (lv_at hl 7 rfl) ?_
        refine lv_iload_n S.1 S.2.1 dX8_bowed_49 rfl (lv_at hl 3 rfl) ?_
        refine lv_iconst (v := (-1 : Int32)) S.1 S.2.1 dX8_bowed_50 ki_m1 ?_
        refine lv_ixor S.1 S.2.1 dX8_bowed_51 ?_
        refine lv_iand S.1 S.2.1 dX8_bowed_52 ?_
        refine lv_if_eq (tgt := 59) S.1 S.2.1 dX8_bowed_53 (by decide) (fun u18 => ?_) (fun u18 => ?_)
        · have h := of_p u18 h
          refine lv_aload_n S.1 S.2.1 dX8_bowed_59 rfl (lv_at hl 0 rfl) ?_
          refine gf (C := RX8) (T := TX8) (N := 8) (ci := 4) (k := 3) S hK hW wu_X8 rfl (by decide) wf_X8_27 0 rfl rfl dX8_bowed_60 ?_
          refine lv_aload_n S.1 S.2.1 dX8_bowed_63 rfl (lv_at hl 2 rfl) ?_
          obtain ⟨cv19, hy20, h⟩ := bd1_e h
          refine kv (clX8 cI cJ cZ cB h0 a0 (c0 2) (c0 5) (w0 6 0) (w0 7 0) (clX1 cI cJ cZ cB (a0 0) a1 (c1 1) (c1 2 0) (c1 3) (c1 4 0) (c1 5) (c1 6 0) (w1 7) (c1 8 0) (clX3 cI cJ cZ cB (a1 0) a2 (c2 0) (c2 1) (c2 2) (c2 3) (c2 4) (c2 5 0) (c2 6 0) (c2 7 0) (c2 8 0) (c2 9 0) (clX3 cI cJ cZ cB (a0 3) a3 (cv19 0) (cv19 1) (cv19 2) (cv19 3) (cv19 4) (cv19 5 0) (cv19 6 0) (cv19 7 0) (cv19 8 0) (cv19 9 0) [])))) S hK hN hZ hA hW (rest := []) (t_X3_copy l dC dI cI cJ cZ cB zz (a1 0) a2 (a0 3) a3 F c2 c3 _  hy20) wl_X8_113 wv_X3_copy rfl rfl ⟨Nat.le_of_ble_eq_true rfl, Nat.le_of_ble_eq_true rfl⟩ (clX8 cI cJ cZ cB h0 a0 (c0 2) (c0 5) (w0 6 0) (w0 7 0) (clX1 cI cJ cZ cB (a0 0) a1 (c1 1) (c1 2 0) (c1 3) (c1 4 0) (c1 5) (c1 6 0) (w1 7) (c1 8 0) [])) [] rfl rfl rfl 15 rfl rfl rfl rfl hl.1 rfl (Nat.le_of_ble_eq_true rfl) dX8_bowed_64 [] rfl (fun H locs hW => ?_)
          refine lv_aload_n S.1 S.2.1 dX8_bowed_67 rfl (lv_at hl 0 rfl) ?_
          refine gf (C := RX8) (T := TX8) (N := 8) (ci := 4) (k := 3) S hK hW wu_X8 rfl (by decide) wf_X8_27 0 rfl rfl dX8_bowed_68 ?_
          refine lv_iload S.1 S.2.1 dX8_bowed_71 (lv_at hl 7 rfl) ?_
          obtain ⟨r21, cv22, hy23, h⟩ := bd2_e h
          refine ks (clX8 cI cJ cZ cB h0 a0 (c0 2) (c0 5) (w0 6 0) (w0 7 0) (clX1 cI cJ cZ cB (a0 0) a1 (c1 1) (c1 2 0) (c1 3) (c1 4 0) (c1 5) (c1 6 0) (w1 7) (c1 8 0) (clX3 cI cJ cZ cB (a1 0) a2 (c2 0) (c2 1) (c2 2) (c2 3) (c2 4) (c2 5 0) (c2 6 0) (c2 7 0) (c2 8 0) (c2 9 0) (clX3 cI cJ cZ cB (a0 3) a3 (cv22 0) (cv22 1) (cv22 2) (cv22 3) (cv22 4) (cv22 5 0) (cv22 6 0) (cv22 7 0) (cv22 8 0) (cv22 9 0) [])))) S hK hN hZ hA hW (rest := []) (t_X4_bowsTo l dC dI cI cJ cZ cB zz (a0 3) a3 F cv19 x7 _ _  hy23) wl_X8_212 wv_X4_bowsTo rfl rfl ⟨Nat.le_of_ble_eq_true rfl, Nat.le_of_ble_eq_true rfl⟩ (clX8 cI cJ cZ cB h0 a0 (c0 2) (c0 5) (w0 6 0) (w0 7 0) (clX1 cI cJ cZ cB (a0 0) a1 (c1 1) (c1 2 0) (c1 3) (c1 4 0) (c1 5) (c1 6 0) (w1 7) (c1 8 0) (clX3 cI cJ cZ cB (a1 0) a2 (c2 0) (c2 1) (c2 2) (c2 3) (c2 4) (c2 5 0) (c2 6 0) (c2 7 0) (c2 8 0) (c2 9 0) []))) [] rfl rfl rfl rfl hl.1 rfl (Nat.le_of_ble_eq_true rfl) dX8_bowed_73 [.int r21] rfl (fun H locs hW => ?_)
          refine lv_if_eq (tgt := 113) S.1 S.2.1 dX8_bowed_76 (by decide) (fun u24 => ?_) (fun u24 => ?_)
          · have h := of_p u24 h
            refine lv_iinc (v := (x7 + (1 : Int32))) (lv' := [(7, .int (x7 + (1 : Int32))), (0, .ref h0), (1, .int x1), (2, .ref (a1 0)), (3, .int x3), (4, .int x4), (5, .int x5), (6, .int x6)]) S.1 S.2.1 dX8_bowed_113 hl (k := 7) rfl (congrArg (fun z => x7 + z) ki_1) (by decide) rfl (fun ls hl => ?_)
            refine lv_goto (tgt := 41) S.1 S.2.1 dX8_bowed_116 (by decide) ?_
            exact ih41 _ _ _ _ _ _ _ _ h H locs hW ls (lv_sub hl [1, 2, 3, 4, 5, 6, 7, 0] rfl)
          · have h := of_n u24 h
            refine lv_aload_n S.1 S.2.1 dX8_bowed_79 rfl (lv_at hl 0 rfl) ?_
            refine gf (C := RX8) (T := TX8) (N := 8) (ci := 4) (k := 0) S hK hW wu_X8 rfl (by decide) wf_X8_10 0 rfl rfl dX8_bowed_80 ?_
            refine lv_aload_n S.1 S.2.1 dX8_bowed_83 rfl (lv_at hl 0 rfl) ?_
            refine gf (C := RX8) (T := TX8) (N := 8) (ci := 4) (k := 3) S hK hW wu_X8 rfl (by decide) wf_X8_27 0 rfl rfl dX8_bowed_84 ?_
            refine gf (C := RX3) (T := TX3) (N := 10) (ci := 2) (k := 7) S hK hW wu_X3 rfl (by decide) wf_X8_136 15 rfl rfl dX8_bowed_87 ?_
            obtain ⟨r25, hy26, h⟩ := bd1_e h
            refine kv0 S hK hN hZ hA hW (rest := []) (t_X1_allEndsAre l dC dI cI cJ cZ cB zz (a0 0) a1 F c1 w1 (cv22 7 0) _  hy26) wl_X8_216 wv_X1_allEndsAre rfl rfl ⟨Nat.le_of_ble_eq_true rfl, Nat.le_of_ble_eq_true rfl⟩ (clX8 cI cJ cZ cB h0 a0 (c0 2) (c0 5) (w0 6 0) (w0 7 0) []) (clX3 cI cJ cZ cB (a1 0) a2 (c2 0) (c2 1) (c2 2) (c2 3) (c2 4) (c2 5 0) (c2 6 0) (c2 7 0) (c2 8 0) (c2 9 0) (clX3 cI cJ cZ cB (a0 3) a3 (cv22 0) (cv22 1) (cv22 2) (cv22 3) (cv22 4) (cv22 5 0) (cv22 6 0) (cv22 7 0) (cv22 8 0) (cv22 9 0) [])) rfl 4 rfl rfl rfl rfl hl.1 rfl (Nat.le_of_ble_eq_true rfl) dX8_bowed_90 [.int r25] rfl (fun H locs hW => ?_)
            refine lv_if_eq (tgt := 113) S.1 S.2.1 dX8_bowed_93 (by decide) (fun u27 => ?_) (fun u27 => ?_)
            · have h := of_p u27 h
              refine lv_iinc (v := (x7 + (1 : Int32))) (lv' := [(7, .int (x7 + (1 : Int32))), (0, .ref h0), (1, .int x1), (2, .ref (a1 0)), (3, .int x3), (4, .int x4), (5, .int x5), (6, .int x6)]) S.1 S.2.1 dX8_bowed_113 hl (k := 7) rfl (congrArg (fun z => x7 + z) ki_1) (by decide) rfl (fun ls hl => ?_)
              refine lv_goto (tgt := 41) S.1 S.2.1 dX8_bowed_116 (by decide) ?_
              exact ih41 _ _ _ _ _ _ _ _ h H locs hW ls (lv_sub hl [1, 2, 3, 4, 5, 6, 7, 0] rfl)
            · have h := of_n u27 h
              refine lv_iinc (v := (x4 + (1 : Int32))) (lv' := [(4, .int (x4 + (1 : Int32))), (0, .ref h0), (1, .int x1), (2, .ref (a1 0)), (3, .int x3), (5, .int x5), (6, .int x6), (7, .int x7)]) S.1 S.2.1 dX8_bowed_96 hl (k := 4) rfl (congrArg (fun z => x4 + z) ki_1) (by decide) rfl (fun ls hl => ?_)
              refine lv_iload S.1 S.2.1 dX8_bowed_99 (lv_at hl 5 rfl) ?_
              refine lv_iload S.1 S.2.1 dX8_bowed_101 (lv_at hl 7 rfl) ?_
              refine lv_iand S.1 S.2.1 dX8_bowed_103 ?_
              refine lv_istore (lv' := [(5, .int (x5 &&& x7)), (4, .int (x4 + (1 : Int32))), (0, .ref h0), (1, .int x1), (2, .ref (a1 0)), (3, .int x3), (6, .int x6), (7, .int x7)]) S.1 S.2.1 dX8_bowed_104 hl (by decide) rfl (fun ls hl => ?_)
              refine lv_iload S.1 S.2.1 dX8_bowed_106 (lv_at hl 6 rfl) ?_
              refine lv_iload S.1 S.2.1 dX8_bowed_108 (lv_at hl 7 rfl) ?_
              refine lv_ior S.1 S.2.1 dX8_bowed_110 ?_
              refine lv_istore (lv' := [(6, .int (x6 ||| x7)), (5, .int (x5 &&& x7)), (4, .int (x4 + (1 : Int32))), (0, .ref h0), (1, .int x1), (2, .ref (a1 0)), (3, .int x3), (7, .int x7)]) S.1 S.2.1 dX8_bowed_111 hl (by decide) rfl (fun ls hl => ?_)
              refine lv_iinc (v := (x7 + (1 : Int32))) (lv' := [(7, .int (x7 + (1 : Int32))), (6, .int (x6 ||| x7)), (5, .int (x5 &&& x7)), (4, .int (x4 + (1 : Int32))), (0, .ref h0), (1, .int x1), (2, .ref (a1 0)), (3, .int x3)]) S.1 S.2.1 dX8_bowed_113 hl (k := 7) rfl (congrArg (fun z => x7 + z) ki_1) (by decide) rfl (fun ls hl => ?_)
              refine lv_goto (tgt := 41) S.1 S.2.1 dX8_bowed_116 (by decide) ?_
              exact ih41 _ _ _ _ _ _ _ _ h H locs hW ls (lv_sub hl [4, 5, 6, 7, 3, 2, 1, 0] rfl)
        · have h := of_n u18 h
          refine lv_goto (tgt := 113) S.1 S.2.1 dX8_bowed_56 (by decide) ?_
          refine lv_iinc (v := (x7 + (1 : Int32))) (lv' := [(7, .int (x7 + (1 : Int32))), (0, .ref h0), (1, .int x1), (2, .ref (a1 0)), (3, .int x3), (4, .int x4), (5, .int x5), (6, .int x6)]) S.1 S.2.1 dX8_bowed_113 hl (k := 7) rfl (congrArg (fun z => x7 + z) ki_1) (by decide) rfl (fun ls hl => ?_)
          refine lv_goto (tgt := 41) S.1 S.2.1 dX8_bowed_116 (by decide) ?_
          exact ih41 _ _ _ _ _ _ _ _ h H locs hW ls (lv_sub hl [1, 2, 3, 4, 5, 6, 7, 0] rfl)
  refine lv_iconst (v := (0 : Int32)) S.1 S.2.1 dX8_bowed_0 ki_0 ?_
  refine lv_iload_n S.1 S.2.1 dX8_bowed_1 rfl (lv_at hl 1 rfl) ?_
  refine lv_iconst (v := (2 : Int32)) S.1 S.2.1 dX8_bowed_2 ki_2 ?_
  obtain ⟨r28, hy29, h⟩ := bd1_e h
  refine ks0 S hK hN hZ hA hW (rest := []) (t_X8_within l dC dI cI cJ cZ cB zz (0 : Int32) p1 (2 : Int32) _  hy29) wl_X8_71 wv_X8_within rfl rfl ⟨Nat.le_of_ble_eq_true rfl, Nat.le_of_ble_eq_true rfl⟩ [] (clX8 cI cJ cZ cB h0 a0 (c0 2) (c0 5) (w0 6 0) (w0 7 0) (clX1 cI cJ cZ cB (a0 0) a1 (c1 1) (c1 2 0) (c1 3) (c1 4 0) (c1 5) (c1 6 0) (w1 7) (c1 8 0) (clX3 cI cJ cZ cB (a1 0) a2 (c2 0) (c2 1) (c2 2) (c2 3) (c2 4) (c2 5 0) (c2 6 0) (c2 7 0) (c2 8 0) (c2 9 0) (clX3 cI cJ cZ cB (a0 3) a3 (c3 0) (c3 1) (c3 2) (c3 3) (c3 4) (c3 5 0) (c3 6 0) (c3 7 0) (c3 8 0) (c3 9 0) [])))) rfl rfl hl.1 rfl (Nat.le_of_ble_eq_true rfl) dX8_bowed_3 [.int r28] rfl (fun H locs hW => ?_)
  refine lv_if_ne (tgt := 16) S.1 S.2.1 dX8_bowed_6 (by decide) (fun u30 => ?_) (fun u30 => ?_)
  · have h := of_n u30 h
    refine lv_aload_n S.1 S.2.1 dX8_bowed_16 rfl (lv_at hl 0 rfl) ?_
    refine gf (C := RX8) (T := TX8) (N := 8) (ci := 4) (k := 0) S hK hW wu_X8 rfl (by decide) wf_X8_10 0 rfl rfl dX8_bowed_17 ?_
    refine gf (C := RX1) (T := TX1) (N := 9) (ci := 0) (k := 0) S hK hW wu_X1 rfl (by decide) wf_X8_57 4 rfl rfl dX8_bowed_20 ?_
    refine lv_astore_n (lv' := [(2, .ref (a1 0)), (0, .ref h0), (1, .int p1)]) S.1 S.2.1 dX8_bowed_23 rfl hl (by decide) rfl (fun ls hl => ?_)
    refine lv_aload_n S.1 S.2.1 dX8_bowed_24 rfl (lv_at hl 0 rfl) ?_
    obtain ⟨r31, hy32, h⟩ := bd1_e h
    refine kv0 S hK hN hZ hA hW (rest := []) (t_X3_unsaid l dC dI cI cJ cZ cB zz (a1 0) a2 c2 _  hy32) wl_X8_160 wv_X3_unsaid rfl rfl ⟨Nat.le_of_ble_eq_true rfl, Nat.le_of_ble_eq_true rfl⟩ (clX8 cI cJ cZ cB h0 a0 (c0 2) (c0 5) (w0 6 0) (w0 7 0) (clX1 cI cJ cZ cB (a0 0) a1 (c1 1) (c1 2 0) (c1 3) (c1 4 0) (c1 5) (c1 6 0) (w1 7) (c1 8 0) [])) (clX3 cI cJ cZ cB (a0 3) a3 (c3 0) (c3 1) (c3 2) (c3 3) (c3 4) (c3 5 0) (c3 6 0) (c3 7 0) (c3 8 0) (c3 9 0) []) rfl 9 rfl rfl rfl rfl hl.1 rfl (Nat.le_of_ble_eq_true rfl) dX8_bowed_25 [.int r31] rfl (fun H locs hW => ?_)
    refine lv_istore_n (lv' := [(3, .int r31), (2, .ref (a1 0)), (0, .ref h0), (1, .int p1)]) S.1 S.2.1 dX8_bowed_28 rfl hl (by decide) rfl (fun ls hl => ?_)
    refine lv_iconst (v := (0 : Int32)) S.1 S.2.1 dX8_bowed_29 ki_0 ?_
    refine lv_istore (lv' := [(4, .int (0 : Int32)), (3, .int r31), (2, .ref (a1 0)), (0, .ref h0), (1, .int p1)]) S.1 S.2.1 dX8_bowed_30 hl (by decide) rfl (fun ls hl => ?_)
    refine lv_iload_n S.1 S.2.1 dX8_bowed_32 rfl (lv_at hl 1 rfl) ?_
    refine lv_istore (lv' := [(5, .int r31), (4, .int (0 : Int32)), (3, .int r31), (2, .ref (a1 0)), (0, .ref h0), (1, .int p1)]) S.1 S.2.1 dX8_bowed_33 hl (by decide) rfl (fun ls hl => ?_)
    refine lv_iconst (v := (0 : Int32)) S.1 S.2.1 dX8_bowed_35 ki_0 ?_
    refine lv_istore (lv' := [(6, .int (0 : Int32)), (5, .int r31), (4, .int (0 : Int32)), (3, .int r31), (2, .ref (a1 0)), (0, .ref h0), (1, .int p1)]) S.1 S.2.1 dX8_bowed_36 hl (by decide) rfl (fun ls hl => ?_)
    refine lv_iconst (v := (0 : Int32)) S.1 S.2.1 dX8_bowed_38 ki_0 ?_
    refine lv_istore (lv' := [(7, .int (0 : Int32)), (6, .int (0 : Int32)), (5, .int r31), (4, .int (0 : Int32)), (3, .int r31), (2, .ref (a1 0)), (0, .ref h0), (1, .int p1)]) S.1 S.2.1 dX8_bowed_39 hl (by decide) rfl (fun ls hl => ?_)
    exact hL41 F _ _ _ _ _ _ _ _ h H locs hW ls (lv_sub hl [6, 7, 5, 4, 3, 2, 1, 0] rfl)
  · have h := of_p u30 h
    refine lv_aload_n S.1 S.2.1 dX8_bowed_9 rfl (lv_at hl 0 rfl) ?_
    refine lv_bipush (v := (-2 : Int32)) S.1 S.2.1 dX8_bowed_10 kb_m2 ?_
    obtain ⟨r33, cv34, hy35, h⟩ := bd2_e h
    refine kv (clX8 cI cJ cZ cB h0 a0 (cv34 2) (cv34 5) (w0 6 0) (w0 7 0) (clX1 cI cJ cZ cB (a0 0) a1 (c1 1) (c1 2 0) (c1 3) (c1 4 0) (c1 5) (c1 6 0) (w1 7) (c1 8 0) (clX3 cI cJ cZ cB (a1 0) a2 (c2 0) (c2 1) (c2 2) (c2 3) (c2 4) (c2 5 0) (c2 6 0) (c2 7 0) (c2 8 0) (c2 9 0) (clX3 cI cJ cZ cB (a0 3) a3 (c3 0) (c3 1) (c3 2) (c3 3) (c3 4) (c3 5 0) (c3 6 0) (c3 7 0) (c3 8 0) (c3 9 0) [])))) S hK hN hZ hA hW (rest := []) (t_X8_refuseAsBad l dC dI cI cJ cZ cB zz h0 a0 c0 w0 (-2 : Int32) _ _  hy35) wl_X8_53 wv_X8_refuseAsBad rfl rfl ⟨Nat.le_of_ble_eq_true rfl, Nat.le_of_ble_eq_true rfl⟩ [] (clX1 cI cJ cZ cB (a0 0) a1 (c1 1) (c1 2 0) (c1 3) (c1 4 0) (c1 5) (c1 6 0) (w1 7) (c1 8 0) (clX3 cI cJ cZ cB (a1 0) a2 (c2 0) (c2 1) (c2 2) (c2 3) (c2 4) (c2 5 0) (c2 6 0) (c2 7 0) (c2 8 0) (c2 9 0) (clX3 cI cJ cZ cB (a0 3) a3 (c3 0) (c3 1) (c3 2) (c3 3) (c3 4) (c3 5 0) (c3 6 0) (c3 7 0) (c3 8 0) (c3 9 0) []))) rfl rfl rfl 0 rfl rfl rfl rfl hl.1 rfl (Nat.le_of_ble_eq_true rfl) dX8_bowed_12 [.int r33] rfl (fun H locs hW => ?_)
    have f36 := Option.some.inj h
    obtain ⟨f37, f38⟩ := Prod.mk.inj f36
    obtain ⟨f39, f40⟩ := Prod.mk.inj f38
    subst f37
    subst f39
    subst f40
    exact ri S hr hlocks hW dX8_bowed_15
abbrev rmX8_note : Room := { frames := 1, cells := 0, slots := 0, locals := 26 }
set_option maxHeartbeats 4000000 in
set_option maxRecDepth 100000 in
theorem t_X8_note (l : Launch) (dC : Nat → ClassId) (dI : Nat → Nat → Nat) (cI cJ cZ cB : ClassId) (zz : ZT)  (h0 : Nat) (a0 : Nat → Nat) (a1 : Nat → Nat) (a2 : Nat → Nat) (c0 : Nat → Nat → Int32) (w0 : Nat → Nat → Int64) (c1 : Nat → Nat → Int32) (w1 : Nat → Nat → Int64) (c2 : Nat → Nat → Int32) (p1 : Int32) (p2 : Int32) (p3 : Int32) (p4 : Int32) (p5 : Int32) (r : Int32) (c0' : Nat → Nat → Int32) (c1' : Nat → Nat → Int32) (hm : md_X8_note c0 w0 c1 w1 c2 p1 p2 p3 p4 p5 = some (r, c0', c1')) : ct l (dC, dI) zz (ty4 cI cJ cZ cB) yX8_note cX8_note 6 (some .int) rmX8_note [.ref h0, .int p1, .int p2, .int p3, .int p4, .int p5] (cwX8 cI cJ cZ cB h0 a0 c0 w0 (cwX1 cI cJ cZ cB (a0 0) a1 c1 w1 (cwX3 cI cJ cZ cB (a1 0) a2 c2 []))) (cwX8 cI cJ cZ cB h0 a0 c0' w0 (cwX1 cI cJ cZ cB (a0 0) a1 c1' w1 (cwX3 cI cJ cZ cB (a1 0) a2 c2 []))) (some (.int r)) := by
  refine ct_of (cc := cX8_note) (maxL := 6) (ret := (some .int)) (by decide) (Nat.le_of_ble_eq_true rfl) ?_
  intro p e s m below meth c A S hr hlocks hK hN hZ hA H locs hW ls hl
  have S : CallFix p m c cX8_note 6 s (List.toArray [.ref h0, .int p1, .int p2, .int p3, .int p4, .int p5]) G RX8 := S
  have hl : lv_has ls 6 [(0, .ref h0), (1, .int p1), (2, .int p2), (3, .int p3), (4, .int p4), (5, .int p5)] := hl
  have h := hm
  rw [md_X8_note] at h
  have hW : wd (dC, dI) A s.heap (clX8 cI cJ cZ cB h0 a0 (c0 2) (c0 5) (w0 6 0) (w0 7 0) (clX1 cI cJ cZ cB (a0 0) a1 (c1 1) (c1 2 0) (c1 3) (c1 4 0) (c1 5) (c1 6 0) (w1 7) (c1 8 0) (clX3 cI cJ cZ cB (a1 0) a2 (c2 0) (c2 1) (c2 2) (c2 3) (c2 4) (c2 5 0) (c2 6 0) (c2 7 0) (c2 8 0) (c2 9 0) []))) H locs := hW
  have hJ57 : ∀ (c0 : Nat → Nat → Int32) (c1 : Nat → Nat → Int32), jd_X8_note_57 w0 w1 c2 c0 c1 = some (r, c0', c1') → ∀ (H : Heap) (locs : List Loc), wd (dC, dI) A s.heap (clX8 cI cJ cZ cB h0 a0 (c0 2) (c0 5) (w0 6 0) (w0 7 0) (clX1 cI cJ cZ cB (a0 0) a1 (c1 1) (c1 2 0) (c1 3) (c1 4 0) (c1 5) (c1 6 0) (w1 7) (c1 8 0) (clX3 cI cJ cZ cB (a1 0) a2 (c2 0) (c2 1) (c2 2) (c2 3) (c2 4) (c2 5 0) (c2 6 0) (c2 7 0) (c2 8 0) (c2 9 0) []))) H locs → ∀ ls : Array Slot, lv_has ls 6 [(0, .ref h0)] → W p l e rmX8_note s m (List.toArray [.ref h0, .int p1, .int p2, .int p3, .int p4, .int p5]) below meth c H locs 0 0 (MQ below (kQ (dC, dI) (cwX8 cI cJ cZ cB h0 a0 c0' w0 (cwX1 cI cJ cZ cB (a0 0) a1 c1' w1 (cwX3 cI cJ cZ cB (a1 0) a2 c2 []))) (some (.int r)) A) (List.toArray [.ref h0, .int p1, .int p2, .int p3, .int p4, .int p5]) s 0 0 A) (F0 m 57 ls []) := by
    intro c0 c1 h H locs hW ls hl
    rw [jd_X8_note_57] at h
    refine lv_aload_n S.1 S.2.1 dX8_note_57 rfl (lv_at hl 0 rfl) ?_
    refine lv_bipush (v := (-2 : Int32)) S.1 S.2.1 dX8_note_58 kb_m2 ?_
    obtain ⟨r1, cv2, hy3, h⟩ := bd2_e h
    refine kv (clX8 cI cJ cZ cB h0 a0 (cv2 2) (cv2 5) (w0 6 0) (w0 7 0) (clX1 cI cJ cZ cB (a0 0) a1 (c1 1) (c1 2 0) (c1 3) (c1 4 0) (c1 5) (c1 6 0) (w1 7) (c1 8 0) (clX3 cI cJ cZ cB (a1 0) a2 (c2 0) (c2 1) (c2 2) (c2 3) (c2 4) (c2 5 0) (c2 6 0) (c2 7 0) (c2 8 0) (c2 9 0) []))) S hK hN hZ hA hW (rest := []) (t_X8_refuseAsBad l dC dI cI cJ cZ cB zz h0 a0 c0 w0 (-2 : Int32) _ _  hy3) wl_X8_53 wv_X8_refuseAsBad rfl rfl ⟨Nat.le_of_ble_eq_true rfl, Nat.le_of_ble_eq_true rfl⟩ [] (clX1 cI cJ cZ cB (a0 0) a1 (c1 1) (c1 2 0) (c1 3) (c1 4 0) (c1 5) (c1 6 0) (w1 7) (c1 8 0) (clX3 cI cJ cZ cB (a1 0) a2 (c2 0) (c2 1) (c2 2) (c2 3) (c2 4) (c2 5 0) (c2 6 0) (c2 7 0) (c2 8 0) (c2 9 0) [])) rfl rfl rfl 0 rfl rfl rfl rfl hl.1 rfl (Nat.le_of_ble_eq_true rfl) dX8_note_60 [.int r1] rfl (fun H locs hW => ?_)
    have f4 := Option.some.inj h
    obtain ⟨f5, f6⟩ := Prod.mk.inj f4
    obtain ⟨f7, f8⟩ := Prod.mk.inj f6
    subst f5
    subst f7
    subst f8
    exact ri S hr hlocks hW dX8_note_63
  refine lv_aload_n S.1 S.2.1 dX8_note_0 rfl (lv_at hl 0 rfl) ?_
  refine gf (C := RX8) (T := TX8) (N := 8) (ci := 4) (k := 0) S hK hW wu_X8 rfl (by decide) wf_X8_10 0 rfl rfl dX8_note_1 ?_
  refine gf (C := RX1) (T := TX1) (N := 9) (ci := 0) (k := 0) S hK hW wu_X1 rfl (by decide) wf_X8_57 4 rfl rfl dX8_note_4 ?_
  refine lv_iload_n S.1 S.2.1 dX8_note_7 rfl (lv_at hl 1 rfl) ?_
  obtain ⟨r9, hy10, h⟩ := bd1_e h
  refine kv0 S hK hN hZ hA hW (rest := []) (t_X3_hasPoint l dC dI cI cJ cZ cB zz (a1 0) a2 c2 p1 _  hy10) wl_X8_117 wv_X3_hasPoint rfl rfl ⟨Nat.le_of_ble_eq_true rfl, Nat.le_of_ble_eq_true rfl⟩ (clX8 cI cJ cZ cB h0 a0 (c0 2) (c0 5) (w0 6 0) (w0 7 0) (clX1 cI cJ cZ cB (a0 0) a1 (c1 1) (c1 2 0) (c1 3) (c1 4 0) (c1 5) (c1 6 0) (w1 7) (c1 8 0) [])) [] rfl 9 rfl rfl rfl rfl hl.1 rfl (Nat.le_of_ble_eq_true rfl) dX8_note_8 [.int r9] rfl (fun H locs hW => ?_)
  refine lv_if_eq (tgt := 57) S.1 S.2.1 dX8_note_11 (by decide) (fun u11 => ?_) (fun u11 => ?_)
  · have h := of_p u11 h
    exact hJ57 _ _ h H locs hW ls (lv_sub hl [0] rfl)
  · have h := of_n u11 h
    refine lv_iconst (v := (1 : Int32)) S.1 S.2.1 dX8_note_14 ki_1 ?_
    refine lv_iload_n S.1 S.2.1 dX8_note_15 rfl (lv_at hl 2 rfl) ?_
    refine lv_bipush (v := (9 : Int32)) S.1 S.2.1 dX8_note_16 kb_9 ?_
    obtain ⟨r12, hy13, h⟩ := bd1_e h
    refine ks0 S hK hN hZ hA hW (rest := []) (t_X8_within l dC dI cI cJ cZ cB zz (1 : Int32) p2 (9 : Int32) _  hy13) wl_X8_71 wv_X8_within rfl rfl ⟨Nat.le_of_ble_eq_true rfl, Nat.le_of_ble_eq_true rfl⟩ [] (clX8 cI cJ cZ cB h0 a0 (c0 2) (c0 5) (w0 6 0) (w0 7 0) (clX1 cI cJ cZ cB (a0 0) a1 (c1 1) (c1 2 0) (c1 3) (c1 4 0) (c1 5) (c1 6 0) (w1 7) (c1 8 0) (clX3 cI cJ cZ cB (a1 0) a2 (c2 0) (c2 1) (c2 2) (c2 3) (c2 4) (c2 5 0) (c2 6 0) (c2 7 0) (c2 8 0) (c2 9 0) []))) rfl rfl hl.1 rfl (Nat.le_of_ble_eq_true rfl) dX8_note_18 [.int r12] rfl (fun H locs hW => ?_)
    refine lv_if_eq (tgt := 57) S.1 S.2.1 dX8_note_21 (by decide) (fun u14 => ?_) (fun u14 => ?_)
    · have h := of_p u14 h
      exact hJ57 _ _ h H locs hW ls (lv_sub hl [0] rfl)
    · have h := of_n u14 h
      refine lv_bipush (v := (-99 : Int32)) S.1 S.2.1 dX8_note_24 kb_m99 ?_
      refine lv_iload_n S.1 S.2.1 dX8_note_26 rfl (lv_at hl 3 rfl) ?_
      refine lv_bipush (v := (99 : Int32)) S.1 S.2.1 dX8_note_27 kb_99 ?_
      obtain ⟨r15, hy16, h⟩ := bd1_e h
      refine ks0 S hK hN hZ hA hW (rest := []) (t_X8_within l dC dI cI cJ cZ cB zz (-99 : Int32) p3 (99 : Int32) _  hy16) wl_X8_71 wv_X8_within rfl rfl ⟨Nat.le_of_ble_eq_true rfl, Nat.le_of_ble_eq_true rfl⟩ [] (clX8 cI cJ cZ cB h0 a0 (c0 2) (c0 5) (w0 6 0) (w0 7 0) (clX1 cI cJ cZ cB (a0 0) a1 (c1 1) (c1 2 0) (c1 3) (c1 4 0) (c1 5) (c1 6 0) (w1 7) (c1 8 0) (clX3 cI cJ cZ cB (a1 0) a2 (c2 0) (c2 1) (c2 2) (c2 3) (c2 4) (c2 5 0) (c2 6 0) (c2 7 0) (c2 8 0) (c2 9 0) []))) rfl rfl hl.1 rfl (Nat.le_of_ble_eq_true rfl) dX8_note_29 [.int r15] rfl (fun H locs hW => ?_)
      refine lv_if_eq (tgt := 57) S.1 S.2.1 dX8_note_32 (by decide) (fun u17 => ?_) (fun u17 => ?_)
      · have h := of_p u17 h
        exact hJ57 _ _ h H locs hW ls (lv_sub hl [0] rfl)
      · have h := of_n u17 h
        refine lv_iconst (v := (0 : Int32)) S.1 S.2.1 dX8_note_35 ki_0 ?_
        refine lv_iload S.1 S.2.1 dX8_note_36 (lv_at hl 4 rfl) ?_
        refine lv_bipush (v := (9 : Int32)) S.1 S.2.1 dX8_note_38 kb_9 ?_
        obtain ⟨r18, hy19, h⟩ := bd1_e h
        refine ks0 S hK hN hZ hA hW (rest := []) (t_X8_within l dC dI cI cJ cZ cB zz (0 : Int32) p4 (9 : Int32) _  hy19) wl_X8_71 wv_X8_within rfl rfl ⟨Nat.le_of_ble_eq_true rfl, Nat.le_of_ble_eq_true rfl⟩ [] (clX8 cI cJ cZ cB h0 a0 (c0 2) (c0 5) (w0 6 0) (w0 7 0) (clX1 cI cJ cZ cB (a0 0) a1 (c1 1) (c1 2 0) (c1 3) (c1 4 0) (c1 5) (c1 6 0) (w1 7) (c1 8 0) (clX3 cI cJ cZ cB (a1 0) a2 (c2 0) (c2 1) (c2 2) (c2 3) (c2 4) (c2 5 0) (c2 6 0) (c2 7 0) (c2 8 0) (c2 9 0) []))) rfl rfl hl.1 rfl (Nat.le_of_ble_eq_true rfl) dX8_note_40 [.int r18] rfl (fun H locs hW => ?_)
        refine lv_if_eq (tgt := 57) S.1 S.2.1 dX8_note_43 (by decide) (fun u20 => ?_) (fun u20 => ?_)
        · have h := of_p u20 h
          exact hJ57 _ _ h H locs hW ls (lv_sub hl [0] rfl)
        · have h := of_n u20 h
          refine lv_iconst (v := (0 : Int32)) S.1 S.2.1 dX8_note_46 ki_0 ?_
          refine lv_iload S.1 S.2.1 dX8_note_47 (lv_at hl 5 rfl) ?_
          refine lv_bipush (v := (40 : Int32)) S.1 S.2.1 dX8_note_49 kb_40 ?_
          obtain ⟨r21, hy22, h⟩ := bd1_e h
          refine ks0 S hK hN hZ hA hW (rest := []) (t_X8_within l dC dI cI cJ cZ cB zz (0 : Int32) p5 (40 : Int32) _  hy22) wl_X8_71 wv_X8_within rfl rfl ⟨Nat.le_of_ble_eq_true rfl, Nat.le_of_ble_eq_true rfl⟩ [] (clX8 cI cJ cZ cB h0 a0 (c0 2) (c0 5) (w0 6 0) (w0 7 0) (clX1 cI cJ cZ cB (a0 0) a1 (c1 1) (c1 2 0) (c1 3) (c1 4 0) (c1 5) (c1 6 0) (w1 7) (c1 8 0) (clX3 cI cJ cZ cB (a1 0) a2 (c2 0) (c2 1) (c2 2) (c2 3) (c2 4) (c2 5 0) (c2 6 0) (c2 7 0) (c2 8 0) (c2 9 0) []))) rfl rfl hl.1 rfl (Nat.le_of_ble_eq_true rfl) dX8_note_51 [.int r21] rfl (fun H locs hW => ?_)
          refine lv_if_ne (tgt := 64) S.1 S.2.1 dX8_note_54 (by decide) (fun u23 => ?_) (fun u23 => ?_)
          · have h := of_n u23 h
            refine lv_aload_n S.1 S.2.1 dX8_note_64 rfl (lv_at hl 0 rfl) ?_
            refine gf (C := RX8) (T := TX8) (N := 8) (ci := 4) (k := 0) S hK hW wu_X8 rfl (by decide) wf_X8_10 0 rfl rfl dX8_note_65 ?_
            refine gf (C := RX1) (T := TX1) (N := 9) (ci := 0) (k := 4) S hK hW wu_X1 rfl (by decide) wf_X8_219 4 rfl rfl dX8_note_68 ?_
            refine lv_bipush (v := (6 : Int32)) S.1 S.2.1 dX8_note_71 kb_6 ?_
            refine lv_icmp_lt (tgt := 81) S.1 S.2.1 dX8_note_73 (by decide) (fun u24 => ?_) (fun u24 => ?_)
            · have h := of_p u24 h
              refine lv_aload_n S.1 S.2.1 dX8_note_81 rfl (lv_at hl 0 rfl) ?_
              refine gf (C := RX8) (T := TX8) (N := 8) (ci := 4) (k := 0) S hK hW wu_X8 rfl (by decide) wf_X8_10 0 rfl rfl dX8_note_82 ?_
              refine lv_iload_n S.1 S.2.1 dX8_note_85 rfl (lv_at hl 1 rfl) ?_
              refine lv_iload_n S.1 S.2.1 dX8_note_86 rfl (lv_at hl 2 rfl) ?_
              refine lv_iload_n S.1 S.2.1 dX8_note_87 rfl (lv_at hl 3 rfl) ?_
              refine lv_iload S.1 S.2.1 dX8_note_88 (lv_at hl 4 rfl) ?_
              refine lv_iload S.1 S.2.1 dX8_note_90 (lv_at hl 5 rfl) ?_
              obtain ⟨cv25, hy26, h⟩ := bd1_e h
              refine kv (clX8 cI cJ cZ cB h0 a0 (c0 2) (c0 5) (w0 6 0) (w0 7 0) (clX1 cI cJ cZ cB (a0 0) a1 (cv25 1) (cv25 2 0) (cv25 3) (cv25 4 0) (cv25 5) (cv25 6 0) (w1 7) (cv25 8 0) (clX3 cI cJ cZ cB (a1 0) a2 (c2 0) (c2 1) (c2 2) (c2 3) (c2 4) (c2 5 0) (c2 6 0) (c2 7 0) (c2 8 0) (c2 9 0) []))) S hK hN hZ hA hW (rest := []) (t_X1_addNote l dC dI cI cJ cZ cB zz (a0 0) a1 c1 w1 p1 p2 p3 p4 p5 _  hy26) wl_X8_222 wv_X1_addNote rfl rfl ⟨Nat.le_of_ble_eq_true rfl, Nat.le_of_ble_eq_true rfl⟩ (clX8 cI cJ cZ cB h0 a0 (c0 2) (c0 5) (w0 6 0) (w0 7 0) []) (clX3 cI cJ cZ cB (a1 0) a2 (c2 0) (c2 1) (c2 2) (c2 3) (c2 4) (c2 5 0) (c2 6 0) (c2 7 0) (c2 8 0) (c2 9 0) []) rfl rfl rfl 4 rfl rfl rfl rfl hl.1 rfl (Nat.le_of_ble_eq_true rfl) dX8_note_92 [] rfl (fun H locs hW => ?_)
              refine lv_aload_n S.1 S.2.1 dX8_note_95 rfl (lv_at hl 0 rfl) ?_
              refine gf (C := RX8) (T := TX8) (N := 8) (ci := 4) (k := 0) S hK hW wu_X8 rfl (by decide) wf_X8_10 0 rfl rfl dX8_note_96 ?_
              refine gf (C := RX1) (T := TX1) (N := 9) (ci := 0) (k := 4) S hK hW wu_X1 rfl (by decide) wf_X8_219 4 rfl rfl dX8_note_99 ?_
              have f27 := Option.some.inj h
              obtain ⟨f28, f29⟩ := Prod.mk.inj f27
              obtain ⟨f30, f31⟩ := Prod.mk.inj f29
              subst f28
              subst f30
              subst f31
              exact ri S hr hlocks hW dX8_note_102
            · have h := of_n u24 h
              refine lv_aload_n S.1 S.2.1 dX8_note_76 rfl (lv_at hl 0 rfl) ?_
              obtain ⟨r32, cv33, hy34, h⟩ := bd2_e h
              refine kv (clX8 cI cJ cZ cB h0 a0 (cv33 2) (cv33 5) (w0 6 0) (w0 7 0) (clX1 cI cJ cZ cB (a0 0) a1 (c1 1) (c1 2 0) (c1 3) (c1 4 0) (c1 5) (c1 6 0) (w1 7) (c1 8 0) (clX3 cI cJ cZ cB (a1 0) a2 (c2 0) (c2 1) (c2 2) (c2 3) (c2 4) (c2 5 0) (c2 6 0) (c2 7 0) (c2 8 0) (c2 9 0) []))) S hK hN hZ hA hW (rest := []) (t_X8_refuseAsFull l dC dI cI cJ cZ cB zz h0 a0 c0 w0 _ _  hy34) wl_X8_85 wv_X8_refuseAsFull rfl rfl ⟨Nat.le_of_ble_eq_true rfl, Nat.le_of_ble_eq_true rfl⟩ [] (clX1 cI cJ cZ cB (a0 0) a1 (c1 1) (c1 2 0) (c1 3) (c1 4 0) (c1 5) (c1 6 0) (w1 7) (c1 8 0) (clX3 cI cJ cZ cB (a1 0) a2 (c2 0) (c2 1) (c2 2) (c2 3) (c2 4) (c2 5 0) (c2 6 0) (c2 7 0) (c2 8 0) (c2 9 0) [])) rfl rfl rfl 0 rfl rfl rfl rfl hl.1 rfl (Nat.le_of_ble_eq_true rfl) dX8_note_77 [.int r32] rfl (fun H locs hW => ?_)
              have f35 := Option.some.inj h
              obtain ⟨f36, f37⟩ := Prod.mk.inj f35
              obtain ⟨f38, f39⟩ := Prod.mk.inj f37
              subst f36
              subst f38
              subst f39
              exact ri S hr hlocks hW dX8_note_80
          · have h := of_p u23 h
            exact hJ57 _ _ h H locs hW ls (lv_sub hl [0] rfl)
abbrev rmX8_mark : Room := { frames := 2, cells := 0, slots := 0, locals := 42 }
set_option maxHeartbeats 4000000 in
set_option maxRecDepth 100000 in
theorem t_X8_mark (l : Launch) (dC : Nat → ClassId) (dI : Nat → Nat → Nat) (cI cJ cZ cB : ClassId) (zz : ZT)  (h0 : Nat) (a0 : Nat → Nat) (a1 : Nat → Nat) (c0 : Nat → Nat → Int32) (w0 : Nat → Nat → Int64) (c1 : Nat → Nat → Int32) (w1 : Nat → Nat → Int64) (p1 : Int32) (p2 : Int32) (p3 : Int32) (p4 : Int32) (r : Int32) (c0' : Nat → Nat → Int32) (c1' : Nat → Nat → Int32) (hm : md_X8_mark c0 w0 c1 w1 p1 p2 p3 p4 = some (r, c0', c1')) : ct l (dC, dI) zz (ty4 cI cJ cZ cB) yX8_mark cX8_mark 5 (some .int) rmX8_mark [.ref h0, .int p1, .int p2, .int p3, .int p4] (cwX8 cI cJ cZ cB h0 a0 c0 w0 (cwX1 cI cJ cZ cB (a0 0) a1 c1 w1 [])) (cwX8 cI cJ cZ cB h0 a0 c0' w0 (cwX1 cI cJ cZ cB (a0 0) a1 c1' w1 [])) (some (.int r)) := by
  refine ct_of (cc := cX8_mark) (maxL := 5) (ret := (some .int)) (by decide) (Nat.le_of_ble_eq_true rfl) ?_
  intro p e s m below meth c A S hr hlocks hK hN hZ hA H locs hW ls hl
  have S : CallFix p m c cX8_mark 5 s (List.toArray [.ref h0, .int p1, .int p2, .int p3, .int p4]) G RX8 := S
  have hl : lv_has ls 5 [(0, .ref h0), (1, .int p1), (2, .int p2), (3, .int p3), (4, .int p4)] := hl
  have h := hm
  rw [md_X8_mark] at h
  have hW : wd (dC, dI) A s.heap (clX8 cI cJ cZ cB h0 a0 (c0 2) (c0 5) (w0 6 0) (w0 7 0) (clX1 cI cJ cZ cB (a0 0) a1 (c1 1) (c1 2 0) (c1 3) (c1 4 0) (c1 5) (c1 6 0) (w1 7) (c1 8 0) [])) H locs := hW
  have hJ36 : ∀ (c0 : Nat → Nat → Int32) (c1 : Nat → Nat → Int32), jd_X8_mark_36 w0 w1 c0 c1 = some (r, c0', c1') → ∀ (H : Heap) (locs : List Loc), wd (dC, dI) A s.heap (clX8 cI cJ cZ cB h0 a0 (c0 2) (c0 5) (w0 6 0) (w0 7 0) (clX1 cI cJ cZ cB (a0 0) a1 (c1 1) (c1 2 0) (c1 3) (c1 4 0) (c1 5) (c1 6 0) (w1 7) (c1 8 0) [])) H locs → ∀ ls : Array Slot, lv_has ls 5 [(0, .ref h0)] → W p l e rmX8_mark s m (List.toArray [.ref h0, .int p1, .int p2, .int p3, .int p4]) below meth c H locs 0 0 (MQ below (kQ (dC, dI) (cwX8 cI cJ cZ cB h0 a0 c0' w0 (cwX1 cI cJ cZ cB (a0 0) a1 c1' w1 [])) (some (.int r)) A) (List.toArray [.ref h0, .int p1, .int p2, .int p3, .int p4]) s 0 0 A) (F0 m 36 ls []) := by
    intro c0 c1 h H locs hW ls hl
    rw [jd_X8_mark_36] at h
    refine lv_aload_n S.1 S.2.1 dX8_mark_36 rfl (lv_at hl 0 rfl) ?_
    refine lv_bipush (v := (-2 : Int32)) S.1 S.2.1 dX8_mark_37 kb_m2 ?_
    obtain ⟨r1, cv2, hy3, h⟩ := bd2_e h
    refine kv (clX8 cI cJ cZ cB h0 a0 (cv2 2) (cv2 5) (w0 6 0) (w0 7 0) (clX1 cI cJ cZ cB (a0 0) a1 (c1 1) (c1 2 0) (c1 3) (c1 4 0) (c1 5) (c1 6 0) (w1 7) (c1 8 0) [])) S hK hN hZ hA hW (rest := []) (t_X8_refuseAsBad l dC dI cI cJ cZ cB zz h0 a0 c0 w0 (-2 : Int32) _ _  hy3) wl_X8_53 wv_X8_refuseAsBad rfl rfl ⟨Nat.le_of_ble_eq_true rfl, Nat.le_of_ble_eq_true rfl⟩ [] (clX1 cI cJ cZ cB (a0 0) a1 (c1 1) (c1 2 0) (c1 3) (c1 4 0) (c1 5) (c1 6 0) (w1 7) (c1 8 0) []) rfl rfl rfl 0 rfl rfl rfl rfl hl.1 rfl (Nat.le_of_ble_eq_true rfl) dX8_mark_39 [.int r1] rfl (fun H locs hW => ?_)
    have f4 := Option.some.inj h
    obtain ⟨f5, f6⟩ := Prod.mk.inj f4
    obtain ⟨f7, f8⟩ := Prod.mk.inj f6
    subst f5
    subst f7
    subst f8
    exact ri S hr hlocks hW dX8_mark_42
  refine lv_iload_n S.1 S.2.1 dX8_mark_0 rfl (lv_at hl 1 rfl) ?_
  obtain ⟨r9, hy10, h⟩ := bd1_e h
  refine ks0 S hK hN hZ hA hW (rest := []) (t_X8_isCounsel l dC dI cI cJ cZ cB zz p1 _  hy10) wl_X8_68 wv_X8_isCounsel rfl rfl ⟨Nat.le_of_ble_eq_true rfl, Nat.le_of_ble_eq_true rfl⟩ [] (clX8 cI cJ cZ cB h0 a0 (c0 2) (c0 5) (w0 6 0) (w0 7 0) (clX1 cI cJ cZ cB (a0 0) a1 (c1 1) (c1 2 0) (c1 3) (c1 4 0) (c1 5) (c1 6 0) (w1 7) (c1 8 0) [])) rfl rfl hl.1 rfl (Nat.le_of_ble_eq_true rfl) dX8_mark_1 [.int r9] rfl (fun H locs hW => ?_)
  refine lv_if_eq (tgt := 36) S.1 S.2.1 dX8_mark_4 (by decide) (fun u11 => ?_) (fun u11 => ?_)
  · have h := of_p u11 h
    exact hJ36 _ _ h H locs hW ls (lv_sub hl [0] rfl)
  · have h := of_n u11 h
    refine lv_iconst (v := (0 : Int32)) S.1 S.2.1 dX8_mark_7 ki_0 ?_
    refine lv_iload_n S.1 S.2.1 dX8_mark_8 rfl (lv_at hl 2 rfl) ?_
    refine lv_bipush (v := (40 : Int32)) S.1 S.2.1 dX8_mark_9 kb_40 ?_
    obtain ⟨r12, hy13, h⟩ := bd1_e h
    refine ks0 S hK hN hZ hA hW (rest := []) (t_X8_within l dC dI cI cJ cZ cB zz (0 : Int32) p2 (40 : Int32) _  hy13) wl_X8_71 wv_X8_within rfl rfl ⟨Nat.le_of_ble_eq_true rfl, Nat.le_of_ble_eq_true rfl⟩ [] (clX8 cI cJ cZ cB h0 a0 (c0 2) (c0 5) (w0 6 0) (w0 7 0) (clX1 cI cJ cZ cB (a0 0) a1 (c1 1) (c1 2 0) (c1 3) (c1 4 0) (c1 5) (c1 6 0) (w1 7) (c1 8 0) [])) rfl rfl hl.1 rfl (Nat.le_of_ble_eq_true rfl) dX8_mark_11 [.int r12] rfl (fun H locs hW => ?_)
    refine lv_if_eq (tgt := 36) S.1 S.2.1 dX8_mark_14 (by decide) (fun u14 => ?_) (fun u14 => ?_)
    · have h := of_p u14 h
      exact hJ36 _ _ h H locs hW ls (lv_sub hl [0] rfl)
    · have h := of_n u14 h
      refine lv_iload_n S.1 S.2.1 dX8_mark_17 rfl (lv_at hl 3 rfl) ?_
      obtain ⟨r15, hy16, h⟩ := bd1_e h
      refine ks0 S hK hN hZ hA hW (rest := []) (t_X8_isChair l dC dI cI cJ cZ cB zz p3 _  hy16) wl_X8_197 wv_X8_isChair rfl rfl ⟨Nat.le_of_ble_eq_true rfl, Nat.le_of_ble_eq_true rfl⟩ [] (clX8 cI cJ cZ cB h0 a0 (c0 2) (c0 5) (w0 6 0) (w0 7 0) (clX1 cI cJ cZ cB (a0 0) a1 (c1 1) (c1 2 0) (c1 3) (c1 4 0) (c1 5) (c1 6 0) (w1 7) (c1 8 0) [])) rfl rfl hl.1 rfl (Nat.le_of_ble_eq_true rfl) dX8_mark_18 [.int r15] rfl (fun H locs hW => ?_)
      refine lv_if_eq (tgt := 36) S.1 S.2.1 dX8_mark_21 (by decide) (fun u17 => ?_) (fun u17 => ?_)
      · have h := of_p u17 h
        exact hJ36 _ _ h H locs hW ls (lv_sub hl [0] rfl)
      · have h := of_n u17 h
        refine lv_bipush (v := (-50 : Int32)) S.1 S.2.1 dX8_mark_24 kb_m50 ?_
        refine lv_iload S.1 S.2.1 dX8_mark_26 (lv_at hl 4 rfl) ?_
        refine lv_bipush (v := (50 : Int32)) S.1 S.2.1 dX8_mark_28 kb_50 ?_
        obtain ⟨r18, hy19, h⟩ := bd1_e h
        refine ks0 S hK hN hZ hA hW (rest := []) (t_X8_within l dC dI cI cJ cZ cB zz (-50 : Int32) p4 (50 : Int32) _  hy19) wl_X8_71 wv_X8_within rfl rfl ⟨Nat.le_of_ble_eq_true rfl, Nat.le_of_ble_eq_true rfl⟩ [] (clX8 cI cJ cZ cB h0 a0 (c0 2) (c0 5) (w0 6 0) (w0 7 0) (clX1 cI cJ cZ cB (a0 0) a1 (c1 1) (c1 2 0) (c1 3) (c1 4 0) (c1 5) (c1 6 0) (w1 7) (c1 8 0) [])) rfl rfl hl.1 rfl (Nat.le_of_ble_eq_true rfl) dX8_mark_30 [.int r18] rfl (fun H locs hW => ?_)
        refine lv_if_ne (tgt := 43) S.1 S.2.1 dX8_mark_33 (by decide) (fun u20 => ?_) (fun u20 => ?_)
        · have h := of_n u20 h
          refine lv_aload_n S.1 S.2.1 dX8_mark_43 rfl (lv_at hl 0 rfl) ?_
          refine gf (C := RX8) (T := TX8) (N := 8) (ci := 4) (k := 0) S hK hW wu_X8 rfl (by decide) wf_X8_10 0 rfl rfl dX8_mark_44 ?_
          refine gf (C := RX1) (T := TX1) (N := 9) (ci := 0) (k := 6) S hK hW wu_X1 rfl (by decide) wf_X8_226 4 rfl rfl dX8_mark_47 ?_
          refine lv_bipush (v := (6 : Int32)) S.1 S.2.1 dX8_mark_50 kb_6 ?_
          refine lv_icmp_lt (tgt := 60) S.1 S.2.1 dX8_mark_52 (by decide) (fun u21 => ?_) (fun u21 => ?_)
          · have h := of_p u21 h
            refine lv_aload_n S.1 S.2.1 dX8_mark_60 rfl (lv_at hl 0 rfl) ?_
            refine gf (C := RX8) (T := TX8) (N := 8) (ci := 4) (k := 0) S hK hW wu_X8 rfl (by decide) wf_X8_10 0 rfl rfl dX8_mark_61 ?_
            refine lv_iload_n S.1 S.2.1 dX8_mark_64 rfl (lv_at hl 1 rfl) ?_
            refine lv_iload_n S.1 S.2.1 dX8_mark_65 rfl (lv_at hl 2 rfl) ?_
            refine lv_iload_n S.1 S.2.1 dX8_mark_66 rfl (lv_at hl 3 rfl) ?_
            refine lv_iload S.1 S.2.1 dX8_mark_67 (lv_at hl 4 rfl) ?_
            obtain ⟨cv22, hy23, h⟩ := bd1_e h
            refine kv (clX8 cI cJ cZ cB h0 a0 (c0 2) (c0 5) (w0 6 0) (w0 7 0) (clX1 cI cJ cZ cB (a0 0) a1 (cv22 1) (cv22 2 0) (cv22 3) (cv22 4 0) (cv22 5) (cv22 6 0) (w1 7) (cv22 8 0) [])) S hK hN hZ hA hW (rest := []) (t_X1_addMark l dC dI cI cJ cZ cB zz (a0 0) a1 c1 w1 p1 p2 p3 p4 _  hy23) wl_X8_229 wv_X1_addMark rfl rfl ⟨Nat.le_of_ble_eq_true rfl, Nat.le_of_ble_eq_true rfl⟩ (clX8 cI cJ cZ cB h0 a0 (c0 2) (c0 5) (w0 6 0) (w0 7 0) []) [] rfl rfl rfl 4 rfl rfl rfl rfl hl.1 rfl (Nat.le_of_ble_eq_true rfl) dX8_mark_69 [] rfl (fun H locs hW => ?_)
            refine lv_aload_n S.1 S.2.1 dX8_mark_72 rfl (lv_at hl 0 rfl) ?_
            refine gf (C := RX8) (T := TX8) (N := 8) (ci := 4) (k := 0) S hK hW wu_X8 rfl (by decide) wf_X8_10 0 rfl rfl dX8_mark_73 ?_
            refine gf (C := RX1) (T := TX1) (N := 9) (ci := 0) (k := 6) S hK hW wu_X1 rfl (by decide) wf_X8_226 4 rfl rfl dX8_mark_76 ?_
            have f24 := Option.some.inj h
            obtain ⟨f25, f26⟩ := Prod.mk.inj f24
            obtain ⟨f27, f28⟩ := Prod.mk.inj f26
            subst f25
            subst f27
            subst f28
            exact ri S hr hlocks hW dX8_mark_79
          · have h := of_n u21 h
            refine lv_aload_n S.1 S.2.1 dX8_mark_55 rfl (lv_at hl 0 rfl) ?_
            obtain ⟨r29, cv30, hy31, h⟩ := bd2_e h
            refine kv (clX8 cI cJ cZ cB h0 a0 (cv30 2) (cv30 5) (w0 6 0) (w0 7 0) (clX1 cI cJ cZ cB (a0 0) a1 (c1 1) (c1 2 0) (c1 3) (c1 4 0) (c1 5) (c1 6 0) (w1 7) (c1 8 0) [])) S hK hN hZ hA hW (rest := []) (t_X8_refuseAsFull l dC dI cI cJ cZ cB zz h0 a0 c0 w0 _ _  hy31) wl_X8_85 wv_X8_refuseAsFull rfl rfl ⟨Nat.le_of_ble_eq_true rfl, Nat.le_of_ble_eq_true rfl⟩ [] (clX1 cI cJ cZ cB (a0 0) a1 (c1 1) (c1 2 0) (c1 3) (c1 4 0) (c1 5) (c1 6 0) (w1 7) (c1 8 0) []) rfl rfl rfl 0 rfl rfl rfl rfl hl.1 rfl (Nat.le_of_ble_eq_true rfl) dX8_mark_56 [.int r29] rfl (fun H locs hW => ?_)
            have f32 := Option.some.inj h
            obtain ⟨f33, f34⟩ := Prod.mk.inj f32
            obtain ⟨f35, f36⟩ := Prod.mk.inj f34
            subst f33
            subst f35
            subst f36
            exact ri S hr hlocks hW dX8_mark_59
        · have h := of_p u20 h
          exact hJ36 _ _ h H locs hW ls (lv_sub hl [0] rfl)
