abbrev rmX9_now : Room := { frames := 3, cells := 0, slots := 0, locals := 61 }
set_option maxHeartbeats 4000000 in
set_option maxRecDepth 100000 in
theorem t_X9_now (l : Launch) (dC : Nat → ClassId) (dI : Nat → Nat → Nat) (cI cJ cZ cB : ClassId) (zz : ZT)  (h0 : Nat) (a0 : Nat → Nat) (c0 : Nat → Nat → Int32) (w0 : Nat → Nat → Int64) (p1 : Int32) (r : Int32) (c0' : Nat → Nat → Int32) (hm : md_X9_now c0 w0 p1 = some (r, c0')) : ct l (dC, dI) zz (ty4 cI cJ cZ cB) yX9_now cX9_now 2 (some .int) rmX9_now [.ref h0, .int p1] (cwX9 cI cJ cZ cB h0 a0 c0 w0 []) (cwX9 cI cJ cZ cB h0 a0 c0' w0 []) (some (.int r)) := by
  refine ct_of (cc := cX9_now) (maxL := 2) (ret := (some .int)) (by decide) (Nat.le_of_ble_eq_true rfl) ?_
  intro p e s m below meth c A S hr hlocks hK hN hZ hA H locs hW ls hl
  have S : CallFix p m c cX9_now 2 s (List.toArray [.ref h0, .int p1]) G RX9 := S
  have hl : lv_has ls 2 [(0, .ref h0), (1, .int p1)] := hl
  have h := hm
  rw [md_X9_now] at h
  have hW : wd (dC, dI) A s.heap (clX9 cI cJ cZ cB h0 a0 (c0 0) (c0 1) (c0 2) (c0 3) (w0 4 0) (w0 5 0) (c0 6) (c0 7) (c0 8) (c0 9) (c0 10) (c0 11) (c0 12) (c0 13) (c0 14 0) (c0 15 0) (c0 16 0) (c0 17 0) (c0 18) (c0 19) (c0 20) (c0 21 0) (c0 22 0) (c0 23 0) (c0 24 0) (c0 25 0) (c0 26) (c0 27) []) H locs := hW
  refine lv_iload_n S.1 S.2.1 dX9_now_0 rfl (lv_at hl 1 rfl) ?_
  refine lv_i2l S.1 S.2.1 dX9_now_1 rfl ?_
  refine lv_lconst (v := (0 : Int64)) S.1 S.2.1 dX9_now_2 rfl ?_
  refine lv_ldc2 (v := (5 : Int64)) S.1 S.2.1 S.2.2.2.1 (S.2.2.2.2 _ wk_X9_78) dX9_now_3 ?_
  obtain ⟨r1, hy2, h⟩ := bd1_e h
  refine ks0 S hK hN hZ hA hW (rest := []) (t_X9_in l dC dI cI cJ cZ cB zz p1.toInt64 (0 : Int64) (5 : Int64) _  hy2) wl_X9_74 wv_X9_in rfl rfl ⟨Nat.le_of_ble_eq_true rfl, Nat.le_of_ble_eq_true rfl⟩ [] (clX9 cI cJ cZ cB h0 a0 (c0 0) (c0 1) (c0 2) (c0 3) (w0 4 0) (w0 5 0) (c0 6) (c0 7) (c0 8) (c0 9) (c0 10) (c0 11) (c0 12) (c0 13) (c0 14 0) (c0 15 0) (c0 16 0) (c0 17 0) (c0 18) (c0 19) (c0 20) (c0 21 0) (c0 22 0) (c0 23 0) (c0 24 0) (c0 25 0) (c0 26) (c0 27) []) rfl rfl hl.1 rfl (Nat.le_of_ble_eq_true rfl) dX9_now_6 [.int r1] rfl (fun H locs hW => ?_)
  refine lv_if_eq (tgt := 20) S.1 S.2.1 dX9_now_9 (by decide) (fun u3 => ?_) (fun u3 => ?_)
  · have h := of_p u3 h
    refine lv_aload_n S.1 S.2.1 dX9_now_20 rfl (lv_at hl 0 rfl) ?_
    refine lv_sipush (v := (-1000 : Int32)) S.1 S.2.1 dX9_now_21 ks_m1000 ?_
    obtain ⟨r4, cv5, hy6, h⟩ := bd2_e h
    refine kv (clX9 cI cJ cZ cB h0 a0 (cv5 0) (cv5 1) (cv5 2) (cv5 3) (w0 4 0) (w0 5 0) (cv5 6) (cv5 7) (cv5 8) (cv5 9) (cv5 10) (cv5 11) (cv5 12) (cv5 13) (cv5 14 0) (cv5 15 0) (cv5 16 0) (cv5 17 0) (cv5 18) (cv5 19) (cv5 20) (cv5 21 0) (cv5 22 0) (cv5 23 0) (cv5 24 0) (cv5 25 0) (cv5 26) (cv5 27) []) S hK hN hZ hA hW (rest := []) (t_X9_bad l dC dI cI cJ cZ cB zz h0 a0 c0 w0 (-1000 : Int32) _ _  hy6) wl_X9_84 wv_X9_bad rfl rfl ⟨Nat.le_of_ble_eq_true rfl, Nat.le_of_ble_eq_true rfl⟩ [] [] rfl rfl rfl 0 rfl rfl rfl rfl hl.1 rfl (Nat.le_of_ble_eq_true rfl) dX9_now_24 [.int r4] rfl (fun H locs hW => ?_)
    have f7 := Option.some.inj h
    obtain ⟨f8, f9⟩ := Prod.mk.inj f7
    subst f8
    subst f9
    exact ri S hr hlocks hW dX9_now_27
  · have h := of_n u3 h
    refine lv_aload_n S.1 S.2.1 dX9_now_12 rfl (lv_at hl 0 rfl) ?_
    refine lv_iload_n S.1 S.2.1 dX9_now_13 rfl (lv_at hl 1 rfl) ?_
    obtain ⟨r10, hy11, h⟩ := bd1_e h
    refine kv0 S hK hN hZ hA hW (rest := []) (t_X9_toldNow l dC dI cI cJ cZ cB zz h0 a0 c0 w0 p1 _  hy11) wl_X9_140 wv_X9_toldNow rfl rfl ⟨Nat.le_of_ble_eq_true rfl, Nat.le_of_ble_eq_true rfl⟩ [] [] rfl 0 rfl rfl rfl rfl hl.1 rfl (Nat.le_of_ble_eq_true rfl) dX9_now_14 [.int r10] rfl (fun H locs hW => ?_)
    refine lv_goto (tgt := 27) S.1 S.2.1 dX9_now_17 (by decide) ?_
    have f12 := Option.some.inj h
    obtain ⟨f13, f14⟩ := Prod.mk.inj f12
    subst f13
    subst f14
    exact ri S hr hlocks hW dX9_now_27
abbrev rmX9_of : Room := { frames := 2, cells := 0, slots := 0, locals := 46 }
set_option maxHeartbeats 4000000 in
set_option maxRecDepth 100000 in
theorem t_X9_of (l : Launch) (dC : Nat → ClassId) (dI : Nat → Nat → Nat) (cI cJ cZ cB : ClassId) (zz : ZT)  (h0 : Nat) (a0 : Nat → Nat) (c0 : Nat → Nat → Int32) (w0 : Nat → Nat → Int64) (p1 : Int32) (p2 : Int32) (r : Int32) (c0' : Nat → Nat → Int32) (hm : md_X9_of c0 w0 p1 p2 = some (r, c0')) : ct l (dC, dI) zz (ty4 cI cJ cZ cB) yX9_of cX9_of 3 (some .int) rmX9_of [.ref h0, .int p1, .int p2] (cwX9 cI cJ cZ cB h0 a0 c0 w0 []) (cwX9 cI cJ cZ cB h0 a0 c0' w0 []) (some (.int r)) := by
  refine ct_of (cc := cX9_of) (maxL := 3) (ret := (some .int)) (by decide) (Nat.le_of_ble_eq_true rfl) ?_
  intro p e s m below meth c A S hr hlocks hK hN hZ hA H locs hW ls hl
  have S : CallFix p m c cX9_of 3 s (List.toArray [.ref h0, .int p1, .int p2]) G RX9 := S
  have hl : lv_has ls 3 [(0, .ref h0), (1, .int p1), (2, .int p2)] := hl
  have h := hm
  rw [md_X9_of] at h
  have hW : wd (dC, dI) A s.heap (clX9 cI cJ cZ cB h0 a0 (c0 0) (c0 1) (c0 2) (c0 3) (w0 4 0) (w0 5 0) (c0 6) (c0 7) (c0 8) (c0 9) (c0 10) (c0 11) (c0 12) (c0 13) (c0 14 0) (c0 15 0) (c0 16 0) (c0 17 0) (c0 18) (c0 19) (c0 20) (c0 21 0) (c0 22 0) (c0 23 0) (c0 24 0) (c0 25 0) (c0 26) (c0 27) []) H locs := hW
  have hJ20 : ∀ (c0 : Nat → Nat → Int32), jd_X9_of_20 w0 c0 = some (r, c0') → ∀ (H : Heap) (locs : List Loc), wd (dC, dI) A s.heap (clX9 cI cJ cZ cB h0 a0 (c0 0) (c0 1) (c0 2) (c0 3) (w0 4 0) (w0 5 0) (c0 6) (c0 7) (c0 8) (c0 9) (c0 10) (c0 11) (c0 12) (c0 13) (c0 14 0) (c0 15 0) (c0 16 0) (c0 17 0) (c0 18) (c0 19) (c0 20) (c0 21 0) (c0 22 0) (c0 23 0) (c0 24 0) (c0 25 0) (c0 26) (c0 27) []) H locs → ∀ ls : Array Slot, lv_has ls 3 [(0, .ref h0)] → W p l e rmX9_of s m (List.toArray [.ref h0, .int p1, .int p2]) below meth c H locs 0 0 (MQ below (kQ (dC, dI) (cwX9 cI cJ cZ cB h0 a0 c0' w0 []) (some (.int r)) A) (List.toArray [.ref h0, .int p1, .int p2]) s 0 0 A) (F0 m 20 ls []) := by
    intro c0 h H locs hW ls hl
    rw [jd_X9_of_20] at h
    refine lv_aload_n S.1 S.2.1 dX9_of_20 rfl (lv_at hl 0 rfl) ?_
    refine lv_bipush (v := (-2 : Int32)) S.1 S.2.1 dX9_of_21 kb_m2 ?_
    obtain ⟨r1, cv2, hy3, h⟩ := bd2_e h
    refine kv (clX9 cI cJ cZ cB h0 a0 (cv2 0) (cv2 1) (cv2 2) (cv2 3) (w0 4 0) (w0 5 0) (cv2 6) (cv2 7) (cv2 8) (cv2 9) (cv2 10) (cv2 11) (cv2 12) (cv2 13) (cv2 14 0) (cv2 15 0) (cv2 16 0) (cv2 17 0) (cv2 18) (cv2 19) (cv2 20) (cv2 21 0) (cv2 22 0) (cv2 23 0) (cv2 24 0) (cv2 25 0) (cv2 26) (cv2 27) []) S hK hN hZ hA hW (rest := []) (t_X9_bad l dC dI cI cJ cZ cB zz h0 a0 c0 w0 (-2 : Int32) _ _  hy3) wl_X9_84 wv_X9_bad rfl rfl ⟨Nat.le_of_ble_eq_true rfl, Nat.le_of_ble_eq_true rfl⟩ [] [] rfl rfl rfl 0 rfl rfl rfl rfl hl.1 rfl (Nat.le_of_ble_eq_true rfl) dX9_of_23 [.int r1] rfl (fun H locs hW => ?_)
    have f4 := Option.some.inj h
    obtain ⟨f5, f6⟩ := Prod.mk.inj f4
    subst f5
    subst f6
    exact ri S hr hlocks hW dX9_of_26
  refine lv_aload_n S.1 S.2.1 dX9_of_0 rfl (lv_at hl 0 rfl) ?_
  refine lv_iload_n S.1 S.2.1 dX9_of_1 rfl (lv_at hl 1 rfl) ?_
  obtain ⟨r7, hy8, h⟩ := bd1_e h
  refine kv0 S hK hN hZ hA hW (rest := []) (t_X9_isPoint l dC dI cI cJ cZ cB zz h0 a0 c0 w0 p1 _  hy8) wl_X9_117 wv_X9_isPoint rfl rfl ⟨Nat.le_of_ble_eq_true rfl, Nat.le_of_ble_eq_true rfl⟩ [] [] rfl 0 rfl rfl rfl rfl hl.1 rfl (Nat.le_of_ble_eq_true rfl) dX9_of_2 [.int r7] rfl (fun H locs hW => ?_)
  refine lv_if_eq (tgt := 20) S.1 S.2.1 dX9_of_5 (by decide) (fun u9 => ?_) (fun u9 => ?_)
  · have h := of_p u9 h
    exact hJ20 _ h H locs hW ls (lv_sub hl [0] rfl)
  · have h := of_n u9 h
    refine lv_iload_n S.1 S.2.1 dX9_of_8 rfl (lv_at hl 2 rfl) ?_
    refine lv_i2l S.1 S.2.1 dX9_of_9 rfl ?_
    refine lv_lconst (v := (0 : Int64)) S.1 S.2.1 dX9_of_10 rfl ?_
    refine lv_ldc2 (v := (3 : Int64)) S.1 S.2.1 S.2.2.2.1 (S.2.2.2.2 _ wk_X9_91) dX9_of_11 ?_
    obtain ⟨r10, hy11, h⟩ := bd1_e h
    refine ks0 S hK hN hZ hA hW (rest := []) (t_X9_in l dC dI cI cJ cZ cB zz p2.toInt64 (0 : Int64) (3 : Int64) _  hy11) wl_X9_74 wv_X9_in rfl rfl ⟨Nat.le_of_ble_eq_true rfl, Nat.le_of_ble_eq_true rfl⟩ [] (clX9 cI cJ cZ cB h0 a0 (c0 0) (c0 1) (c0 2) (c0 3) (w0 4 0) (w0 5 0) (c0 6) (c0 7) (c0 8) (c0 9) (c0 10) (c0 11) (c0 12) (c0 13) (c0 14 0) (c0 15 0) (c0 16 0) (c0 17 0) (c0 18) (c0 19) (c0 20) (c0 21 0) (c0 22 0) (c0 23 0) (c0 24 0) (c0 25 0) (c0 26) (c0 27) []) rfl rfl hl.1 rfl (Nat.le_of_ble_eq_true rfl) dX9_of_14 [.int r10] rfl (fun H locs hW => ?_)
    refine lv_if_ne (tgt := 27) S.1 S.2.1 dX9_of_17 (by decide) (fun u12 => ?_) (fun u12 => ?_)
    · have h := of_n u12 h
      refine lv_iload_n S.1 S.2.1 dX9_of_27 rfl (lv_at hl 2 rfl) ?_
      refine lv_iconst (v := (3 : Int32)) S.1 S.2.1 dX9_of_28 ki_3 ?_
      refine lv_icmp_ne (tgt := 45) S.1 S.2.1 dX9_of_29 (by decide) (fun u13 => ?_) (fun u13 => ?_)
      · have h := of_n u13 h
        refine lv_aload_n S.1 S.2.1 dX9_of_45 rfl (lv_at hl 0 rfl) ?_
        refine gf (C := RX9) (T := TX9) (N := 28) (ci := 5) (k := 0) S hK hW wu_X9 rfl (by decide) wf_X9_7 0 rfl rfl dX9_of_46 ?_
        refine lv_iload_n S.1 S.2.1 dX9_of_49 rfl (lv_at hl 2 rfl) ?_
        obtain ⟨y14, e15, h⟩ := lt1_e h
        suffices hM16 : ∀ ls : Array Slot, lv_has ls 3 [(1, .int p1)] → W p l e rmX9_of s m (List.toArray [.ref h0, .int p1, .int p2]) below meth c H locs 0 0 (MQ below (kQ (dC, dI) (cwX9 cI cJ cZ cB h0 a0 c0' w0 []) (some (.int r)) A) (List.toArray [.ref h0, .int p1, .int p2]) s 0 0 A) (F0 m 70 ls [.int y14, .ref (a0 0)]) by
          refine lv_if_ne (tgt := 58) S.1 S.2.1 dX9_of_50 (by decide) (fun u17 => ?_) (fun u17 => ?_)
          · refine lv_iload_n S.1 S.2.1 dX9_of_58 rfl (lv_at hl 2 rfl) ?_
            refine lv_iconst (v := (1 : Int32)) S.1 S.2.1 dX9_of_59 ki_1 ?_
            refine lv_icmp_ne (tgt := 68) S.1 S.2.1 dX9_of_60 (by decide) (fun u18 => ?_) (fun u18 => ?_)
            · refine lv_bipush (v := (6 : Int32)) S.1 S.2.1 dX9_of_68 kb_6 ?_
              have e15 := e15.trans ((if_neg u17).trans (if_neg u18))
              subst e15
              exact hM16 ls (lv_sub hl [1] rfl)
            · refine lv_bipush (v := (24 : Int32)) S.1 S.2.1 dX9_of_63 kb_24 ?_
              refine lv_goto (tgt := 70) S.1 S.2.1 dX9_of_65 (by decide) ?_
              have e15 := e15.trans ((if_neg u17).trans (if_pos u18))
              subst e15
              exact hM16 ls (lv_sub hl [1] rfl)
          · refine lv_bipush (v := (18 : Int32)) S.1 S.2.1 dX9_of_53 kb_18 ?_
            refine lv_goto (tgt := 70) S.1 S.2.1 dX9_of_55 (by decide) ?_
            have e15 := e15.trans (if_pos u17)
            subst e15
            exact hM16 ls (lv_sub hl [1] rfl)
        intro ls hl
        refine lv_iload_n S.1 S.2.1 dX9_of_70 rfl (lv_at hl 0 rfl) ?_
        refine lv_iadd S.1 S.2.1 dX9_of_71 ?_
        obtain ⟨z19, h⟩ := of_g h
        refine ia S hK hW rfl 1 rfl z19 dX9_of_72 ?_
        have f20 := Option.some.inj h
        obtain ⟨f21, f22⟩ := Prod.mk.inj f20
        subst f21
        subst f22
        exact ri S hr hlocks hW dX9_of_73
      · have h := of_p u13 h
        refine lv_aload_n S.1 S.2.1 dX9_of_32 rfl (lv_at hl 0 rfl) ?_
        refine gf (C := RX9) (T := TX9) (N := 28) (ci := 5) (k := 0) S hK hW wu_X9 rfl (by decide) wf_X9_7 0 rfl rfl dX9_of_33 ?_
        refine lv_iconst (v := (5 : Int32)) S.1 S.2.1 dX9_of_36 ki_5 ?_
        refine iaK S hK hW rfl 1 rfl b_5_194 x_5 dX9_of_37 ?_
        refine lv_iload_n S.1 S.2.1 dX9_of_38 rfl (lv_at hl 1 rfl) ?_
        refine lv_ishr S.1 S.2.1 dX9_of_39 ?_
        refine lv_iconst (v := (1 : Int32)) S.1 S.2.1 dX9_of_40 ki_1 ?_
        refine lv_iand S.1 S.2.1 dX9_of_41 ?_
        refine lv_goto (tgt := 73) S.1 S.2.1 dX9_of_42 (by decide) ?_
        have f23 := Option.some.inj h
        obtain ⟨f24, f25⟩ := Prod.mk.inj f23
        subst f24
        subst f25
        exact ri S hr hlocks hW dX9_of_73
    · have h := of_p u12 h
      exact hJ20 _ h H locs hW ls (lv_sub hl [0] rfl)
abbrev rmX9_about : Room := { frames := 2, cells := 0, slots := 0, locals := 45 }
set_option maxHeartbeats 4000000 in
set_option maxRecDepth 100000 in
theorem t_X9_about (l : Launch) (dC : Nat → ClassId) (dI : Nat → Nat → Nat) (cI cJ cZ cB : ClassId) (zz : ZT)  (h0 : Nat) (a0 : Nat → Nat) (c0 : Nat → Nat → Int32) (w0 : Nat → Nat → Int64) (p1 : Int32) (p2 : Int32) (r : Int32) (c0' : Nat → Nat → Int32) (hm : md_X9_about c0 w0 p1 p2 = some (r, c0')) : ct l (dC, dI) zz (ty4 cI cJ cZ cB) yX9_about cX9_about 3 (some .int) rmX9_about [.ref h0, .int p1, .int p2] (cwX9 cI cJ cZ cB h0 a0 c0 w0 []) (cwX9 cI cJ cZ cB h0 a0 c0' w0 []) (some (.int r)) := by
  refine ct_of (cc := cX9_about) (maxL := 3) (ret := (some .int)) (by decide) (Nat.le_of_ble_eq_true rfl) ?_
  intro p e s m below meth c A S hr hlocks hK hN hZ hA H locs hW ls hl
  have S : CallFix p m c cX9_about 3 s (List.toArray [.ref h0, .int p1, .int p2]) G RX9 := S
  have hl : lv_has ls 3 [(0, .ref h0), (1, .int p1), (2, .int p2)] := hl
  have h := hm
  rw [md_X9_about] at h
  have hW : wd (dC, dI) A s.heap (clX9 cI cJ cZ cB h0 a0 (c0 0) (c0 1) (c0 2) (c0 3) (w0 4 0) (w0 5 0) (c0 6) (c0 7) (c0 8) (c0 9) (c0 10) (c0 11) (c0 12) (c0 13) (c0 14 0) (c0 15 0) (c0 16 0) (c0 17 0) (c0 18) (c0 19) (c0 20) (c0 21 0) (c0 22 0) (c0 23 0) (c0 24 0) (c0 25 0) (c0 26) (c0 27) []) H locs := hW
  have hJ19 : ∀ (c0 : Nat → Nat → Int32), jd_X9_about_19 w0 c0 = some (r, c0') → ∀ (H : Heap) (locs : List Loc), wd (dC, dI) A s.heap (clX9 cI cJ cZ cB h0 a0 (c0 0) (c0 1) (c0 2) (c0 3) (w0 4 0) (w0 5 0) (c0 6) (c0 7) (c0 8) (c0 9) (c0 10) (c0 11) (c0 12) (c0 13) (c0 14 0) (c0 15 0) (c0 16 0) (c0 17 0) (c0 18) (c0 19) (c0 20) (c0 21 0) (c0 22 0) (c0 23 0) (c0 24 0) (c0 25 0) (c0 26) (c0 27) []) H locs → ∀ ls : Array Slot, lv_has ls 3 [(0, .ref h0)] → W p l e rmX9_about s m (List.toArray [.ref h0, .int p1, .int p2]) below meth c H locs 0 0 (MQ below (kQ (dC, dI) (cwX9 cI cJ cZ cB h0 a0 c0' w0 []) (some (.int r)) A) (List.toArray [.ref h0, .int p1, .int p2]) s 0 0 A) (F0 m 19 ls []) := by
    intro c0 h H locs hW ls hl
    rw [jd_X9_about_19] at h
    refine lv_aload_n S.1 S.2.1 dX9_about_19 rfl (lv_at hl 0 rfl) ?_
    refine lv_bipush (v := (-2 : Int32)) S.1 S.2.1 dX9_about_20 kb_m2 ?_
    obtain ⟨r1, cv2, hy3, h⟩ := bd2_e h
    refine kv (clX9 cI cJ cZ cB h0 a0 (cv2 0) (cv2 1) (cv2 2) (cv2 3) (w0 4 0) (w0 5 0) (cv2 6) (cv2 7) (cv2 8) (cv2 9) (cv2 10) (cv2 11) (cv2 12) (cv2 13) (cv2 14 0) (cv2 15 0) (cv2 16 0) (cv2 17 0) (cv2 18) (cv2 19) (cv2 20) (cv2 21 0) (cv2 22 0) (cv2 23 0) (cv2 24 0) (cv2 25 0) (cv2 26) (cv2 27) []) S hK hN hZ hA hW (rest := []) (t_X9_bad l dC dI cI cJ cZ cB zz h0 a0 c0 w0 (-2 : Int32) _ _  hy3) wl_X9_84 wv_X9_bad rfl rfl ⟨Nat.le_of_ble_eq_true rfl, Nat.le_of_ble_eq_true rfl⟩ [] [] rfl rfl rfl 0 rfl rfl rfl rfl hl.1 rfl (Nat.le_of_ble_eq_true rfl) dX9_about_22 [.int r1] rfl (fun H locs hW => ?_)
    have f4 := Option.some.inj h
    obtain ⟨f5, f6⟩ := Prod.mk.inj f4
    subst f5
    subst f6
    exact ri S hr hlocks hW dX9_about_25
  refine lv_iload_n S.1 S.2.1 dX9_about_0 rfl (lv_at hl 1 rfl) ?_
  obtain ⟨r7, hy8, h⟩ := bd1_e h
  refine ks0 S hK hN hZ hA hW (rest := []) (t_X9_isCounsel l dC dI cI cJ cZ cB zz p1 _  hy8) wl_X9_88 wv_X9_isCounsel rfl rfl ⟨Nat.le_of_ble_eq_true rfl, Nat.le_of_ble_eq_true rfl⟩ [] (clX9 cI cJ cZ cB h0 a0 (c0 0) (c0 1) (c0 2) (c0 3) (w0 4 0) (w0 5 0) (c0 6) (c0 7) (c0 8) (c0 9) (c0 10) (c0 11) (c0 12) (c0 13) (c0 14 0) (c0 15 0) (c0 16 0) (c0 17 0) (c0 18) (c0 19) (c0 20) (c0 21 0) (c0 22 0) (c0 23 0) (c0 24 0) (c0 25 0) (c0 26) (c0 27) []) rfl rfl hl.1 rfl (Nat.le_of_ble_eq_true rfl) dX9_about_1 [.int r7] rfl (fun H locs hW => ?_)
  refine lv_if_eq (tgt := 19) S.1 S.2.1 dX9_about_4 (by decide) (fun u9 => ?_) (fun u9 => ?_)
  · have h := of_p u9 h
    exact hJ19 _ h H locs hW ls (lv_sub hl [0] rfl)
  · have h := of_n u9 h
    refine lv_iload_n S.1 S.2.1 dX9_about_7 rfl (lv_at hl 2 rfl) ?_
    refine lv_i2l S.1 S.2.1 dX9_about_8 rfl ?_
    refine lv_lconst (v := (0 : Int64)) S.1 S.2.1 dX9_about_9 rfl ?_
    refine lv_ldc2 (v := (2 : Int64)) S.1 S.2.1 S.2.2.2.1 (S.2.2.2.2 _ wk_X9_143) dX9_about_10 ?_
    obtain ⟨r10, hy11, h⟩ := bd1_e h
    refine ks0 S hK hN hZ hA hW (rest := []) (t_X9_in l dC dI cI cJ cZ cB zz p2.toInt64 (0 : Int64) (2 : Int64) _  hy11) wl_X9_74 wv_X9_in rfl rfl ⟨Nat.le_of_ble_eq_true rfl, Nat.le_of_ble_eq_true rfl⟩ [] (clX9 cI cJ cZ cB h0 a0 (c0 0) (c0 1) (c0 2) (c0 3) (w0 4 0) (w0 5 0) (c0 6) (c0 7) (c0 8) (c0 9) (c0 10) (c0 11) (c0 12) (c0 13) (c0 14 0) (c0 15 0) (c0 16 0) (c0 17 0) (c0 18) (c0 19) (c0 20) (c0 21 0) (c0 22 0) (c0 23 0) (c0 24 0) (c0 25 0) (c0 26) (c0 27) []) rfl rfl hl.1 rfl (Nat.le_of_ble_eq_true rfl) dX9_about_13 [.int r10] rfl (fun H locs hW => ?_)
    refine lv_if_ne (tgt := 26) S.1 S.2.1 dX9_about_16 (by decide) (fun u12 => ?_) (fun u12 => ?_)
    · have h := of_n u12 h
      refine lv_iload_n S.1 S.2.1 dX9_about_26 rfl (lv_at hl 2 rfl) ?_
      refine lv_if_ne (tgt := 42) S.1 S.2.1 dX9_about_27 (by decide) (fun u13 => ?_) (fun u13 => ?_)
      · have h := of_n u13 h
        refine lv_iload_n S.1 S.2.1 dX9_about_42 rfl (lv_at hl 2 rfl) ?_
        refine lv_iconst (v := (1 : Int32)) S.1 S.2.1 dX9_about_43 ki_1 ?_
        refine lv_icmp_ne (tgt := 59) S.1 S.2.1 dX9_about_44 (by decide) (fun u14 => ?_) (fun u14 => ?_)
        · have h := of_n u14 h
          refine lv_aload_n S.1 S.2.1 dX9_about_59 rfl (lv_at hl 0 rfl) ?_
          refine gf (C := RX9) (T := TX9) (N := 28) (ci := 5) (k := 0) S hK hW wu_X9 rfl (by decide) wf_X9_7 0 rfl rfl dX9_about_60 ?_
          refine lv_bipush (v := (14 : Int32)) S.1 S.2.1 dX9_about_63 kb_14 ?_
          refine iaK S hK hW rfl 1 rfl b_14_194 x_14 dX9_about_65 ?_
          refine lv_iload_n S.1 S.2.1 dX9_about_66 rfl (lv_at hl 1 rfl) ?_
          obtain ⟨r15, hy16, h⟩ := bd1_e h
          refine ks0 S hK hN hZ hA hW (rest := []) (t_X9_chairOf l dC dI cI cJ cZ cB zz ((c0 0) 14) p1 _  hy16) wl_X9_102 wv_X9_chairOf rfl rfl ⟨Nat.le_of_ble_eq_true rfl, Nat.le_of_ble_eq_true rfl⟩ [] (clX9 cI cJ cZ cB h0 a0 (c0 0) (c0 1) (c0 2) (c0 3) (w0 4 0) (w0 5 0) (c0 6) (c0 7) (c0 8) (c0 9) (c0 10) (c0 11) (c0 12) (c0 13) (c0 14 0) (c0 15 0) (c0 16 0) (c0 17 0) (c0 18) (c0 19) (c0 20) (c0 21 0) (c0 22 0) (c0 23 0) (c0 24 0) (c0 25 0) (c0 26) (c0 27) []) rfl rfl hl.1 rfl (Nat.le_of_ble_eq_true rfl) dX9_about_67 [.int r15] rfl (fun H locs hW => ?_)
          have f17 := Option.some.inj h
          obtain ⟨f18, f19⟩ := Prod.mk.inj f17
          subst f18
          subst f19
          exact ri S hr hlocks hW dX9_about_70
        · have h := of_p u14 h
          refine lv_aload_n S.1 S.2.1 dX9_about_47 rfl (lv_at hl 0 rfl) ?_
          refine gf (C := RX9) (T := TX9) (N := 28) (ci := 5) (k := 0) S hK hW wu_X9 rfl (by decide) wf_X9_7 0 rfl rfl dX9_about_48 ?_
          refine lv_bipush (v := (12 : Int32)) S.1 S.2.1 dX9_about_51 kb_12 ?_
          refine lv_iload_n S.1 S.2.1 dX9_about_53 rfl (lv_at hl 1 rfl) ?_
          refine lv_iadd S.1 S.2.1 dX9_about_54 ?_
          obtain ⟨z20, h⟩ := of_g h
          refine ia S hK hW rfl 1 rfl z20 dX9_about_55 ?_
          refine lv_goto (tgt := 70) S.1 S.2.1 dX9_about_56 (by decide) ?_
          have f21 := Option.some.inj h
          obtain ⟨f22, f23⟩ := Prod.mk.inj f21
          subst f22
          subst f23
          exact ri S hr hlocks hW dX9_about_70
      · have h := of_p u13 h
        refine lv_aload_n S.1 S.2.1 dX9_about_30 rfl (lv_at hl 0 rfl) ?_
        refine gf (C := RX9) (T := TX9) (N := 28) (ci := 5) (k := 0) S hK hW wu_X9 rfl (by decide) wf_X9_7 0 rfl rfl dX9_about_31 ?_
        refine lv_bipush (v := (30 : Int32)) S.1 S.2.1 dX9_about_34 kb_30 ?_
        refine lv_iload_n S.1 S.2.1 dX9_about_36 rfl (lv_at hl 1 rfl) ?_
        refine lv_iadd S.1 S.2.1 dX9_about_37 ?_
        obtain ⟨z24, h⟩ := of_g h
        refine ia S hK hW rfl 1 rfl z24 dX9_about_38 ?_
        refine lv_goto (tgt := 70) S.1 S.2.1 dX9_about_39 (by decide) ?_
        have f25 := Option.some.inj h
        obtain ⟨f26, f27⟩ := Prod.mk.inj f25
        subst f26
        subst f27
        exact ri S hr hlocks hW dX9_about_70
    · have h := of_p u12 h
      exact hJ19 _ h H locs hW ls (lv_sub hl [0] rfl)
abbrev rmX9_moves : Room := { frames := 2, cells := 0, slots := 0, locals := 52 }
set_option maxHeartbeats 4000000 in
set_option maxRecDepth 100000 in
theorem t_X9_moves (l : Launch) (dC : Nat → ClassId) (dI : Nat → Nat → Nat) (cI cJ cZ cB : ClassId) (zz : ZT)  (h0 : Nat) (a0 : Nat → Nat) (c0 : Nat → Nat → Int32) (w0 : Nat → Nat → Int64) (p1 : Int32) (r : Int32) (c0' : Nat → Nat → Int32) (hm : md_X9_moves c0 w0 p1 = some (r, c0')) : ct l (dC, dI) zz (ty4 cI cJ cZ cB) yX9_moves cX9_moves 2 (some .int) rmX9_moves [.ref h0, .int p1] (cwX9 cI cJ cZ cB h0 a0 c0 w0 []) (cwX9 cI cJ cZ cB h0 a0 c0' w0 []) (some (.int r)) := by
  refine ct_of (cc := cX9_moves) (maxL := 2) (ret := (some .int)) (by decide) (Nat.le_of_ble_eq_true rfl) ?_
  intro p e s m below meth c A S hr hlocks hK hN hZ hA H locs hW ls hl
  have S : CallFix p m c cX9_moves 2 s (List.toArray [.ref h0, .int p1]) G RX9 := S
  have hl : lv_has ls 2 [(0, .ref h0), (1, .int p1)] := hl
  have h := hm
  rw [md_X9_moves] at h
  have hW : wd (dC, dI) A s.heap (clX9 cI cJ cZ cB h0 a0 (c0 0) (c0 1) (c0 2) (c0 3) (w0 4 0) (w0 5 0) (c0 6) (c0 7) (c0 8) (c0 9) (c0 10) (c0 11) (c0 12) (c0 13) (c0 14 0) (c0 15 0) (c0 16 0) (c0 17 0) (c0 18) (c0 19) (c0 20) (c0 21 0) (c0 22 0) (c0 23 0) (c0 24 0) (c0 25 0) (c0 26) (c0 27) []) H locs := hW
  refine lv_aload_n S.1 S.2.1 dX9_moves_0 rfl (lv_at hl 0 rfl) ?_
  refine lv_iload_n S.1 S.2.1 dX9_moves_1 rfl (lv_at hl 1 rfl) ?_
  obtain ⟨r1, hy2, h⟩ := bd1_e h
  refine kv0 S hK hN hZ hA hW (rest := []) (t_X9_isPoint l dC dI cI cJ cZ cB zz h0 a0 c0 w0 p1 _  hy2) wl_X9_117 wv_X9_isPoint rfl rfl ⟨Nat.le_of_ble_eq_true rfl, Nat.le_of_ble_eq_true rfl⟩ [] [] rfl 0 rfl rfl rfl rfl hl.1 rfl (Nat.le_of_ble_eq_true rfl) dX9_moves_2 [.int r1] rfl (fun H locs hW => ?_)
  refine lv_if_ne (tgt := 16) S.1 S.2.1 dX9_moves_5 (by decide) (fun u3 => ?_) (fun u3 => ?_)
  · have h := of_n u3 h
    refine lv_aload_n S.1 S.2.1 dX9_moves_16 rfl (lv_at hl 0 rfl) ?_
    refine gf (C := RX9) (T := TX9) (N := 28) (ci := 5) (k := 0) S hK hW wu_X9 rfl (by decide) wf_X9_7 0 rfl rfl dX9_moves_17 ?_
    refine lv_iconst (v := (5 : Int32)) S.1 S.2.1 dX9_moves_20 ki_5 ?_
    refine iaK S hK hW rfl 1 rfl b_5_194 x_5 dX9_moves_21 ?_
    refine lv_iload_n S.1 S.2.1 dX9_moves_22 rfl (lv_at hl 1 rfl) ?_
    obtain ⟨r4, hy5, h⟩ := bd1_e h
    refine ks0 S hK hN hZ hA hW (rest := []) (t_X9_has l dC dI cI cJ cZ cB zz ((c0 0) 5) p1 _  hy5) wl_X9_120 wv_X9_has rfl rfl ⟨Nat.le_of_ble_eq_true rfl, Nat.le_of_ble_eq_true rfl⟩ [] (clX9 cI cJ cZ cB h0 a0 (c0 0) (c0 1) (c0 2) (c0 3) (w0 4 0) (w0 5 0) (c0 6) (c0 7) (c0 8) (c0 9) (c0 10) (c0 11) (c0 12) (c0 13) (c0 14 0) (c0 15 0) (c0 16 0) (c0 17 0) (c0 18) (c0 19) (c0 20) (c0 21 0) (c0 22 0) (c0 23 0) (c0 24 0) (c0 25 0) (c0 26) (c0 27) []) rfl rfl hl.1 rfl (Nat.le_of_ble_eq_true rfl) dX9_moves_23 [.int r4] rfl (fun H locs hW => ?_)
    refine lv_if_eq (tgt := 39) S.1 S.2.1 dX9_moves_26 (by decide) (fun u6 => ?_) (fun u6 => ?_)
    · have h := of_p u6 h
      refine lv_aload_n S.1 S.2.1 dX9_moves_39 rfl (lv_at hl 0 rfl) ?_
      refine lv_iload_n S.1 S.2.1 dX9_moves_40 rfl (lv_at hl 1 rfl) ?_
      refine lv_aload_n S.1 S.2.1 dX9_moves_41 rfl (lv_at hl 0 rfl) ?_
      refine gf (C := RX9) (T := TX9) (N := 28) (ci := 5) (k := 0) S hK hW wu_X9 rfl (by decide) wf_X9_7 0 rfl rfl dX9_moves_42 ?_
      refine lv_bipush (v := (14 : Int32)) S.1 S.2.1 dX9_moves_45 kb_14 ?_
      refine iaK S hK hW rfl 1 rfl b_14_194 x_14 dX9_moves_47 ?_
      refine lv_aload_n S.1 S.2.1 dX9_moves_48 rfl (lv_at hl 0 rfl) ?_
      refine gf (C := RX9) (T := TX9) (N := 28) (ci := 5) (k := 0) S hK hW wu_X9 rfl (by decide) wf_X9_7 0 rfl rfl dX9_moves_49 ?_
      refine lv_bipush (v := (15 : Int32)) S.1 S.2.1 dX9_moves_52 kb_15 ?_
      refine iaK S hK hW rfl 1 rfl b_15_194 x_15 dX9_moves_54 ?_
      refine lv_aload_n S.1 S.2.1 dX9_moves_55 rfl (lv_at hl 0 rfl) ?_
      refine gf (C := RX9) (T := TX9) (N := 28) (ci := 5) (k := 0) S hK hW wu_X9 rfl (by decide) wf_X9_7 0 rfl rfl dX9_moves_56 ?_
      refine lv_bipush (v := (16 : Int32)) S.1 S.2.1 dX9_moves_59 kb_16 ?_
      refine iaK S hK hW rfl 1 rfl b_16_194 x_16 dX9_moves_61 ?_
      obtain ⟨r7, hy8, h⟩ := bd1_e h
      refine kv0 S hK hN hZ hA hW (rest := []) (t_X9_countsBy l dC dI cI cJ cZ cB zz h0 a0 c0 w0 p1 ((c0 0) 14) ((c0 0) 15) ((c0 0) 16) _  hy8) wl_X9_114 wv_X9_countsBy rfl rfl ⟨Nat.le_of_ble_eq_true rfl, Nat.le_of_ble_eq_true rfl⟩ [] [] rfl 0 rfl rfl rfl rfl hl.1 rfl (Nat.le_of_ble_eq_true rfl) dX9_moves_62 [.int r7] rfl (fun H locs hW => ?_)
      have f9 := Option.some.inj h
      obtain ⟨f10, f11⟩ := Prod.mk.inj f9
      subst f10
      subst f11
      exact ri S hr hlocks hW dX9_moves_65
    · have h := of_n u6 h
      refine lv_aload_n S.1 S.2.1 dX9_moves_29 rfl (lv_at hl 0 rfl) ?_
      refine lv_sipush (v := (-1001 : Int32)) S.1 S.2.1 dX9_moves_30 ks_m1001 ?_
      obtain ⟨r12, cv13, hy14, h⟩ := bd2_e h
      refine kv (clX9 cI cJ cZ cB h0 a0 (cv13 0) (cv13 1) (cv13 2) (cv13 3) (w0 4 0) (w0 5 0) (cv13 6) (cv13 7) (cv13 8) (cv13 9) (cv13 10) (cv13 11) (cv13 12) (cv13 13) (cv13 14 0) (cv13 15 0) (cv13 16 0) (cv13 17 0) (cv13 18) (cv13 19) (cv13 20) (cv13 21 0) (cv13 22 0) (cv13 23 0) (cv13 24 0) (cv13 25 0) (cv13 26) (cv13 27) []) S hK hN hZ hA hW (rest := []) (t_X9_no l dC dI cI cJ cZ cB zz h0 a0 c0 w0 (-1001 : Int32) _ _  hy14) wl_X9_124 wv_X9_no rfl rfl ⟨Nat.le_of_ble_eq_true rfl, Nat.le_of_ble_eq_true rfl⟩ [] [] rfl rfl rfl 0 rfl rfl rfl rfl hl.1 rfl (Nat.le_of_ble_eq_true rfl) dX9_moves_33 [.int r12] rfl (fun H locs hW => ?_)
      refine lv_goto (tgt := 65) S.1 S.2.1 dX9_moves_36 (by decide) ?_
      have f15 := Option.some.inj h
      obtain ⟨f16, f17⟩ := Prod.mk.inj f15
      subst f16
      subst f17
      exact ri S hr hlocks hW dX9_moves_65
  · have h := of_p u3 h
    refine lv_aload_n S.1 S.2.1 dX9_moves_8 rfl (lv_at hl 0 rfl) ?_
    refine lv_sipush (v := (-1000 : Int32)) S.1 S.2.1 dX9_moves_9 ks_m1000 ?_
    obtain ⟨r18, cv19, hy20, h⟩ := bd2_e h
    refine kv (clX9 cI cJ cZ cB h0 a0 (cv19 0) (cv19 1) (cv19 2) (cv19 3) (w0 4 0) (w0 5 0) (cv19 6) (cv19 7) (cv19 8) (cv19 9) (cv19 10) (cv19 11) (cv19 12) (cv19 13) (cv19 14 0) (cv19 15 0) (cv19 16 0) (cv19 17 0) (cv19 18) (cv19 19) (cv19 20) (cv19 21 0) (cv19 22 0) (cv19 23 0) (cv19 24 0) (cv19 25 0) (cv19 26) (cv19 27) []) S hK hN hZ hA hW (rest := []) (t_X9_bad l dC dI cI cJ cZ cB zz h0 a0 c0 w0 (-1000 : Int32) _ _  hy20) wl_X9_84 wv_X9_bad rfl rfl ⟨Nat.le_of_ble_eq_true rfl, Nat.le_of_ble_eq_true rfl⟩ [] [] rfl rfl rfl 0 rfl rfl rfl rfl hl.1 rfl (Nat.le_of_ble_eq_true rfl) dX9_moves_12 [.int r18] rfl (fun H locs hW => ?_)
    have f21 := Option.some.inj h
    obtain ⟨f22, f23⟩ := Prod.mk.inj f21
    subst f22
    subst f23
    exact ri S hr hlocks hW dX9_moves_15
abbrev rmX9_worstOf : Room := { frames := 0, cells := 0, slots := 0, locals := 0 }
set_option maxHeartbeats 4000000 in
set_option maxRecDepth 100000 in
theorem t_X9_worstOf (l : Launch) (dC : Nat → ClassId) (dI : Nat → Nat → Nat) (cI cJ cZ cB : ClassId) (zz : ZT)   (p0 : Int32) (r : Int32) (hm : md_X9_worstOf p0 = some (r)) : ct l (dC, dI) zz (ty4 cI cJ cZ cB) yX9_worstOf cX9_worstOf 1 (some .int) rmX9_worstOf [.int p0] [] [] (some (.int r)) := by
  refine ct_of (cc := cX9_worstOf) (maxL := 1) (ret := (some .int)) (by decide) (Nat.le_of_ble_eq_true rfl) ?_
  intro p e s m below meth c A S hr hlocks hK hN hZ hA H locs hW ls hl
  have S : CallFix p m c cX9_worstOf 1 s (List.toArray [.int p0]) G RX9 := S
  have hl : lv_has ls 1 [(0, .int p0)] := hl
  have h := hm
  rw [md_X9_worstOf] at h
  have hW : wd (dC, dI) A s.heap [] H locs := hW
  refine lv_iload_n S.1 S.2.1 dX9_worstOf_0 rfl (lv_at hl 0 rfl) ?_
  refine lv_if_ne (tgt := 9) S.1 S.2.1 dX9_worstOf_1 (by decide) (fun u1 => ?_) (fun u1 => ?_)
  · have h := of_n u1 h
    refine lv_ldc (v := (1000000 : Int32)) S.1 S.2.1 S.2.2.2.1 (S.2.2.2.2 _ wk_X9_146) dX9_worstOf_9 ?_
    have f2 := Option.some.inj h
    subst f2
    exact ri S hr hlocks hW dX9_worstOf_11
  · have h := of_p u1 h
    refine lv_ldc (v := (-1000000 : Int32)) S.1 S.2.1 S.2.2.2.1 (S.2.2.2.2 _ wk_X9_145) dX9_worstOf_4 ?_
    refine lv_goto (tgt := 11) S.1 S.2.1 dX9_worstOf_6 (by decide) ?_
    have f3 := Option.some.inj h
    subst f3
    exact ri S hr hlocks hW dX9_worstOf_11
abbrev rmX9_openLevel : Room := { frames := 1, cells := 0, slots := 0, locals := 20 }
set_option maxHeartbeats 4000000 in
set_option maxRecDepth 100000 in
theorem t_X9_openLevel (l : Launch) (dC : Nat → ClassId) (dI : Nat → Nat → Nat) (cI cJ cZ cB : ClassId) (zz : ZT)  (h0 : Nat) (a0 : Nat → Nat) (c0 : Nat → Nat → Int32) (w0 : Nat → Nat → Int64) (p1 : Int32) (c0' : Nat → Nat → Int32) (hm : md_X9_openLevel c0 w0 p1 = some (c0')) : ct l (dC, dI) zz (ty4 cI cJ cZ cB) yX9_openLevel cX9_openLevel 2 none rmX9_openLevel [.ref h0, .int p1] (cwX9 cI cJ cZ cB h0 a0 c0 w0 []) (cwX9 cI cJ cZ cB h0 a0 c0' w0 []) none := by
  refine ct_of (cc := cX9_openLevel) (maxL := 2) (ret := none) (by decide) (Nat.le_of_ble_eq_true rfl) ?_
  intro p e s m below meth c A S hr hlocks hK hN hZ hA H locs hW ls hl
  have S : CallFix p m c cX9_openLevel 2 s (List.toArray [.ref h0, .int p1]) G RX9 := S
  have hl : lv_has ls 2 [(0, .ref h0), (1, .int p1)] := hl
  have h := hm
  rw [md_X9_openLevel] at h
  have hW : wd (dC, dI) A s.heap (clX9 cI cJ cZ cB h0 a0 (c0 0) (c0 1) (c0 2) (c0 3) (w0 4 0) (w0 5 0) (c0 6) (c0 7) (c0 8) (c0 9) (c0 10) (c0 11) (c0 12) (c0 13) (c0 14 0) (c0 15 0) (c0 16 0) (c0 17 0) (c0 18) (c0 19) (c0 20) (c0 21 0) (c0 22 0) (c0 23 0) (c0 24 0) (c0 25 0) (c0 26) (c0 27) []) H locs := hW
  refine lv_aload_n S.1 S.2.1 dX9_openLevel_0 rfl (lv_at hl 0 rfl) ?_
  refine gf (C := RX9) (T := TX9) (N := 28) (ci := 5) (k := 12) S hK hW wu_X9 rfl (by decide) wf_X9_45 0 rfl rfl dX9_openLevel_1 ?_
  refine lv_iload_n S.1 S.2.1 dX9_openLevel_4 rfl (lv_at hl 1 rfl) ?_
  refine lv_iconst (v := (-1 : Int32)) S.1 S.2.1 dX9_openLevel_5 ki_m1 ?_
  obtain ⟨z1, h⟩ := of_g h
  refine ist S hK hW rfl 11 rfl z1 dX9_openLevel_6 (fun H locs hW => ?_)
  have hW : wd (dC, dI) A s.heap (clX9 cI cJ cZ cB h0 a0 (c0 0) (c0 1) (c0 2) (c0 3) (w0 4 0) (w0 5 0) (c0 6) (c0 7) (c0 8) (c0 9) (c0 10) (c0 11) (upd (c0 12) (ix p1) (-1 : Int32)) (c0 13) (c0 14 0) (c0 15 0) (c0 16 0) (c0 17 0) (c0 18) (c0 19) (c0 20) (c0 21 0) (c0 22 0) (c0 23 0) (c0 24 0) (c0 25 0) (c0 26) (c0 27) []) H locs := hW
  refine lv_aload_n S.1 S.2.1 dX9_openLevel_7 rfl (lv_at hl 0 rfl) ?_
  refine gf (C := RX9) (T := TX9) (N := 28) (ci := 5) (k := 13) S hK hW wu_X9 rfl (by decide) wf_X9_48 0 rfl rfl dX9_openLevel_8 ?_
  refine lv_iload_n S.1 S.2.1 dX9_openLevel_11 rfl (lv_at hl 1 rfl) ?_
  refine lv_aload_n S.1 S.2.1 dX9_openLevel_12 rfl (lv_at hl 0 rfl) ?_
  refine gf (C := RX9) (T := TX9) (N := 28) (ci := 5) (k := 9) S hK hW wu_X9 rfl (by decide) wf_X9_36 0 rfl rfl dX9_openLevel_13 ?_
  refine lv_iload_n S.1 S.2.1 dX9_openLevel_16 rfl (lv_at hl 1 rfl) ?_
  obtain ⟨z2, h⟩ := of_g h
  refine ia S hK hW rfl 8 rfl z2 dX9_openLevel_17 ?_
  refine lv_iconst (v := (2 : Int32)) S.1 S.2.1 dX9_openLevel_18 ki_2 ?_
  refine lv_irem S.1 S.2.1 dX9_openLevel_19 (by decide) ?_
  obtain ⟨r3, hy4, h⟩ := bd1_e h
  refine ks0 S hK hN hZ hA hW (rest := [.int p1, .ref (a0 13)]) (t_X9_worstOf l dC dI cI cJ cZ cB zz (((c0 9) (ix p1)) - ((c0 9) (ix p1)) / (2 : Int32) * (2 : Int32)) _  hy4) wl_X9_151 wv_X9_worstOf rfl rfl ⟨Nat.le_of_ble_eq_true rfl, Nat.le_of_ble_eq_true rfl⟩ [] (clX9 cI cJ cZ cB h0 a0 (c0 0) (c0 1) (c0 2) (c0 3) (w0 4 0) (w0 5 0) (c0 6) (c0 7) (c0 8) (c0 9) (c0 10) (c0 11) (upd (c0 12) (ix p1) (-1 : Int32)) (c0 13) (c0 14 0) (c0 15 0) (c0 16 0) (c0 17 0) (c0 18) (c0 19) (c0 20) (c0 21 0) (c0 22 0) (c0 23 0) (c0 24 0) (c0 25 0) (c0 26) (c0 27) []) rfl rfl hl.1 rfl (Nat.le_of_ble_eq_true rfl) dX9_openLevel_20 [.int r3, .int p1, .ref (a0 13)] rfl (fun H locs hW => ?_)
  obtain ⟨z5, h⟩ := of_g h
  refine ist S hK hW rfl 12 rfl z5 dX9_openLevel_23 (fun H locs hW => ?_)
  have hW : wd (dC, dI) A s.heap (clX9 cI cJ cZ cB h0 a0 (c0 0) (c0 1) (c0 2) (c0 3) (w0 4 0) (w0 5 0) (c0 6) (c0 7) (c0 8) (c0 9) (c0 10) (c0 11) (upd (c0 12) (ix p1) (-1 : Int32)) (upd (c0 13) (ix p1) r3) (c0 14 0) (c0 15 0) (c0 16 0) (c0 17 0) (c0 18) (c0 19) (c0 20) (c0 21 0) (c0 22 0) (c0 23 0) (c0 24 0) (c0 25 0) (c0 26) (c0 27) []) H locs := hW
  have f6 := Option.some.inj h
  subst f6
  exact rv S hr hlocks hW dX9_openLevel_24
abbrev rmX9_layLevel : Room := { frames := 2, cells := 0, slots := 0, locals := 41 }
set_option maxHeartbeats 4000000 in
set_option maxRecDepth 100000 in
theorem t_X9_layLevel (l : Launch) (dC : Nat → ClassId) (dI : Nat → Nat → Nat) (cI cJ cZ cB : ClassId) (zz : ZT)  (h0 : Nat) (a0 : Nat → Nat) (c0 : Nat → Nat → Int32) (w0 : Nat → Nat → Int64) (p1 : Int32) (p2 : Int32) (c0' : Nat → Nat → Int32) (hm : md_X9_layLevel c0 w0 p1 p2 = some (c0')) : ct l (dC, dI) zz (ty4 cI cJ cZ cB) yX9_layLevel cX9_layLevel 3 none rmX9_layLevel [.ref h0, .int p1, .int p2] (cwX9 cI cJ cZ cB h0 a0 c0 w0 []) (cwX9 cI cJ cZ cB h0 a0 c0' w0 []) none := by
  refine ct_of (cc := cX9_layLevel) (maxL := 3) (ret := none) (by decide) (Nat.le_of_ble_eq_true rfl) ?_
  intro p e s m below meth c A S hr hlocks hK hN hZ hA H locs hW ls hl
  have S : CallFix p m c cX9_layLevel 3 s (List.toArray [.ref h0, .int p1, .int p2]) G RX9 := S
  have hl : lv_has ls 3 [(0, .ref h0), (1, .int p1), (2, .int p2)] := hl
  have h := hm
  rw [md_X9_layLevel] at h
  have hW : wd (dC, dI) A s.heap (clX9 cI cJ cZ cB h0 a0 (c0 0) (c0 1) (c0 2) (c0 3) (w0 4 0) (w0 5 0) (c0 6) (c0 7) (c0 8) (c0 9) (c0 10) (c0 11) (c0 12) (c0 13) (c0 14 0) (c0 15 0) (c0 16 0) (c0 17 0) (c0 18) (c0 19) (c0 20) (c0 21 0) (c0 22 0) (c0 23 0) (c0 24 0) (c0 25 0) (c0 26) (c0 27) []) H locs := hW
  refine lv_aload_n S.1 S.2.1 dX9_layLevel_0 rfl (lv_at hl 0 rfl) ?_
  refine gf (C := RX9) (T := TX9) (N := 28) (ci := 5) (k := 6) S hK hW wu_X9 rfl (by decide) wf_X9_27 0 rfl rfl dX9_layLevel_1 ?_
  refine lv_iload_n S.1 S.2.1 dX9_layLevel_4 rfl (lv_at hl 1 rfl) ?_
  refine lv_aload_n S.1 S.2.1 dX9_layLevel_5 rfl (lv_at hl 0 rfl) ?_
  refine gf (C := RX9) (T := TX9) (N := 28) (ci := 5) (k := 6) S hK hW wu_X9 rfl (by decide) wf_X9_27 0 rfl rfl dX9_layLevel_6 ?_
  refine lv_iload_n S.1 S.2.1 dX9_layLevel_9 rfl (lv_at hl 2 rfl) ?_
  obtain ⟨z1, h⟩ := of_g h
  refine ia S hK hW rfl 5 rfl z1 dX9_layLevel_10 ?_
  obtain ⟨z2, h⟩ := of_g h
  refine ist S hK hW rfl 5 rfl z2 dX9_layLevel_11 (fun H locs hW => ?_)
  have hW : wd (dC, dI) A s.heap (clX9 cI cJ cZ cB h0 a0 (c0 0) (c0 1) (c0 2) (c0 3) (w0 4 0) (w0 5 0) (upd (c0 6) (ix p1) ((c0 6) (ix p2))) (c0 7) (c0 8) (c0 9) (c0 10) (c0 11) (c0 12) (c0 13) (c0 14 0) (c0 15 0) (c0 16 0) (c0 17 0) (c0 18) (c0 19) (c0 20) (c0 21 0) (c0 22 0) (c0 23 0) (c0 24 0) (c0 25 0) (c0 26) (c0 27) []) H locs := hW
  refine lv_aload_n S.1 S.2.1 dX9_layLevel_12 rfl (lv_at hl 0 rfl) ?_
  refine gf (C := RX9) (T := TX9) (N := 28) (ci := 5) (k := 7) S hK hW wu_X9 rfl (by decide) wf_X9_30 0 rfl rfl dX9_layLevel_13 ?_
  refine lv_iload_n S.1 S.2.1 dX9_layLevel_16 rfl (lv_at hl 1 rfl) ?_
  refine lv_aload_n S.1 S.2.1 dX9_layLevel_17 rfl (lv_at hl 0 rfl) ?_
  refine gf (C := RX9) (T := TX9) (N := 28) (ci := 5) (k := 7) S hK hW wu_X9 rfl (by decide) wf_X9_30 0 rfl rfl dX9_layLevel_18 ?_
  refine lv_iload_n S.1 S.2.1 dX9_layLevel_21 rfl (lv_at hl 2 rfl) ?_
  obtain ⟨z3, h⟩ := of_g h
  refine ia S hK hW rfl 6 rfl z3 dX9_layLevel_22 ?_
  obtain ⟨z4, h⟩ := of_g h
  refine ist S hK hW rfl 6 rfl z4 dX9_layLevel_23 (fun H locs hW => ?_)
  have hW : wd (dC, dI) A s.heap (clX9 cI cJ cZ cB h0 a0 (c0 0) (c0 1) (c0 2) (c0 3) (w0 4 0) (w0 5 0) (upd (c0 6) (ix p1) ((c0 6) (ix p2))) (upd (c0 7) (ix p1) ((c0 7) (ix p2))) (c0 8) (c0 9) (c0 10) (c0 11) (c0 12) (c0 13) (c0 14 0) (c0 15 0) (c0 16 0) (c0 17 0) (c0 18) (c0 19) (c0 20) (c0 21 0) (c0 22 0) (c0 23 0) (c0 24 0) (c0 25 0) (c0 26) (c0 27) []) H locs := hW
  refine lv_aload_n S.1 S.2.1 dX9_layLevel_24 rfl (lv_at hl 0 rfl) ?_
  refine gf (C := RX9) (T := TX9) (N := 28) (ci := 5) (k := 8) S hK hW wu_X9 rfl (by decide) wf_X9_33 0 rfl rfl dX9_layLevel_25 ?_
  refine lv_iload_n S.1 S.2.1 dX9_layLevel_28 rfl (lv_at hl 1 rfl) ?_
  refine lv_aload_n S.1 S.2.1 dX9_layLevel_29 rfl (lv_at hl 0 rfl) ?_
  refine gf (C := RX9) (T := TX9) (N := 28) (ci := 5) (k := 8) S hK hW wu_X9 rfl (by decide) wf_X9_33 0 rfl rfl dX9_layLevel_30 ?_
  refine lv_iload_n S.1 S.2.1 dX9_layLevel_33 rfl (lv_at hl 2 rfl) ?_
  obtain ⟨z5, h⟩ := of_g h
  refine ia S hK hW rfl 7 rfl z5 dX9_layLevel_34 ?_
  obtain ⟨z6, h⟩ := of_g h
  refine ist S hK hW rfl 7 rfl z6 dX9_layLevel_35 (fun H locs hW => ?_)
  have hW : wd (dC, dI) A s.heap (clX9 cI cJ cZ cB h0 a0 (c0 0) (c0 1) (c0 2) (c0 3) (w0 4 0) (w0 5 0) (upd (c0 6) (ix p1) ((c0 6) (ix p2))) (upd (c0 7) (ix p1) ((c0 7) (ix p2))) (upd (c0 8) (ix p1) ((c0 8) (ix p2))) (c0 9) (c0 10) (c0 11) (c0 12) (c0 13) (c0 14 0) (c0 15 0) (c0 16 0) (c0 17 0) (c0 18) (c0 19) (c0 20) (c0 21 0) (c0 22 0) (c0 23 0) (c0 24 0) (c0 25 0) (c0 26) (c0 27) []) H locs := hW
  refine lv_aload_n S.1 S.2.1 dX9_layLevel_36 rfl (lv_at hl 0 rfl) ?_
  refine gf (C := RX9) (T := TX9) (N := 28) (ci := 5) (k := 9) S hK hW wu_X9 rfl (by decide) wf_X9_36 0 rfl rfl dX9_layLevel_37 ?_
  refine lv_iload_n S.1 S.2.1 dX9_layLevel_40 rfl (lv_at hl 1 rfl) ?_
  refine lv_aload_n S.1 S.2.1 dX9_layLevel_41 rfl (lv_at hl 0 rfl) ?_
  refine gf (C := RX9) (T := TX9) (N := 28) (ci := 5) (k := 9) S hK hW wu_X9 rfl (by decide) wf_X9_36 0 rfl rfl dX9_layLevel_42 ?_
  refine lv_iload_n S.1 S.2.1 dX9_layLevel_45 rfl (lv_at hl 2 rfl) ?_
  obtain ⟨z7, h⟩ := of_g h
  refine ia S hK hW rfl 8 rfl z7 dX9_layLevel_46 ?_
  obtain ⟨z8, h⟩ := of_g h
  refine ist S hK hW rfl 8 rfl z8 dX9_layLevel_47 (fun H locs hW => ?_)
  have hW : wd (dC, dI) A s.heap (clX9 cI cJ cZ cB h0 a0 (c0 0) (c0 1) (c0 2) (c0 3) (w0 4 0) (w0 5 0) (upd (c0 6) (ix p1) ((c0 6) (ix p2))) (upd (c0 7) (ix p1) ((c0 7) (ix p2))) (upd (c0 8) (ix p1) ((c0 8) (ix p2))) (upd (c0 9) (ix p1) ((c0 9) (ix p2))) (c0 10) (c0 11) (c0 12) (c0 13) (c0 14 0) (c0 15 0) (c0 16 0) (c0 17 0) (c0 18) (c0 19) (c0 20) (c0 21 0) (c0 22 0) (c0 23 0) (c0 24 0) (c0 25 0) (c0 26) (c0 27) []) H locs := hW
  refine lv_aload_n S.1 S.2.1 dX9_layLevel_48 rfl (lv_at hl 0 rfl) ?_
  refine gf (C := RX9) (T := TX9) (N := 28) (ci := 5) (k := 10) S hK hW wu_X9 rfl (by decide) wf_X9_39 0 rfl rfl dX9_layLevel_49 ?_
  refine lv_iconst (v := (2 : Int32)) S.1 S.2.1 dX9_layLevel_52 ki_2 ?_
  refine lv_iload_n S.1 S.2.1 dX9_layLevel_53 rfl (lv_at hl 1 rfl) ?_
  refine lv_imul S.1 S.2.1 dX9_layLevel_54 ?_
  refine lv_aload_n S.1 S.2.1 dX9_layLevel_55 rfl (lv_at hl 0 rfl) ?_
  refine gf (C := RX9) (T := TX9) (N := 28) (ci := 5) (k := 10) S hK hW wu_X9 rfl (by decide) wf_X9_39 0 rfl rfl dX9_layLevel_56 ?_
  refine lv_iconst (v := (2 : Int32)) S.1 S.2.1 dX9_layLevel_59 ki_2 ?_
  refine lv_iload_n S.1 S.2.1 dX9_layLevel_60 rfl (lv_at hl 2 rfl) ?_
  refine lv_imul S.1 S.2.1 dX9_layLevel_61 ?_
  obtain ⟨z9, h⟩ := of_g h
  refine ia S hK hW rfl 9 rfl z9 dX9_layLevel_62 ?_
  obtain ⟨z10, h⟩ := of_g h
  refine ist S hK hW rfl 9 rfl z10 dX9_layLevel_63 (fun H locs hW => ?_)
  have hW : wd (dC, dI) A s.heap (clX9 cI cJ cZ cB h0 a0 (c0 0) (c0 1) (c0 2) (c0 3) (w0 4 0) (w0 5 0) (upd (c0 6) (ix p1) ((c0 6) (ix p2))) (upd (c0 7) (ix p1) ((c0 7) (ix p2))) (upd (c0 8) (ix p1) ((c0 8) (ix p2))) (upd (c0 9) (ix p1) ((c0 9) (ix p2))) (upd (c0 10) (ix ((2 : Int32) * p1)) ((c0 10) (ix ((2 : Int32) * p2)))) (c0 11) (c0 12) (c0 13) (c0 14 0) (c0 15 0) (c0 16 0) (c0 17 0) (c0 18) (c0 19) (c0 20) (c0 21 0) (c0 22 0) (c0 23 0) (c0 24 0) (c0 25 0) (c0 26) (c0 27) []) H locs := hW
  refine lv_aload_n S.1 S.2.1 dX9_layLevel_64 rfl (lv_at hl 0 rfl) ?_
  refine gf (C := RX9) (T := TX9) (N := 28) (ci := 5) (k := 10) S hK hW wu_X9 rfl (by decide) wf_X9_39 0 rfl rfl dX9_layLevel_65 ?_
  refine lv_iconst (v := (2 : Int32)) S.1 S.2.1 dX9_layLevel_68 ki_2 ?_
  refine lv_iload_n S.1 S.2.1 dX9_layLevel_69 rfl (lv_at hl 1 rfl) ?_
  refine lv_imul S.1 S.2.1 dX9_layLevel_70 ?_
  refine lv_iconst (v := (1 : Int32)) S.1 S.2.1 dX9_layLevel_71 ki_1 ?_
  refine lv_iadd S.1 S.2.1 dX9_layLevel_72 ?_
  refine lv_aload_n S.1 S.2.1 dX9_layLevel_73 rfl (lv_at hl 0 rfl) ?_
  refine gf (C := RX9) (T := TX9) (N := 28) (ci := 5) (k := 10) S hK hW wu_X9 rfl (by decide) wf_X9_39 0 rfl rfl dX9_layLevel_74 ?_
  refine lv_iconst (v := (2 : Int32)) S.1 S.2.1 dX9_layLevel_77 ki_2 ?_
  refine lv_iload_n S.1 S.2.1 dX9_layLevel_78 rfl (lv_at hl 2 rfl) ?_
  refine lv_imul S.1 S.2.1 dX9_layLevel_79 ?_
  refine lv_iconst (v := (1 : Int32)) S.1 S.2.1 dX9_layLevel_80 ki_1 ?_
  refine lv_iadd S.1 S.2.1 dX9_layLevel_81 ?_
  obtain ⟨z11, h⟩ := of_g h
  refine ia S hK hW rfl 9 rfl z11 dX9_layLevel_82 ?_
  obtain ⟨y12, e13, h⟩ := lt1_e h
  refine nmi e13 ?_
  obtain ⟨z14, h⟩ := of_g h
  refine ist S hK hW rfl 9 rfl z14 dX9_layLevel_83 (fun H locs hW => ?_)
  have hW : wd (dC, dI) A s.heap (clX9 cI cJ cZ cB h0 a0 (c0 0) (c0 1) (c0 2) (c0 3) (w0 4 0) (w0 5 0) (upd (c0 6) (ix p1) ((c0 6) (ix p2))) (upd (c0 7) (ix p1) ((c0 7) (ix p2))) (upd (c0 8) (ix p1) ((c0 8) (ix p2))) (upd (c0 9) (ix p1) ((c0 9) (ix p2))) (upd (upd (c0 10) (ix ((2 : Int32) * p1)) ((c0 10) (ix ((2 : Int32) * p2)))) (ix (((2 : Int32) * p1) + (1 : Int32))) y12) (c0 11) (c0 12) (c0 13) (c0 14 0) (c0 15 0) (c0 16 0) (c0 17 0) (c0 18) (c0 19) (c0 20) (c0 21 0) (c0 22 0) (c0 23 0) (c0 24 0) (c0 25 0) (c0 26) (c0 27) []) H locs := hW
  refine lv_aload_n S.1 S.2.1 dX9_layLevel_84 rfl (lv_at hl 0 rfl) ?_
  refine gf (C := RX9) (T := TX9) (N := 28) (ci := 5) (k := 11) S hK hW wu_X9 rfl (by decide) wf_X9_42 0 rfl rfl dX9_layLevel_85 ?_
  refine lv_iload_n S.1 S.2.1 dX9_layLevel_88 rfl (lv_at hl 1 rfl) ?_
  refine lv_aload_n S.1 S.2.1 dX9_layLevel_89 rfl (lv_at hl 0 rfl) ?_
  refine gf (C := RX9) (T := TX9) (N := 28) (ci := 5) (k := 11) S hK hW wu_X9 rfl (by decide) wf_X9_42 0 rfl rfl dX9_layLevel_90 ?_
  refine lv_iload_n S.1 S.2.1 dX9_layLevel_93 rfl (lv_at hl 2 rfl) ?_
  obtain ⟨z15, h⟩ := of_g h
  refine ia S hK hW rfl 10 rfl z15 dX9_layLevel_94 ?_
  obtain ⟨z16, h⟩ := of_g h
  refine ist S hK hW rfl 10 rfl z16 dX9_layLevel_95 (fun H locs hW => ?_)
  have hW : wd (dC, dI) A s.heap (clX9 cI cJ cZ cB h0 a0 (c0 0) (c0 1) (c0 2) (c0 3) (w0 4 0) (w0 5 0) (upd (c0 6) (ix p1) ((c0 6) (ix p2))) (upd (c0 7) (ix p1) ((c0 7) (ix p2))) (upd (c0 8) (ix p1) ((c0 8) (ix p2))) (upd (c0 9) (ix p1) ((c0 9) (ix p2))) (upd (upd (c0 10) (ix ((2 : Int32) * p1)) ((c0 10) (ix ((2 : Int32) * p2)))) (ix (((2 : Int32) * p1) + (1 : Int32))) y12) (upd (c0 11) (ix p1) ((c0 11) (ix p2))) (c0 12) (c0 13) (c0 14 0) (c0 15 0) (c0 16 0) (c0 17 0) (c0 18) (c0 19) (c0 20) (c0 21 0) (c0 22 0) (c0 23 0) (c0 24 0) (c0 25 0) (c0 26) (c0 27) []) H locs := hW
  refine lv_aload_n S.1 S.2.1 dX9_layLevel_96 rfl (lv_at hl 0 rfl) ?_
  refine lv_iload_n S.1 S.2.1 dX9_layLevel_97 rfl (lv_at hl 1 rfl) ?_
  obtain ⟨cv17, hy18, h⟩ := bd1_e h
  refine kv (clX9 cI cJ cZ cB h0 a0 (cv17 0) (cv17 1) (cv17 2) (cv17 3) (w0 4 0) (w0 5 0) (cv17 6) (cv17 7) (cv17 8) (cv17 9) (cv17 10) (cv17 11) (cv17 12) (cv17 13) (cv17 14 0) (cv17 15 0) (cv17 16 0) (cv17 17 0) (cv17 18) (cv17 19) (cv17 20) (cv17 21 0) (cv17 22 0) (cv17 23 0) (cv17 24 0) (cv17 25 0) (cv17 26) (cv17 27) []) S hK hN hZ hA hW (rest := []) (t_X9_openLevel l dC dI cI cJ cZ cB zz h0 a0 (rs (rs (rs (rs (rs (rs c0 6 (upd (c0 6) (ix p1) ((c0 6) (ix p2)))) 7 (upd (c0 7) (ix p1) ((c0 7) (ix p2)))) 8 (upd (c0 8) (ix p1) ((c0 8) (ix p2)))) 9 (upd (c0 9) (ix p1) ((c0 9) (ix p2)))) 10 (upd (upd (c0 10) (ix ((2 : Int32) * p1)) ((c0 10) (ix ((2 : Int32) * p2)))) (ix (((2 : Int32) * p1) + (1 : Int32))) y12)) 11 (upd (c0 11) (ix p1) ((c0 11) (ix p2)))) w0 p1 _  hy18) wl_X9_147 wv_X9_openLevel rfl rfl ⟨Nat.le_of_ble_eq_true rfl, Nat.le_of_ble_eq_true rfl⟩ [] [] rfl rfl rfl 0 rfl rfl rfl rfl hl.1 rfl (Nat.le_of_ble_eq_true rfl) dX9_layLevel_98 [] rfl (fun H locs hW => ?_)
  have f19 := Option.some.inj h
  subst f19
  exact rv S hr hlocks hW dX9_layLevel_101
abbrev rmX9_mayAt : Room := { frames := 0, cells := 0, slots := 0, locals := 0 }
set_option maxHeartbeats 4000000 in
set_option maxRecDepth 100000 in
theorem t_X9_mayAt (l : Launch) (dC : Nat → ClassId) (dI : Nat → Nat → Nat) (cI cJ cZ cB : ClassId) (zz : ZT)  (h0 : Nat) (a0 : Nat → Nat) (c0 : Nat → Nat → Int32) (w0 : Nat → Nat → Int64) (p1 : Int32) (r : Int32) (hm : md_X9_mayAt c0 w0 p1 = some (r)) : ct l (dC, dI) zz (ty4 cI cJ cZ cB) yX9_mayAt cX9_mayAt 3 (some .boolean) rmX9_mayAt [.ref h0, .int p1] (cwX9 cI cJ cZ cB h0 a0 c0 w0 []) (cwX9 cI cJ cZ cB h0 a0 c0 w0 []) (some (.int r)) := by
  refine ct_of (cc := cX9_mayAt) (maxL := 3) (ret := (some .boolean)) (by decide) (Nat.le_of_ble_eq_true rfl) ?_
  intro p e s m below meth c A S hr hlocks hK hN hZ hA H locs hW ls hl
  have S : CallFix p m c cX9_mayAt 3 s (List.toArray [.ref h0, .int p1]) G RX9 := S
  have hl : lv_has ls 3 [(0, .ref h0), (1, .int p1)] := hl
  have h := hm
  rw [md_X9_mayAt] at h
  have hW : wd (dC, dI) A s.heap (clX9 cI cJ cZ cB h0 a0 (c0 0) (c0 1) (c0 2) (c0 3) (w0 4 0) (w0 5 0) (c0 6) (c0 7) (c0 8) (c0 9) (c0 10) (c0 11) (c0 12) (c0 13) (c0 14 0) (c0 15 0) (c0 16 0) (c0 17 0) (c0 18) (c0 19) (c0 20) (c0 21 0) (c0 22 0) (c0 23 0) (c0 24 0) (c0 25 0) (c0 26) (c0 27) []) H locs := hW
  refine lv_aload_n S.1 S.2.1 dX9_mayAt_0 rfl (lv_at hl 0 rfl) ?_
  refine gf (C := RX9) (T := TX9) (N := 28) (ci := 5) (k := 11) S hK hW wu_X9 rfl (by decide) wf_X9_42 0 rfl rfl dX9_mayAt_1 ?_
  refine lv_iload_n S.1 S.2.1 dX9_mayAt_4 rfl (lv_at hl 1 rfl) ?_
  obtain ⟨z1, h⟩ := of_g h
  refine ia S hK hW rfl 10 rfl z1 dX9_mayAt_5 ?_
  refine lv_istore_n (lv' := [(2, .int ((c0 11) (ix p1))), (0, .ref h0), (1, .int p1)]) S.1 S.2.1 dX9_mayAt_6 rfl hl (by decide) rfl (fun ls hl => ?_)
  refine lv_iload_n S.1 S.2.1 dX9_mayAt_7 rfl (lv_at hl 0 rfl) ?_
  refine lv_iconst (v := (-1 : Int32)) S.1 S.2.1 dX9_mayAt_8 ki_m1 ?_
  refine lv_icmp_eq (tgt := 48) S.1 S.2.1 dX9_mayAt_9 (by decide) (fun u2 => ?_) (fun u2 => ?_)
  · have h := of_p u2 h
    refine lv_iconst (v := (0 : Int32)) S.1 S.2.1 dX9_mayAt_48 ki_0 ?_
    have f3 := Option.some.inj h
    subst f3
    exact rz S hr hlocks hW (nz (Or.inl rfl)) dX9_mayAt_49
  · have h := of_n u2 h
    refine lv_aload_n S.1 S.2.1 dX9_mayAt_12 rfl (lv_at hl 1 rfl) ?_
    refine gf (C := RX9) (T := TX9) (N := 28) (ci := 5) (k := 0) S hK hW wu_X9 rfl (by decide) wf_X9_7 0 rfl rfl dX9_mayAt_13 ?_
    refine lv_bipush (v := (6 : Int32)) S.1 S.2.1 dX9_mayAt_16 kb_6 ?_
    refine lv_iload_n S.1 S.2.1 dX9_mayAt_18 rfl (lv_at hl 0 rfl) ?_
    refine lv_iadd S.1 S.2.1 dX9_mayAt_19 ?_
    obtain ⟨z4, h⟩ := of_g h
    refine ia S hK hW rfl 1 rfl z4 dX9_mayAt_20 ?_
    refine lv_if_le (tgt := 48) S.1 S.2.1 dX9_mayAt_21 (by decide) (fun u5 => ?_) (fun u5 => ?_)
    · have h := of_p u5 h
      refine lv_iconst (v := (0 : Int32)) S.1 S.2.1 dX9_mayAt_48 ki_0 ?_
      have f6 := Option.some.inj h
      subst f6
      exact rz S hr hlocks hW (nz (Or.inl rfl)) dX9_mayAt_49
    · have h := of_n u5 h
      refine lv_aload_n S.1 S.2.1 dX9_mayAt_24 rfl (lv_at hl 1 rfl) ?_
      refine gf (C := RX9) (T := TX9) (N := 28) (ci := 5) (k := 10) S hK hW wu_X9 rfl (by decide) wf_X9_39 0 rfl rfl dX9_mayAt_25 ?_
      refine lv_iconst (v := (2 : Int32)) S.1 S.2.1 dX9_mayAt_28 ki_2 ?_
      refine lv_iload_n S.1 S.2.1 dX9_mayAt_29 rfl (lv_at hl 2 rfl) ?_
      refine lv_imul S.1 S.2.1 dX9_mayAt_30 ?_
      refine lv_aload_n S.1 S.2.1 dX9_mayAt_31 rfl (lv_at hl 1 rfl) ?_
      refine gf (C := RX9) (T := TX9) (N := 28) (ci := 5) (k := 9) S hK hW wu_X9 rfl (by decide) wf_X9_36 0 rfl rfl dX9_mayAt_32 ?_
      refine lv_iload_n S.1 S.2.1 dX9_mayAt_35 rfl (lv_at hl 2 rfl) ?_
      obtain ⟨z7, h⟩ := of_g h
      refine ia S hK hW rfl 8 rfl z7 dX9_mayAt_36 ?_
      refine lv_iconst (v := (2 : Int32)) S.1 S.2.1 dX9_mayAt_37 ki_2 ?_
      refine lv_irem S.1 S.2.1 dX9_mayAt_38 (by decide) ?_
      refine lv_iadd S.1 S.2.1 dX9_mayAt_39 ?_
      obtain ⟨z8, h⟩ := of_g h
      refine ia S hK hW rfl 9 rfl z8 dX9_mayAt_40 ?_
      refine lv_if_le (tgt := 48) S.1 S.2.1 dX9_mayAt_41 (by decide) (fun u9 => ?_) (fun u9 => ?_)
      · have h := of_p u9 h
        refine lv_iconst (v := (0 : Int32)) S.1 S.2.1 dX9_mayAt_48 ki_0 ?_
        have f10 := Option.some.inj h
        subst f10
        exact rz S hr hlocks hW (nz (Or.inl rfl)) dX9_mayAt_49
      · have h := of_n u9 h
        refine lv_iconst (v := (1 : Int32)) S.1 S.2.1 dX9_mayAt_44 ki_1 ?_
        refine lv_goto (tgt := 49) S.1 S.2.1 dX9_mayAt_45 (by decide) ?_
        have f11 := Option.some.inj h
        subst f11
        exact rz S hr hlocks hW (nz (Or.inr rfl)) dX9_mayAt_49
abbrev rmX9_layFirst : Room := { frames := 2, cells := 0, slots := 0, locals := 41 }
set_option maxHeartbeats 4000000 in
set_option maxRecDepth 100000 in
theorem t_X9_layFirst (l : Launch) (dC : Nat → ClassId) (dI : Nat → Nat → Nat) (cI cJ cZ cB : ClassId) (zz : ZT)  (h0 : Nat) (a0 : Nat → Nat) (c0 : Nat → Nat → Int32) (w0 : Nat → Nat → Int64) (p1 : Int32) (c0' : Nat → Nat → Int32) (hm : md_X9_layFirst c0 w0 p1 = some (c0')) : ct l (dC, dI) zz (ty4 cI cJ cZ cB) yX9_layFirst cX9_layFirst 2 none rmX9_layFirst [.ref h0, .int p1] (cwX9 cI cJ cZ cB h0 a0 c0 w0 []) (cwX9 cI cJ cZ cB h0 a0 c0' w0 []) none := by
  refine ct_of (cc := cX9_layFirst) (maxL := 2) (ret := none) (by decide) (Nat.le_of_ble_eq_true rfl) ?_
  intro p e s m below meth c A S hr hlocks hK hN hZ hA H locs hW ls hl
  have S : CallFix p m c cX9_layFirst 2 s (List.toArray [.ref h0, .int p1]) G RX9 := S
  have hl : lv_has ls 2 [(0, .ref h0), (1, .int p1)] := hl
  have h := hm
  rw [md_X9_layFirst] at h
  have hW : wd (dC, dI) A s.heap (clX9 cI cJ cZ cB h0 a0 (c0 0) (c0 1) (c0 2) (c0 3) (w0 4 0) (w0 5 0) (c0 6) (c0 7) (c0 8) (c0 9) (c0 10) (c0 11) (c0 12) (c0 13) (c0 14 0) (c0 15 0) (c0 16 0) (c0 17 0) (c0 18) (c0 19) (c0 20) (c0 21 0) (c0 22 0) (c0 23 0) (c0 24 0) (c0 25 0) (c0 26) (c0 27) []) H locs := hW
  refine lv_aload_n S.1 S.2.1 dX9_layFirst_0 rfl (lv_at hl 0 rfl) ?_
  refine gf (C := RX9) (T := TX9) (N := 28) (ci := 5) (k := 6) S hK hW wu_X9 rfl (by decide) wf_X9_27 0 rfl rfl dX9_layFirst_1 ?_
  refine lv_iconst (v := (0 : Int32)) S.1 S.2.1 dX9_layFirst_4 ki_0 ?_
  refine lv_aload_n S.1 S.2.1 dX9_layFirst_5 rfl (lv_at hl 0 rfl) ?_
  refine gf (C := RX9) (T := TX9) (N := 28) (ci := 5) (k := 0) S hK hW wu_X9 rfl (by decide) wf_X9_7 0 rfl rfl dX9_layFirst_6 ?_
  refine lv_iconst (v := (5 : Int32)) S.1 S.2.1 dX9_layFirst_9 ki_5 ?_
  refine iaK S hK hW rfl 1 rfl b_5_194 x_5 dX9_layFirst_10 ?_
  refine istK S hK hW rfl 5 rfl b_0_14 x_0 dX9_layFirst_11 (fun H locs hW => ?_)
  have hW : wd (dC, dI) A s.heap (clX9 cI cJ cZ cB h0 a0 (c0 0) (c0 1) (c0 2) (c0 3) (w0 4 0) (w0 5 0) (upd (c0 6) 0 ((c0 0) 5)) (c0 7) (c0 8) (c0 9) (c0 10) (c0 11) (c0 12) (c0 13) (c0 14 0) (c0 15 0) (c0 16 0) (c0 17 0) (c0 18) (c0 19) (c0 20) (c0 21 0) (c0 22 0) (c0 23 0) (c0 24 0) (c0 25 0) (c0 26) (c0 27) []) H locs := hW
  refine lv_aload_n S.1 S.2.1 dX9_layFirst_12 rfl (lv_at hl 0 rfl) ?_
  refine gf (C := RX9) (T := TX9) (N := 28) (ci := 5) (k := 7) S hK hW wu_X9 rfl (by decide) wf_X9_30 0 rfl rfl dX9_layFirst_13 ?_
  refine lv_iconst (v := (0 : Int32)) S.1 S.2.1 dX9_layFirst_16 ki_0 ?_
  refine lv_iload_n S.1 S.2.1 dX9_layFirst_17 rfl (lv_at hl 1 rfl) ?_
  obtain ⟨y1, e2, h⟩ := lt1_e h
  suffices hM3 : ∀ ls : Array Slot, lv_has ls 2 [(0, .ref h0), (1, .int p1)] → W p l e rmX9_layFirst s m (List.toArray [.ref h0, .int p1]) below meth c H locs 0 0 (MQ below (kQ (dC, dI) (cwX9 cI cJ cZ cB h0 a0 c0' w0 []) none A) (List.toArray [.ref h0, .int p1]) s 0 0 A) (F0 m 40 ls [.int y1, .int (0 : Int32), .ref (a0 7)]) by
    refine lv_if_eq (tgt := 33) S.1 S.2.1 dX9_layFirst_18 (by decide) (fun u4 => ?_) (fun u4 => ?_)
    · refine lv_aload_n S.1 S.2.1 dX9_layFirst_33 rfl (lv_at hl 0 rfl) ?_
      refine gf (C := RX9) (T := TX9) (N := 28) (ci := 5) (k := 0) S hK hW wu_X9 rfl (by decide) wf_X9_7 0 rfl rfl dX9_layFirst_34 ?_
      refine lv_bipush (v := (14 : Int32)) S.1 S.2.1 dX9_layFirst_37 kb_14 ?_
      refine iaK S hK hW rfl 1 rfl b_14_194 x_14 dX9_layFirst_39 ?_
      have e2 := e2.trans (if_pos u4)
      subst e2
      exact hM3 ls (lv_sub hl [0, 1] rfl)
    · refine lv_iconst (v := (1 : Int32)) S.1 S.2.1 dX9_layFirst_21 ki_1 ?_
      refine lv_aload_n S.1 S.2.1 dX9_layFirst_22 rfl (lv_at hl 0 rfl) ?_
      refine gf (C := RX9) (T := TX9) (N := 28) (ci := 5) (k := 0) S hK hW wu_X9 rfl (by decide) wf_X9_7 0 rfl rfl dX9_layFirst_23 ?_
      refine lv_bipush (v := (14 : Int32)) S.1 S.2.1 dX9_layFirst_26 kb_14 ?_
      refine iaK S hK hW rfl 1 rfl b_14_194 x_14 dX9_layFirst_28 ?_
      refine lv_isub S.1 S.2.1 dX9_layFirst_29 ?_
      refine lv_goto (tgt := 40) S.1 S.2.1 dX9_layFirst_30 (by decide) ?_
      have e2 := e2.trans (if_neg u4)
      subst e2
      exact hM3 ls (lv_sub hl [0, 1] rfl)
  intro ls hl
  refine istK S hK hW rfl 6 rfl b_0_14 x_0 dX9_layFirst_40 (fun H locs hW => ?_)
  have hW : wd (dC, dI) A s.heap (clX9 cI cJ cZ cB h0 a0 (c0 0) (c0 1) (c0 2) (c0 3) (w0 4 0) (w0 5 0) (upd (c0 6) 0 ((c0 0) 5)) (upd (c0 7) 0 y1) (c0 8) (c0 9) (c0 10) (c0 11) (c0 12) (c0 13) (c0 14 0) (c0 15 0) (c0 16 0) (c0 17 0) (c0 18) (c0 19) (c0 20) (c0 21 0) (c0 22 0) (c0 23 0) (c0 24 0) (c0 25 0) (c0 26) (c0 27) []) H locs := hW
  refine lv_aload_n S.1 S.2.1 dX9_layFirst_41 rfl (lv_at hl 0 rfl) ?_
  refine gf (C := RX9) (T := TX9) (N := 28) (ci := 5) (k := 8) S hK hW wu_X9 rfl (by decide) wf_X9_33 0 rfl rfl dX9_layFirst_42 ?_
  refine lv_iconst (v := (0 : Int32)) S.1 S.2.1 dX9_layFirst_45 ki_0 ?_
  refine lv_aload_n S.1 S.2.1 dX9_layFirst_46 rfl (lv_at hl 0 rfl) ?_
  refine gf (C := RX9) (T := TX9) (N := 28) (ci := 5) (k := 0) S hK hW wu_X9 rfl (by decide) wf_X9_7 0 rfl rfl dX9_layFirst_47 ?_
  refine lv_bipush (v := (15 : Int32)) S.1 S.2.1 dX9_layFirst_50 kb_15 ?_
  refine iaK S hK hW rfl 1 rfl b_15_194 x_15 dX9_layFirst_52 ?_
  refine istK S hK hW rfl 7 rfl b_0_14 x_0 dX9_layFirst_53 (fun H locs hW => ?_)
  have hW : wd (dC, dI) A s.heap (clX9 cI cJ cZ cB h0 a0 (c0 0) (c0 1) (c0 2) (c0 3) (w0 4 0) (w0 5 0) (upd (c0 6) 0 ((c0 0) 5)) (upd (c0 7) 0 y1) (upd (c0 8) 0 ((c0 0) 15)) (c0 9) (c0 10) (c0 11) (c0 12) (c0 13) (c0 14 0) (c0 15 0) (c0 16 0) (c0 17 0) (c0 18) (c0 19) (c0 20) (c0 21 0) (c0 22 0) (c0 23 0) (c0 24 0) (c0 25 0) (c0 26) (c0 27) []) H locs := hW
  refine lv_aload_n S.1 S.2.1 dX9_layFirst_54 rfl (lv_at hl 0 rfl) ?_
  refine gf (C := RX9) (T := TX9) (N := 28) (ci := 5) (k := 9) S hK hW wu_X9 rfl (by decide) wf_X9_36 0 rfl rfl dX9_layFirst_55 ?_
  refine lv_iconst (v := (0 : Int32)) S.1 S.2.1 dX9_layFirst_58 ki_0 ?_
  refine lv_aload_n S.1 S.2.1 dX9_layFirst_59 rfl (lv_at hl 0 rfl) ?_
  refine gf (C := RX9) (T := TX9) (N := 28) (ci := 5) (k := 0) S hK hW wu_X9 rfl (by decide) wf_X9_7 0 rfl rfl dX9_layFirst_60 ?_
  refine lv_bipush (v := (16 : Int32)) S.1 S.2.1 dX9_layFirst_63 kb_16 ?_
  refine iaK S hK hW rfl 1 rfl b_16_194 x_16 dX9_layFirst_65 ?_
  refine istK S hK hW rfl 8 rfl b_0_14 x_0 dX9_layFirst_66 (fun H locs hW => ?_)
  have hW : wd (dC, dI) A s.heap (clX9 cI cJ cZ cB h0 a0 (c0 0) (c0 1) (c0 2) (c0 3) (w0 4 0) (w0 5 0) (upd (c0 6) 0 ((c0 0) 5)) (upd (c0 7) 0 y1) (upd (c0 8) 0 ((c0 0) 15)) (upd (c0 9) 0 ((c0 0) 16)) (c0 10) (c0 11) (c0 12) (c0 13) (c0 14 0) (c0 15 0) (c0 16 0) (c0 17 0) (c0 18) (c0 19) (c0 20) (c0 21 0) (c0 22 0) (c0 23 0) (c0 24 0) (c0 25 0) (c0 26) (c0 27) []) H locs := hW
  refine lv_aload_n S.1 S.2.1 dX9_layFirst_67 rfl (lv_at hl 0 rfl) ?_
  refine gf (C := RX9) (T := TX9) (N := 28) (ci := 5) (k := 10) S hK hW wu_X9 rfl (by decide) wf_X9_39 0 rfl rfl dX9_layFirst_68 ?_
  refine lv_iconst (v := (0 : Int32)) S.1 S.2.1 dX9_layFirst_71 ki_0 ?_
  refine lv_aload_n S.1 S.2.1 dX9_layFirst_72 rfl (lv_at hl 0 rfl) ?_
  refine gf (C := RX9) (T := TX9) (N := 28) (ci := 5) (k := 0) S hK hW wu_X9 rfl (by decide) wf_X9_7 0 rfl rfl dX9_layFirst_73 ?_
  refine lv_bipush (v := (12 : Int32)) S.1 S.2.1 dX9_layFirst_76 kb_12 ?_
  refine iaK S hK hW rfl 1 rfl b_12_194 x_12 dX9_layFirst_78 ?_
  refine istK S hK hW rfl 9 rfl b_0_28 x_0 dX9_layFirst_79 (fun H locs hW => ?_)
  have hW : wd (dC, dI) A s.heap (clX9 cI cJ cZ cB h0 a0 (c0 0) (c0 1) (c0 2) (c0 3) (w0 4 0) (w0 5 0) (upd (c0 6) 0 ((c0 0) 5)) (upd (c0 7) 0 y1) (upd (c0 8) 0 ((c0 0) 15)) (upd (c0 9) 0 ((c0 0) 16)) (upd (c0 10) 0 ((c0 0) 12)) (c0 11) (c0 12) (c0 13) (c0 14 0) (c0 15 0) (c0 16 0) (c0 17 0) (c0 18) (c0 19) (c0 20) (c0 21 0) (c0 22 0) (c0 23 0) (c0 24 0) (c0 25 0) (c0 26) (c0 27) []) H locs := hW
  refine lv_aload_n S.1 S.2.1 dX9_layFirst_80 rfl (lv_at hl 0 rfl) ?_
  refine gf (C := RX9) (T := TX9) (N := 28) (ci := 5) (k := 10) S hK hW wu_X9 rfl (by decide) wf_X9_39 0 rfl rfl dX9_layFirst_81 ?_
  refine lv_iconst (v := (1 : Int32)) S.1 S.2.1 dX9_layFirst_84 ki_1 ?_
  refine lv_aload_n S.1 S.2.1 dX9_layFirst_85 rfl (lv_at hl 0 rfl) ?_
  refine gf (C := RX9) (T := TX9) (N := 28) (ci := 5) (k := 0) S hK hW wu_X9 rfl (by decide) wf_X9_7 0 rfl rfl dX9_layFirst_86 ?_
  refine lv_bipush (v := (13 : Int32)) S.1 S.2.1 dX9_layFirst_89 kb_13 ?_
  refine iaK S hK hW rfl 1 rfl b_13_194 x_13 dX9_layFirst_91 ?_
  refine istK S hK hW rfl 9 rfl b_1_28 x_1 dX9_layFirst_92 (fun H locs hW => ?_)
  have hW : wd (dC, dI) A s.heap (clX9 cI cJ cZ cB h0 a0 (c0 0) (c0 1) (c0 2) (c0 3) (w0 4 0) (w0 5 0) (upd (c0 6) 0 ((c0 0) 5)) (upd (c0 7) 0 y1) (upd (c0 8) 0 ((c0 0) 15)) (upd (c0 9) 0 ((c0 0) 16)) (upd (upd (c0 10) 0 ((c0 0) 12)) 1 ((c0 0) 13)) (c0 11) (c0 12) (c0 13) (c0 14 0) (c0 15 0) (c0 16 0) (c0 17 0) (c0 18) (c0 19) (c0 20) (c0 21 0) (c0 22 0) (c0 23 0) (c0 24 0) (c0 25 0) (c0 26) (c0 27) []) H locs := hW
  refine lv_aload_n S.1 S.2.1 dX9_layFirst_93 rfl (lv_at hl 0 rfl) ?_
  refine gf (C := RX9) (T := TX9) (N := 28) (ci := 5) (k := 10) S hK hW wu_X9 rfl (by decide) wf_X9_39 0 rfl rfl dX9_layFirst_94 ?_
  refine lv_aload_n S.1 S.2.1 dX9_layFirst_97 rfl (lv_at hl 0 rfl) ?_
  refine gf (C := RX9) (T := TX9) (N := 28) (ci := 5) (k := 9) S hK hW wu_X9 rfl (by decide) wf_X9_36 0 rfl rfl dX9_layFirst_98 ?_
  refine lv_iconst (v := (0 : Int32)) S.1 S.2.1 dX9_layFirst_101 ki_0 ?_
  refine iaK S hK hW rfl 8 rfl b_0_14 x_0 dX9_layFirst_102 ?_
  refine lv_iconst (v := (2 : Int32)) S.1 S.2.1 dX9_layFirst_103 ki_2 ?_
  refine lv_irem S.1 S.2.1 dX9_layFirst_104 (by decide) ?_
  refine lv_dup2_11 S.1 S.2.1 dX9_layFirst_105 rfl rfl ?_
  obtain ⟨z5, h⟩ := of_g h
  refine ia S hK hW rfl 9 rfl z5 dX9_layFirst_106 ?_
  refine lv_iload_n S.1 S.2.1 dX9_layFirst_107 rfl (lv_at hl 1 rfl) ?_
  obtain ⟨y6, e7, h⟩ := lt1_e h
  suffices hM8 : ∀ ls : Array Slot, lv_has ls 2 [(0, .ref h0)] → W p l e rmX9_layFirst s m (List.toArray [.ref h0, .int p1]) below meth c H locs 0 0 (MQ below (kQ (dC, dI) (cwX9 cI cJ cZ cB h0 a0 c0' w0 []) none A) (List.toArray [.ref h0, .int p1]) s 0 0 A) (F0 m 116 ls [.int y6, .int ((upd (upd (c0 10) 0 ((c0 0) 12)) 1 ((c0 0) 13)) (ix (((upd (c0 9) 0 ((c0 0) 16)) 0) - ((upd (c0 9) 0 ((c0 0) 16)) 0) / (2 : Int32) * (2 : Int32)))), .int (((upd (c0 9) 0 ((c0 0) 16)) 0) - ((upd (c0 9) 0 ((c0 0) 16)) 0) / (2 : Int32) * (2 : Int32)), .ref (a0 10)]) by
    refine lv_if_eq (tgt := 115) S.1 S.2.1 dX9_layFirst_108 (by decide) (fun u9 => ?_) (fun u9 => ?_)
    · refine lv_iconst (v := (0 : Int32)) S.1 S.2.1 dX9_layFirst_115 ki_0 ?_
      have e7 := e7.trans (if_pos u9)
      subst e7
      exact hM8 ls (lv_sub hl [0] rfl)
    · refine lv_iconst (v := (1 : Int32)) S.1 S.2.1 dX9_layFirst_111 ki_1 ?_
      refine lv_goto (tgt := 116) S.1 S.2.1 dX9_layFirst_112 (by decide) ?_
      have e7 := e7.trans (if_neg u9)
      subst e7
      exact hM8 ls (lv_sub hl [0] rfl)
  intro ls hl
  refine lv_isub S.1 S.2.1 dX9_layFirst_116 ?_
  obtain ⟨y10, e11, h⟩ := lt1_e h
  refine nmi e11 ?_
  obtain ⟨z12, h⟩ := of_g h
  refine ist S hK hW rfl 9 rfl z12 dX9_layFirst_117 (fun H locs hW => ?_)
  have hW : wd (dC, dI) A s.heap (clX9 cI cJ cZ cB h0 a0 (c0 0) (c0 1) (c0 2) (c0 3) (w0 4 0) (w0 5 0) (upd (c0 6) 0 ((c0 0) 5)) (upd (c0 7) 0 y1) (upd (c0 8) 0 ((c0 0) 15)) (upd (c0 9) 0 ((c0 0) 16)) (upd (upd (upd (c0 10) 0 ((c0 0) 12)) 1 ((c0 0) 13)) (ix (((upd (c0 9) 0 ((c0 0) 16)) 0) - ((upd (c0 9) 0 ((c0 0) 16)) 0) / (2 : Int32) * (2 : Int32))) y10) (c0 11) (c0 12) (c0 13) (c0 14 0) (c0 15 0) (c0 16 0) (c0 17 0) (c0 18) (c0 19) (c0 20) (c0 21 0) (c0 22 0) (c0 23 0) (c0 24 0) (c0 25 0) (c0 26) (c0 27) []) H locs := hW
  refine lv_aload_n S.1 S.2.1 dX9_layFirst_118 rfl (lv_at hl 0 rfl) ?_
  refine gf (C := RX9) (T := TX9) (N := 28) (ci := 5) (k := 11) S hK hW wu_X9 rfl (by decide) wf_X9_42 0 rfl rfl dX9_layFirst_119 ?_
  refine lv_iconst (v := (0 : Int32)) S.1 S.2.1 dX9_layFirst_122 ki_0 ?_
  refine lv_iconst (v := (-1 : Int32)) S.1 S.2.1 dX9_layFirst_123 ki_m1 ?_
  refine istK S hK hW rfl 10 rfl b_0_14 x_0 dX9_layFirst_124 (fun H locs hW => ?_)
  have hW : wd (dC, dI) A s.heap (clX9 cI cJ cZ cB h0 a0 (c0 0) (c0 1) (c0 2) (c0 3) (w0 4 0) (w0 5 0) (upd (c0 6) 0 ((c0 0) 5)) (upd (c0 7) 0 y1) (upd (c0 8) 0 ((c0 0) 15)) (upd (c0 9) 0 ((c0 0) 16)) (upd (upd (upd (c0 10) 0 ((c0 0) 12)) 1 ((c0 0) 13)) (ix (((upd (c0 9) 0 ((c0 0) 16)) 0) - ((upd (c0 9) 0 ((c0 0) 16)) 0) / (2 : Int32) * (2 : Int32))) y10) (upd (c0 11) 0 (-1 : Int32)) (c0 12) (c0 13) (c0 14 0) (c0 15 0) (c0 16 0) (c0 17 0) (c0 18) (c0 19) (c0 20) (c0 21 0) (c0 22 0) (c0 23 0) (c0 24 0) (c0 25 0) (c0 26) (c0 27) []) H locs := hW
  refine lv_aload_n S.1 S.2.1 dX9_layFirst_125 rfl (lv_at hl 0 rfl) ?_
  refine lv_iconst (v := (0 : Int32)) S.1 S.2.1 dX9_layFirst_126 ki_0 ?_
  obtain ⟨cv13, hy14, h⟩ := bd1_e h
  refine kv (clX9 cI cJ cZ cB h0 a0 (cv13 0) (cv13 1) (cv13 2) (cv13 3) (w0 4 0) (w0 5 0) (cv13 6) (cv13 7) (cv13 8) (cv13 9) (cv13 10) (cv13 11) (cv13 12) (cv13 13) (cv13 14 0) (cv13 15 0) (cv13 16 0) (cv13 17 0) (cv13 18) (cv13 19) (cv13 20) (cv13 21 0) (cv13 22 0) (cv13 23 0) (cv13 24 0) (cv13 25 0) (cv13 26) (cv13 27) []) S hK hN hZ hA hW (rest := []) (t_X9_openLevel l dC dI cI cJ cZ cB zz h0 a0 (rs (rs (rs (rs (rs (rs c0 6 (upd (c0 6) 0 ((c0 0) 5))) 7 (upd (c0 7) 0 y1)) 8 (upd (c0 8) 0 ((c0 0) 15))) 9 (upd (c0 9) 0 ((c0 0) 16))) 10 (upd (upd (upd (c0 10) 0 ((c0 0) 12)) 1 ((c0 0) 13)) (ix (((upd (c0 9) 0 ((c0 0) 16)) 0) - ((upd (c0 9) 0 ((c0 0) 16)) 0) / (2 : Int32) * (2 : Int32))) y10)) 11 (upd (c0 11) 0 (-1 : Int32))) w0 (0 : Int32) _  hy14) wl_X9_147 wv_X9_openLevel rfl rfl ⟨Nat.le_of_ble_eq_true rfl, Nat.le_of_ble_eq_true rfl⟩ [] [] rfl rfl rfl 0 rfl rfl rfl rfl hl.1 rfl (Nat.le_of_ble_eq_true rfl) dX9_layFirst_127 [] rfl (fun H locs hW => ?_)
  have f15 := Option.some.inj h
  subst f15
  exact rv S hr hlocks hW dX9_layFirst_130
abbrev rmX9_choosesAt : Room := { frames := 3, cells := 0, slots := 0, locals := 78 }
set_option maxHeartbeats 4000000 in
set_option maxRecDepth 100000 in
theorem t_X9_choosesAt (l : Launch) (dC : Nat → ClassId) (dI : Nat → Nat → Nat) (cI cJ cZ cB : ClassId) (zz : ZT)  (h0 : Nat) (a0 : Nat → Nat) (F : Nat) (c0 : Nat → Nat → Int32) (w0 : Nat → Nat → Int64) (p1 : Int32) (r : Int32) (c0' : Nat → Nat → Int32) (hm : md_X9_choosesAt F c0 w0 p1 = some (r, c0')) : ct l (dC, dI) zz (ty4 cI cJ cZ cB) yX9_choosesAt cX9_choosesAt 3 (some .boolean) rmX9_choosesAt [.ref h0, .int p1] (cwX9 cI cJ cZ cB h0 a0 c0 w0 []) (cwX9 cI cJ cZ cB h0 a0 c0' w0 []) (some (.int r)) := by
  refine ct_of (cc := cX9_choosesAt) (maxL := 3) (ret := (some .boolean)) (by decide) (Nat.le_of_ble_eq_true rfl) ?_
  intro p e s m below meth c A S hr hlocks hK hN hZ hA H locs hW ls hl
  have S : CallFix p m c cX9_choosesAt 3 s (List.toArray [.ref h0, .int p1]) G RX9 := S
  have hl : lv_has ls 3 [(0, .ref h0), (1, .int p1)] := hl
  have h := hm
  rw [md_X9_choosesAt] at h
  have hW : wd (dC, dI) A s.heap (clX9 cI cJ cZ cB h0 a0 (c0 0) (c0 1) (c0 2) (c0 3) (w0 4 0) (w0 5 0) (c0 6) (c0 7) (c0 8) (c0 9) (c0 10) (c0 11) (c0 12) (c0 13) (c0 14 0) (c0 15 0) (c0 16 0) (c0 17 0) (c0 18) (c0 19) (c0 20) (c0 21 0) (c0 22 0) (c0 23 0) (c0 24 0) (c0 25 0) (c0 26) (c0 27) []) H locs := hW
  have hJ121 : ∀ (c0 : Nat → Nat → Int32) (x1 : Int32) (x2 : Int32), jd_X9_choosesAt_121 F w0 c0 x1 x2 = some (r, c0') → ∀ (H : Heap) (locs : List Loc), wd (dC, dI) A s.heap (clX9 cI cJ cZ cB h0 a0 (c0 0) (c0 1) (c0 2) (c0 3) (w0 4 0) (w0 5 0) (c0 6) (c0 7) (c0 8) (c0 9) (c0 10) (c0 11) (c0 12) (c0 13) (c0 14 0) (c0 15 0) (c0 16 0) (c0 17 0) (c0 18) (c0 19) (c0 20) (c0 21 0) (c0 22 0) (c0 23 0) (c0 24 0) (c0 25 0) (c0 26) (c0 27) []) H locs → ∀ ls : Array Slot, lv_has ls 3 [(0, .ref h0), (1, .int x1), (2, .int x2)] → W p l e rmX9_choosesAt s m (List.toArray [.ref h0, .int p1]) below meth c H locs 0 0 (MQ below (kQ (dC, dI) (cwX9 cI cJ cZ cB h0 a0 c0' w0 []) (some (.int r)) A) (List.toArray [.ref h0, .int p1]) s 0 0 A) (F0 m 121 ls []) := by
    intro c0 x1 x2 h H locs hW ls hl
    rw [jd_X9_choosesAt_121] at h
    refine lv_iload_n S.1 S.2.1 dX9_choosesAt_121 rfl (lv_at hl 2 rfl) ?_
    refine lv_aload_n S.1 S.2.1 dX9_choosesAt_122 rfl (lv_at hl 0 rfl) ?_
    obtain ⟨r1, hy2, h⟩ := bd1_e h
    refine kv0 S hK hN hZ hA hW (rest := [.int x2]) (t_X9_many l dC dI cI cJ cZ cB zz h0 a0 c0 w0 _  hy2) wl_X9_70 wv_X9_many rfl rfl ⟨Nat.le_of_ble_eq_true rfl, Nat.le_of_ble_eq_true rfl⟩ [] [] rfl 0 rfl rfl rfl rfl hl.1 rfl (Nat.le_of_ble_eq_true rfl) dX9_choosesAt_123 [.int r1, .int x2] rfl (fun H locs hW => ?_)
    refine lv_icmp_lt (tgt := 131) S.1 S.2.1 dX9_choosesAt_126 (by decide) (fun u3 => ?_) (fun u3 => ?_)
    · have h := of_p u3 h
      refine lv_aload_n S.1 S.2.1 dX9_choosesAt_131 rfl (lv_at hl 0 rfl) ?_
      refine lv_iload_n S.1 S.2.1 dX9_choosesAt_132 rfl (lv_at hl 1 rfl) ?_
      refine lv_iconst (v := (1 : Int32)) S.1 S.2.1 dX9_choosesAt_133 ki_1 ?_
      refine lv_iadd S.1 S.2.1 dX9_choosesAt_134 ?_
      refine lv_iload_n S.1 S.2.1 dX9_choosesAt_135 rfl (lv_at hl 1 rfl) ?_
      obtain ⟨cv4, hy5, h⟩ := bd1_e h
      refine kv (clX9 cI cJ cZ cB h0 a0 (cv4 0) (cv4 1) (cv4 2) (cv4 3) (w0 4 0) (w0 5 0) (cv4 6) (cv4 7) (cv4 8) (cv4 9) (cv4 10) (cv4 11) (cv4 12) (cv4 13) (cv4 14 0) (cv4 15 0) (cv4 16 0) (cv4 17 0) (cv4 18) (cv4 19) (cv4 20) (cv4 21 0) (cv4 22 0) (cv4 23 0) (cv4 24 0) (cv4 25 0) (cv4 26) (cv4 27) []) S hK hN hZ hA hW (rest := []) (t_X9_layLevel l dC dI cI cJ cZ cB zz h0 a0 c0 w0 (x1 + (1 : Int32)) x1 _  hy5) wl_X9_157 wv_X9_layLevel rfl rfl ⟨Nat.le_of_ble_eq_true rfl, Nat.le_of_ble_eq_true rfl⟩ [] [] rfl rfl rfl 0 rfl rfl rfl rfl hl.1 rfl (Nat.le_of_ble_eq_true rfl) dX9_choosesAt_136 [] rfl (fun H locs hW => ?_)
      refine lv_aload_n S.1 S.2.1 dX9_choosesAt_139 rfl (lv_at hl 0 rfl) ?_
      refine gf (C := RX9) (T := TX9) (N := 28) (ci := 5) (k := 6) S hK hW wu_X9 rfl (by decide) wf_X9_27 0 rfl rfl dX9_choosesAt_140 ?_
      refine lv_iload_n S.1 S.2.1 dX9_choosesAt_143 rfl (lv_at hl 1 rfl) ?_
      refine lv_iconst (v := (1 : Int32)) S.1 S.2.1 dX9_choosesAt_144 ki_1 ?_
      refine lv_iadd S.1 S.2.1 dX9_choosesAt_145 ?_
      refine lv_dup2_11 S.1 S.2.1 dX9_choosesAt_146 rfl rfl ?_
      obtain ⟨z6, h⟩ := of_g h
      refine ia S hK hW rfl 5 rfl z6 dX9_choosesAt_147 ?_
      refine lv_iconst (v := (1 : Int32)) S.1 S.2.1 dX9_choosesAt_148 ki_1 ?_
      refine lv_iload_n S.1 S.2.1 dX9_choosesAt_149 rfl (lv_at hl 2 rfl) ?_
      refine lv_ishl S.1 S.2.1 dX9_choosesAt_150 ?_
      refine lv_ior S.1 S.2.1 dX9_choosesAt_151 ?_
      obtain ⟨y7, e8, h⟩ := lt1_e h
      refine nmi e8 ?_
      obtain ⟨z9, h⟩ := of_g h
      refine ist S hK hW rfl 5 rfl z9 dX9_choosesAt_152 (fun H locs hW => ?_)
      have hW : wd (dC, dI) A s.heap (clX9 cI cJ cZ cB h0 a0 (cv4 0) (cv4 1) (cv4 2) (cv4 3) (w0 4 0) (w0 5 0) (upd (cv4 6) (ix (x1 + (1 : Int32))) y7) (cv4 7) (cv4 8) (cv4 9) (cv4 10) (cv4 11) (cv4 12) (cv4 13) (cv4 14 0) (cv4 15 0) (cv4 16 0) (cv4 17 0) (cv4 18) (cv4 19) (cv4 20) (cv4 21 0) (cv4 22 0) (cv4 23 0) (cv4 24 0) (cv4 25 0) (cv4 26) (cv4 27) []) H locs := hW
      refine lv_aload_n S.1 S.2.1 dX9_choosesAt_153 rfl (lv_at hl 0 rfl) ?_
      refine gf (C := RX9) (T := TX9) (N := 28) (ci := 5) (k := 8) S hK hW wu_X9 rfl (by decide) wf_X9_33 0 rfl rfl dX9_choosesAt_154 ?_
      refine lv_iload_n S.1 S.2.1 dX9_choosesAt_157 rfl (lv_at hl 1 rfl) ?_
      refine lv_iconst (v := (1 : Int32)) S.1 S.2.1 dX9_choosesAt_158 ki_1 ?_
      refine lv_iadd S.1 S.2.1 dX9_choosesAt_159 ?_
      refine lv_aload_n S.1 S.2.1 dX9_choosesAt_160 rfl (lv_at hl 0 rfl) ?_
      refine lv_iload_n S.1 S.2.1 dX9_choosesAt_161 rfl (lv_at hl 2 rfl) ?_
      refine lv_aload_n S.1 S.2.1 dX9_choosesAt_162 rfl (lv_at hl 0 rfl) ?_
      refine gf (C := RX9) (T := TX9) (N := 28) (ci := 5) (k := 7) S hK hW wu_X9 rfl (by decide) wf_X9_30 0 rfl rfl dX9_choosesAt_163 ?_
      refine lv_iload_n S.1 S.2.1 dX9_choosesAt_166 rfl (lv_at hl 1 rfl) ?_
      obtain ⟨z10, h⟩ := of_g h
      refine ia S hK hW rfl 6 rfl z10 dX9_choosesAt_167 ?_
      refine lv_aload_n S.1 S.2.1 dX9_choosesAt_168 rfl (lv_at hl 0 rfl) ?_
      refine gf (C := RX9) (T := TX9) (N := 28) (ci := 5) (k := 8) S hK hW wu_X9 rfl (by decide) wf_X9_33 0 rfl rfl dX9_choosesAt_169 ?_
      refine lv_iload_n S.1 S.2.1 dX9_choosesAt_172 rfl (lv_at hl 1 rfl) ?_
      obtain ⟨z11, h⟩ := of_g h
      refine ia S hK hW rfl 7 rfl z11 dX9_choosesAt_173 ?_
      refine lv_aload_n S.1 S.2.1 dX9_choosesAt_174 rfl (lv_at hl 0 rfl) ?_
      refine gf (C := RX9) (T := TX9) (N := 28) (ci := 5) (k := 9) S hK hW wu_X9 rfl (by decide) wf_X9_36 0 rfl rfl dX9_choosesAt_175 ?_
      refine lv_iload_n S.1 S.2.1 dX9_choosesAt_178 rfl (lv_at hl 1 rfl) ?_
      obtain ⟨z12, h⟩ := of_g h
      refine ia S hK hW rfl 8 rfl z12 dX9_choosesAt_179 ?_
      obtain ⟨r13, hy14, h⟩ := bd1_e h
      refine kv0 S hK hN hZ hA hW (rest := [.int (x1 + (1 : Int32)), .ref (a0 8)]) (t_X9_meritBy l dC dI cI cJ cZ cB zz h0 a0 (rs cv4 6 (upd (cv4 6) (ix (x1 + (1 : Int32))) y7)) w0 x2 ((cv4 7) (ix x1)) ((cv4 8) (ix x1)) ((cv4 9) (ix x1)) _  hy14) wl_X9_130 wv_X9_meritBy rfl rfl ⟨Nat.le_of_ble_eq_true rfl, Nat.le_of_ble_eq_true rfl⟩ [] [] rfl 0 rfl rfl rfl rfl hl.1 rfl (Nat.le_of_ble_eq_true rfl) dX9_choosesAt_180 [.int r13, .int (x1 + (1 : Int32)), .ref (a0 8)] rfl (fun H locs hW => ?_)
      obtain ⟨z15, h⟩ := of_g h
      refine ist S hK hW rfl 7 rfl z15 dX9_choosesAt_183 (fun H locs hW => ?_)
      have hW : wd (dC, dI) A s.heap (clX9 cI cJ cZ cB h0 a0 (cv4 0) (cv4 1) (cv4 2) (cv4 3) (w0 4 0) (w0 5 0) (upd (cv4 6) (ix (x1 + (1 : Int32))) y7) (cv4 7) (upd (cv4 8) (ix (x1 + (1 : Int32))) r13) (cv4 9) (cv4 10) (cv4 11) (cv4 12) (cv4 13) (cv4 14 0) (cv4 15 0) (cv4 16 0) (cv4 17 0) (cv4 18) (cv4 19) (cv4 20) (cv4 21 0) (cv4 22 0) (cv4 23 0) (cv4 24 0) (cv4 25 0) (cv4 26) (cv4 27) []) H locs := hW
      refine lv_aload_n S.1 S.2.1 dX9_choosesAt_184 rfl (lv_at hl 0 rfl) ?_
      refine gf (C := RX9) (T := TX9) (N := 28) (ci := 5) (k := 9) S hK hW wu_X9 rfl (by decide) wf_X9_36 0 rfl rfl dX9_choosesAt_185 ?_
      refine lv_iload_n S.1 S.2.1 dX9_choosesAt_188 rfl (lv_at hl 1 rfl) ?_
      refine lv_iconst (v := (1 : Int32)) S.1 S.2.1 dX9_choosesAt_189 ki_1 ?_
      refine lv_iadd S.1 S.2.1 dX9_choosesAt_190 ?_
      refine lv_aload_n S.1 S.2.1 dX9_choosesAt_191 rfl (lv_at hl 0 rfl) ?_
      refine gf (C := RX9) (T := TX9) (N := 28) (ci := 5) (k := 9) S hK hW wu_X9 rfl (by decide) wf_X9_36 0 rfl rfl dX9_choosesAt_192 ?_
      refine lv_iload_n S.1 S.2.1 dX9_choosesAt_195 rfl (lv_at hl 1 rfl) ?_
      obtain ⟨z16, h⟩ := of_g h
      refine ia S hK hW rfl 8 rfl z16 dX9_choosesAt_196 ?_
      refine lv_iconst (v := (1 : Int32)) S.1 S.2.1 dX9_choosesAt_197 ki_1 ?_
      refine lv_iadd S.1 S.2.1 dX9_choosesAt_198 ?_
      obtain ⟨z17, h⟩ := of_g h
      refine ist S hK hW rfl 8 rfl z17 dX9_choosesAt_199 (fun H locs hW => ?_)
      have hW : wd (dC, dI) A s.heap (clX9 cI cJ cZ cB h0 a0 (cv4 0) (cv4 1) (cv4 2) (cv4 3) (w0 4 0) (w0 5 0) (upd (cv4 6) (ix (x1 + (1 : Int32))) y7) (cv4 7) (upd (cv4 8) (ix (x1 + (1 : Int32))) r13) (upd (cv4 9) (ix (x1 + (1 : Int32))) (((cv4 9) (ix x1)) + (1 : Int32))) (cv4 10) (cv4 11) (cv4 12) (cv4 13) (cv4 14 0) (cv4 15 0) (cv4 16 0) (cv4 17 0) (cv4 18) (cv4 19) (cv4 20) (cv4 21 0) (cv4 22 0) (cv4 23 0) (cv4 24 0) (cv4 25 0) (cv4 26) (cv4 27) []) H locs := hW
      refine lv_aload_n S.1 S.2.1 dX9_choosesAt_200 rfl (lv_at hl 0 rfl) ?_
      refine gf (C := RX9) (T := TX9) (N := 28) (ci := 5) (k := 11) S hK hW wu_X9 rfl (by decide) wf_X9_42 0 rfl rfl dX9_choosesAt_201 ?_
      refine lv_iload_n S.1 S.2.1 dX9_choosesAt_204 rfl (lv_at hl 1 rfl) ?_
      refine lv_iconst (v := (1 : Int32)) S.1 S.2.1 dX9_choosesAt_205 ki_1 ?_
      refine lv_iadd S.1 S.2.1 dX9_choosesAt_206 ?_
      refine lv_iload_n S.1 S.2.1 dX9_choosesAt_207 rfl (lv_at hl 2 rfl) ?_
      obtain ⟨z18, h⟩ := of_g h
      refine ist S hK hW rfl 10 rfl z18 dX9_choosesAt_208 (fun H locs hW => ?_)
      have hW : wd (dC, dI) A s.heap (clX9 cI cJ cZ cB h0 a0 (cv4 0) (cv4 1) (cv4 2) (cv4 3) (w0 4 0) (w0 5 0) (upd (cv4 6) (ix (x1 + (1 : Int32))) y7) (cv4 7) (upd (cv4 8) (ix (x1 + (1 : Int32))) r13) (upd (cv4 9) (ix (x1 + (1 : Int32))) (((cv4 9) (ix x1)) + (1 : Int32))) (cv4 10) (upd (cv4 11) (ix (x1 + (1 : Int32))) x2) (cv4 12) (cv4 13) (cv4 14 0) (cv4 15 0) (cv4 16 0) (cv4 17 0) (cv4 18) (cv4 19) (cv4 20) (cv4 21 0) (cv4 22 0) (cv4 23 0) (cv4 24 0) (cv4 25 0) (cv4 26) (cv4 27) []) H locs := hW
      refine lv_aload_n S.1 S.2.1 dX9_choosesAt_209 rfl (lv_at hl 0 rfl) ?_
      refine lv_iload_n S.1 S.2.1 dX9_choosesAt_210 rfl (lv_at hl 1 rfl) ?_
      refine lv_iconst (v := (1 : Int32)) S.1 S.2.1 dX9_choosesAt_211 ki_1 ?_
      refine lv_iadd S.1 S.2.1 dX9_choosesAt_212 ?_
      obtain ⟨cv19, hy20, h⟩ := bd1_e h
      refine kv (clX9 cI cJ cZ cB h0 a0 (cv19 0) (cv19 1) (cv19 2) (cv19 3) (w0 4 0) (w0 5 0) (cv19 6) (cv19 7) (cv19 8) (cv19 9) (cv19 10) (cv19 11) (cv19 12) (cv19 13) (cv19 14 0) (cv19 15 0) (cv19 16 0) (cv19 17 0) (cv19 18) (cv19 19) (cv19 20) (cv19 21 0) (cv19 22 0) (cv19 23 0) (cv19 24 0) (cv19 25 0) (cv19 26) (cv19 27) []) S hK hN hZ hA hW (rest := []) (t_X9_openLevel l dC dI cI cJ cZ cB zz h0 a0 (rs (rs (rs (rs cv4 6 (upd (cv4 6) (ix (x1 + (1 : Int32))) y7)) 8 (upd (cv4 8) (ix (x1 + (1 : Int32))) r13)) 9 (upd (cv4 9) (ix (x1 + (1 : Int32))) (((cv4 9) (ix x1)) + (1 : Int32)))) 11 (upd (cv4 11) (ix (x1 + (1 : Int32))) x2)) w0 (x1 + (1 : Int32)) _  hy20) wl_X9_147 wv_X9_openLevel rfl rfl ⟨Nat.le_of_ble_eq_true rfl, Nat.le_of_ble_eq_true rfl⟩ [] [] rfl rfl rfl 0 rfl rfl rfl rfl hl.1 rfl (Nat.le_of_ble_eq_true rfl) dX9_choosesAt_213 [] rfl (fun H locs hW => ?_)
      refine lv_aload_n S.1 S.2.1 dX9_choosesAt_216 rfl (lv_at hl 0 rfl) ?_
      refine gf (C := RX9) (T := TX9) (N := 28) (ci := 5) (k := 12) S hK hW wu_X9 rfl (by decide) wf_X9_45 0 rfl rfl dX9_choosesAt_217 ?_
      refine lv_iload_n S.1 S.2.1 dX9_choosesAt_220 rfl (lv_at hl 1 rfl) ?_
      refine lv_iload_n S.1 S.2.1 dX9_choosesAt_221 rfl (lv_at hl 2 rfl) ?_
      obtain ⟨z21, h⟩ := of_g h
      refine ist S hK hW rfl 11 rfl z21 dX9_choosesAt_222 (fun H locs hW => ?_)
      have hW : wd (dC, dI) A s.heap (clX9 cI cJ cZ cB h0 a0 (cv19 0) (cv19 1) (cv19 2) (cv19 3) (w0 4 0) (w0 5 0) (cv19 6) (cv19 7) (cv19 8) (cv19 9) (cv19 10) (cv19 11) (upd (cv19 12) (ix x1) x2) (cv19 13) (cv19 14 0) (cv19 15 0) (cv19 16 0) (cv19 17 0) (cv19 18) (cv19 19) (cv19 20) (cv19 21 0) (cv19 22 0) (cv19 23 0) (cv19 24 0) (cv19 25 0) (cv19 26) (cv19 27) []) H locs := hW
      refine lv_iconst (v := (1 : Int32)) S.1 S.2.1 dX9_choosesAt_223 ki_1 ?_
      have f22 := Option.some.inj h
      obtain ⟨f23, f24⟩ := Prod.mk.inj f22
      subst f23
      subst f24
      exact rz S hr hlocks hW (nz (Or.inr rfl)) dX9_choosesAt_224
    · have h := of_n u3 h
      refine lv_iconst (v := (0 : Int32)) S.1 S.2.1 dX9_choosesAt_129 ki_0 ?_
      have f25 := Option.some.inj h
      obtain ⟨f26, f27⟩ := Prod.mk.inj f25
      subst f26
      subst f27
      exact rz S hr hlocks hW (nz (Or.inl rfl)) dX9_choosesAt_130
  have hL94 : ∀ (n94 : Nat) (c0 : Nat → Nat → Int32) (x1 : Int32) (x2 : Int32), ld_X9_choosesAt_94 F w0 n94 c0 x1 x2 = some (r, c0') → ∀ (H : Heap) (locs : List Loc), wd (dC, dI) A s.heap (clX9 cI cJ cZ cB h0 a0 (c0 0) (c0 1) (c0 2) (c0 3) (w0 4 0) (w0 5 0) (c0 6) (c0 7) (c0 8) (c0 9) (c0 10) (c0 11) (c0 12) (c0 13) (c0 14 0) (c0 15 0) (c0 16 0) (c0 17 0) (c0 18) (c0 19) (c0 20) (c0 21 0) (c0 22 0) (c0 23 0) (c0 24 0) (c0 25 0) (c0 26) (c0 27) []) H locs → ∀ ls : Array Slot, lv_has ls 3 [(0, .ref h0), (1, .int x1), (2, .int x2)] → W p l e rmX9_choosesAt s m (List.toArray [.ref h0, .int p1]) below meth c H locs 0 0 (MQ below (kQ (dC, dI) (cwX9 cI cJ cZ cB h0 a0 c0' w0 []) (some (.int r)) A) (List.toArray [.ref h0, .int p1]) s 0 0 A) (F0 m 94 ls []) := by
    intro n94
    induction n94 with
    | zero => intro c0 x1 x2 h; rw [ld_X9_choosesAt_94] at h; cases h
    | succ n94 ih94 =>
      intro c0 x1 x2 h H locs hW ls hl
      rw [ld_X9_choosesAt_94] at h
      refine lv_iload_n S.1 S.2.1 dX9_choosesAt_94 rfl (lv_at hl 2 rfl) ?_
      refine lv_aload_n S.1 S.2.1 dX9_choosesAt_95 rfl (lv_at hl 0 rfl) ?_
      obtain ⟨r28, hy29, h⟩ := bd1_e h
      refine kv0 S hK hN hZ hA hW (rest := [.int x2]) (t_X9_many l dC dI cI cJ cZ cB zz h0 a0 c0 w0 _  hy29) wl_X9_70 wv_X9_many rfl rfl ⟨Nat.le_of_ble_eq_true rfl, Nat.le_of_ble_eq_true rfl⟩ [] [] rfl 0 rfl rfl rfl rfl hl.1 rfl (Nat.le_of_ble_eq_true rfl) dX9_choosesAt_96 [.int r28, .int x2] rfl (fun H locs hW => ?_)
      refine lv_icmp_ge (tgt := 121) S.1 S.2.1 dX9_choosesAt_99 (by decide) (fun u30 => ?_) (fun u30 => ?_)
      · have h := of_p u30 h
        exact hJ121 _ _ _ h H locs hW ls (lv_sub hl [0, 1, 2] rfl)
      · have h := of_n u30 h
        refine lv_aload_n S.1 S.2.1 dX9_choosesAt_102 rfl (lv_at hl 0 rfl) ?_
        refine gf (C := RX9) (T := TX9) (N := 28) (ci := 5) (k := 6) S hK hW wu_X9 rfl (by decide) wf_X9_27 0 rfl rfl dX9_choosesAt_103 ?_
        refine lv_iload_n S.1 S.2.1 dX9_choosesAt_106 rfl (lv_at hl 1 rfl) ?_
        obtain ⟨z31, h⟩ := of_g h
        refine ia S hK hW rfl 5 rfl z31 dX9_choosesAt_107 ?_
        refine lv_iload_n S.1 S.2.1 dX9_choosesAt_108 rfl (lv_at hl 2 rfl) ?_
        obtain ⟨r32, hy33, h⟩ := bd1_e h
        refine ks0 S hK hN hZ hA hW (rest := []) (t_X9_has l dC dI cI cJ cZ cB zz ((c0 6) (ix x1)) x2 _  hy33) wl_X9_120 wv_X9_has rfl rfl ⟨Nat.le_of_ble_eq_true rfl, Nat.le_of_ble_eq_true rfl⟩ [] (clX9 cI cJ cZ cB h0 a0 (c0 0) (c0 1) (c0 2) (c0 3) (w0 4 0) (w0 5 0) (c0 6) (c0 7) (c0 8) (c0 9) (c0 10) (c0 11) (c0 12) (c0 13) (c0 14 0) (c0 15 0) (c0 16 0) (c0 17 0) (c0 18) (c0 19) (c0 20) (c0 21 0) (c0 22 0) (c0 23 0) (c0 24 0) (c0 25 0) (c0 26) (c0 27) []) rfl rfl hl.1 rfl (Nat.le_of_ble_eq_true rfl) dX9_choosesAt_109 [.int r32] rfl (fun H locs hW => ?_)
        refine lv_if_eq (tgt := 121) S.1 S.2.1 dX9_choosesAt_112 (by decide) (fun u34 => ?_) (fun u34 => ?_)
        · have h := of_p u34 h
          exact hJ121 _ _ _ h H locs hW ls (lv_sub hl [0, 1, 2] rfl)
        · have h := of_n u34 h
          refine lv_iinc (v := (x2 + (1 : Int32))) (lv' := [(2, .int (x2 + (1 : Int32))), (0, .ref h0), (1, .int x1)]) S.1 S.2.1 dX9_choosesAt_115 hl (k := 2) rfl (congrArg (fun z => x2 + z) ki_1) (by decide) rfl (fun ls hl => ?_)
          refine lv_goto (tgt := 94) S.1 S.2.1 dX9_choosesAt_118 (by decide) ?_
          exact ih94 _ _ _ h H locs hW ls (lv_sub hl [1, 2, 0] rfl)
  have hJ85 : ∀ (c0 : Nat → Nat → Int32) (x1 : Int32) (x2 : Int32), jd_X9_choosesAt_85 F w0 c0 x1 x2 = some (r, c0') → ∀ (H : Heap) (locs : List Loc), wd (dC, dI) A s.heap (clX9 cI cJ cZ cB h0 a0 (c0 0) (c0 1) (c0 2) (c0 3) (w0 4 0) (w0 5 0) (c0 6) (c0 7) (c0 8) (c0 9) (c0 10) (c0 11) (c0 12) (c0 13) (c0 14 0) (c0 15 0) (c0 16 0) (c0 17 0) (c0 18) (c0 19) (c0 20) (c0 21 0) (c0 22 0) (c0 23 0) (c0 24 0) (c0 25 0) (c0 26) (c0 27) []) H locs → ∀ ls : Array Slot, lv_has ls 3 [(0, .ref h0), (1, .int x1), (2, .int x2)] → W p l e rmX9_choosesAt s m (List.toArray [.ref h0, .int p1]) below meth c H locs 0 0 (MQ below (kQ (dC, dI) (cwX9 cI cJ cZ cB h0 a0 c0' w0 []) (some (.int r)) A) (List.toArray [.ref h0, .int p1]) s 0 0 A) (F0 m 85 ls []) := by
    intro c0 x1 x2 h H locs hW ls hl
    rw [jd_X9_choosesAt_85] at h
    refine lv_aload_n S.1 S.2.1 dX9_choosesAt_85 rfl (lv_at hl 0 rfl) ?_
    refine gf (C := RX9) (T := TX9) (N := 28) (ci := 5) (k := 12) S hK hW wu_X9 rfl (by decide) wf_X9_45 0 rfl rfl dX9_choosesAt_86 ?_
    refine lv_iload_n S.1 S.2.1 dX9_choosesAt_89 rfl (lv_at hl 1 rfl) ?_
    refine lv_iload_n S.1 S.2.1 dX9_choosesAt_90 rfl (lv_at hl 2 rfl) ?_
    obtain ⟨z35, h⟩ := of_g h
    refine ist S hK hW rfl 11 rfl z35 dX9_choosesAt_91 (fun H locs hW => ?_)
    have hW : wd (dC, dI) A s.heap (clX9 cI cJ cZ cB h0 a0 (c0 0) (c0 1) (c0 2) (c0 3) (w0 4 0) (w0 5 0) (c0 6) (c0 7) (c0 8) (c0 9) (c0 10) (c0 11) (upd (c0 12) (ix x1) x2) (c0 13) (c0 14 0) (c0 15 0) (c0 16 0) (c0 17 0) (c0 18) (c0 19) (c0 20) (c0 21 0) (c0 22 0) (c0 23 0) (c0 24 0) (c0 25 0) (c0 26) (c0 27) []) H locs := hW
    refine lv_iconst (v := (1 : Int32)) S.1 S.2.1 dX9_choosesAt_92 ki_1 ?_
    have f36 := Option.some.inj h
    obtain ⟨f37, f38⟩ := Prod.mk.inj f36
    subst f37
    subst f38
    exact rz S hr hlocks hW (nz (Or.inr rfl)) dX9_choosesAt_93
  refine lv_aload_n S.1 S.2.1 dX9_choosesAt_0 rfl (lv_at hl 0 rfl) ?_
  refine gf (C := RX9) (T := TX9) (N := 28) (ci := 5) (k := 12) S hK hW wu_X9 rfl (by decide) wf_X9_45 0 rfl rfl dX9_choosesAt_1 ?_
  refine lv_iload_n S.1 S.2.1 dX9_choosesAt_4 rfl (lv_at hl 1 rfl) ?_
  obtain ⟨z39, h⟩ := of_g h
  refine ia S hK hW rfl 11 rfl z39 dX9_choosesAt_5 ?_
  refine lv_iconst (v := (1 : Int32)) S.1 S.2.1 dX9_choosesAt_6 ki_1 ?_
  refine lv_iadd S.1 S.2.1 dX9_choosesAt_7 ?_
  obtain ⟨y40, e41, h⟩ := lt1_e h
  refine nmi e41 ?_
  refine lv_istore_n (lv' := [(2, .int y40), (0, .ref h0), (1, .int p1)]) S.1 S.2.1 dX9_choosesAt_8 rfl hl (by decide) rfl (fun ls hl => ?_)
  refine lv_aload_n S.1 S.2.1 dX9_choosesAt_9 rfl (lv_at hl 1 rfl) ?_
  refine lv_iload_n S.1 S.2.1 dX9_choosesAt_10 rfl (lv_at hl 2 rfl) ?_
  obtain ⟨r42, hy43, h⟩ := bd1_e h
  refine kv0 S hK hN hZ hA hW (rest := []) (t_X9_mayAt l dC dI cI cJ cZ cB zz h0 a0 c0 w0 p1 _  hy43) wl_X9_154 wv_X9_mayAt rfl rfl ⟨Nat.le_of_ble_eq_true rfl, Nat.le_of_ble_eq_true rfl⟩ [] [] rfl 0 rfl rfl rfl rfl hl.1 rfl (Nat.le_of_ble_eq_true rfl) dX9_choosesAt_11 [.int r42] rfl (fun H locs hW => ?_)
  refine lv_if_eq (tgt := 94) S.1 S.2.1 dX9_choosesAt_14 (by decide) (fun u44 => ?_) (fun u44 => ?_)
  · have h := of_p u44 h
    exact hL94 F _ _ _ h H locs hW ls (lv_sub hl [1, 2, 0] rfl)
  · have h := of_n u44 h
    refine lv_iload_n S.1 S.2.1 dX9_choosesAt_17 rfl (lv_at hl 0 rfl) ?_
    refine lv_iconst (v := (1 : Int32)) S.1 S.2.1 dX9_choosesAt_18 ki_1 ?_
    refine lv_icmp_le (tgt := 24) S.1 S.2.1 dX9_choosesAt_19 (by decide) (fun u45 => ?_) (fun u45 => ?_)
    · have h := of_p u45 h
      refine lv_aload_n S.1 S.2.1 dX9_choosesAt_24 rfl (lv_at hl 1 rfl) ?_
      refine lv_iload_n S.1 S.2.1 dX9_choosesAt_25 rfl (lv_at hl 2 rfl) ?_
      refine lv_iconst (v := (1 : Int32)) S.1 S.2.1 dX9_choosesAt_26 ki_1 ?_
      refine lv_iadd S.1 S.2.1 dX9_choosesAt_27 ?_
      refine lv_iload_n S.1 S.2.1 dX9_choosesAt_28 rfl (lv_at hl 2 rfl) ?_
      obtain ⟨cv46, hy47, h⟩ := bd1_e h
      refine kv (clX9 cI cJ cZ cB h0 a0 (cv46 0) (cv46 1) (cv46 2) (cv46 3) (w0 4 0) (w0 5 0) (cv46 6) (cv46 7) (cv46 8) (cv46 9) (cv46 10) (cv46 11) (cv46 12) (cv46 13) (cv46 14 0) (cv46 15 0) (cv46 16 0) (cv46 17 0) (cv46 18) (cv46 19) (cv46 20) (cv46 21 0) (cv46 22 0) (cv46 23 0) (cv46 24 0) (cv46 25 0) (cv46 26) (cv46 27) []) S hK hN hZ hA hW (rest := []) (t_X9_layLevel l dC dI cI cJ cZ cB zz h0 a0 c0 w0 (p1 + (1 : Int32)) p1 _  hy47) wl_X9_157 wv_X9_layLevel rfl rfl ⟨Nat.le_of_ble_eq_true rfl, Nat.le_of_ble_eq_true rfl⟩ [] [] rfl rfl rfl 0 rfl rfl rfl rfl hl.1 rfl (Nat.le_of_ble_eq_true rfl) dX9_choosesAt_29 [] rfl (fun H locs hW => ?_)
      refine lv_aload_n S.1 S.2.1 dX9_choosesAt_32 rfl (lv_at hl 1 rfl) ?_
      refine gf (C := RX9) (T := TX9) (N := 28) (ci := 5) (k := 11) S hK hW wu_X9 rfl (by decide) wf_X9_42 0 rfl rfl dX9_choosesAt_33 ?_
      refine lv_iload_n S.1 S.2.1 dX9_choosesAt_36 rfl (lv_at hl 2 rfl) ?_
      refine lv_iconst (v := (1 : Int32)) S.1 S.2.1 dX9_choosesAt_37 ki_1 ?_
      refine lv_iadd S.1 S.2.1 dX9_choosesAt_38 ?_
      refine lv_iconst (v := (-1 : Int32)) S.1 S.2.1 dX9_choosesAt_39 ki_m1 ?_
      obtain ⟨z48, h⟩ := of_g h
      refine ist S hK hW rfl 10 rfl z48 dX9_choosesAt_40 (fun H locs hW => ?_)
      have hW : wd (dC, dI) A s.heap (clX9 cI cJ cZ cB h0 a0 (cv46 0) (cv46 1) (cv46 2) (cv46 3) (w0 4 0) (w0 5 0) (cv46 6) (cv46 7) (cv46 8) (cv46 9) (cv46 10) (upd (cv46 11) (ix (p1 + (1 : Int32))) (-1 : Int32)) (cv46 12) (cv46 13) (cv46 14 0) (cv46 15 0) (cv46 16 0) (cv46 17 0) (cv46 18) (cv46 19) (cv46 20) (cv46 21 0) (cv46 22 0) (cv46 23 0) (cv46 24 0) (cv46 25 0) (cv46 26) (cv46 27) []) H locs := hW
      refine lv_iload_n S.1 S.2.1 dX9_choosesAt_41 rfl (lv_at hl 0 rfl) ?_
      refine lv_iconst (v := (1 : Int32)) S.1 S.2.1 dX9_choosesAt_42 ki_1 ?_
      refine lv_icmp_ne (tgt := 85) S.1 S.2.1 dX9_choosesAt_43 (by decide) (fun u49 => ?_) (fun u49 => ?_)
      · have h := of_n u49 h
        exact hJ85 _ _ _ h H locs hW ls (lv_sub hl [1, 2, 0] rfl)
      · have h := of_p u49 h
        refine lv_aload_n S.1 S.2.1 dX9_choosesAt_46 rfl (lv_at hl 1 rfl) ?_
        refine gf (C := RX9) (T := TX9) (N := 28) (ci := 5) (k := 10) S hK hW wu_X9 rfl (by decide) wf_X9_39 0 rfl rfl dX9_choosesAt_47 ?_
        refine lv_iconst (v := (2 : Int32)) S.1 S.2.1 dX9_choosesAt_50 ki_2 ?_
        refine lv_iload_n S.1 S.2.1 dX9_choosesAt_51 rfl (lv_at hl 2 rfl) ?_
        refine lv_imul S.1 S.2.1 dX9_choosesAt_52 ?_
        refine lv_iconst (v := (2 : Int32)) S.1 S.2.1 dX9_choosesAt_53 ki_2 ?_
        refine lv_iadd S.1 S.2.1 dX9_choosesAt_54 ?_
        refine lv_aload_n S.1 S.2.1 dX9_choosesAt_55 rfl (lv_at hl 1 rfl) ?_
        refine gf (C := RX9) (T := TX9) (N := 28) (ci := 5) (k := 9) S hK hW wu_X9 rfl (by decide) wf_X9_36 0 rfl rfl dX9_choosesAt_56 ?_
        refine lv_iload_n S.1 S.2.1 dX9_choosesAt_59 rfl (lv_at hl 2 rfl) ?_
        obtain ⟨z50, h⟩ := of_g h
        refine ia S hK hW rfl 8 rfl z50 dX9_choosesAt_60 ?_
        refine lv_iconst (v := (2 : Int32)) S.1 S.2.1 dX9_choosesAt_61 ki_2 ?_
        refine lv_irem S.1 S.2.1 dX9_choosesAt_62 (by decide) ?_
        refine lv_iadd S.1 S.2.1 dX9_choosesAt_63 ?_
        refine lv_dup2_11 S.1 S.2.1 dX9_choosesAt_64 rfl rfl ?_
        obtain ⟨z51, h⟩ := of_g h
        refine ia S hK hW rfl 9 rfl z51 dX9_choosesAt_65 ?_
        refine lv_iconst (v := (1 : Int32)) S.1 S.2.1 dX9_choosesAt_66 ki_1 ?_
        refine lv_isub S.1 S.2.1 dX9_choosesAt_67 ?_
        obtain ⟨y52, e53, h⟩ := lt1_e h
        refine nmi e53 ?_
        obtain ⟨z54, h⟩ := of_g h
        refine ist S hK hW rfl 9 rfl z54 dX9_choosesAt_68 (fun H locs hW => ?_)
        have hW : wd (dC, dI) A s.heap (clX9 cI cJ cZ cB h0 a0 (cv46 0) (cv46 1) (cv46 2) (cv46 3) (w0 4 0) (w0 5 0) (cv46 6) (cv46 7) (cv46 8) (cv46 9) (upd (cv46 10) (ix ((((2 : Int32) * p1) + (2 : Int32)) + (((cv46 9) (ix p1)) - ((cv46 9) (ix p1)) / (2 : Int32) * (2 : Int32)))) y52) (upd (cv46 11) (ix (p1 + (1 : Int32))) (-1 : Int32)) (cv46 12) (cv46 13) (cv46 14 0) (cv46 15 0) (cv46 16 0) (cv46 17 0) (cv46 18) (cv46 19) (cv46 20) (cv46 21 0) (cv46 22 0) (cv46 23 0) (cv46 24 0) (cv46 25 0) (cv46 26) (cv46 27) []) H locs := hW
        refine lv_aload_n S.1 S.2.1 dX9_choosesAt_69 rfl (lv_at hl 1 rfl) ?_
        refine gf (C := RX9) (T := TX9) (N := 28) (ci := 5) (k := 7) S hK hW wu_X9 rfl (by decide) wf_X9_30 0 rfl rfl dX9_choosesAt_70 ?_
        refine lv_iload_n S.1 S.2.1 dX9_choosesAt_73 rfl (lv_at hl 2 rfl) ?_
        refine lv_iconst (v := (1 : Int32)) S.1 S.2.1 dX9_choosesAt_74 ki_1 ?_
        refine lv_iadd S.1 S.2.1 dX9_choosesAt_75 ?_
        refine lv_iconst (v := (1 : Int32)) S.1 S.2.1 dX9_choosesAt_76 ki_1 ?_
        refine lv_aload_n S.1 S.2.1 dX9_choosesAt_77 rfl (lv_at hl 1 rfl) ?_
        refine gf (C := RX9) (T := TX9) (N := 28) (ci := 5) (k := 7) S hK hW wu_X9 rfl (by decide) wf_X9_30 0 rfl rfl dX9_choosesAt_78 ?_
        refine lv_iload_n S.1 S.2.1 dX9_choosesAt_81 rfl (lv_at hl 2 rfl) ?_
        obtain ⟨z55, h⟩ := of_g h
        refine ia S hK hW rfl 6 rfl z55 dX9_choosesAt_82 ?_
        refine lv_isub S.1 S.2.1 dX9_choosesAt_83 ?_
        obtain ⟨z56, h⟩ := of_g h
        refine ist S hK hW rfl 6 rfl z56 dX9_choosesAt_84 (fun H locs hW => ?_)
        have hW : wd (dC, dI) A s.heap (clX9 cI cJ cZ cB h0 a0 (cv46 0) (cv46 1) (cv46 2) (cv46 3) (w0 4 0) (w0 5 0) (cv46 6) (upd (cv46 7) (ix (p1 + (1 : Int32))) ((1 : Int32) - ((cv46 7) (ix p1)))) (cv46 8) (cv46 9) (upd (cv46 10) (ix ((((2 : Int32) * p1) + (2 : Int32)) + (((cv46 9) (ix p1)) - ((cv46 9) (ix p1)) / (2 : Int32) * (2 : Int32)))) y52) (upd (cv46 11) (ix (p1 + (1 : Int32))) (-1 : Int32)) (cv46 12) (cv46 13) (cv46 14 0) (cv46 15 0) (cv46 16 0) (cv46 17 0) (cv46 18) (cv46 19) (cv46 20) (cv46 21 0) (cv46 22 0) (cv46 23 0) (cv46 24 0) (cv46 25 0) (cv46 26) (cv46 27) []) H locs := hW
        exact hJ85 _ _ _ h H locs hW ls (lv_sub hl [1, 2, 0] rfl)
    · have h := of_n u45 h
      refine lv_iconst (v := (0 : Int32)) S.1 S.2.1 dX9_choosesAt_22 ki_0 ?_
      have f57 := Option.some.inj h
      obtain ⟨f58, f59⟩ := Prod.mk.inj f57
      subst f58
      subst f59
      exact rz S hr hlocks hW (nz (Or.inl rfl)) dX9_choosesAt_23
abbrev rmX9_isEnd : Room := { frames := 1, cells := 0, slots := 0, locals := 22 }
set_option maxHeartbeats 4000000 in
set_option maxRecDepth 100000 in
theorem t_X9_isEnd (l : Launch) (dC : Nat → ClassId) (dI : Nat → Nat → Nat) (cI cJ cZ cB : ClassId) (zz : ZT)  (h0 : Nat) (a0 : Nat → Nat) (c0 : Nat → Nat → Int32) (w0 : Nat → Nat → Int64) (p1 : Int32) (r : Int32) (hm : md_X9_isEnd c0 w0 p1 = some (r)) : ct l (dC, dI) zz (ty4 cI cJ cZ cB) yX9_isEnd cX9_isEnd 2 (some .boolean) rmX9_isEnd [.ref h0, .int p1] (cwX9 cI cJ cZ cB h0 a0 c0 w0 []) (cwX9 cI cJ cZ cB h0 a0 c0 w0 []) (some (.int r)) := by
  refine ct_of (cc := cX9_isEnd) (maxL := 2) (ret := (some .boolean)) (by decide) (Nat.le_of_ble_eq_true rfl) ?_
  intro p e s m below meth c A S hr hlocks hK hN hZ hA H locs hW ls hl
  have S : CallFix p m c cX9_isEnd 2 s (List.toArray [.ref h0, .int p1]) G RX9 := S
  have hl : lv_has ls 2 [(0, .ref h0), (1, .int p1)] := hl
  have h := hm
  rw [md_X9_isEnd] at h
  have hW : wd (dC, dI) A s.heap (clX9 cI cJ cZ cB h0 a0 (c0 0) (c0 1) (c0 2) (c0 3) (w0 4 0) (w0 5 0) (c0 6) (c0 7) (c0 8) (c0 9) (c0 10) (c0 11) (c0 12) (c0 13) (c0 14 0) (c0 15 0) (c0 16 0) (c0 17 0) (c0 18) (c0 19) (c0 20) (c0 21 0) (c0 22 0) (c0 23 0) (c0 24 0) (c0 25 0) (c0 26) (c0 27) []) H locs := hW
  refine lv_aload_n S.1 S.2.1 dX9_isEnd_0 rfl (lv_at hl 0 rfl) ?_
  refine gf (C := RX9) (T := TX9) (N := 28) (ci := 5) (k := 6) S hK hW wu_X9 rfl (by decide) wf_X9_27 0 rfl rfl dX9_isEnd_1 ?_
  refine lv_iload_n S.1 S.2.1 dX9_isEnd_4 rfl (lv_at hl 1 rfl) ?_
  obtain ⟨z1, h⟩ := of_g h
  refine ia S hK hW rfl 5 rfl z1 dX9_isEnd_5 ?_
  refine lv_iconst (v := (1 : Int32)) S.1 S.2.1 dX9_isEnd_6 ki_1 ?_
  refine lv_aload_n S.1 S.2.1 dX9_isEnd_7 rfl (lv_at hl 0 rfl) ?_
  obtain ⟨r2, hy3, h⟩ := bd1_e h
  refine kv0 S hK hN hZ hA hW (rest := [.int (1 : Int32), .int ((c0 6) (ix p1))]) (t_X9_many l dC dI cI cJ cZ cB zz h0 a0 c0 w0 _  hy3) wl_X9_70 wv_X9_many rfl rfl ⟨Nat.le_of_ble_eq_true rfl, Nat.le_of_ble_eq_true rfl⟩ [] [] rfl 0 rfl rfl rfl rfl hl.1 rfl (Nat.le_of_ble_eq_true rfl) dX9_isEnd_8 [.int r2, .int (1 : Int32), .int ((c0 6) (ix p1))] rfl (fun H locs hW => ?_)
  refine lv_ishl S.1 S.2.1 dX9_isEnd_11 ?_
  refine lv_iconst (v := (1 : Int32)) S.1 S.2.1 dX9_isEnd_12 ki_1 ?_
  refine lv_isub S.1 S.2.1 dX9_isEnd_13 ?_
  refine lv_icmp_ne (tgt := 29) S.1 S.2.1 dX9_isEnd_14 (by decide) (fun u4 => ?_) (fun u4 => ?_)
  · have h := of_n u4 h
    refine lv_iconst (v := (0 : Int32)) S.1 S.2.1 dX9_isEnd_29 ki_0 ?_
    have f5 := Option.some.inj h
    subst f5
    exact rz S hr hlocks hW (nz (Or.inl rfl)) dX9_isEnd_30
  · have h := of_p u4 h
    refine lv_aload_n S.1 S.2.1 dX9_isEnd_17 rfl (lv_at hl 0 rfl) ?_
    refine lv_iload_n S.1 S.2.1 dX9_isEnd_18 rfl (lv_at hl 1 rfl) ?_
    obtain ⟨r6, hy7, h⟩ := bd1_e h
    refine kv0 S hK hN hZ hA hW (rest := []) (t_X9_mayAt l dC dI cI cJ cZ cB zz h0 a0 c0 w0 p1 _  hy7) wl_X9_154 wv_X9_mayAt rfl rfl ⟨Nat.le_of_ble_eq_true rfl, Nat.le_of_ble_eq_true rfl⟩ [] [] rfl 0 rfl rfl rfl rfl hl.1 rfl (Nat.le_of_ble_eq_true rfl) dX9_isEnd_19 [.int r6] rfl (fun H locs hW => ?_)
    refine lv_if_ne (tgt := 29) S.1 S.2.1 dX9_isEnd_22 (by decide) (fun u8 => ?_) (fun u8 => ?_)
    · have h := of_n u8 h
      refine lv_iconst (v := (0 : Int32)) S.1 S.2.1 dX9_isEnd_29 ki_0 ?_
      have f9 := Option.some.inj h
      subst f9
      exact rz S hr hlocks hW (nz (Or.inl rfl)) dX9_isEnd_30
    · have h := of_p u8 h
      refine lv_iconst (v := (1 : Int32)) S.1 S.2.1 dX9_isEnd_25 ki_1 ?_
      refine lv_goto (tgt := 30) S.1 S.2.1 dX9_isEnd_26 (by decide) ?_
      have f10 := Option.some.inj h
      subst f10
      exact rz S hr hlocks hW (nz (Or.inr rfl)) dX9_isEnd_30
abbrev rmX9_solve : Room := { frames := 4, cells := 0, slots := 0, locals := 100 }
set_option maxHeartbeats 4000000 in
set_option maxRecDepth 100000 in
theorem t_X9_solve (l : Launch) (dC : Nat → ClassId) (dI : Nat → Nat → Nat) (cI cJ cZ cB : ClassId) (zz : ZT)  (h0 : Nat) (a0 : Nat → Nat) (F : Nat) (c0 : Nat → Nat → Int32) (w0 : Nat → Nat → Int64) (r : Int32) (c0' : Nat → Nat → Int32) (hm : md_X9_solve F c0 w0 = some (r, c0')) : ct l (dC, dI) zz (ty4 cI cJ cZ cB) yX9_solve cX9_solve 5 (some .int) rmX9_solve [.ref h0] (cwX9 cI cJ cZ cB h0 a0 c0 w0 []) (cwX9 cI cJ cZ cB h0 a0 c0' w0 []) (some (.int r)) := by
  refine ct_of (cc := cX9_solve) (maxL := 5) (ret := (some .int)) (by decide) (Nat.le_of_ble_eq_true rfl) ?_
  intro p e s m below meth c A S hr hlocks hK hN hZ hA H locs hW ls hl
  have S : CallFix p m c cX9_solve 5 s (List.toArray [.ref h0]) G RX9 := S
  have hl : lv_has ls 5 [(0, .ref h0)] := hl
  have h := hm
  rw [md_X9_solve] at h
  have hW : wd (dC, dI) A s.heap (clX9 cI cJ cZ cB h0 a0 (c0 0) (c0 1) (c0 2) (c0 3) (w0 4 0) (w0 5 0) (c0 6) (c0 7) (c0 8) (c0 9) (c0 10) (c0 11) (c0 12) (c0 13) (c0 14 0) (c0 15 0) (c0 16 0) (c0 17 0) (c0 18) (c0 19) (c0 20) (c0 21 0) (c0 22 0) (c0 23 0) (c0 24 0) (c0 25 0) (c0 26) (c0 27) []) H locs := hW
  have hL41 : ∀ (n41 : Nat) (c0 : Nat → Nat → Int32) (x1 : Int32), ld_X9_solve_41 F w0 n41 c0 x1 = some (r, c0') → ∀ (H : Heap) (locs : List Loc), wd (dC, dI) A s.heap (clX9 cI cJ cZ cB h0 a0 (c0 0) (c0 1) (c0 2) (c0 3) (w0 4 0) (w0 5 0) (c0 6) (c0 7) (c0 8) (c0 9) (c0 10) (c0 11) (c0 12) (c0 13) (c0 14 0) (c0 15 0) (c0 16 0) (c0 17 0) (c0 18) (c0 19) (c0 20) (c0 21 0) (c0 22 0) (c0 23 0) (c0 24 0) (c0 25 0) (c0 26) (c0 27) []) H locs → ∀ ls : Array Slot, lv_has ls 5 [(0, .ref h0), (1, .int x1)] → W p l e rmX9_solve s m (List.toArray [.ref h0]) below meth c H locs 0 0 (MQ below (kQ (dC, dI) (cwX9 cI cJ cZ cB h0 a0 c0' w0 []) (some (.int r)) A) (List.toArray [.ref h0]) s 0 0 A) (F0 m 41 ls []) := by
    intro n41
    induction n41 with
    | zero => intro c0 x1 h; rw [ld_X9_solve_41] at h; cases h
    | succ n41 ih41 =>
      intro c0 x1 h H locs hW ls hl
      rw [ld_X9_solve_41] at h
      have hJ181 : ∀ (c0 : Nat → Nat → Int32) (x1 : Int32) (x4 : Int32) (s1 : Int32) (s2 : Int32), jd_X9_solve_181 F w0 (ld_X9_solve_41 F w0 n41) c0 x1 x4 s1 s2 = some (r, c0') → ∀ (H : Heap) (locs : List Loc), wd (dC, dI) A s.heap (clX9 cI cJ cZ cB h0 a0 (c0 0) (c0 1) (c0 2) (c0 3) (w0 4 0) (w0 5 0) (c0 6) (c0 7) (c0 8) (c0 9) (c0 10) (c0 11) (c0 12) (c0 13) (c0 14 0) (c0 15 0) (c0 16 0) (c0 17 0) (c0 18) (c0 19) (c0 20) (c0 21 0) (c0 22 0) (c0 23 0) (c0 24 0) (c0 25 0) (c0 26) (c0 27) []) H locs → ∀ ls : Array Slot, lv_has ls 5 [(0, .ref h0), (1, .int x1), (4, .int x4)] → W p l e rmX9_solve s m (List.toArray [.ref h0]) below meth c H locs 0 0 (MQ below (kQ (dC, dI) (cwX9 cI cJ cZ cB h0 a0 c0' w0 []) (some (.int r)) A) (List.toArray [.ref h0]) s 0 0 A) (F0 m 181 ls [.int s2, .int s1, .ref (a0 13)]) := by
        intro c0 x1 x4 s1 s2 h H locs hW ls hl
        rw [jd_X9_solve_181] at h
        obtain ⟨z1, h⟩ := of_g h
        refine ist S hK hW rfl 12 rfl z1 dX9_solve_181 (fun H locs hW => ?_)
        have hW : wd (dC, dI) A s.heap (clX9 cI cJ cZ cB h0 a0 (c0 0) (c0 1) (c0 2) (c0 3) (w0 4 0) (w0 5 0) (c0 6) (c0 7) (c0 8) (c0 9) (c0 10) (c0 11) (c0 12) (upd (c0 13) (ix s1) s2) (c0 14 0) (c0 15 0) (c0 16 0) (c0 17 0) (c0 18) (c0 19) (c0 20) (c0 21 0) (c0 22 0) (c0 23 0) (c0 24 0) (c0 25 0) (c0 26) (c0 27) []) H locs := hW
        refine lv_aload_n S.1 S.2.1 dX9_solve_182 rfl (lv_at hl 0 rfl) ?_
        refine lv_iload S.1 S.2.1 dX9_solve_183 (lv_at hl 2 rfl) ?_
        obtain ⟨y2, e3, h⟩ := lt1_e h
        suffices hM4 : ∀ ls : Array Slot, lv_has ls 5 [(0, .ref h0), (1, .int x1)] → W p l e rmX9_solve s m (List.toArray [.ref h0]) below meth c H locs 0 0 (MQ below (kQ (dC, dI) (cwX9 cI cJ cZ cB h0 a0 c0' w0 []) (some (.int r)) A) (List.toArray [.ref h0]) s 0 0 A) (F0 m 205 ls [.int y2, .ref h0]) by
          refine lv_if_eq (tgt := 201) S.1 S.2.1 dX9_solve_185 (by decide) (fun u5 => ?_) (fun u5 => ?_)
          · refine lv_aload_n S.1 S.2.1 dX9_solve_201 rfl (lv_at hl 0 rfl) ?_
            refine gf (C := RX9) (T := TX9) (N := 28) (ci := 5) (k := 14) S hK hW wu_X9 rfl (by decide) wf_X9_161 0 rfl rfl dX9_solve_202 ?_
            have e3 := e3.trans (if_pos u5)
            subst e3
            exact hM4 ls (lv_sub hl [0, 1] rfl)
          · refine lv_iload_n S.1 S.2.1 dX9_solve_188 rfl (lv_at hl 1 rfl) ?_
            refine lv_if_ne (tgt := 201) S.1 S.2.1 dX9_solve_189 (by decide) (fun u6 => ?_) (fun u6 => ?_)
            · refine lv_aload_n S.1 S.2.1 dX9_solve_201 rfl (lv_at hl 0 rfl) ?_
              refine gf (C := RX9) (T := TX9) (N := 28) (ci := 5) (k := 14) S hK hW wu_X9 rfl (by decide) wf_X9_161 0 rfl rfl dX9_solve_202 ?_
              have e3 := e3.trans ((if_neg u5).trans (if_neg u6))
              subst e3
              exact hM4 ls (lv_sub hl [0, 1] rfl)
            · refine lv_aload_n S.1 S.2.1 dX9_solve_192 rfl (lv_at hl 0 rfl) ?_
              refine gf (C := RX9) (T := TX9) (N := 28) (ci := 5) (k := 12) S hK hW wu_X9 rfl (by decide) wf_X9_45 0 rfl rfl dX9_solve_193 ?_
              refine lv_iconst (v := (0 : Int32)) S.1 S.2.1 dX9_solve_196 ki_0 ?_
              refine iaK S hK hW rfl 11 rfl b_0_14 x_0 dX9_solve_197 ?_
              refine lv_goto (tgt := 205) S.1 S.2.1 dX9_solve_198 (by decide) ?_
              have e3 := e3.trans ((if_neg u5).trans (if_pos u6))
              subst e3
              exact hM4 ls (lv_sub hl [0, 1] rfl)
        intro ls hl
        refine pf (C := RX9) (T := TX9) (N := 28) (ci := 5) (k := 14) (ty := .int) S hK hW wu_X9 rfl (by decide) tyX9 tyX9_ok nmX9 wf_X9_161 0 rfl rfl rfl rfl rfl (Nat.le_of_ble_eq_true rfl) dX9_solve_205 (fun H locs hW => ?_)
        have hW : wd (dC, dI) A s.heap (clX9 cI cJ cZ cB h0 a0 (c0 0) (c0 1) (c0 2) (c0 3) (w0 4 0) (w0 5 0) (c0 6) (c0 7) (c0 8) (c0 9) (c0 10) (c0 11) (c0 12) (upd (c0 13) (ix s1) s2) y2 (c0 15 0) (c0 16 0) (c0 17 0) (c0 18) (c0 19) (c0 20) (c0 21 0) (c0 22 0) (c0 23 0) (c0 24 0) (c0 25 0) (c0 26) (c0 27) []) H locs := hW
        refine lv_goto (tgt := 41) S.1 S.2.1 dX9_solve_208 (by decide) ?_
        exact ih41 _ _ h H locs hW ls (lv_sub hl [0, 1] rfl)
      have hJ159 : ∀ (c0 : Nat → Nat → Int32) (x1 : Int32) (x3 : Int32) (s0 : Int32), jd_X9_solve_159 F w0 (ld_X9_solve_41 F w0 n41) c0 x1 x3 s0 = some (r, c0') → ∀ (H : Heap) (locs : List Loc), wd (dC, dI) A s.heap (clX9 cI cJ cZ cB h0 a0 (c0 0) (c0 1) (c0 2) (c0 3) (w0 4 0) (w0 5 0) (c0 6) (c0 7) (c0 8) (c0 9) (c0 10) (c0 11) (c0 12) (c0 13) (c0 14 0) (c0 15 0) (c0 16 0) (c0 17 0) (c0 18) (c0 19) (c0 20) (c0 21 0) (c0 22 0) (c0 23 0) (c0 24 0) (c0 25 0) (c0 26) (c0 27) []) H locs → ∀ ls : Array Slot, lv_has ls 5 [(0, .ref h0), (1, .int x1), (3, .int x3)] → W p l e rmX9_solve s m (List.toArray [.ref h0]) below meth c H locs 0 0 (MQ below (kQ (dC, dI) (cwX9 cI cJ cZ cB h0 a0 c0' w0 []) (some (.int r)) A) (List.toArray [.ref h0]) s 0 0 A) (F0 m 159 ls [.int s0]) := by
        intro c0 x1 x3 s0 h H locs hW ls hl
        rw [jd_X9_solve_159] at h
        refine lv_istore (lv' := [(4, .int s0), (0, .ref h0), (1, .int x1), (3, .int x3)]) S.1 S.2.1 dX9_solve_159 hl (by decide) rfl (fun ls hl => ?_)
        refine lv_aload_n S.1 S.2.1 dX9_solve_161 rfl (lv_at hl 1 rfl) ?_
        refine gf (C := RX9) (T := TX9) (N := 28) (ci := 5) (k := 13) S hK hW wu_X9 rfl (by decide) wf_X9_48 0 rfl rfl dX9_solve_162 ?_
        refine lv_iload_n S.1 S.2.1 dX9_solve_165 rfl (lv_at hl 2 rfl) ?_
        refine lv_iload S.1 S.2.1 dX9_solve_166 (lv_at hl 0 rfl) ?_
        refine lv_if_eq (tgt := 175) S.1 S.2.1 dX9_solve_168 (by decide) (fun u7 => ?_) (fun u7 => ?_)
        · have h := of_p u7 h
          refine lv_aload_n S.1 S.2.1 dX9_solve_175 rfl (lv_at hl 1 rfl) ?_
          refine gf (C := RX9) (T := TX9) (N := 28) (ci := 5) (k := 13) S hK hW wu_X9 rfl (by decide) wf_X9_48 0 rfl rfl dX9_solve_176 ?_
          refine lv_iload_n S.1 S.2.1 dX9_solve_179 rfl (lv_at hl 2 rfl) ?_
          obtain ⟨z8, h⟩ := of_g h
          refine ia S hK hW rfl 12 rfl z8 dX9_solve_180 ?_
          exact hJ181 _ _ _ _ _ h H locs hW ls (lv_sub hl [1, 2, 0] rfl)
        · have h := of_n u7 h
          refine lv_iload_n S.1 S.2.1 dX9_solve_171 rfl (lv_at hl 3 rfl) ?_
          refine lv_goto (tgt := 181) S.1 S.2.1 dX9_solve_172 (by decide) ?_
          exact hJ181 _ _ _ _ _ h H locs hW ls (lv_sub hl [1, 2, 0] rfl)
      have hJ107 : ∀ (c0 : Nat → Nat → Int32) (x1 : Int32) (s0 : Int32), jd_X9_solve_107 F w0 (ld_X9_solve_41 F w0 n41) c0 x1 s0 = some (r, c0') → ∀ (H : Heap) (locs : List Loc), wd (dC, dI) A s.heap (clX9 cI cJ cZ cB h0 a0 (c0 0) (c0 1) (c0 2) (c0 3) (w0 4 0) (w0 5 0) (c0 6) (c0 7) (c0 8) (c0 9) (c0 10) (c0 11) (c0 12) (c0 13) (c0 14 0) (c0 15 0) (c0 16 0) (c0 17 0) (c0 18) (c0 19) (c0 20) (c0 21 0) (c0 22 0) (c0 23 0) (c0 24 0) (c0 25 0) (c0 26) (c0 27) []) H locs → ∀ ls : Array Slot, lv_has ls 5 [(0, .ref h0), (1, .int x1)] → W p l e rmX9_solve s m (List.toArray [.ref h0]) below meth c H locs 0 0 (MQ below (kQ (dC, dI) (cwX9 cI cJ cZ cB h0 a0 c0' w0 []) (some (.int r)) A) (List.toArray [.ref h0]) s 0 0 A) (F0 m 107 ls [.int s0]) := by
        intro c0 x1 s0 h H locs hW ls hl
        rw [jd_X9_solve_107] at h
        refine lv_istore_n (lv' := [(3, .int s0), (0, .ref h0), (1, .int x1)]) S.1 S.2.1 dX9_solve_107 rfl hl (by decide) rfl (fun ls hl => ?_)
        refine lv_iinc (v := (x1 + (-1 : Int32))) (lv' := [(1, .int (x1 + (-1 : Int32))), (3, .int s0), (0, .ref h0)]) S.1 S.2.1 dX9_solve_108 hl (k := 2) rfl (congrArg (fun z => x1 + z) ki_m1) (by decide) rfl (fun ls hl => ?_)
        refine lv_iload_n S.1 S.2.1 dX9_solve_111 rfl (lv_at hl 0 rfl) ?_
        refine lv_if_lt (tgt := 208) S.1 S.2.1 dX9_solve_112 (by decide) (fun u9 => ?_) (fun u9 => ?_)
        · have h := of_p u9 h
          refine lv_goto (tgt := 41) S.1 S.2.1 dX9_solve_208 (by decide) ?_
          exact ih41 _ _ h H locs hW ls (lv_sub hl [2, 0] rfl)
        · have h := of_n u9 h
          refine lv_aload_n S.1 S.2.1 dX9_solve_115 rfl (lv_at hl 2 rfl) ?_
          refine gf (C := RX9) (T := TX9) (N := 28) (ci := 5) (k := 9) S hK hW wu_X9 rfl (by decide) wf_X9_36 0 rfl rfl dX9_solve_116 ?_
          refine lv_iload_n S.1 S.2.1 dX9_solve_119 rfl (lv_at hl 0 rfl) ?_
          obtain ⟨z10, h⟩ := of_g h
          refine ia S hK hW rfl 8 rfl z10 dX9_solve_120 ?_
          refine lv_iconst (v := (2 : Int32)) S.1 S.2.1 dX9_solve_121 ki_2 ?_
          refine lv_irem S.1 S.2.1 dX9_solve_122 (by decide) ?_
          refine lv_if_ne (tgt := 144) S.1 S.2.1 dX9_solve_123 (by decide) (fun u11 => ?_) (fun u11 => ?_)
          · have h := of_n u11 h
            refine lv_iload_n S.1 S.2.1 dX9_solve_144 rfl (lv_at hl 1 rfl) ?_
            refine lv_aload_n S.1 S.2.1 dX9_solve_145 rfl (lv_at hl 2 rfl) ?_
            refine gf (C := RX9) (T := TX9) (N := 28) (ci := 5) (k := 13) S hK hW wu_X9 rfl (by decide) wf_X9_48 0 rfl rfl dX9_solve_146 ?_
            refine lv_iload_n S.1 S.2.1 dX9_solve_149 rfl (lv_at hl 0 rfl) ?_
            obtain ⟨z12, h⟩ := of_g h
            refine ia S hK hW rfl 12 rfl z12 dX9_solve_150 ?_
            refine lv_icmp_ge (tgt := 158) S.1 S.2.1 dX9_solve_151 (by decide) (fun u13 => ?_) (fun u13 => ?_)
            · have h := of_p u13 h
              refine lv_iconst (v := (0 : Int32)) S.1 S.2.1 dX9_solve_158 ki_0 ?_
              exact hJ159 _ _ _ _ h H locs hW ls (lv_sub hl [2, 0, 1] rfl)
            · have h := of_n u13 h
              refine lv_iconst (v := (1 : Int32)) S.1 S.2.1 dX9_solve_154 ki_1 ?_
              refine lv_goto (tgt := 159) S.1 S.2.1 dX9_solve_155 (by decide) ?_
              exact hJ159 _ _ _ _ h H locs hW ls (lv_sub hl [2, 0, 1] rfl)
          · have h := of_p u11 h
            refine lv_iload_n S.1 S.2.1 dX9_solve_126 rfl (lv_at hl 1 rfl) ?_
            refine lv_aload_n S.1 S.2.1 dX9_solve_127 rfl (lv_at hl 2 rfl) ?_
            refine gf (C := RX9) (T := TX9) (N := 28) (ci := 5) (k := 13) S hK hW wu_X9 rfl (by decide) wf_X9_48 0 rfl rfl dX9_solve_128 ?_
            refine lv_iload_n S.1 S.2.1 dX9_solve_131 rfl (lv_at hl 0 rfl) ?_
            obtain ⟨z14, h⟩ := of_g h
            refine ia S hK hW rfl 12 rfl z14 dX9_solve_132 ?_
            refine lv_icmp_le (tgt := 140) S.1 S.2.1 dX9_solve_133 (by decide) (fun u15 => ?_) (fun u15 => ?_)
            · have h := of_p u15 h
              refine lv_iconst (v := (0 : Int32)) S.1 S.2.1 dX9_solve_140 ki_0 ?_
              refine lv_goto (tgt := 159) S.1 S.2.1 dX9_solve_141 (by decide) ?_
              exact hJ159 _ _ _ _ h H locs hW ls (lv_sub hl [2, 0, 1] rfl)
            · have h := of_n u15 h
              refine lv_iconst (v := (1 : Int32)) S.1 S.2.1 dX9_solve_136 ki_1 ?_
              refine lv_goto (tgt := 159) S.1 S.2.1 dX9_solve_137 (by decide) ?_
              exact hJ159 _ _ _ _ h H locs hW ls (lv_sub hl [2, 0, 1] rfl)
      have hJ69 : ∀ (c0 : Nat → Nat → Int32) (x1 : Int32) (x2 : Int32), jd_X9_solve_69 F w0 (ld_X9_solve_41 F w0 n41) c0 x1 x2 = some (r, c0') → ∀ (H : Heap) (locs : List Loc), wd (dC, dI) A s.heap (clX9 cI cJ cZ cB h0 a0 (c0 0) (c0 1) (c0 2) (c0 3) (w0 4 0) (w0 5 0) (c0 6) (c0 7) (c0 8) (c0 9) (c0 10) (c0 11) (c0 12) (c0 13) (c0 14 0) (c0 15 0) (c0 16 0) (c0 17 0) (c0 18) (c0 19) (c0 20) (c0 21 0) (c0 22 0) (c0 23 0) (c0 24 0) (c0 25 0) (c0 26) (c0 27) []) H locs → ∀ ls : Array Slot, lv_has ls 5 [(0, .ref h0), (1, .int x1), (2, .int x2)] → W p l e rmX9_solve s m (List.toArray [.ref h0]) below meth c H locs 0 0 (MQ below (kQ (dC, dI) (cwX9 cI cJ cZ cB h0 a0 c0' w0 []) (some (.int r)) A) (List.toArray [.ref h0]) s 0 0 A) (F0 m 69 ls []) := by
        intro c0 x1 x2 h H locs hW ls hl
        rw [jd_X9_solve_69] at h
        refine lv_iload_n S.1 S.2.1 dX9_solve_69 rfl (lv_at hl 2 rfl) ?_
        refine lv_if_ne (tgt := 82) S.1 S.2.1 dX9_solve_70 (by decide) (fun u16 => ?_) (fun u16 => ?_)
        · have h := of_n u16 h
          refine lv_aload_n S.1 S.2.1 dX9_solve_82 rfl (lv_at hl 0 rfl) ?_
          refine gf (C := RX9) (T := TX9) (N := 28) (ci := 5) (k := 7) S hK hW wu_X9 rfl (by decide) wf_X9_30 0 rfl rfl dX9_solve_83 ?_
          refine lv_iload_n S.1 S.2.1 dX9_solve_86 rfl (lv_at hl 1 rfl) ?_
          obtain ⟨z17, h⟩ := of_g h
          refine ia S hK hW rfl 6 rfl z17 dX9_solve_87 ?_
          refine lv_if_ne (tgt := 100) S.1 S.2.1 dX9_solve_88 (by decide) (fun u18 => ?_) (fun u18 => ?_)
          · have h := of_n u18 h
            refine lv_aload_n S.1 S.2.1 dX9_solve_100 rfl (lv_at hl 0 rfl) ?_
            refine gf (C := RX9) (T := TX9) (N := 28) (ci := 5) (k := 8) S hK hW wu_X9 rfl (by decide) wf_X9_33 0 rfl rfl dX9_solve_101 ?_
            refine lv_iload_n S.1 S.2.1 dX9_solve_104 rfl (lv_at hl 1 rfl) ?_
            obtain ⟨z19, h⟩ := of_g h
            refine ia S hK hW rfl 7 rfl z19 dX9_solve_105 ?_
            refine lv_ineg S.1 S.2.1 dX9_solve_106 ?_
            exact hJ107 _ _ _ h H locs hW ls (lv_sub hl [0, 1] rfl)
          · have h := of_p u18 h
            refine lv_aload_n S.1 S.2.1 dX9_solve_91 rfl (lv_at hl 0 rfl) ?_
            refine gf (C := RX9) (T := TX9) (N := 28) (ci := 5) (k := 8) S hK hW wu_X9 rfl (by decide) wf_X9_33 0 rfl rfl dX9_solve_92 ?_
            refine lv_iload_n S.1 S.2.1 dX9_solve_95 rfl (lv_at hl 1 rfl) ?_
            obtain ⟨z20, h⟩ := of_g h
            refine ia S hK hW rfl 7 rfl z20 dX9_solve_96 ?_
            refine lv_goto (tgt := 107) S.1 S.2.1 dX9_solve_97 (by decide) ?_
            exact hJ107 _ _ _ h H locs hW ls (lv_sub hl [0, 1] rfl)
        · have h := of_p u16 h
          refine lv_aload_n S.1 S.2.1 dX9_solve_73 rfl (lv_at hl 0 rfl) ?_
          refine gf (C := RX9) (T := TX9) (N := 28) (ci := 5) (k := 13) S hK hW wu_X9 rfl (by decide) wf_X9_48 0 rfl rfl dX9_solve_74 ?_
          refine lv_iload_n S.1 S.2.1 dX9_solve_77 rfl (lv_at hl 1 rfl) ?_
          obtain ⟨z21, h⟩ := of_g h
          refine ia S hK hW rfl 12 rfl z21 dX9_solve_78 ?_
          refine lv_goto (tgt := 107) S.1 S.2.1 dX9_solve_79 (by decide) ?_
          exact hJ107 _ _ _ h H locs hW ls (lv_sub hl [0, 1] rfl)
      refine lv_iload_n S.1 S.2.1 dX9_solve_41 rfl (lv_at hl 1 rfl) ?_
      refine lv_if_lt (tgt := 211) S.1 S.2.1 dX9_solve_42 (by decide) (fun u22 => ?_) (fun u22 => ?_)
      · have h := of_p u22 h
        refine lv_aload_n S.1 S.2.1 dX9_solve_211 rfl (lv_at hl 0 rfl) ?_
        refine gf (C := RX9) (T := TX9) (N := 28) (ci := 5) (k := 13) S hK hW wu_X9 rfl (by decide) wf_X9_48 0 rfl rfl dX9_solve_212 ?_
        refine lv_iconst (v := (0 : Int32)) S.1 S.2.1 dX9_solve_215 ki_0 ?_
        refine iaK S hK hW rfl 12 rfl b_0_14 x_0 dX9_solve_216 ?_
        have f23 := Option.some.inj h
        obtain ⟨f24, f25⟩ := Prod.mk.inj f23
        subst f24
        subst f25
        exact ri S hr hlocks hW dX9_solve_217
      · have h := of_n u22 h
        refine lv_aload_n S.1 S.2.1 dX9_solve_45 rfl (lv_at hl 0 rfl) ?_
        refine lv_iload_n S.1 S.2.1 dX9_solve_46 rfl (lv_at hl 1 rfl) ?_
        obtain ⟨r26, hy27, h⟩ := bd1_e h
        refine kv0 S hK hN hZ hA hW (rest := []) (t_X9_isEnd l dC dI cI cJ cZ cB zz h0 a0 c0 w0 x1 _  hy27) wl_X9_165 wv_X9_isEnd rfl rfl ⟨Nat.le_of_ble_eq_true rfl, Nat.le_of_ble_eq_true rfl⟩ [] [] rfl 0 rfl rfl rfl rfl hl.1 rfl (Nat.le_of_ble_eq_true rfl) dX9_solve_47 [.int r26] rfl (fun H locs hW => ?_)
        refine lv_istore_n (lv' := [(2, .int r26), (0, .ref h0), (1, .int x1)]) S.1 S.2.1 dX9_solve_50 rfl hl (by decide) rfl (fun ls hl => ?_)
        refine lv_iload_n S.1 S.2.1 dX9_solve_51 rfl (lv_at hl 0 rfl) ?_
        refine lv_if_ne (tgt := 69) S.1 S.2.1 dX9_solve_52 (by decide) (fun u28 => ?_) (fun u28 => ?_)
        · have h := of_n u28 h
          exact hJ69 _ _ _ h H locs hW ls (lv_sub hl [1, 2, 0] rfl)
        · have h := of_p u28 h
          refine lv_aload_n S.1 S.2.1 dX9_solve_55 rfl (lv_at hl 1 rfl) ?_
          refine lv_iload_n S.1 S.2.1 dX9_solve_56 rfl (lv_at hl 2 rfl) ?_
          obtain ⟨r29, cv30, hy31, h⟩ := bd2_e h
          refine kv (clX9 cI cJ cZ cB h0 a0 (cv30 0) (cv30 1) (cv30 2) (cv30 3) (w0 4 0) (w0 5 0) (cv30 6) (cv30 7) (cv30 8) (cv30 9) (cv30 10) (cv30 11) (cv30 12) (cv30 13) (cv30 14 0) (cv30 15 0) (cv30 16 0) (cv30 17 0) (cv30 18) (cv30 19) (cv30 20) (cv30 21 0) (cv30 22 0) (cv30 23 0) (cv30 24 0) (cv30 25 0) (cv30 26) (cv30 27) []) S hK hN hZ hA hW (rest := []) (t_X9_choosesAt l dC dI cI cJ cZ cB zz h0 a0 F c0 w0 x1 _ _  hy31) wl_X9_168 wv_X9_choosesAt rfl rfl ⟨Nat.le_of_ble_eq_true rfl, Nat.le_of_ble_eq_true rfl⟩ [] [] rfl rfl rfl 0 rfl rfl rfl rfl hl.1 rfl (Nat.le_of_ble_eq_true rfl) dX9_solve_57 [.int r29] rfl (fun H locs hW => ?_)
          refine lv_if_eq (tgt := 69) S.1 S.2.1 dX9_solve_60 (by decide) (fun u32 => ?_) (fun u32 => ?_)
          · have h := of_p u32 h
            exact hJ69 _ _ _ h H locs hW ls (lv_sub hl [1, 2, 0] rfl)
          · have h := of_n u32 h
            refine lv_iinc (v := (x1 + (1 : Int32))) (lv' := [(1, .int (x1 + (1 : Int32))), (2, .int r26), (0, .ref h0)]) S.1 S.2.1 dX9_solve_63 hl (k := 2) rfl (congrArg (fun z => x1 + z) ki_1) (by decide) rfl (fun ls hl => ?_)
            refine lv_goto (tgt := 208) S.1 S.2.1 dX9_solve_66 (by decide) ?_
            refine lv_goto (tgt := 41) S.1 S.2.1 dX9_solve_208 (by decide) ?_
            exact ih41 _ _ h H locs hW ls (lv_sub hl [2, 0] rfl)
  refine lv_iconst (v := (0 : Int32)) S.1 S.2.1 dX9_solve_0 ki_0 ?_
  refine lv_istore_n (lv' := [(1, .int (0 : Int32)), (0, .ref h0)]) S.1 S.2.1 dX9_solve_1 rfl hl (by decide) rfl (fun ls hl => ?_)
  refine lv_aload_n S.1 S.2.1 dX9_solve_2 rfl (lv_at hl 1 rfl) ?_
  refine lv_iconst (v := (-1 : Int32)) S.1 S.2.1 dX9_solve_3 ki_m1 ?_
  refine pf (C := RX9) (T := TX9) (N := 28) (ci := 5) (k := 14) (ty := .int) S hK hW wu_X9 rfl (by decide) tyX9 tyX9_ok nmX9 wf_X9_161 0 rfl rfl rfl rfl rfl (Nat.le_of_ble_eq_true rfl) dX9_solve_4 (fun H locs hW => ?_)
  have hW : wd (dC, dI) A s.heap (clX9 cI cJ cZ cB h0 a0 (c0 0) (c0 1) (c0 2) (c0 3) (w0 4 0) (w0 5 0) (c0 6) (c0 7) (c0 8) (c0 9) (c0 10) (c0 11) (c0 12) (c0 13) (-1 : Int32) (c0 15 0) (c0 16 0) (c0 17 0) (c0 18) (c0 19) (c0 20) (c0 21 0) (c0 22 0) (c0 23 0) (c0 24 0) (c0 25 0) (c0 26) (c0 27) []) H locs := hW
  refine lv_aload_n S.1 S.2.1 dX9_solve_7 rfl (lv_at hl 1 rfl) ?_
  refine lv_iconst (v := (0 : Int32)) S.1 S.2.1 dX9_solve_8 ki_0 ?_
  obtain ⟨r33, hy34, h⟩ := bd1_e h
  refine kv0 S hK hN hZ hA hW (rest := []) (t_X9_isEnd l dC dI cI cJ cZ cB zz h0 a0 (rs c0 14 (fun _ => (-1 : Int32))) w0 (0 : Int32) _  hy34) wl_X9_165 wv_X9_isEnd rfl rfl ⟨Nat.le_of_ble_eq_true rfl, Nat.le_of_ble_eq_true rfl⟩ [] [] rfl 0 rfl rfl rfl rfl hl.1 rfl (Nat.le_of_ble_eq_true rfl) dX9_solve_9 [.int r33] rfl (fun H locs hW => ?_)
  refine lv_if_eq (tgt := 41) S.1 S.2.1 dX9_solve_12 (by decide) (fun u35 => ?_) (fun u35 => ?_)
  · have h := of_p u35 h
    exact hL41 F _ _ h H locs hW ls (lv_sub hl [1, 0] rfl)
  · have h := of_n u35 h
    refine lv_aload_n S.1 S.2.1 dX9_solve_15 rfl (lv_at hl 1 rfl) ?_
    refine gf (C := RX9) (T := TX9) (N := 28) (ci := 5) (k := 7) S hK hW wu_X9 rfl (by decide) wf_X9_30 0 rfl rfl dX9_solve_16 ?_
    refine lv_iconst (v := (0 : Int32)) S.1 S.2.1 dX9_solve_19 ki_0 ?_
    refine iaK S hK hW rfl 6 rfl b_0_14 x_0 dX9_solve_20 ?_
    obtain ⟨y36, e37, h⟩ := lt1_e h
    suffices hM38 : ∀ ls : Array Slot, lv_has ls 5 [] → W p l e rmX9_solve s m (List.toArray [.ref h0]) below meth c H locs 0 0 (MQ below (kQ (dC, dI) (cwX9 cI cJ cZ cB h0 a0 c0' w0 []) (some (.int r)) A) (List.toArray [.ref h0]) s 0 0 A) (F0 m 40 ls [.int y36]) by
      refine lv_if_ne (tgt := 33) S.1 S.2.1 dX9_solve_21 (by decide) (fun u39 => ?_) (fun u39 => ?_)
      · refine lv_aload_n S.1 S.2.1 dX9_solve_33 rfl (lv_at hl 1 rfl) ?_
        refine gf (C := RX9) (T := TX9) (N := 28) (ci := 5) (k := 8) S hK hW wu_X9 rfl (by decide) wf_X9_33 0 rfl rfl dX9_solve_34 ?_
        refine lv_iconst (v := (0 : Int32)) S.1 S.2.1 dX9_solve_37 ki_0 ?_
        refine iaK S hK hW rfl 7 rfl b_0_14 x_0 dX9_solve_38 ?_
        refine lv_ineg S.1 S.2.1 dX9_solve_39 ?_
        have e37 := e37.trans (if_neg u39)
        subst e37
        exact hM38 ls (lv_sub hl [] rfl)
      · refine lv_aload_n S.1 S.2.1 dX9_solve_24 rfl (lv_at hl 1 rfl) ?_
        refine gf (C := RX9) (T := TX9) (N := 28) (ci := 5) (k := 8) S hK hW wu_X9 rfl (by decide) wf_X9_33 0 rfl rfl dX9_solve_25 ?_
        refine lv_iconst (v := (0 : Int32)) S.1 S.2.1 dX9_solve_28 ki_0 ?_
        refine iaK S hK hW rfl 7 rfl b_0_14 x_0 dX9_solve_29 ?_
        refine lv_goto (tgt := 40) S.1 S.2.1 dX9_solve_30 (by decide) ?_
        have e37 := e37.trans (if_pos u39)
        subst e37
        exact hM38 ls (lv_sub hl [] rfl)
    intro ls hl
    have f40 := Option.some.inj h
    obtain ⟨f41, f42⟩ := Prod.mk.inj f40
    subst f41
    subst f42
    exact ri S hr hlocks hW dX9_solve_40
abbrev rmX9_solveBy : Room := { frames := 5, cells := 0, slots := 0, locals := 124 }
set_option maxHeartbeats 4000000 in
set_option maxRecDepth 100000 in
theorem t_X9_solveBy (l : Launch) (dC : Nat → ClassId) (dI : Nat → Nat → Nat) (cI cJ cZ cB : ClassId) (zz : ZT)  (h0 : Nat) (a0 : Nat → Nat) (F : Nat) (c0 : Nat → Nat → Int32) (w0 : Nat → Nat → Int64) (p1 : Int32) (r : Int32) (c0' : Nat → Nat → Int32) (hm : md_X9_solveBy F c0 w0 p1 = some (r, c0')) : ct l (dC, dI) zz (ty4 cI cJ cZ cB) yX9_solveBy cX9_solveBy 2 (some .int) rmX9_solveBy [.ref h0, .int p1] (cwX9 cI cJ cZ cB h0 a0 c0 w0 []) (cwX9 cI cJ cZ cB h0 a0 c0' w0 []) (some (.int r)) := by
  refine ct_of (cc := cX9_solveBy) (maxL := 2) (ret := (some .int)) (by decide) (Nat.le_of_ble_eq_true rfl) ?_
  intro p e s m below meth c A S hr hlocks hK hN hZ hA H locs hW ls hl
  have S : CallFix p m c cX9_solveBy 2 s (List.toArray [.ref h0, .int p1]) G RX9 := S
  have hl : lv_has ls 2 [(0, .ref h0), (1, .int p1)] := hl
  have h := hm
  rw [md_X9_solveBy] at h
  have hW : wd (dC, dI) A s.heap (clX9 cI cJ cZ cB h0 a0 (c0 0) (c0 1) (c0 2) (c0 3) (w0 4 0) (w0 5 0) (c0 6) (c0 7) (c0 8) (c0 9) (c0 10) (c0 11) (c0 12) (c0 13) (c0 14 0) (c0 15 0) (c0 16 0) (c0 17 0) (c0 18) (c0 19) (c0 20) (c0 21 0) (c0 22 0) (c0 23 0) (c0 24 0) (c0 25 0) (c0 26) (c0 27) []) H locs := hW
  refine lv_aload_n S.1 S.2.1 dX9_solveBy_0 rfl (lv_at hl 0 rfl) ?_
  refine lv_iload_n S.1 S.2.1 dX9_solveBy_1 rfl (lv_at hl 1 rfl) ?_
  obtain ⟨cv1, hy2, h⟩ := bd1_e h
  refine kv (clX9 cI cJ cZ cB h0 a0 (cv1 0) (cv1 1) (cv1 2) (cv1 3) (w0 4 0) (w0 5 0) (cv1 6) (cv1 7) (cv1 8) (cv1 9) (cv1 10) (cv1 11) (cv1 12) (cv1 13) (cv1 14 0) (cv1 15 0) (cv1 16 0) (cv1 17 0) (cv1 18) (cv1 19) (cv1 20) (cv1 21 0) (cv1 22 0) (cv1 23 0) (cv1 24 0) (cv1 25 0) (cv1 26) (cv1 27) []) S hK hN hZ hA hW (rest := []) (t_X9_layFirst l dC dI cI cJ cZ cB zz h0 a0 c0 w0 p1 _  hy2) wl_X9_171 wv_X9_layFirst rfl rfl ⟨Nat.le_of_ble_eq_true rfl, Nat.le_of_ble_eq_true rfl⟩ [] [] rfl rfl rfl 0 rfl rfl rfl rfl hl.1 rfl (Nat.le_of_ble_eq_true rfl) dX9_solveBy_2 [] rfl (fun H locs hW => ?_)
  refine lv_aload_n S.1 S.2.1 dX9_solveBy_5 rfl (lv_at hl 0 rfl) ?_
  obtain ⟨r3, cv4, hy5, h⟩ := bd2_e h
  refine kv (clX9 cI cJ cZ cB h0 a0 (cv4 0) (cv4 1) (cv4 2) (cv4 3) (w0 4 0) (w0 5 0) (cv4 6) (cv4 7) (cv4 8) (cv4 9) (cv4 10) (cv4 11) (cv4 12) (cv4 13) (cv4 14 0) (cv4 15 0) (cv4 16 0) (cv4 17 0) (cv4 18) (cv4 19) (cv4 20) (cv4 21 0) (cv4 22 0) (cv4 23 0) (cv4 24 0) (cv4 25 0) (cv4 26) (cv4 27) []) S hK hN hZ hA hW (rest := []) (t_X9_solve l dC dI cI cJ cZ cB zz h0 a0 F cv1 w0 _ _  hy5) wl_X9_175 wv_X9_solve rfl rfl ⟨Nat.le_of_ble_eq_true rfl, Nat.le_of_ble_eq_true rfl⟩ [] [] rfl rfl rfl 0 rfl rfl rfl rfl hl.1 rfl (Nat.le_of_ble_eq_true rfl) dX9_solveBy_6 [.int r3] rfl (fun H locs hW => ?_)
  have f6 := Option.some.inj h
  obtain ⟨f7, f8⟩ := Prod.mk.inj f6
  subst f7
  subst f8
  exact ri S hr hlocks hW dX9_solveBy_9
abbrev rmX9_isBetterObjected : Room := { frames := 6, cells := 0, slots := 0, locals := 145 }
set_option maxHeartbeats 4000000 in
set_option maxRecDepth 100000 in
theorem t_X9_isBetterObjected (l : Launch) (dC : Nat → ClassId) (dI : Nat → Nat → Nat) (cI cJ cZ cB : ClassId) (zz : ZT)  (h0 : Nat) (a0 : Nat → Nat) (F : Nat) (c0 : Nat → Nat → Int32) (w0 : Nat → Nat → Int64) (r : Int32) (c0' : Nat → Nat → Int32) (hm : md_X9_isBetterObjected F c0 w0 = some (r, c0')) : ct l (dC, dI) zz (ty4 cI cJ cZ cB) yX9_isBetterObjected cX9_isBetterObjected 3 (some .boolean) rmX9_isBetterObjected [.ref h0] (cwX9 cI cJ cZ cB h0 a0 c0 w0 []) (cwX9 cI cJ cZ cB h0 a0 c0' w0 []) (some (.int r)) := by
  refine ct_of (cc := cX9_isBetterObjected) (maxL := 3) (ret := (some .boolean)) (by decide) (Nat.le_of_ble_eq_true rfl) ?_
  intro p e s m below meth c A S hr hlocks hK hN hZ hA H locs hW ls hl
  have S : CallFix p m c cX9_isBetterObjected 3 s (List.toArray [.ref h0]) G RX9 := S
  have hl : lv_has ls 3 [(0, .ref h0)] := hl
  have h := hm
  rw [md_X9_isBetterObjected] at h
  have hW : wd (dC, dI) A s.heap (clX9 cI cJ cZ cB h0 a0 (c0 0) (c0 1) (c0 2) (c0 3) (w0 4 0) (w0 5 0) (c0 6) (c0 7) (c0 8) (c0 9) (c0 10) (c0 11) (c0 12) (c0 13) (c0 14 0) (c0 15 0) (c0 16 0) (c0 17 0) (c0 18) (c0 19) (c0 20) (c0 21 0) (c0 22 0) (c0 23 0) (c0 24 0) (c0 25 0) (c0 26) (c0 27) []) H locs := hW
  refine lv_aload_n S.1 S.2.1 dX9_isBetterObjected_0 rfl (lv_at hl 0 rfl) ?_
  refine lv_iconst (v := (0 : Int32)) S.1 S.2.1 dX9_isBetterObjected_1 ki_0 ?_
  obtain ⟨r1, cv2, hy3, h⟩ := bd2_e h
  refine kv (clX9 cI cJ cZ cB h0 a0 (cv2 0) (cv2 1) (cv2 2) (cv2 3) (w0 4 0) (w0 5 0) (cv2 6) (cv2 7) (cv2 8) (cv2 9) (cv2 10) (cv2 11) (cv2 12) (cv2 13) (cv2 14 0) (cv2 15 0) (cv2 16 0) (cv2 17 0) (cv2 18) (cv2 19) (cv2 20) (cv2 21 0) (cv2 22 0) (cv2 23 0) (cv2 24 0) (cv2 25 0) (cv2 26) (cv2 27) []) S hK hN hZ hA hW (rest := []) (t_X9_solveBy l dC dI cI cJ cZ cB zz h0 a0 F c0 w0 (0 : Int32) _ _  hy3) wl_X9_178 wv_X9_solveBy rfl rfl ⟨Nat.le_of_ble_eq_true rfl, Nat.le_of_ble_eq_true rfl⟩ [] [] rfl rfl rfl 0 rfl rfl rfl rfl hl.1 rfl (Nat.le_of_ble_eq_true rfl) dX9_isBetterObjected_2 [.int r1] rfl (fun H locs hW => ?_)
  refine lv_istore_n (lv' := [(1, .int r1), (0, .ref h0)]) S.1 S.2.1 dX9_isBetterObjected_5 rfl hl (by decide) rfl (fun ls hl => ?_)
  refine lv_aload_n S.1 S.2.1 dX9_isBetterObjected_6 rfl (lv_at hl 1 rfl) ?_
  refine lv_iconst (v := (1 : Int32)) S.1 S.2.1 dX9_isBetterObjected_7 ki_1 ?_
  obtain ⟨r4, cv5, hy6, h⟩ := bd2_e h
  refine kv (clX9 cI cJ cZ cB h0 a0 (cv5 0) (cv5 1) (cv5 2) (cv5 3) (w0 4 0) (w0 5 0) (cv5 6) (cv5 7) (cv5 8) (cv5 9) (cv5 10) (cv5 11) (cv5 12) (cv5 13) (cv5 14 0) (cv5 15 0) (cv5 16 0) (cv5 17 0) (cv5 18) (cv5 19) (cv5 20) (cv5 21 0) (cv5 22 0) (cv5 23 0) (cv5 24 0) (cv5 25 0) (cv5 26) (cv5 27) []) S hK hN hZ hA hW (rest := []) (t_X9_solveBy l dC dI cI cJ cZ cB zz h0 a0 F cv2 w0 (1 : Int32) _ _  hy6) wl_X9_178 wv_X9_solveBy rfl rfl ⟨Nat.le_of_ble_eq_true rfl, Nat.le_of_ble_eq_true rfl⟩ [] [] rfl rfl rfl 0 rfl rfl rfl rfl hl.1 rfl (Nat.le_of_ble_eq_true rfl) dX9_isBetterObjected_8 [.int r4] rfl (fun H locs hW => ?_)
  refine lv_istore_n (lv' := [(2, .int r4), (1, .int r1), (0, .ref h0)]) S.1 S.2.1 dX9_isBetterObjected_11 rfl hl (by decide) rfl (fun ls hl => ?_)
  refine lv_aload_n S.1 S.2.1 dX9_isBetterObjected_12 rfl (lv_at hl 2 rfl) ?_
  refine gf (C := RX9) (T := TX9) (N := 28) (ci := 5) (k := 0) S hK hW wu_X9 rfl (by decide) wf_X9_7 0 rfl rfl dX9_isBetterObjected_13 ?_
  refine lv_bipush (v := (16 : Int32)) S.1 S.2.1 dX9_isBetterObjected_16 kb_16 ?_
  refine iaK S hK hW rfl 1 rfl b_16_194 x_16 dX9_isBetterObjected_18 ?_
  refine lv_iconst (v := (2 : Int32)) S.1 S.2.1 dX9_isBetterObjected_19 ki_2 ?_
  refine lv_irem S.1 S.2.1 dX9_isBetterObjected_20 (by decide) ?_
  obtain ⟨y7, e8, h⟩ := lt1_e h
  suffices hM9 : ∀ ls : Array Slot, lv_has ls 3 [] → W p l e rmX9_isBetterObjected s m (List.toArray [.ref h0]) below meth c H locs 0 0 (MQ below (kQ (dC, dI) (cwX9 cI cJ cZ cB h0 a0 c0' w0 []) (some (.int r)) A) (List.toArray [.ref h0]) s 0 0 A) (F0 m 47 ls [.int y7]) by
    refine lv_if_ne (tgt := 37) S.1 S.2.1 dX9_isBetterObjected_21 (by decide) (fun u10 => ?_) (fun u10 => ?_)
    · refine lv_iload_n S.1 S.2.1 dX9_isBetterObjected_37 rfl (lv_at hl 0 rfl) ?_
      refine lv_iload_n S.1 S.2.1 dX9_isBetterObjected_38 rfl (lv_at hl 1 rfl) ?_
      refine lv_icmp_ge (tgt := 46) S.1 S.2.1 dX9_isBetterObjected_39 (by decide) (fun u11 => ?_) (fun u11 => ?_)
      · refine lv_iconst (v := (0 : Int32)) S.1 S.2.1 dX9_isBetterObjected_46 ki_0 ?_
        have e8 := e8.trans ((if_neg u10).trans (if_pos u11))
        subst e8
        exact hM9 ls (lv_sub hl [] rfl)
      · refine lv_iconst (v := (1 : Int32)) S.1 S.2.1 dX9_isBetterObjected_42 ki_1 ?_
        refine lv_goto (tgt := 47) S.1 S.2.1 dX9_isBetterObjected_43 (by decide) ?_
        have e8 := e8.trans ((if_neg u10).trans (if_neg u11))
        subst e8
        exact hM9 ls (lv_sub hl [] rfl)
    · refine lv_iload_n S.1 S.2.1 dX9_isBetterObjected_24 rfl (lv_at hl 0 rfl) ?_
      refine lv_iload_n S.1 S.2.1 dX9_isBetterObjected_25 rfl (lv_at hl 1 rfl) ?_
      refine lv_icmp_le (tgt := 33) S.1 S.2.1 dX9_isBetterObjected_26 (by decide) (fun u12 => ?_) (fun u12 => ?_)
      · refine lv_iconst (v := (0 : Int32)) S.1 S.2.1 dX9_isBetterObjected_33 ki_0 ?_
        refine lv_goto (tgt := 47) S.1 S.2.1 dX9_isBetterObjected_34 (by decide) ?_
        have e8 := e8.trans ((if_pos u10).trans (if_pos u12))
        subst e8
        exact hM9 ls (lv_sub hl [] rfl)
      · refine lv_iconst (v := (1 : Int32)) S.1 S.2.1 dX9_isBetterObjected_29 ki_1 ?_
        refine lv_goto (tgt := 47) S.1 S.2.1 dX9_isBetterObjected_30 (by decide) ?_
        have e8 := e8.trans ((if_pos u10).trans (if_neg u12))
        subst e8
        exact hM9 ls (lv_sub hl [] rfl)
  intro ls hl
  obtain ⟨z13, h⟩ := of_g h
  have f14 := Option.some.inj h
  obtain ⟨f15, f16⟩ := Prod.mk.inj f14
  subst f15
  subst f16
  exact rz S hr hlocks hW (nz z13) dX9_isBetterObjected_47
abbrev rmX9_playIs : Room := { frames := 6, cells := 0, slots := 0, locals := 145 }
set_option maxHeartbeats 4000000 in
set_option maxRecDepth 100000 in
theorem t_X9_playIs (l : Launch) (dC : Nat → ClassId) (dI : Nat → Nat → Nat) (cI cJ cZ cB : ClassId) (zz : ZT)  (h0 : Nat) (a0 : Nat → Nat) (F : Nat) (c0 : Nat → Nat → Int32) (w0 : Nat → Nat → Int64) (r : Int32) (c0' : Nat → Nat → Int32) (hm : md_X9_playIs F c0 w0 = some (r, c0')) : ct l (dC, dI) zz (ty4 cI cJ cZ cB) yX9_playIs cX9_playIs 4 (some .int) rmX9_playIs [.ref h0] (cwX9 cI cJ cZ cB h0 a0 c0 w0 []) (cwX9 cI cJ cZ cB h0 a0 c0' w0 []) (some (.int r)) := by
  refine ct_of (cc := cX9_playIs) (maxL := 4) (ret := (some .int)) (by decide) (Nat.le_of_ble_eq_true rfl) ?_
  intro p e s m below meth c A S hr hlocks hK hN hZ hA H locs hW ls hl
  have S : CallFix p m c cX9_playIs 4 s (List.toArray [.ref h0]) G RX9 := S
  have hl : lv_has ls 4 [(0, .ref h0)] := hl
  have h := hm
  rw [md_X9_playIs] at h
  have hW : wd (dC, dI) A s.heap (clX9 cI cJ cZ cB h0 a0 (c0 0) (c0 1) (c0 2) (c0 3) (w0 4 0) (w0 5 0) (c0 6) (c0 7) (c0 8) (c0 9) (c0 10) (c0 11) (c0 12) (c0 13) (c0 14 0) (c0 15 0) (c0 16 0) (c0 17 0) (c0 18) (c0 19) (c0 20) (c0 21 0) (c0 22 0) (c0 23 0) (c0 24 0) (c0 25 0) (c0 26) (c0 27) []) H locs := hW
  have hJ22 : ∀ (c0 : Nat → Nat → Int32) (x1 : Int32) (s0 : Int32), jd_X9_playIs_22 F w0 c0 x1 s0 = some (r, c0') → ∀ (H : Heap) (locs : List Loc), wd (dC, dI) A s.heap (clX9 cI cJ cZ cB h0 a0 (c0 0) (c0 1) (c0 2) (c0 3) (w0 4 0) (w0 5 0) (c0 6) (c0 7) (c0 8) (c0 9) (c0 10) (c0 11) (c0 12) (c0 13) (c0 14 0) (c0 15 0) (c0 16 0) (c0 17 0) (c0 18) (c0 19) (c0 20) (c0 21 0) (c0 22 0) (c0 23 0) (c0 24 0) (c0 25 0) (c0 26) (c0 27) []) H locs → ∀ ls : Array Slot, lv_has ls 4 [(0, .ref h0), (1, .int x1)] → W p l e rmX9_playIs s m (List.toArray [.ref h0]) below meth c H locs 0 0 (MQ below (kQ (dC, dI) (cwX9 cI cJ cZ cB h0 a0 c0' w0 []) (some (.int r)) A) (List.toArray [.ref h0]) s 0 0 A) (F0 m 22 ls [.int s0]) := by
    intro c0 x1 s0 h H locs hW ls hl
    rw [jd_X9_playIs_22] at h
    refine lv_istore_n (lv' := [(2, .int s0), (0, .ref h0), (1, .int x1)]) S.1 S.2.1 dX9_playIs_22 rfl hl (by decide) rfl (fun ls hl => ?_)
    refine lv_aload_n S.1 S.2.1 dX9_playIs_23 rfl (lv_at hl 1 rfl) ?_
    refine gf (C := RX9) (T := TX9) (N := 28) (ci := 5) (k := 0) S hK hW wu_X9 rfl (by decide) wf_X9_7 0 rfl rfl dX9_playIs_24 ?_
    refine lv_bipush (v := (16 : Int32)) S.1 S.2.1 dX9_playIs_27 kb_16 ?_
    refine iaK S hK hW rfl 1 rfl b_16_194 x_16 dX9_playIs_29 ?_
    refine lv_iconst (v := (2 : Int32)) S.1 S.2.1 dX9_playIs_30 ki_2 ?_
    refine lv_irem S.1 S.2.1 dX9_playIs_31 (by decide) ?_
    obtain ⟨y1, e2, h⟩ := lt1_e h
    suffices hM3 : ∀ ls : Array Slot, lv_has ls 4 [(1, .int x1), (2, .int s0)] → W p l e rmX9_playIs s m (List.toArray [.ref h0]) below meth c H locs 0 0 (MQ below (kQ (dC, dI) (cwX9 cI cJ cZ cB h0 a0 c0' w0 []) (some (.int r)) A) (List.toArray [.ref h0]) s 0 0 A) (F0 m 58 ls [.int y1]) by
      refine lv_if_ne (tgt := 48) S.1 S.2.1 dX9_playIs_32 (by decide) (fun u4 => ?_) (fun u4 => ?_)
      · refine lv_iload_n S.1 S.2.1 dX9_playIs_48 rfl (lv_at hl 0 rfl) ?_
        refine lv_iload_n S.1 S.2.1 dX9_playIs_49 rfl (lv_at hl 2 rfl) ?_
        refine lv_icmp_ge (tgt := 57) S.1 S.2.1 dX9_playIs_50 (by decide) (fun u5 => ?_) (fun u5 => ?_)
        · refine lv_iconst (v := (0 : Int32)) S.1 S.2.1 dX9_playIs_57 ki_0 ?_
          have e2 := e2.trans ((if_neg u4).trans (if_pos u5))
          subst e2
          exact hM3 ls (lv_sub hl [2, 0] rfl)
        · refine lv_iconst (v := (1 : Int32)) S.1 S.2.1 dX9_playIs_53 ki_1 ?_
          refine lv_goto (tgt := 58) S.1 S.2.1 dX9_playIs_54 (by decide) ?_
          have e2 := e2.trans ((if_neg u4).trans (if_neg u5))
          subst e2
          exact hM3 ls (lv_sub hl [2, 0] rfl)
      · refine lv_iload_n S.1 S.2.1 dX9_playIs_35 rfl (lv_at hl 0 rfl) ?_
        refine lv_iload_n S.1 S.2.1 dX9_playIs_36 rfl (lv_at hl 2 rfl) ?_
        refine lv_icmp_le (tgt := 44) S.1 S.2.1 dX9_playIs_37 (by decide) (fun u6 => ?_) (fun u6 => ?_)
        · refine lv_iconst (v := (0 : Int32)) S.1 S.2.1 dX9_playIs_44 ki_0 ?_
          refine lv_goto (tgt := 58) S.1 S.2.1 dX9_playIs_45 (by decide) ?_
          have e2 := e2.trans ((if_pos u4).trans (if_pos u6))
          subst e2
          exact hM3 ls (lv_sub hl [2, 0] rfl)
        · refine lv_iconst (v := (1 : Int32)) S.1 S.2.1 dX9_playIs_40 ki_1 ?_
          refine lv_goto (tgt := 58) S.1 S.2.1 dX9_playIs_41 (by decide) ?_
          have e2 := e2.trans ((if_pos u4).trans (if_neg u6))
          subst e2
          exact hM3 ls (lv_sub hl [2, 0] rfl)
    intro ls hl
    refine lv_istore_n (lv' := [(3, .int y1), (1, .int x1), (2, .int s0)]) S.1 S.2.1 dX9_playIs_58 rfl hl (by decide) rfl (fun ls hl => ?_)
    refine lv_iload_n S.1 S.2.1 dX9_playIs_59 rfl (lv_at hl 0 rfl) ?_
    obtain ⟨y7, e8, h⟩ := lt1_e h
    suffices hM9 : ∀ ls : Array Slot, lv_has ls 4 [] → W p l e rmX9_playIs s m (List.toArray [.ref h0]) below meth c H locs 0 0 (MQ below (kQ (dC, dI) (cwX9 cI cJ cZ cB h0 a0 c0' w0 []) (some (.int r)) A) (List.toArray [.ref h0]) s 0 0 A) (F0 m 68 ls [.int y7]) by
      refine lv_if_eq (tgt := 67) S.1 S.2.1 dX9_playIs_60 (by decide) (fun u10 => ?_) (fun u10 => ?_)
      · refine lv_iload_n S.1 S.2.1 dX9_playIs_67 rfl (lv_at hl 1 rfl) ?_
        have e8 := e8.trans (if_pos u10)
        subst e8
        exact hM9 ls (lv_sub hl [] rfl)
      · refine lv_iload_n S.1 S.2.1 dX9_playIs_63 rfl (lv_at hl 2 rfl) ?_
        refine lv_goto (tgt := 68) S.1 S.2.1 dX9_playIs_64 (by decide) ?_
        have e8 := e8.trans (if_neg u10)
        subst e8
        exact hM9 ls (lv_sub hl [] rfl)
    intro ls hl
    have f11 := Option.some.inj h
    obtain ⟨f12, f13⟩ := Prod.mk.inj f11
    subst f12
    subst f13
    exact ri S hr hlocks hW dX9_playIs_68
  refine lv_aload_n S.1 S.2.1 dX9_playIs_0 rfl (lv_at hl 0 rfl) ?_
  refine lv_iconst (v := (0 : Int32)) S.1 S.2.1 dX9_playIs_1 ki_0 ?_
  obtain ⟨r14, cv15, hy16, h⟩ := bd2_e h
  refine kv (clX9 cI cJ cZ cB h0 a0 (cv15 0) (cv15 1) (cv15 2) (cv15 3) (w0 4 0) (w0 5 0) (cv15 6) (cv15 7) (cv15 8) (cv15 9) (cv15 10) (cv15 11) (cv15 12) (cv15 13) (cv15 14 0) (cv15 15 0) (cv15 16 0) (cv15 17 0) (cv15 18) (cv15 19) (cv15 20) (cv15 21 0) (cv15 22 0) (cv15 23 0) (cv15 24 0) (cv15 25 0) (cv15 26) (cv15 27) []) S hK hN hZ hA hW (rest := []) (t_X9_solveBy l dC dI cI cJ cZ cB zz h0 a0 F c0 w0 (0 : Int32) _ _  hy16) wl_X9_178 wv_X9_solveBy rfl rfl ⟨Nat.le_of_ble_eq_true rfl, Nat.le_of_ble_eq_true rfl⟩ [] [] rfl rfl rfl 0 rfl rfl rfl rfl hl.1 rfl (Nat.le_of_ble_eq_true rfl) dX9_playIs_2 [.int r14] rfl (fun H locs hW => ?_)
  refine lv_istore_n (lv' := [(1, .int r14), (0, .ref h0)]) S.1 S.2.1 dX9_playIs_5 rfl hl (by decide) rfl (fun ls hl => ?_)
  refine lv_aload_n S.1 S.2.1 dX9_playIs_6 rfl (lv_at hl 1 rfl) ?_
  obtain ⟨r17, hy18, h⟩ := bd1_e h
  refine kv0 S hK hN hZ hA hW (rest := []) (t_X9_may l dC dI cI cJ cZ cB zz h0 a0 cv15 w0 _  hy18) wl_X9_133 wv_X9_may rfl rfl ⟨Nat.le_of_ble_eq_true rfl, Nat.le_of_ble_eq_true rfl⟩ [] [] rfl 0 rfl rfl rfl rfl hl.1 rfl (Nat.le_of_ble_eq_true rfl) dX9_playIs_7 [.int r17] rfl (fun H locs hW => ?_)
  refine lv_if_eq (tgt := 21) S.1 S.2.1 dX9_playIs_10 (by decide) (fun u19 => ?_) (fun u19 => ?_)
  · have h := of_p u19 h
    refine lv_iload_n S.1 S.2.1 dX9_playIs_21 rfl (lv_at hl 0 rfl) ?_
    exact hJ22 _ _ _ h H locs hW ls (lv_sub hl [1, 0] rfl)
  · have h := of_n u19 h
    refine lv_aload_n S.1 S.2.1 dX9_playIs_13 rfl (lv_at hl 1 rfl) ?_
    refine lv_iconst (v := (1 : Int32)) S.1 S.2.1 dX9_playIs_14 ki_1 ?_
    obtain ⟨r20, cv21, hy22, h⟩ := bd2_e h
    refine kv (clX9 cI cJ cZ cB h0 a0 (cv21 0) (cv21 1) (cv21 2) (cv21 3) (w0 4 0) (w0 5 0) (cv21 6) (cv21 7) (cv21 8) (cv21 9) (cv21 10) (cv21 11) (cv21 12) (cv21 13) (cv21 14 0) (cv21 15 0) (cv21 16 0) (cv21 17 0) (cv21 18) (cv21 19) (cv21 20) (cv21 21 0) (cv21 22 0) (cv21 23 0) (cv21 24 0) (cv21 25 0) (cv21 26) (cv21 27) []) S hK hN hZ hA hW (rest := []) (t_X9_solveBy l dC dI cI cJ cZ cB zz h0 a0 F cv15 w0 (1 : Int32) _ _  hy22) wl_X9_178 wv_X9_solveBy rfl rfl ⟨Nat.le_of_ble_eq_true rfl, Nat.le_of_ble_eq_true rfl⟩ [] [] rfl rfl rfl 0 rfl rfl rfl rfl hl.1 rfl (Nat.le_of_ble_eq_true rfl) dX9_playIs_15 [.int r20] rfl (fun H locs hW => ?_)
    refine lv_goto (tgt := 22) S.1 S.2.1 dX9_playIs_18 (by decide) ?_
    exact hJ22 _ _ _ h H locs hW ls (lv_sub hl [1, 0] rfl)
abbrev rmX9_play : Room := { frames := 7, cells := 0, slots := 0, locals := 168 }
set_option maxHeartbeats 4000000 in
set_option maxRecDepth 100000 in
theorem t_X9_play (l : Launch) (dC : Nat → ClassId) (dI : Nat → Nat → Nat) (cI cJ cZ cB : ClassId) (zz : ZT)  (h0 : Nat) (a0 : Nat → Nat) (F : Nat) (c0 : Nat → Nat → Int32) (w0 : Nat → Nat → Int64) (p1 : Int32) (r : Int32) (c0' : Nat → Nat → Int32) (hm : md_X9_play F c0 w0 p1 = some (r, c0')) : ct l (dC, dI) zz (ty4 cI cJ cZ cB) yX9_play cX9_play 3 (some .int) rmX9_play [.ref h0, .int p1] (cwX9 cI cJ cZ cB h0 a0 c0 w0 []) (cwX9 cI cJ cZ cB h0 a0 c0' w0 []) (some (.int r)) := by
  refine ct_of (cc := cX9_play) (maxL := 3) (ret := (some .int)) (by decide) (Nat.le_of_ble_eq_true rfl) ?_
  intro p e s m below meth c A S hr hlocks hK hN hZ hA H locs hW ls hl
  have S : CallFix p m c cX9_play 3 s (List.toArray [.ref h0, .int p1]) G RX9 := S
  have hl : lv_has ls 3 [(0, .ref h0), (1, .int p1)] := hl
  have h := hm
  rw [md_X9_play] at h
  have hW : wd (dC, dI) A s.heap (clX9 cI cJ cZ cB h0 a0 (c0 0) (c0 1) (c0 2) (c0 3) (w0 4 0) (w0 5 0) (c0 6) (c0 7) (c0 8) (c0 9) (c0 10) (c0 11) (c0 12) (c0 13) (c0 14 0) (c0 15 0) (c0 16 0) (c0 17 0) (c0 18) (c0 19) (c0 20) (c0 21 0) (c0 22 0) (c0 23 0) (c0 24 0) (c0 25 0) (c0 26) (c0 27) []) H locs := hW
  refine lv_iload_n S.1 S.2.1 dX9_play_0 rfl (lv_at hl 1 rfl) ?_
  refine lv_i2l S.1 S.2.1 dX9_play_1 rfl ?_
  refine lv_lconst (v := (0 : Int64)) S.1 S.2.1 dX9_play_2 rfl ?_
  refine lv_ldc2 (v := (2 : Int64)) S.1 S.2.1 S.2.2.2.1 (S.2.2.2.2 _ wk_X9_143) dX9_play_3 ?_
  obtain ⟨r1, hy2, h⟩ := bd1_e h
  refine ks0 S hK hN hZ hA hW (rest := []) (t_X9_in l dC dI cI cJ cZ cB zz p1.toInt64 (0 : Int64) (2 : Int64) _  hy2) wl_X9_74 wv_X9_in rfl rfl ⟨Nat.le_of_ble_eq_true rfl, Nat.le_of_ble_eq_true rfl⟩ [] (clX9 cI cJ cZ cB h0 a0 (c0 0) (c0 1) (c0 2) (c0 3) (w0 4 0) (w0 5 0) (c0 6) (c0 7) (c0 8) (c0 9) (c0 10) (c0 11) (c0 12) (c0 13) (c0 14 0) (c0 15 0) (c0 16 0) (c0 17 0) (c0 18) (c0 19) (c0 20) (c0 21 0) (c0 22 0) (c0 23 0) (c0 24 0) (c0 25 0) (c0 26) (c0 27) []) rfl rfl hl.1 rfl (Nat.le_of_ble_eq_true rfl) dX9_play_6 [.int r1] rfl (fun H locs hW => ?_)
  refine lv_if_ne (tgt := 20) S.1 S.2.1 dX9_play_9 (by decide) (fun u3 => ?_) (fun u3 => ?_)
  · have h := of_n u3 h
    refine lv_iload_n S.1 S.2.1 dX9_play_20 rfl (lv_at hl 1 rfl) ?_
    refine lv_if_ne (tgt := 29) S.1 S.2.1 dX9_play_21 (by decide) (fun u4 => ?_) (fun u4 => ?_)
    · have h := of_n u4 h
      refine lv_iload_n S.1 S.2.1 dX9_play_29 rfl (lv_at hl 1 rfl) ?_
      refine lv_iconst (v := (1 : Int32)) S.1 S.2.1 dX9_play_30 ki_1 ?_
      refine lv_icmp_ne (tgt := 58) S.1 S.2.1 dX9_play_31 (by decide) (fun u5 => ?_) (fun u5 => ?_)
      · have h := of_n u5 h
        refine lv_aload_n S.1 S.2.1 dX9_play_58 rfl (lv_at hl 0 rfl) ?_
        refine lv_iconst (v := (0 : Int32)) S.1 S.2.1 dX9_play_59 ki_0 ?_
        obtain ⟨r6, cv7, hy8, h⟩ := bd2_e h
        refine kv (clX9 cI cJ cZ cB h0 a0 (cv7 0) (cv7 1) (cv7 2) (cv7 3) (w0 4 0) (w0 5 0) (cv7 6) (cv7 7) (cv7 8) (cv7 9) (cv7 10) (cv7 11) (cv7 12) (cv7 13) (cv7 14 0) (cv7 15 0) (cv7 16 0) (cv7 17 0) (cv7 18) (cv7 19) (cv7 20) (cv7 21 0) (cv7 22 0) (cv7 23 0) (cv7 24 0) (cv7 25 0) (cv7 26) (cv7 27) []) S hK hN hZ hA hW (rest := []) (t_X9_solveBy l dC dI cI cJ cZ cB zz h0 a0 F c0 w0 (0 : Int32) _ _  hy8) wl_X9_178 wv_X9_solveBy rfl rfl ⟨Nat.le_of_ble_eq_true rfl, Nat.le_of_ble_eq_true rfl⟩ [] [] rfl rfl rfl 0 rfl rfl rfl rfl hl.1 rfl (Nat.le_of_ble_eq_true rfl) dX9_play_60 [.int r6] rfl (fun H locs hW => ?_)
        refine lv_istore_n (lv' := [(2, .int r6), (0, .ref h0), (1, .int p1)]) S.1 S.2.1 dX9_play_63 rfl hl (by decide) rfl (fun ls hl => ?_)
        refine lv_aload_n S.1 S.2.1 dX9_play_64 rfl (lv_at hl 1 rfl) ?_
        refine gf (C := RX9) (T := TX9) (N := 28) (ci := 5) (k := 14) S hK hW wu_X9 rfl (by decide) wf_X9_161 0 rfl rfl dX9_play_65 ?_
        have f9 := Option.some.inj h
        obtain ⟨f10, f11⟩ := Prod.mk.inj f9
        subst f10
        subst f11
        exact ri S hr hlocks hW dX9_play_68
      · have h := of_p u5 h
        refine lv_aload_n S.1 S.2.1 dX9_play_34 rfl (lv_at hl 0 rfl) ?_
        obtain ⟨r12, hy13, h⟩ := bd1_e h
        refine kv0 S hK hN hZ hA hW (rest := []) (t_X9_may l dC dI cI cJ cZ cB zz h0 a0 c0 w0 _  hy13) wl_X9_133 wv_X9_may rfl rfl ⟨Nat.le_of_ble_eq_true rfl, Nat.le_of_ble_eq_true rfl⟩ [] [] rfl 0 rfl rfl rfl rfl hl.1 rfl (Nat.le_of_ble_eq_true rfl) dX9_play_35 [.int r12] rfl (fun H locs hW => ?_)
        refine lv_if_ne (tgt := 45) S.1 S.2.1 dX9_play_38 (by decide) (fun u14 => ?_) (fun u14 => ?_)
        · have h := of_n u14 h
          refine lv_aload_n S.1 S.2.1 dX9_play_45 rfl (lv_at hl 0 rfl) ?_
          obtain ⟨r15, cv16, hy17, h⟩ := bd2_e h
          refine kv (clX9 cI cJ cZ cB h0 a0 (cv16 0) (cv16 1) (cv16 2) (cv16 3) (w0 4 0) (w0 5 0) (cv16 6) (cv16 7) (cv16 8) (cv16 9) (cv16 10) (cv16 11) (cv16 12) (cv16 13) (cv16 14 0) (cv16 15 0) (cv16 16 0) (cv16 17 0) (cv16 18) (cv16 19) (cv16 20) (cv16 21 0) (cv16 22 0) (cv16 23 0) (cv16 24 0) (cv16 25 0) (cv16 26) (cv16 27) []) S hK hN hZ hA hW (rest := []) (t_X9_isBetterObjected l dC dI cI cJ cZ cB zz h0 a0 F c0 w0 _ _  hy17) wl_X9_185 wv_X9_isBetterObjected rfl rfl ⟨Nat.le_of_ble_eq_true rfl, Nat.le_of_ble_eq_true rfl⟩ [] [] rfl rfl rfl 0 rfl rfl rfl rfl hl.1 rfl (Nat.le_of_ble_eq_true rfl) dX9_play_46 [.int r15] rfl (fun H locs hW => ?_)
          refine lv_if_eq (tgt := 56) S.1 S.2.1 dX9_play_49 (by decide) (fun u18 => ?_) (fun u18 => ?_)
          · have h := of_p u18 h
            refine lv_iconst (v := (0 : Int32)) S.1 S.2.1 dX9_play_56 ki_0 ?_
            have f19 := Option.some.inj h
            obtain ⟨f20, f21⟩ := Prod.mk.inj f19
            subst f20
            subst f21
            exact ri S hr hlocks hW dX9_play_57
          · have h := of_n u18 h
            refine lv_iconst (v := (1 : Int32)) S.1 S.2.1 dX9_play_52 ki_1 ?_
            refine lv_goto (tgt := 57) S.1 S.2.1 dX9_play_53 (by decide) ?_
            have f22 := Option.some.inj h
            obtain ⟨f23, f24⟩ := Prod.mk.inj f22
            subst f23
            subst f24
            exact ri S hr hlocks hW dX9_play_57
        · have h := of_p u14 h
          refine lv_iconst (v := (-1 : Int32)) S.1 S.2.1 dX9_play_41 ki_m1 ?_
          refine lv_goto (tgt := 57) S.1 S.2.1 dX9_play_42 (by decide) ?_
          have f25 := Option.some.inj h
          obtain ⟨f26, f27⟩ := Prod.mk.inj f25
          subst f26
          subst f27
          exact ri S hr hlocks hW dX9_play_57
    · have h := of_p u4 h
      refine lv_aload_n S.1 S.2.1 dX9_play_24 rfl (lv_at hl 0 rfl) ?_
      obtain ⟨r28, cv29, hy30, h⟩ := bd2_e h
      refine kv (clX9 cI cJ cZ cB h0 a0 (cv29 0) (cv29 1) (cv29 2) (cv29 3) (w0 4 0) (w0 5 0) (cv29 6) (cv29 7) (cv29 8) (cv29 9) (cv29 10) (cv29 11) (cv29 12) (cv29 13) (cv29 14 0) (cv29 15 0) (cv29 16 0) (cv29 17 0) (cv29 18) (cv29 19) (cv29 20) (cv29 21 0) (cv29 22 0) (cv29 23 0) (cv29 24 0) (cv29 25 0) (cv29 26) (cv29 27) []) S hK hN hZ hA hW (rest := []) (t_X9_playIs l dC dI cI cJ cZ cB zz h0 a0 F c0 w0 _ _  hy30) wl_X9_182 wv_X9_playIs rfl rfl ⟨Nat.le_of_ble_eq_true rfl, Nat.le_of_ble_eq_true rfl⟩ [] [] rfl rfl rfl 0 rfl rfl rfl rfl hl.1 rfl (Nat.le_of_ble_eq_true rfl) dX9_play_25 [.int r28] rfl (fun H locs hW => ?_)
      have f31 := Option.some.inj h
      obtain ⟨f32, f33⟩ := Prod.mk.inj f31
      subst f32
      subst f33
      exact ri S hr hlocks hW dX9_play_28
  · have h := of_p u3 h
    refine lv_aload_n S.1 S.2.1 dX9_play_12 rfl (lv_at hl 0 rfl) ?_
    refine lv_sipush (v := (-1000 : Int32)) S.1 S.2.1 dX9_play_13 ks_m1000 ?_
    obtain ⟨r34, cv35, hy36, h⟩ := bd2_e h
    refine kv (clX9 cI cJ cZ cB h0 a0 (cv35 0) (cv35 1) (cv35 2) (cv35 3) (w0 4 0) (w0 5 0) (cv35 6) (cv35 7) (cv35 8) (cv35 9) (cv35 10) (cv35 11) (cv35 12) (cv35 13) (cv35 14 0) (cv35 15 0) (cv35 16 0) (cv35 17 0) (cv35 18) (cv35 19) (cv35 20) (cv35 21 0) (cv35 22 0) (cv35 23 0) (cv35 24 0) (cv35 25 0) (cv35 26) (cv35 27) []) S hK hN hZ hA hW (rest := []) (t_X9_bad l dC dI cI cJ cZ cB zz h0 a0 c0 w0 (-1000 : Int32) _ _  hy36) wl_X9_84 wv_X9_bad rfl rfl ⟨Nat.le_of_ble_eq_true rfl, Nat.le_of_ble_eq_true rfl⟩ [] [] rfl rfl rfl 0 rfl rfl rfl rfl hl.1 rfl (Nat.le_of_ble_eq_true rfl) dX9_play_16 [.int r34] rfl (fun H locs hW => ?_)
    have f37 := Option.some.inj h
    obtain ⟨f38, f39⟩ := Prod.mk.inj f37
    subst f38
    subst f39
    exact ri S hr hlocks hW dX9_play_19
abbrev rmX9_layNow : Room := { frames := 0, cells := 0, slots := 0, locals := 0 }
set_option maxHeartbeats 4000000 in
set_option maxRecDepth 100000 in
theorem t_X9_layNow (l : Launch) (dC : Nat → ClassId) (dI : Nat → Nat → Nat) (cI cJ cZ cB : ClassId) (zz : ZT)  (h0 : Nat) (a0 : Nat → Nat) (c0 : Nat → Nat → Int32) (w0 : Nat → Nat → Int64) (c0' : Nat → Nat → Int32) (hm : md_X9_layNow c0 w0 = some (c0')) : ct l (dC, dI) zz (ty4 cI cJ cZ cB) yX9_layNow cX9_layNow 1 none rmX9_layNow [.ref h0] (cwX9 cI cJ cZ cB h0 a0 c0 w0 []) (cwX9 cI cJ cZ cB h0 a0 c0' w0 []) none := by
  refine ct_of (cc := cX9_layNow) (maxL := 1) (ret := none) (by decide) (Nat.le_of_ble_eq_true rfl) ?_
  intro p e s m below meth c A S hr hlocks hK hN hZ hA H locs hW ls hl
  have S : CallFix p m c cX9_layNow 1 s (List.toArray [.ref h0]) G RX9 := S
  have hl : lv_has ls 1 [(0, .ref h0)] := hl
  have h := hm
  rw [md_X9_layNow] at h
  have hW : wd (dC, dI) A s.heap (clX9 cI cJ cZ cB h0 a0 (c0 0) (c0 1) (c0 2) (c0 3) (w0 4 0) (w0 5 0) (c0 6) (c0 7) (c0 8) (c0 9) (c0 10) (c0 11) (c0 12) (c0 13) (c0 14 0) (c0 15 0) (c0 16 0) (c0 17 0) (c0 18) (c0 19) (c0 20) (c0 21 0) (c0 22 0) (c0 23 0) (c0 24 0) (c0 25 0) (c0 26) (c0 27) []) H locs := hW
  refine lv_aload_n S.1 S.2.1 dX9_layNow_0 rfl (lv_at hl 0 rfl) ?_
  refine lv_aload_n S.1 S.2.1 dX9_layNow_1 rfl (lv_at hl 0 rfl) ?_
  refine gf (C := RX9) (T := TX9) (N := 28) (ci := 5) (k := 0) S hK hW wu_X9 rfl (by decide) wf_X9_7 0 rfl rfl dX9_layNow_2 ?_
  refine lv_bipush (v := (14 : Int32)) S.1 S.2.1 dX9_layNow_5 kb_14 ?_
  refine iaK S hK hW rfl 1 rfl b_14_194 x_14 dX9_layNow_7 ?_
  refine pf (C := RX9) (T := TX9) (N := 28) (ci := 5) (k := 15) (ty := .int) S hK hW wu_X9 rfl (by decide) tyX9 tyX9_ok nmX9 wf_X9_188 0 rfl rfl rfl rfl rfl (Nat.le_of_ble_eq_true rfl) dX9_layNow_8 (fun H locs hW => ?_)
  have hW : wd (dC, dI) A s.heap (clX9 cI cJ cZ cB h0 a0 (c0 0) (c0 1) (c0 2) (c0 3) (w0 4 0) (w0 5 0) (c0 6) (c0 7) (c0 8) (c0 9) (c0 10) (c0 11) (c0 12) (c0 13) (c0 14 0) ((c0 0) 14) (c0 16 0) (c0 17 0) (c0 18) (c0 19) (c0 20) (c0 21 0) (c0 22 0) (c0 23 0) (c0 24 0) (c0 25 0) (c0 26) (c0 27) []) H locs := hW
  refine lv_aload_n S.1 S.2.1 dX9_layNow_11 rfl (lv_at hl 0 rfl) ?_
  refine lv_aload_n S.1 S.2.1 dX9_layNow_12 rfl (lv_at hl 0 rfl) ?_
  refine gf (C := RX9) (T := TX9) (N := 28) (ci := 5) (k := 0) S hK hW wu_X9 rfl (by decide) wf_X9_7 0 rfl rfl dX9_layNow_13 ?_
  refine lv_bipush (v := (15 : Int32)) S.1 S.2.1 dX9_layNow_16 kb_15 ?_
  refine iaK S hK hW rfl 1 rfl b_15_194 x_15 dX9_layNow_18 ?_
  refine pf (C := RX9) (T := TX9) (N := 28) (ci := 5) (k := 16) (ty := .int) S hK hW wu_X9 rfl (by decide) tyX9 tyX9_ok nmX9 wf_X9_191 0 rfl rfl rfl rfl rfl (Nat.le_of_ble_eq_true rfl) dX9_layNow_19 (fun H locs hW => ?_)
  have hW : wd (dC, dI) A s.heap (clX9 cI cJ cZ cB h0 a0 (c0 0) (c0 1) (c0 2) (c0 3) (w0 4 0) (w0 5 0) (c0 6) (c0 7) (c0 8) (c0 9) (c0 10) (c0 11) (c0 12) (c0 13) (c0 14 0) ((c0 0) 14) ((c0 0) 15) (c0 17 0) (c0 18) (c0 19) (c0 20) (c0 21 0) (c0 22 0) (c0 23 0) (c0 24 0) (c0 25 0) (c0 26) (c0 27) []) H locs := hW
  refine lv_aload_n S.1 S.2.1 dX9_layNow_22 rfl (lv_at hl 0 rfl) ?_
  refine lv_aload_n S.1 S.2.1 dX9_layNow_23 rfl (lv_at hl 0 rfl) ?_
  refine gf (C := RX9) (T := TX9) (N := 28) (ci := 5) (k := 0) S hK hW wu_X9 rfl (by decide) wf_X9_7 0 rfl rfl dX9_layNow_24 ?_
  refine lv_bipush (v := (16 : Int32)) S.1 S.2.1 dX9_layNow_27 kb_16 ?_
  refine iaK S hK hW rfl 1 rfl b_16_194 x_16 dX9_layNow_29 ?_
  refine pf (C := RX9) (T := TX9) (N := 28) (ci := 5) (k := 17) (ty := .int) S hK hW wu_X9 rfl (by decide) tyX9 tyX9_ok nmX9 wf_X9_194 0 rfl rfl rfl rfl rfl (Nat.le_of_ble_eq_true rfl) dX9_layNow_30 (fun H locs hW => ?_)
  have hW : wd (dC, dI) A s.heap (clX9 cI cJ cZ cB h0 a0 (c0 0) (c0 1) (c0 2) (c0 3) (w0 4 0) (w0 5 0) (c0 6) (c0 7) (c0 8) (c0 9) (c0 10) (c0 11) (c0 12) (c0 13) (c0 14 0) ((c0 0) 14) ((c0 0) 15) ((c0 0) 16) (c0 18) (c0 19) (c0 20) (c0 21 0) (c0 22 0) (c0 23 0) (c0 24 0) (c0 25 0) (c0 26) (c0 27) []) H locs := hW
  refine lv_aload_n S.1 S.2.1 dX9_layNow_33 rfl (lv_at hl 0 rfl) ?_
  refine gf (C := RX9) (T := TX9) (N := 28) (ci := 5) (k := 18) S hK hW wu_X9 rfl (by decide) wf_X9_51 0 rfl rfl dX9_layNow_34 ?_
  refine lv_iconst (v := (0 : Int32)) S.1 S.2.1 dX9_layNow_37 ki_0 ?_
  refine lv_aload_n S.1 S.2.1 dX9_layNow_38 rfl (lv_at hl 0 rfl) ?_
  refine gf (C := RX9) (T := TX9) (N := 28) (ci := 5) (k := 0) S hK hW wu_X9 rfl (by decide) wf_X9_7 0 rfl rfl dX9_layNow_39 ?_
  refine lv_bipush (v := (12 : Int32)) S.1 S.2.1 dX9_layNow_42 kb_12 ?_
  refine iaK S hK hW rfl 1 rfl b_12_194 x_12 dX9_layNow_44 ?_
  refine istK S hK hW rfl 13 rfl b_0_2 x_0 dX9_layNow_45 (fun H locs hW => ?_)
  have hW : wd (dC, dI) A s.heap (clX9 cI cJ cZ cB h0 a0 (c0 0) (c0 1) (c0 2) (c0 3) (w0 4 0) (w0 5 0) (c0 6) (c0 7) (c0 8) (c0 9) (c0 10) (c0 11) (c0 12) (c0 13) (c0 14 0) ((c0 0) 14) ((c0 0) 15) ((c0 0) 16) (upd (c0 18) 0 ((c0 0) 12)) (c0 19) (c0 20) (c0 21 0) (c0 22 0) (c0 23 0) (c0 24 0) (c0 25 0) (c0 26) (c0 27) []) H locs := hW
  refine lv_aload_n S.1 S.2.1 dX9_layNow_46 rfl (lv_at hl 0 rfl) ?_
  refine gf (C := RX9) (T := TX9) (N := 28) (ci := 5) (k := 18) S hK hW wu_X9 rfl (by decide) wf_X9_51 0 rfl rfl dX9_layNow_47 ?_
  refine lv_iconst (v := (1 : Int32)) S.1 S.2.1 dX9_layNow_50 ki_1 ?_
  refine lv_aload_n S.1 S.2.1 dX9_layNow_51 rfl (lv_at hl 0 rfl) ?_
  refine gf (C := RX9) (T := TX9) (N := 28) (ci := 5) (k := 0) S hK hW wu_X9 rfl (by decide) wf_X9_7 0 rfl rfl dX9_layNow_52 ?_
  refine lv_bipush (v := (13 : Int32)) S.1 S.2.1 dX9_layNow_55 kb_13 ?_
  refine iaK S hK hW rfl 1 rfl b_13_194 x_13 dX9_layNow_57 ?_
  refine istK S hK hW rfl 13 rfl b_1_2 x_1 dX9_layNow_58 (fun H locs hW => ?_)
  have hW : wd (dC, dI) A s.heap (clX9 cI cJ cZ cB h0 a0 (c0 0) (c0 1) (c0 2) (c0 3) (w0 4 0) (w0 5 0) (c0 6) (c0 7) (c0 8) (c0 9) (c0 10) (c0 11) (c0 12) (c0 13) (c0 14 0) ((c0 0) 14) ((c0 0) 15) ((c0 0) 16) (upd (upd (c0 18) 0 ((c0 0) 12)) 1 ((c0 0) 13)) (c0 19) (c0 20) (c0 21 0) (c0 22 0) (c0 23 0) (c0 24 0) (c0 25 0) (c0 26) (c0 27) []) H locs := hW
  have f1 := Option.some.inj h
  subst f1
  exact rv S hr hlocks hW dX9_layNow_59
abbrev rmX9_goSaying : Room := { frames := 3, cells := 0, slots := 0, locals := 78 }
set_option maxHeartbeats 4000000 in
set_option maxRecDepth 100000 in
theorem t_X9_goSaying (l : Launch) (dC : Nat → ClassId) (dI : Nat → Nat → Nat) (cI cJ cZ cB : ClassId) (zz : ZT)  (h0 : Nat) (a0 : Nat → Nat) (c0 : Nat → Nat → Int32) (w0 : Nat → Nat → Int64) (p1 : Int32) (c0' : Nat → Nat → Int32) (hm : md_X9_goSaying c0 w0 p1 = some (c0')) : ct l (dC, dI) zz (ty4 cI cJ cZ cB) yX9_goSaying cX9_goSaying 2 none rmX9_goSaying [.ref h0, .int p1] (cwX9 cI cJ cZ cB h0 a0 c0 w0 []) (cwX9 cI cJ cZ cB h0 a0 c0' w0 []) none := by
  refine ct_of (cc := cX9_goSaying) (maxL := 2) (ret := none) (by decide) (Nat.le_of_ble_eq_true rfl) ?_
  intro p e s m below meth c A S hr hlocks hK hN hZ hA H locs hW ls hl
  have S : CallFix p m c cX9_goSaying 2 s (List.toArray [.ref h0, .int p1]) G RX9 := S
  have hl : lv_has ls 2 [(0, .ref h0), (1, .int p1)] := hl
  have h := hm
  rw [md_X9_goSaying] at h
  have hW : wd (dC, dI) A s.heap (clX9 cI cJ cZ cB h0 a0 (c0 0) (c0 1) (c0 2) (c0 3) (w0 4 0) (w0 5 0) (c0 6) (c0 7) (c0 8) (c0 9) (c0 10) (c0 11) (c0 12) (c0 13) (c0 14 0) (c0 15 0) (c0 16 0) (c0 17 0) (c0 18) (c0 19) (c0 20) (c0 21 0) (c0 22 0) (c0 23 0) (c0 24 0) (c0 25 0) (c0 26) (c0 27) []) H locs := hW
  refine lv_aload_n S.1 S.2.1 dX9_goSaying_0 rfl (lv_at hl 0 rfl) ?_
  refine lv_aload_n S.1 S.2.1 dX9_goSaying_1 rfl (lv_at hl 0 rfl) ?_
  refine lv_iload_n S.1 S.2.1 dX9_goSaying_2 rfl (lv_at hl 1 rfl) ?_
  refine lv_aload_n S.1 S.2.1 dX9_goSaying_3 rfl (lv_at hl 0 rfl) ?_
  refine gf (C := RX9) (T := TX9) (N := 28) (ci := 5) (k := 15) S hK hW wu_X9 rfl (by decide) wf_X9_188 0 rfl rfl dX9_goSaying_4 ?_
  refine lv_aload_n S.1 S.2.1 dX9_goSaying_7 rfl (lv_at hl 0 rfl) ?_
  refine gf (C := RX9) (T := TX9) (N := 28) (ci := 5) (k := 16) S hK hW wu_X9 rfl (by decide) wf_X9_191 0 rfl rfl dX9_goSaying_8 ?_
  refine lv_aload_n S.1 S.2.1 dX9_goSaying_11 rfl (lv_at hl 0 rfl) ?_
  refine gf (C := RX9) (T := TX9) (N := 28) (ci := 5) (k := 17) S hK hW wu_X9 rfl (by decide) wf_X9_194 0 rfl rfl dX9_goSaying_12 ?_
  obtain ⟨r1, hy2, h⟩ := bd1_e h
  refine kv0 S hK hN hZ hA hW (rest := [.ref h0]) (t_X9_meritBy l dC dI cI cJ cZ cB zz h0 a0 c0 w0 p1 (c0 15 0) (c0 16 0) (c0 17 0) _  hy2) wl_X9_130 wv_X9_meritBy rfl rfl ⟨Nat.le_of_ble_eq_true rfl, Nat.le_of_ble_eq_true rfl⟩ [] [] rfl 0 rfl rfl rfl rfl hl.1 rfl (Nat.le_of_ble_eq_true rfl) dX9_goSaying_15 [.int r1, .ref h0] rfl (fun H locs hW => ?_)
  refine pf (C := RX9) (T := TX9) (N := 28) (ci := 5) (k := 16) (ty := .int) S hK hW wu_X9 rfl (by decide) tyX9 tyX9_ok nmX9 wf_X9_191 0 rfl rfl rfl rfl rfl (Nat.le_of_ble_eq_true rfl) dX9_goSaying_18 (fun H locs hW => ?_)
  have hW : wd (dC, dI) A s.heap (clX9 cI cJ cZ cB h0 a0 (c0 0) (c0 1) (c0 2) (c0 3) (w0 4 0) (w0 5 0) (c0 6) (c0 7) (c0 8) (c0 9) (c0 10) (c0 11) (c0 12) (c0 13) (c0 14 0) (c0 15 0) r1 (c0 17 0) (c0 18) (c0 19) (c0 20) (c0 21 0) (c0 22 0) (c0 23 0) (c0 24 0) (c0 25 0) (c0 26) (c0 27) []) H locs := hW
  refine lv_aload_n S.1 S.2.1 dX9_goSaying_21 rfl (lv_at hl 0 rfl) ?_
  refine lv_dup S.1 S.2.1 dX9_goSaying_22 rfl ?_
  refine gf (C := RX9) (T := TX9) (N := 28) (ci := 5) (k := 17) S hK hW wu_X9 rfl (by decide) wf_X9_194 0 rfl rfl dX9_goSaying_23 ?_
  refine lv_iconst (v := (1 : Int32)) S.1 S.2.1 dX9_goSaying_26 ki_1 ?_
  refine lv_iadd S.1 S.2.1 dX9_goSaying_27 ?_
  refine pf (C := RX9) (T := TX9) (N := 28) (ci := 5) (k := 17) (ty := .int) S hK hW wu_X9 rfl (by decide) tyX9 tyX9_ok nmX9 wf_X9_194 0 rfl rfl rfl rfl rfl (Nat.le_of_ble_eq_true rfl) dX9_goSaying_28 (fun H locs hW => ?_)
  have hW : wd (dC, dI) A s.heap (clX9 cI cJ cZ cB h0 a0 (c0 0) (c0 1) (c0 2) (c0 3) (w0 4 0) (w0 5 0) (c0 6) (c0 7) (c0 8) (c0 9) (c0 10) (c0 11) (c0 12) (c0 13) (c0 14 0) (c0 15 0) r1 ((c0 17 0) + (1 : Int32)) (c0 18) (c0 19) (c0 20) (c0 21 0) (c0 22 0) (c0 23 0) (c0 24 0) (c0 25 0) (c0 26) (c0 27) []) H locs := hW
  have f3 := Option.some.inj h
  subst f3
  exact rv S hr hlocks hW dX9_goSaying_31
