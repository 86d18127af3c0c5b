abbrev rmJ6_bitCount_0f7a4 : Room := { frames := 0, cells := 0, slots := 0, locals := 0 }
set_option maxHeartbeats 4000000 in
set_option maxRecDepth 100000 in
theorem t_J6_bitCount_0f7a4 (l : Launch) (dC : Nat → ClassId) (dI : Nat → Nat → Nat) (cI cJ cZ cB : ClassId) (zz : ZT)   (p0 : Int32) (r : Int32) (hm : md_J6_bitCount_0f7a4 p0 = some (r)) : ct l (dC, dI) zz (ty4 cI cJ cZ cB) yJ6_bitCount_0f7a4 cJ6_bitCount_0f7a4 1 (some .int) rmJ6_bitCount_0f7a4 [.int p0] [] [] (some (.int r)) := by
  refine ct_of (cc := cJ6_bitCount_0f7a4) (maxL := 1) (ret := (some .int)) (by decide) (Nat.le_of_ble_eq_true rfl) ?_
  intro p e s m below meth c A S hr hlocks hK hN hZ hA H locs hW ls hl
  have S : CallFix p m c cJ6_bitCount_0f7a4 1 s (List.toArray [.int p0]) G RJ6 := S
  have hl : lv_has ls 1 [(0, .int p0)] := hl
  have h := hm
  rw [md_J6_bitCount_0f7a4] at h
  have hW : wd (dC, dI) A s.heap [] H locs := hW
  refine lv_iload_n S.1 S.2.1 dJ6_bitCount_0f7a4_0 rfl (lv_at hl 0 rfl) ?_
  refine lv_iload_n S.1 S.2.1 dJ6_bitCount_0f7a4_1 rfl (lv_at hl 0 rfl) ?_
  refine lv_iconst (v := (1 : Int32)) S.1 S.2.1 dJ6_bitCount_0f7a4_2 ki_1 ?_
  refine lv_iushr S.1 S.2.1 dJ6_bitCount_0f7a4_3 rfl ?_
  refine lv_ldcw (v := (1431655765 : Int32)) S.1 S.2.1 S.2.2.2.1 (S.2.2.2.2 _ wk_J6_265) dJ6_bitCount_0f7a4_4 ?_
  refine lv_iand S.1 S.2.1 dJ6_bitCount_0f7a4_7 ?_
  refine lv_isub S.1 S.2.1 dJ6_bitCount_0f7a4_8 ?_
  obtain ⟨y1, e2, h⟩ := lt1_e h
  refine nmi e2 ?_
  refine lv_istore_n (lv' := [(0, .int y1)]) S.1 S.2.1 dJ6_bitCount_0f7a4_9 rfl hl (by decide) rfl (fun ls hl => ?_)
  refine lv_iload_n S.1 S.2.1 dJ6_bitCount_0f7a4_10 rfl (lv_at hl 0 rfl) ?_
  refine lv_ldcw (v := (858993459 : Int32)) S.1 S.2.1 S.2.2.2.1 (S.2.2.2.2 _ wk_J6_266) dJ6_bitCount_0f7a4_11 ?_
  refine lv_iand S.1 S.2.1 dJ6_bitCount_0f7a4_14 ?_
  refine lv_iload_n S.1 S.2.1 dJ6_bitCount_0f7a4_15 rfl (lv_at hl 0 rfl) ?_
  refine lv_iconst (v := (2 : Int32)) S.1 S.2.1 dJ6_bitCount_0f7a4_16 ki_2 ?_
  refine lv_iushr S.1 S.2.1 dJ6_bitCount_0f7a4_17 rfl ?_
  refine lv_ldcw (v := (858993459 : Int32)) S.1 S.2.1 S.2.2.2.1 (S.2.2.2.2 _ wk_J6_266) dJ6_bitCount_0f7a4_18 ?_
  refine lv_iand S.1 S.2.1 dJ6_bitCount_0f7a4_21 ?_
  refine lv_iadd S.1 S.2.1 dJ6_bitCount_0f7a4_22 ?_
  obtain ⟨y3, e4, h⟩ := lt1_e h
  refine nmi e4 ?_
  refine lv_istore_n (lv' := [(0, .int y3)]) S.1 S.2.1 dJ6_bitCount_0f7a4_23 rfl hl (by decide) rfl (fun ls hl => ?_)
  refine lv_iload_n S.1 S.2.1 dJ6_bitCount_0f7a4_24 rfl (lv_at hl 0 rfl) ?_
  refine lv_iload_n S.1 S.2.1 dJ6_bitCount_0f7a4_25 rfl (lv_at hl 0 rfl) ?_
  refine lv_iconst (v := (4 : Int32)) S.1 S.2.1 dJ6_bitCount_0f7a4_26 ki_4 ?_
  refine lv_iushr S.1 S.2.1 dJ6_bitCount_0f7a4_27 rfl ?_
  refine lv_iadd S.1 S.2.1 dJ6_bitCount_0f7a4_28 ?_
  refine lv_ldcw (v := (252645135 : Int32)) S.1 S.2.1 S.2.2.2.1 (S.2.2.2.2 _ wk_J6_267) dJ6_bitCount_0f7a4_29 ?_
  refine lv_iand S.1 S.2.1 dJ6_bitCount_0f7a4_32 ?_
  obtain ⟨y5, e6, h⟩ := lt1_e h
  refine nmi e6 ?_
  refine lv_istore_n (lv' := [(0, .int y5)]) S.1 S.2.1 dJ6_bitCount_0f7a4_33 rfl hl (by decide) rfl (fun ls hl => ?_)
  refine lv_iload_n S.1 S.2.1 dJ6_bitCount_0f7a4_34 rfl (lv_at hl 0 rfl) ?_
  refine lv_iload_n S.1 S.2.1 dJ6_bitCount_0f7a4_35 rfl (lv_at hl 0 rfl) ?_
  refine lv_bipush (v := (8 : Int32)) S.1 S.2.1 dJ6_bitCount_0f7a4_36 kb_8 ?_
  refine lv_iushr S.1 S.2.1 dJ6_bitCount_0f7a4_38 rfl ?_
  refine lv_iadd S.1 S.2.1 dJ6_bitCount_0f7a4_39 ?_
  obtain ⟨y7, e8, h⟩ := lt1_e h
  refine nmi e8 ?_
  refine lv_istore_n (lv' := [(0, .int y7)]) S.1 S.2.1 dJ6_bitCount_0f7a4_40 rfl hl (by decide) rfl (fun ls hl => ?_)
  refine lv_iload_n S.1 S.2.1 dJ6_bitCount_0f7a4_41 rfl (lv_at hl 0 rfl) ?_
  refine lv_iload_n S.1 S.2.1 dJ6_bitCount_0f7a4_42 rfl (lv_at hl 0 rfl) ?_
  refine lv_bipush (v := (16 : Int32)) S.1 S.2.1 dJ6_bitCount_0f7a4_43 kb_16 ?_
  refine lv_iushr S.1 S.2.1 dJ6_bitCount_0f7a4_45 rfl ?_
  refine lv_iadd S.1 S.2.1 dJ6_bitCount_0f7a4_46 ?_
  obtain ⟨y9, e10, h⟩ := lt1_e h
  refine nmi e10 ?_
  refine lv_istore_n (lv' := [(0, .int y9)]) S.1 S.2.1 dJ6_bitCount_0f7a4_47 rfl hl (by decide) rfl (fun ls hl => ?_)
  refine lv_iload_n S.1 S.2.1 dJ6_bitCount_0f7a4_48 rfl (lv_at hl 0 rfl) ?_
  refine lv_bipush (v := (63 : Int32)) S.1 S.2.1 dJ6_bitCount_0f7a4_49 kb_63 ?_
  refine lv_iand S.1 S.2.1 dJ6_bitCount_0f7a4_51 ?_
  have f11 := Option.some.inj h
  subst f11
  exact ri S hr hlocks hW dJ6_bitCount_0f7a4_52
abbrev rmX5_fierce : Room := { frames := 0, cells := 0, slots := 0, locals := 0 }
set_option maxHeartbeats 4000000 in
set_option maxRecDepth 100000 in
theorem t_X5_fierce (l : Launch) (dC : Nat → ClassId) (dI : Nat → Nat → Nat) (cI cJ cZ cB : ClassId) (zz : ZT)   (p0 : Int32) (r : Int32) (hm : md_X5_fierce p0 = some (r)) : ct l (dC, dI) zz (ty4 cI cJ cZ cB) yX5_fierce cX5_fierce 1 (some .int) rmX5_fierce [.int p0] [] [] (some (.int r)) := by
  refine ct_of (cc := cX5_fierce) (maxL := 1) (ret := (some .int)) (by decide) (Nat.le_of_ble_eq_true rfl) ?_
  intro p e s m below meth c A S hr hlocks hK hN hZ hA H locs hW ls hl
  have S : CallFix p m c cX5_fierce 1 s (List.toArray [.int p0]) G RX5 := S
  have hl : lv_has ls 1 [(0, .int p0)] := hl
  have h := hm
  rw [md_X5_fierce] at h
  have hW : wd (dC, dI) A s.heap [] H locs := hW
  refine lv_iload_n S.1 S.2.1 dX5_fierce_0 rfl (lv_at hl 0 rfl) ?_
  refine lv_iconst (v := (2 : Int32)) S.1 S.2.1 dX5_fierce_1 ki_2 ?_
  refine lv_iadd S.1 S.2.1 dX5_fierce_2 ?_
  have f1 := Option.some.inj h
  subst f1
  exact ri S hr hlocks hW dX5_fierce_3
abbrev rmX5_mild : Room := { frames := 0, cells := 0, slots := 0, locals := 0 }
set_option maxHeartbeats 4000000 in
set_option maxRecDepth 100000 in
theorem t_X5_mild (l : Launch) (dC : Nat → ClassId) (dI : Nat → Nat → Nat) (cI cJ cZ cB : ClassId) (zz : ZT)   (p0 : Int32) (r : Int32) (hm : md_X5_mild p0 = some (r)) : ct l (dC, dI) zz (ty4 cI cJ cZ cB) yX5_mild cX5_mild 1 (some .int) rmX5_mild [.int p0] [] [] (some (.int r)) := by
  refine ct_of (cc := cX5_mild) (maxL := 1) (ret := (some .int)) (by decide) (Nat.le_of_ble_eq_true rfl) ?_
  intro p e s m below meth c A S hr hlocks hK hN hZ hA H locs hW ls hl
  have S : CallFix p m c cX5_mild 1 s (List.toArray [.int p0]) G RX5 := S
  have hl : lv_has ls 1 [(0, .int p0)] := hl
  have h := hm
  rw [md_X5_mild] at h
  have hW : wd (dC, dI) A s.heap [] H locs := hW
  refine lv_iload_n S.1 S.2.1 dX5_mild_0 rfl (lv_at hl 0 rfl) ?_
  obtain ⟨y1, e2, h⟩ := lt1_e h
  suffices hM3 : ∀ ls : Array Slot, lv_has ls 1 [] → W p l e rmX5_mild s m (List.toArray [.int p0]) below meth c H locs 0 0 (MQ below (kQ (dC, dI) [] (some (.int r)) A) (List.toArray [.int p0]) s 0 0 A) (F0 m 11 ls [.int y1]) by
    refine lv_if_le (tgt := 10) S.1 S.2.1 dX5_mild_1 (by decide) (fun u4 => ?_) (fun u4 => ?_)
    · refine lv_iconst (v := (0 : Int32)) S.1 S.2.1 dX5_mild_10 ki_0 ?_
      have e2 := e2.trans (if_pos u4)
      subst e2
      exact hM3 ls (lv_sub hl [] rfl)
    · refine lv_iload_n S.1 S.2.1 dX5_mild_4 rfl (lv_at hl 0 rfl) ?_
      refine lv_iconst (v := (1 : Int32)) S.1 S.2.1 dX5_mild_5 ki_1 ?_
      refine lv_isub S.1 S.2.1 dX5_mild_6 ?_
      refine lv_goto (tgt := 11) S.1 S.2.1 dX5_mild_7 (by decide) ?_
      have e2 := e2.trans (if_neg u4)
      subst e2
      exact hM3 ls (lv_sub hl [] rfl)
  intro ls hl
  have f5 := Option.some.inj h
  subst f5
  exact ri S hr hlocks hW dX5_mild_11
abbrev rmX5_counted : Room := { frames := 1, cells := 0, slots := 0, locals := 20 }
set_option maxHeartbeats 4000000 in
set_option maxRecDepth 100000 in
theorem t_X5_counted (l : Launch) (dC : Nat → ClassId) (dI : Nat → Nat → Nat) (cI cJ cZ cB : ClassId) (zz : ZT)   (p0 : Int32) (p1 : Int32) (p2 : Int32) (r : Int32) (hm : md_X5_counted p0 p1 p2 = some (r)) : ct l (dC, dI) zz (ty4 cI cJ cZ cB) yX5_counted cX5_counted 3 (some .int) rmX5_counted [.int p0, .int p1, .int p2] [] [] (some (.int r)) := by
  refine ct_of (cc := cX5_counted) (maxL := 3) (ret := (some .int)) (by decide) (Nat.le_of_ble_eq_true rfl) ?_
  intro p e s m below meth c A S hr hlocks hK hN hZ hA H locs hW ls hl
  have S : CallFix p m c cX5_counted 3 s (List.toArray [.int p0, .int p1, .int p2]) G RX5 := S
  have hl : lv_has ls 3 [(0, .int p0), (1, .int p1), (2, .int p2)] := hl
  have h := hm
  rw [md_X5_counted] at h
  have hW : wd (dC, dI) A s.heap [] H locs := hW
  refine lv_iload_n S.1 S.2.1 dX5_counted_0 rfl (lv_at hl 0 rfl) ?_
  by_cases u1 : p0 = (1 : Int32)
  · have h := of_p u1 h
    refine lv_tableIn (off := 35) (tgt := 36) S.1 S.2.1 dX5_counted_1 (by rw [u1]; decide) (by rw [u1]; decide) (by rw [u1]; decide +kernel) (by decide) ?_
    refine lv_iload_n S.1 S.2.1 dX5_counted_36 rfl (lv_at hl 1 rfl) ?_
    obtain ⟨r2, hy3, h⟩ := bd1_e h
    refine ks0 S hK hN hZ hA hW (rest := []) (t_X5_fierce l dC dI cI cJ cZ cB zz p1 _  hy3) wl_X5_19 wv_X5_fierce rfl rfl ⟨Nat.le_of_ble_eq_true rfl, Nat.le_of_ble_eq_true rfl⟩ [] [] rfl rfl hl.1 rfl (Nat.le_of_ble_eq_true rfl) dX5_counted_37 [.int r2] rfl (fun H locs hW => ?_)
    have f4 := Option.some.inj h
    subst f4
    exact ri S hr hlocks hW dX5_counted_40
  · have h := of_n u1 h
    by_cases u5 : p0 = (2 : Int32)
    · have h := of_p u5 h
      refine lv_tableIn (off := 40) (tgt := 41) S.1 S.2.1 dX5_counted_1 (by rw [u5]; decide) (by rw [u5]; decide) (by rw [u5]; decide +kernel) (by decide) ?_
      refine lv_iload_n S.1 S.2.1 dX5_counted_41 rfl (lv_at hl 1 rfl) ?_
      obtain ⟨r6, hy7, h⟩ := bd1_e h
      refine ks0 S hK hN hZ hA hW (rest := []) (t_X5_mild l dC dI cI cJ cZ cB zz p1 _  hy7) wl_X5_22 wv_X5_mild rfl rfl ⟨Nat.le_of_ble_eq_true rfl, Nat.le_of_ble_eq_true rfl⟩ [] [] rfl rfl hl.1 rfl (Nat.le_of_ble_eq_true rfl) dX5_counted_42 [.int r6] rfl (fun H locs hW => ?_)
      have f8 := Option.some.inj h
      subst f8
      exact ri S hr hlocks hW dX5_counted_45
    · have h := of_n u5 h
      by_cases u9 : p0 = (3 : Int32)
      · have h := of_p u9 h
        refine lv_tableIn (off := 45) (tgt := 46) S.1 S.2.1 dX5_counted_1 (by rw [u9]; decide) (by rw [u9]; decide) (by rw [u9]; decide +kernel) (by decide) ?_
        refine lv_iload_n S.1 S.2.1 dX5_counted_46 rfl (lv_at hl 2 rfl) ?_
        refine lv_if_ne (tgt := 57) S.1 S.2.1 dX5_counted_47 (by decide) (fun u10 => ?_) (fun u10 => ?_)
        · have h := of_n u10 h
          refine lv_iload_n S.1 S.2.1 dX5_counted_57 rfl (lv_at hl 1 rfl) ?_
          obtain ⟨r11, hy12, h⟩ := bd1_e h
          refine ks0 S hK hN hZ hA hW (rest := []) (t_X5_fierce l dC dI cI cJ cZ cB zz p1 _  hy12) wl_X5_19 wv_X5_fierce rfl rfl ⟨Nat.le_of_ble_eq_true rfl, Nat.le_of_ble_eq_true rfl⟩ [] [] rfl rfl hl.1 rfl (Nat.le_of_ble_eq_true rfl) dX5_counted_58 [.int r11] rfl (fun H locs hW => ?_)
          refine lv_ineg S.1 S.2.1 dX5_counted_61 ?_
          have f13 := Option.some.inj h
          subst f13
          exact ri S hr hlocks hW dX5_counted_62
        · have h := of_p u10 h
          refine lv_iload_n S.1 S.2.1 dX5_counted_50 rfl (lv_at hl 1 rfl) ?_
          obtain ⟨r14, hy15, h⟩ := bd1_e h
          refine ks0 S hK hN hZ hA hW (rest := []) (t_X5_fierce l dC dI cI cJ cZ cB zz p1 _  hy15) wl_X5_19 wv_X5_fierce rfl rfl ⟨Nat.le_of_ble_eq_true rfl, Nat.le_of_ble_eq_true rfl⟩ [] [] rfl rfl hl.1 rfl (Nat.le_of_ble_eq_true rfl) dX5_counted_51 [.int r14] rfl (fun H locs hW => ?_)
          refine lv_goto (tgt := 62) S.1 S.2.1 dX5_counted_54 (by decide) ?_
          have f16 := Option.some.inj h
          subst f16
          exact ri S hr hlocks hW dX5_counted_62
      · have h := of_n u9 h
        by_cases u17 : p0 = (4 : Int32)
        · have h := of_p u17 h
          refine lv_tableIn (off := 62) (tgt := 63) S.1 S.2.1 dX5_counted_1 (by rw [u17]; decide) (by rw [u17]; decide) (by rw [u17]; decide +kernel) (by decide) ?_
          refine lv_iload_n S.1 S.2.1 dX5_counted_63 rfl (lv_at hl 1 rfl) ?_
          refine lv_iconst (v := (2 : Int32)) S.1 S.2.1 dX5_counted_64 ki_2 ?_
          refine lv_irem S.1 S.2.1 dX5_counted_65 (by decide) ?_
          refine lv_if_ne (tgt := 78) S.1 S.2.1 dX5_counted_66 (by decide) (fun u18 => ?_) (fun u18 => ?_)
          · have h := of_n u18 h
            refine lv_iload_n S.1 S.2.1 dX5_counted_78 rfl (lv_at hl 1 rfl) ?_
            obtain ⟨r19, hy20, h⟩ := bd1_e h
            refine ks0 S hK hN hZ hA hW (rest := []) (t_X5_mild l dC dI cI cJ cZ cB zz p1 _  hy20) wl_X5_22 wv_X5_mild rfl rfl ⟨Nat.le_of_ble_eq_true rfl, Nat.le_of_ble_eq_true rfl⟩ [] [] rfl rfl hl.1 rfl (Nat.le_of_ble_eq_true rfl) dX5_counted_79 [.int r19] rfl (fun H locs hW => ?_)
            have f21 := Option.some.inj h
            subst f21
            exact ri S hr hlocks hW dX5_counted_82
          · have h := of_p u18 h
            refine lv_iload_n S.1 S.2.1 dX5_counted_69 rfl (lv_at hl 1 rfl) ?_
            obtain ⟨r22, hy23, h⟩ := bd1_e h
            refine ks0 S hK hN hZ hA hW (rest := []) (t_X5_mild l dC dI cI cJ cZ cB zz p1 _  hy23) wl_X5_22 wv_X5_mild rfl rfl ⟨Nat.le_of_ble_eq_true rfl, Nat.le_of_ble_eq_true rfl⟩ [] [] rfl rfl hl.1 rfl (Nat.le_of_ble_eq_true rfl) dX5_counted_70 [.int r22] rfl (fun H locs hW => ?_)
            refine lv_iconst (v := (3 : Int32)) S.1 S.2.1 dX5_counted_73 ki_3 ?_
            refine lv_iadd S.1 S.2.1 dX5_counted_74 ?_
            refine lv_goto (tgt := 82) S.1 S.2.1 dX5_counted_75 (by decide) ?_
            have f24 := Option.some.inj h
            subst f24
            exact ri S hr hlocks hW dX5_counted_82
        · have h := of_n u17 h
          by_cases u25 : p0 = (5 : Int32)
          · have h := of_p u25 h
            refine lv_tableIn (off := 82) (tgt := 83) S.1 S.2.1 dX5_counted_1 (by rw [u25]; decide) (by rw [u25]; decide) (by rw [u25]; decide +kernel) (by decide) ?_
            refine lv_iload_n S.1 S.2.1 dX5_counted_83 rfl (lv_at hl 1 rfl) ?_
            obtain ⟨r26, hy27, h⟩ := bd1_e h
            refine ks0 S hK hN hZ hA hW (rest := []) (t_X5_fierce l dC dI cI cJ cZ cB zz p1 _  hy27) wl_X5_19 wv_X5_fierce rfl rfl ⟨Nat.le_of_ble_eq_true rfl, Nat.le_of_ble_eq_true rfl⟩ [] [] rfl rfl hl.1 rfl (Nat.le_of_ble_eq_true rfl) dX5_counted_84 [.int r26] rfl (fun H locs hW => ?_)
            refine lv_iconst (v := (2 : Int32)) S.1 S.2.1 dX5_counted_87 ki_2 ?_
            refine lv_idiv S.1 S.2.1 dX5_counted_88 (by decide) ?_
            have f28 := Option.some.inj h
            subst f28
            exact ri S hr hlocks hW dX5_counted_89
          · have h := of_n u25 h
            refine lv_tableOut (tgt := 90) S.1 S.2.1 dX5_counted_1 (by have z0 := lv_neT u1 (a := 1) (by decide); have z1 := lv_neT u5 (a := 2) (by decide); have z2 := lv_neT u9 (a := 3) (by decide); have z3 := lv_neT u17 (a := 4) (by decide); have z4 := lv_neT u25 (a := 5) (by decide); omega) (by decide) ?_
            refine lv_iload_n S.1 S.2.1 dX5_counted_90 rfl (lv_at hl 1 rfl) ?_
            have f29 := Option.some.inj h
            subst f29
            exact ri S hr hlocks hW dX5_counted_91
abbrev rmX5_evidence : Room := { frames := 0, cells := 0, slots := 0, locals := 0 }
set_option maxHeartbeats 4000000 in
set_option maxRecDepth 100000 in
theorem t_X5_evidence (l : Launch) (dC : Nat → ClassId) (dI : Nat → Nat → Nat) (cI cJ cZ cB : ClassId) (zz : ZT)   (p0 : Int32) (p1 : Int32) (r : Int32) (hm : md_X5_evidence p0 p1 = some (r)) : ct l (dC, dI) zz (ty4 cI cJ cZ cB) yX5_evidence cX5_evidence 2 (some .int) rmX5_evidence [.int p0, .int p1] [] [] (some (.int r)) := by
  refine ct_of (cc := cX5_evidence) (maxL := 2) (ret := (some .int)) (by decide) (Nat.le_of_ble_eq_true rfl) ?_
  intro p e s m below meth c A S hr hlocks hK hN hZ hA H locs hW ls hl
  have S : CallFix p m c cX5_evidence 2 s (List.toArray [.int p0, .int p1]) G RX5 := S
  have hl : lv_has ls 2 [(0, .int p0), (1, .int p1)] := hl
  have h := hm
  rw [md_X5_evidence] at h
  have hW : wd (dC, dI) A s.heap [] H locs := hW
  refine lv_iload_n S.1 S.2.1 dX5_evidence_0 rfl (lv_at hl 1 rfl) ?_
  obtain ⟨y1, e2, h⟩ := lt1_e h
  suffices hM3 : ∀ ls : Array Slot, lv_has ls 2 [] → W p l e rmX5_evidence s m (List.toArray [.int p0, .int p1]) below meth c H locs 0 0 (MQ below (kQ (dC, dI) [] (some (.int r)) A) (List.toArray [.int p0, .int p1]) s 0 0 A) (F0 m 11 ls [.int y1]) by
    refine lv_if_ge (tgt := 10) S.1 S.2.1 dX5_evidence_1 (by decide) (fun u4 => ?_) (fun u4 => ?_)
    · refine lv_iload_n S.1 S.2.1 dX5_evidence_10 rfl (lv_at hl 0 rfl) ?_
      have e2 := e2.trans (if_pos u4)
      subst e2
      exact hM3 ls (lv_sub hl [] rfl)
    · refine lv_iconst (v := (2 : Int32)) S.1 S.2.1 dX5_evidence_4 ki_2 ?_
      refine lv_iload_n S.1 S.2.1 dX5_evidence_5 rfl (lv_at hl 0 rfl) ?_
      refine lv_imul S.1 S.2.1 dX5_evidence_6 ?_
      refine lv_goto (tgt := 11) S.1 S.2.1 dX5_evidence_7 (by decide) ?_
      have e2 := e2.trans (if_neg u4)
      subst e2
      exact hM3 ls (lv_sub hl [] rfl)
  intro ls hl
  have f5 := Option.some.inj h
  subst f5
  exact ri S hr hlocks hW dX5_evidence_11
abbrev rmX5_hearsay : Room := { frames := 0, cells := 0, slots := 0, locals := 0 }
set_option maxHeartbeats 4000000 in
set_option maxRecDepth 100000 in
theorem t_X5_hearsay (l : Launch) (dC : Nat → ClassId) (dI : Nat → Nat → Nat) (cI cJ cZ cB : ClassId) (zz : ZT)   (p0 : Int32) (r : Int32) (hm : md_X5_hearsay p0 = some (r)) : ct l (dC, dI) zz (ty4 cI cJ cZ cB) yX5_hearsay cX5_hearsay 1 (some .int) rmX5_hearsay [.int p0] [] [] (some (.int r)) := by
  refine ct_of (cc := cX5_hearsay) (maxL := 1) (ret := (some .int)) (by decide) (Nat.le_of_ble_eq_true rfl) ?_
  intro p e s m below meth c A S hr hlocks hK hN hZ hA H locs hW ls hl
  have S : CallFix p m c cX5_hearsay 1 s (List.toArray [.int p0]) G RX5 := S
  have hl : lv_has ls 1 [(0, .int p0)] := hl
  have h := hm
  rw [md_X5_hearsay] at h
  have hW : wd (dC, dI) A s.heap [] H locs := hW
  refine lv_iload_n S.1 S.2.1 dX5_hearsay_0 rfl (lv_at hl 0 rfl) ?_
  refine lv_iconst (v := (1 : Int32)) S.1 S.2.1 dX5_hearsay_1 ki_1 ?_
  refine lv_iadd S.1 S.2.1 dX5_hearsay_2 ?_
  refine lv_iconst (v := (2 : Int32)) S.1 S.2.1 dX5_hearsay_3 ki_2 ?_
  refine lv_idiv S.1 S.2.1 dX5_hearsay_4 (by decide) ?_
  have f1 := Option.some.inj h
  subst f1
  exact ri S hr hlocks hW dX5_hearsay_5
abbrev rmX5_moved : Room := { frames := 1, cells := 0, slots := 0, locals := 21 }
set_option maxHeartbeats 4000000 in
set_option maxRecDepth 100000 in
theorem t_X5_moved (l : Launch) (dC : Nat → ClassId) (dI : Nat → Nat → Nat) (cI cJ cZ cB : ClassId) (zz : ZT)   (p0 : Int32) (p1 : Int32) (p2 : Int32) (p3 : Int32) (r : Int32) (hm : md_X5_moved p0 p1 p2 p3 = some (r)) : ct l (dC, dI) zz (ty4 cI cJ cZ cB) yX5_moved cX5_moved 4 (some .int) rmX5_moved [.int p0, .int p1, .int p2, .int p3] [] [] (some (.int r)) := by
  refine ct_of (cc := cX5_moved) (maxL := 4) (ret := (some .int)) (by decide) (Nat.le_of_ble_eq_true rfl) ?_
  intro p e s m below meth c A S hr hlocks hK hN hZ hA H locs hW ls hl
  have S : CallFix p m c cX5_moved 4 s (List.toArray [.int p0, .int p1, .int p2, .int p3]) G RX5 := S
  have hl : lv_has ls 4 [(0, .int p0), (1, .int p1), (2, .int p2), (3, .int p3)] := hl
  have h := hm
  rw [md_X5_moved] at h
  have hW : wd (dC, dI) A s.heap [] H locs := hW
  refine lv_iload_n S.1 S.2.1 dX5_moved_0 rfl (lv_at hl 0 rfl) ?_
  by_cases u1 : p0 = (1 : Int32)
  · have h := of_p u1 h
    refine lv_tableIn (off := 35) (tgt := 36) S.1 S.2.1 dX5_moved_1 (by rw [u1]; decide) (by rw [u1]; decide) (by rw [u1]; decide +kernel) (by decide) ?_
    refine lv_iload_n S.1 S.2.1 dX5_moved_36 rfl (lv_at hl 1 rfl) ?_
    obtain ⟨r2, hy3, h⟩ := bd1_e h
    refine ks0 S hK hN hZ hA hW (rest := []) (t_X5_hearsay l dC dI cI cJ cZ cB zz p1 _  hy3) wl_X5_9 wv_X5_hearsay rfl rfl ⟨Nat.le_of_ble_eq_true rfl, Nat.le_of_ble_eq_true rfl⟩ [] [] rfl rfl hl.1 rfl (Nat.le_of_ble_eq_true rfl) dX5_moved_37 [.int r2] rfl (fun H locs hW => ?_)
    have f4 := Option.some.inj h
    subst f4
    exact ri S hr hlocks hW dX5_moved_40
  · have h := of_n u1 h
    by_cases u5 : p0 = (2 : Int32)
    · have h := of_p u5 h
      refine lv_tableIn (off := 40) (tgt := 41) S.1 S.2.1 dX5_moved_1 (by rw [u5]; decide) (by rw [u5]; decide) (by rw [u5]; decide +kernel) (by decide) ?_
      refine lv_iload_n S.1 S.2.1 dX5_moved_41 rfl (lv_at hl 1 rfl) ?_
      refine lv_iload_n S.1 S.2.1 dX5_moved_42 rfl (lv_at hl 2 rfl) ?_
      obtain ⟨r6, hy7, h⟩ := bd1_e h
      refine ks0 S hK hN hZ hA hW (rest := []) (t_X5_evidence l dC dI cI cJ cZ cB zz p1 p2 _  hy7) wl_X5_15 wv_X5_evidence rfl rfl ⟨Nat.le_of_ble_eq_true rfl, Nat.le_of_ble_eq_true rfl⟩ [] [] rfl rfl hl.1 rfl (Nat.le_of_ble_eq_true rfl) dX5_moved_43 [.int r6] rfl (fun H locs hW => ?_)
      have f8 := Option.some.inj h
      subst f8
      exact ri S hr hlocks hW dX5_moved_46
    · have h := of_n u5 h
      by_cases u9 : p0 = (3 : Int32)
      · have h := of_p u9 h
        refine lv_tableIn (off := 46) (tgt := 47) S.1 S.2.1 dX5_moved_1 (by rw [u9]; decide) (by rw [u9]; decide) (by rw [u9]; decide +kernel) (by decide) ?_
        refine lv_iload_n S.1 S.2.1 dX5_moved_47 rfl (lv_at hl 1 rfl) ?_
        obtain ⟨r10, hy11, h⟩ := bd1_e h
        refine ks0 S hK hN hZ hA hW (rest := []) (t_X5_hearsay l dC dI cI cJ cZ cB zz p1 _  hy11) wl_X5_9 wv_X5_hearsay rfl rfl ⟨Nat.le_of_ble_eq_true rfl, Nat.le_of_ble_eq_true rfl⟩ [] [] rfl rfl hl.1 rfl (Nat.le_of_ble_eq_true rfl) dX5_moved_48 [.int r10] rfl (fun H locs hW => ?_)
        refine lv_iload_n S.1 S.2.1 dX5_moved_51 rfl (lv_at hl 3 rfl) ?_
        refine lv_iadd S.1 S.2.1 dX5_moved_52 ?_
        have f12 := Option.some.inj h
        subst f12
        exact ri S hr hlocks hW dX5_moved_53
      · have h := of_n u9 h
        by_cases u13 : p0 = (4 : Int32)
        · have h := of_p u13 h
          refine lv_tableIn (off := 53) (tgt := 54) S.1 S.2.1 dX5_moved_1 (by rw [u13]; decide) (by rw [u13]; decide) (by rw [u13]; decide +kernel) (by decide) ?_
          refine lv_iload_n S.1 S.2.1 dX5_moved_54 rfl (lv_at hl 1 rfl) ?_
          refine lv_iload_n S.1 S.2.1 dX5_moved_55 rfl (lv_at hl 2 rfl) ?_
          obtain ⟨r14, hy15, h⟩ := bd1_e h
          refine ks0 S hK hN hZ hA hW (rest := []) (t_X5_evidence l dC dI cI cJ cZ cB zz p1 p2 _  hy15) wl_X5_15 wv_X5_evidence rfl rfl ⟨Nat.le_of_ble_eq_true rfl, Nat.le_of_ble_eq_true rfl⟩ [] [] rfl rfl hl.1 rfl (Nat.le_of_ble_eq_true rfl) dX5_moved_56 [.int r14] rfl (fun H locs hW => ?_)
          refine lv_iconst (v := (2 : Int32)) S.1 S.2.1 dX5_moved_59 ki_2 ?_
          refine lv_iadd S.1 S.2.1 dX5_moved_60 ?_
          have f16 := Option.some.inj h
          subst f16
          exact ri S hr hlocks hW dX5_moved_61
        · have h := of_n u13 h
          by_cases u17 : p0 = (5 : Int32)
          · have h := of_p u17 h
            refine lv_tableIn (off := 61) (tgt := 62) S.1 S.2.1 dX5_moved_1 (by rw [u17]; decide) (by rw [u17]; decide) (by rw [u17]; decide +kernel) (by decide) ?_
            refine lv_iload_n S.1 S.2.1 dX5_moved_62 rfl (lv_at hl 3 rfl) ?_
            refine lv_iconst (v := (2 : Int32)) S.1 S.2.1 dX5_moved_63 ki_2 ?_
            refine lv_irem S.1 S.2.1 dX5_moved_64 (by decide) ?_
            obtain ⟨y18, e19, h⟩ := lt1_e h
            suffices hM20 : ∀ ls : Array Slot, lv_has ls 4 [] → W p l e rmX5_moved s m (List.toArray [.int p0, .int p1, .int p2, .int p3]) below meth c H locs 0 0 (MQ below (kQ (dC, dI) [] (some (.int r)) A) (List.toArray [.int p0, .int p1, .int p2, .int p3]) s 0 0 A) (F0 m 73 ls [.int y18]) by
              refine lv_if_eq (tgt := 72) S.1 S.2.1 dX5_moved_65 (by decide) (fun u21 => ?_) (fun u21 => ?_)
              · refine lv_iload_n S.1 S.2.1 dX5_moved_72 rfl (lv_at hl 1 rfl) ?_
                have e19 := e19.trans (if_pos u21)
                subst e19
                exact hM20 ls (lv_sub hl [] rfl)
              · refine lv_iconst (v := (0 : Int32)) S.1 S.2.1 dX5_moved_68 ki_0 ?_
                refine lv_goto (tgt := 73) S.1 S.2.1 dX5_moved_69 (by decide) ?_
                have e19 := e19.trans (if_neg u21)
                subst e19
                exact hM20 ls (lv_sub hl [] rfl)
            intro ls hl
            have f22 := Option.some.inj h
            subst f22
            exact ri S hr hlocks hW dX5_moved_73
          · have h := of_n u17 h
            refine lv_tableOut (tgt := 74) S.1 S.2.1 dX5_moved_1 (by have z0 := lv_neT u1 (a := 1) (by decide); have z1 := lv_neT u5 (a := 2) (by decide); have z2 := lv_neT u9 (a := 3) (by decide); have z3 := lv_neT u13 (a := 4) (by decide); have z4 := lv_neT u17 (a := 5) (by decide); omega) (by decide) ?_
            refine lv_iload_n S.1 S.2.1 dX5_moved_74 rfl (lv_at hl 1 rfl) ?_
            have f23 := Option.some.inj h
            subst f23
            exact ri S hr hlocks hW dX5_moved_75
abbrev rmX8_has : Room := { frames := 0, cells := 0, slots := 0, locals := 0 }
set_option maxHeartbeats 4000000 in
set_option maxRecDepth 100000 in
theorem t_X8_has (l : Launch) (dC : Nat → ClassId) (dI : Nat → Nat → Nat) (cI cJ cZ cB : ClassId) (zz : ZT)   (p0 : Int32) (p1 : Int32) (r : Int32) (hm : md_X8_has p0 p1 = some (r)) : ct l (dC, dI) zz (ty4 cI cJ cZ cB) yX8_has cX8_has 2 (some .boolean) rmX8_has [.int p0, .int p1] [] [] (some (.int r)) := by
  refine ct_of (cc := cX8_has) (maxL := 2) (ret := (some .boolean)) (by decide) (Nat.le_of_ble_eq_true rfl) ?_
  intro p e s m below meth c A S hr hlocks hK hN hZ hA H locs hW ls hl
  have S : CallFix p m c cX8_has 2 s (List.toArray [.int p0, .int p1]) G RX8 := S
  have hl : lv_has ls 2 [(0, .int p0), (1, .int p1)] := hl
  have h := hm
  rw [md_X8_has] at h
  have hW : wd (dC, dI) A s.heap [] H locs := hW
  refine lv_iload_n S.1 S.2.1 dX8_has_0 rfl (lv_at hl 0 rfl) ?_
  refine lv_iload_n S.1 S.2.1 dX8_has_1 rfl (lv_at hl 1 rfl) ?_
  refine lv_ishr S.1 S.2.1 dX8_has_2 ?_
  refine lv_iconst (v := (1 : Int32)) S.1 S.2.1 dX8_has_3 ki_1 ?_
  refine lv_iand S.1 S.2.1 dX8_has_4 ?_
  obtain ⟨y1, e2, h⟩ := lt1_e h
  suffices hM3 : ∀ ls : Array Slot, lv_has ls 2 [] → W p l e rmX8_has s m (List.toArray [.int p0, .int p1]) below meth c H locs 0 0 (MQ below (kQ (dC, dI) [] (some (.int r)) A) (List.toArray [.int p0, .int p1]) s 0 0 A) (F0 m 13 ls [.int y1]) by
    refine lv_if_eq (tgt := 12) S.1 S.2.1 dX8_has_5 (by decide) (fun u4 => ?_) (fun u4 => ?_)
    · refine lv_iconst (v := (0 : Int32)) S.1 S.2.1 dX8_has_12 ki_0 ?_
      have e2 := e2.trans (if_pos u4)
      subst e2
      exact hM3 ls (lv_sub hl [] rfl)
    · refine lv_iconst (v := (1 : Int32)) S.1 S.2.1 dX8_has_8 ki_1 ?_
      refine lv_goto (tgt := 13) S.1 S.2.1 dX8_has_9 (by decide) ?_
      have e2 := e2.trans (if_neg u4)
      subst e2
      exact hM3 ls (lv_sub hl [] rfl)
  intro ls hl
  obtain ⟨z5, h⟩ := of_g h
  have f6 := Option.some.inj h
  subst f6
  exact rz S hr hlocks hW (nz z5) dX8_has_13
abbrev rmX8_within : Room := { frames := 0, cells := 0, slots := 0, locals := 0 }
set_option maxHeartbeats 4000000 in
set_option maxRecDepth 100000 in
theorem t_X8_within (l : Launch) (dC : Nat → ClassId) (dI : Nat → Nat → Nat) (cI cJ cZ cB : ClassId) (zz : ZT)   (p0 : Int32) (p1 : Int32) (p2 : Int32) (r : Int32) (hm : md_X8_within p0 p1 p2 = some (r)) : ct l (dC, dI) zz (ty4 cI cJ cZ cB) yX8_within cX8_within 3 (some .boolean) rmX8_within [.int p0, .int p1, .int p2] [] [] (some (.int r)) := by
  refine ct_of (cc := cX8_within) (maxL := 3) (ret := (some .boolean)) (by decide) (Nat.le_of_ble_eq_true rfl) ?_
  intro p e s m below meth c A S hr hlocks hK hN hZ hA H locs hW ls hl
  have S : CallFix p m c cX8_within 3 s (List.toArray [.int p0, .int p1, .int p2]) G RX8 := S
  have hl : lv_has ls 3 [(0, .int p0), (1, .int p1), (2, .int p2)] := hl
  have h := hm
  rw [md_X8_within] at h
  have hW : wd (dC, dI) A s.heap [] H locs := hW
  refine lv_iload_n S.1 S.2.1 dX8_within_0 rfl (lv_at hl 0 rfl) ?_
  refine lv_iload_n S.1 S.2.1 dX8_within_1 rfl (lv_at hl 1 rfl) ?_
  obtain ⟨y1, e2, h⟩ := lt1_e h
  suffices hM3 : ∀ ls : Array Slot, lv_has ls 3 [] → W p l e rmX8_within s m (List.toArray [.int p0, .int p1, .int p2]) below meth c H locs 0 0 (MQ below (kQ (dC, dI) [] (some (.int r)) A) (List.toArray [.int p0, .int p1, .int p2]) s 0 0 A) (F0 m 15 ls [.int y1]) by
    refine lv_icmp_gt (tgt := 14) S.1 S.2.1 dX8_within_2 (by decide) (fun u4 => ?_) (fun u4 => ?_)
    · refine lv_iconst (v := (0 : Int32)) S.1 S.2.1 dX8_within_14 ki_0 ?_
      have e2 := e2.trans (if_pos u4)
      subst e2
      exact hM3 ls (lv_sub hl [] rfl)
    · refine lv_iload_n S.1 S.2.1 dX8_within_5 rfl (lv_at hl 1 rfl) ?_
      refine lv_iload_n S.1 S.2.1 dX8_within_6 rfl (lv_at hl 2 rfl) ?_
      refine lv_icmp_gt (tgt := 14) S.1 S.2.1 dX8_within_7 (by decide) (fun u5 => ?_) (fun u5 => ?_)
      · refine lv_iconst (v := (0 : Int32)) S.1 S.2.1 dX8_within_14 ki_0 ?_
        have e2 := e2.trans ((if_neg u4).trans (if_pos u5))
        subst e2
        exact hM3 ls (lv_sub hl [] rfl)
      · refine lv_iconst (v := (1 : Int32)) S.1 S.2.1 dX8_within_10 ki_1 ?_
        refine lv_goto (tgt := 15) S.1 S.2.1 dX8_within_11 (by decide) ?_
        have e2 := e2.trans ((if_neg u4).trans (if_neg u5))
        subst e2
        exact hM3 ls (lv_sub hl [] rfl)
  intro ls hl
  obtain ⟨z6, h⟩ := of_g h
  have f7 := Option.some.inj h
  subst f7
  exact rz S hr hlocks hW (nz z6) dX8_within_15
abbrev rmX8_isCounsel : Room := { frames := 1, cells := 0, slots := 0, locals := 22 }
set_option maxHeartbeats 4000000 in
set_option maxRecDepth 100000 in
theorem t_X8_isCounsel (l : Launch) (dC : Nat → ClassId) (dI : Nat → Nat → Nat) (cI cJ cZ cB : ClassId) (zz : ZT)   (p0 : Int32) (r : Int32) (hm : md_X8_isCounsel p0 = some (r)) : ct l (dC, dI) zz (ty4 cI cJ cZ cB) yX8_isCounsel cX8_isCounsel 1 (some .boolean) rmX8_isCounsel [.int p0] [] [] (some (.int r)) := by
  refine ct_of (cc := cX8_isCounsel) (maxL := 1) (ret := (some .boolean)) (by decide) (Nat.le_of_ble_eq_true rfl) ?_
  intro p e s m below meth c A S hr hlocks hK hN hZ hA H locs hW ls hl
  have S : CallFix p m c cX8_isCounsel 1 s (List.toArray [.int p0]) G RX8 := S
  have hl : lv_has ls 1 [(0, .int p0)] := hl
  have h := hm
  rw [md_X8_isCounsel] at h
  have hW : wd (dC, dI) A s.heap [] H locs := hW
  refine lv_iconst (v := (0 : Int32)) S.1 S.2.1 dX8_isCounsel_0 ki_0 ?_
  refine lv_iload_n S.1 S.2.1 dX8_isCounsel_1 rfl (lv_at hl 0 rfl) ?_
  refine lv_iconst (v := (1 : Int32)) S.1 S.2.1 dX8_isCounsel_2 ki_1 ?_
  obtain ⟨r1, hy2, h⟩ := bd1_e h
  refine ks0 S hK hN hZ hA hW (rest := []) (t_X8_within l dC dI cI cJ cZ cB zz (0 : Int32) p0 (1 : Int32) _  hy2) wl_X8_71 wv_X8_within rfl rfl ⟨Nat.le_of_ble_eq_true rfl, Nat.le_of_ble_eq_true rfl⟩ [] [] rfl rfl hl.1 rfl (Nat.le_of_ble_eq_true rfl) dX8_isCounsel_3 [.int r1] rfl (fun H locs hW => ?_)
  obtain ⟨z3, h⟩ := of_g h
  have f4 := Option.some.inj h
  subst f4
  exact rz S hr hlocks hW (nz z3) dX8_isCounsel_6
abbrev rmX5_mostMovingAlike : Room := { frames := 2, cells := 0, slots := 0, locals := 44 }
set_option maxHeartbeats 4000000 in
set_option maxRecDepth 100000 in
theorem t_X5_mostMovingAlike (l : Launch) (dC : Nat → ClassId) (dI : Nat → Nat → Nat) (cI cJ cZ cB : ClassId) (zz : ZT)   (F : Nat) (p0 : Int32) (p1 : Int32) (p2 : Int32) (p3 : Int32) (r : Int32) (hm : md_X5_mostMovingAlike F p0 p1 p2 p3 = some (r)) : ct l (dC, dI) zz (ty4 cI cJ cZ cB) yX5_mostMovingAlike cX5_mostMovingAlike 8 (some .int) rmX5_mostMovingAlike [.int p0, .int p1, .int p2, .int p3] [] [] (some (.int r)) := by
  refine ct_of (cc := cX5_mostMovingAlike) (maxL := 8) (ret := (some .int)) (by decide) (Nat.le_of_ble_eq_true rfl) ?_
  intro p e s m below meth c A S hr hlocks hK hN hZ hA H locs hW ls hl
  have S : CallFix p m c cX5_mostMovingAlike 8 s (List.toArray [.int p0, .int p1, .int p2, .int p3]) G RX5 := S
  have hl : lv_has ls 8 [(0, .int p0), (1, .int p1), (2, .int p2), (3, .int p3)] := hl
  have h := hm
  rw [md_X5_mostMovingAlike] at h
  have hW : wd (dC, dI) A s.heap [] H locs := hW
  have hL6 : ∀ (n6 : Nat) (x0 : Int32) (x1 : Int32) (x2 : Int32) (x3 : Int32) (x4 : Int32) (x5 : Int32), ld_X5_mostMovingAlike_6 F n6 x0 x1 x2 x3 x4 x5 = some (r) → ∀ (H : Heap) (locs : List Loc), wd (dC, dI) A s.heap [] H locs → ∀ ls : Array Slot, lv_has ls 8 [(0, .int x0), (1, .int x1), (2, .int x2), (3, .int x3), (4, .int x4), (5, .int x5)] → W p l e rmX5_mostMovingAlike s m (List.toArray [.int p0, .int p1, .int p2, .int p3]) below meth c H locs 0 0 (MQ below (kQ (dC, dI) [] (some (.int r)) A) (List.toArray [.int p0, .int p1, .int p2, .int p3]) s 0 0 A) (F0 m 6 ls []) := by
    intro n6
    induction n6 with
    | zero => intro x0 x1 x2 x3 x4 x5 h; rw [ld_X5_mostMovingAlike_6] at h; cases h
    | succ n6 ih6 =>
      intro x0 x1 x2 x3 x4 x5 h H locs hW ls hl
      rw [ld_X5_mostMovingAlike_6] at h
      have hL18 : ∀ (n18 : Nat) (x0 : Int32) (x1 : Int32) (x2 : Int32) (x3 : Int32) (x4 : Int32) (x5 : Int32) (x6 : Int32) (x7 : Int32), ld_X5_mostMovingAlike_18 F (ld_X5_mostMovingAlike_6 F n6) n18 x0 x1 x2 x3 x4 x5 x6 x7 = some (r) → ∀ (H : Heap) (locs : List Loc), wd (dC, dI) A s.heap [] H locs → ∀ ls : Array Slot, lv_has ls 8 [(0, .int x0), (1, .int x1), (2, .int x2), (3, .int x3), (4, .int x4), (5, .int x5), (6, .int x6), (7, .int x7)] → W p l e rmX5_mostMovingAlike s m (List.toArray [.int p0, .int p1, .int p2, .int p3]) below meth c H locs 0 0 (MQ below (kQ (dC, dI) [] (some (.int r)) A) (List.toArray [.int p0, .int p1, .int p2, .int p3]) s 0 0 A) (F0 m 18 ls []) := by
        intro n18
        induction n18 with
        | zero => intro x0 x1 x2 x3 x4 x5 x6 x7 h; rw [ld_X5_mostMovingAlike_18] at h; cases h
        | succ n18 ih18 =>
          intro x0 x1 x2 x3 x4 x5 x6 x7 h H locs hW ls hl
          rw [ld_X5_mostMovingAlike_18] at h
          refine lv_iload S.1 S.2.1 dX5_mostMovingAlike_18 (lv_at hl 7 rfl) ?_
          refine lv_iconst (v := (5 : Int32)) S.1 S.2.1 dX5_mostMovingAlike_20 ki_5 ?_
          refine lv_icmp_gt (tgt := 70) S.1 S.2.1 dX5_mostMovingAlike_21 (by decide) (fun u1 => ?_) (fun u1 => ?_)
          · have h := of_p u1 h
            refine lv_iload S.1 S.2.1 dX5_mostMovingAlike_70 (lv_at hl 4 rfl) ?_
            refine lv_iload S.1 S.2.1 dX5_mostMovingAlike_72 (lv_at hl 6 rfl) ?_
            refine va_mmax S.1 S.2.1 (S.2.2.1.trans hl.1.symm) S.2.2.2.1 (S.2.2.2.2 _ wl_X5_36) (S.2.2.2.2 _ ws_max) (S.2.2.2.2 _ wi_J9) (S.2.2.2.2 _ wo_max) (Nat.le_of_ble_eq_true rfl) (Nat.le_of_ble_eq_true rfl) (Nat.zero_le _) (Nat.zero_le _) dX5_mostMovingAlike_74 ?_
            obtain ⟨y2, e3, h⟩ := lt1_e h
            refine nmi e3 ?_
            refine lv_istore (lv' := [(4, .int y2), (0, .int x0), (1, .int x1), (2, .int x2), (3, .int x3), (5, .int x5), (6, .int x6), (7, .int x7)]) S.1 S.2.1 dX5_mostMovingAlike_77 hl (by decide) rfl (fun ls hl => ?_)
            refine lv_iinc (v := (x5 + (1 : Int32))) (lv' := [(5, .int (x5 + (1 : Int32))), (4, .int y2), (0, .int x0), (1, .int x1), (2, .int x2), (3, .int x3), (6, .int x6), (7, .int x7)]) S.1 S.2.1 dX5_mostMovingAlike_79 hl (k := 5) rfl (congrArg (fun z => x5 + z) ki_1) (by decide) rfl (fun ls hl => ?_)
            refine lv_goto (tgt := 6) S.1 S.2.1 dX5_mostMovingAlike_82 (by decide) ?_
            exact ih6 _ _ _ _ _ _ h H locs hW ls (lv_sub hl [2, 3, 4, 5, 1, 0] rfl)
          · have h := of_n u1 h
            refine lv_iload_n S.1 S.2.1 dX5_mostMovingAlike_24 rfl (lv_at hl 0 rfl) ?_
            refine lv_iload S.1 S.2.1 dX5_mostMovingAlike_25 (lv_at hl 5 rfl) ?_
            obtain ⟨r4, hy5, h⟩ := bd1_e h
            refine kn0 S hK hN hZ hA hW (rest := []) (t_X8_has l dC dI cI cJ cZ cB zz x0 x5 _  hy5) wx_X5_29 wv_X8_has rfl rfl ⟨Nat.le_of_ble_eq_true rfl, Nat.le_of_ble_eq_true rfl⟩ [] [] rfl rfl hl.1 rfl (Nat.le_of_ble_eq_true rfl) dX5_mostMovingAlike_27 [.int r4] rfl (fun H locs hW => ?_)
            refine lv_if_eq (tgt := 64) S.1 S.2.1 dX5_mostMovingAlike_30 (by decide) (fun u6 => ?_) (fun u6 => ?_)
            · have h := of_p u6 h
              refine lv_iinc (v := (x7 + (1 : Int32))) (lv' := [(7, .int (x7 + (1 : Int32))), (0, .int x0), (1, .int x1), (2, .int x2), (3, .int x3), (4, .int x4), (5, .int x5), (6, .int x6)]) S.1 S.2.1 dX5_mostMovingAlike_64 hl (k := 7) rfl (congrArg (fun z => x7 + z) ki_1) (by decide) rfl (fun ls hl => ?_)
              refine lv_goto (tgt := 18) S.1 S.2.1 dX5_mostMovingAlike_67 (by decide) ?_
              exact ih18 _ _ _ _ _ _ _ _ h H locs hW ls (lv_sub hl [1, 2, 3, 4, 5, 6, 7, 0] rfl)
            · have h := of_n u6 h
              refine lv_iload_n S.1 S.2.1 dX5_mostMovingAlike_33 rfl (lv_at hl 0 rfl) ?_
              refine lv_iload S.1 S.2.1 dX5_mostMovingAlike_34 (lv_at hl 7 rfl) ?_
              obtain ⟨r7, hy8, h⟩ := bd1_e h
              refine kn0 S hK hN hZ hA hW (rest := []) (t_X8_has l dC dI cI cJ cZ cB zz x0 x7 _  hy8) wx_X5_29 wv_X8_has rfl rfl ⟨Nat.le_of_ble_eq_true rfl, Nat.le_of_ble_eq_true rfl⟩ [] [] rfl rfl hl.1 rfl (Nat.le_of_ble_eq_true rfl) dX5_mostMovingAlike_36 [.int r7] rfl (fun H locs hW => ?_)
              refine lv_if_eq (tgt := 64) S.1 S.2.1 dX5_mostMovingAlike_39 (by decide) (fun u9 => ?_) (fun u9 => ?_)
              · have h := of_p u9 h
                refine lv_iinc (v := (x7 + (1 : Int32))) (lv' := [(7, .int (x7 + (1 : Int32))), (0, .int x0), (1, .int x1), (2, .int x2), (3, .int x3), (4, .int x4), (5, .int x5), (6, .int x6)]) S.1 S.2.1 dX5_mostMovingAlike_64 hl (k := 7) rfl (congrArg (fun z => x7 + z) ki_1) (by decide) rfl (fun ls hl => ?_)
                refine lv_goto (tgt := 18) S.1 S.2.1 dX5_mostMovingAlike_67 (by decide) ?_
                exact ih18 _ _ _ _ _ _ _ _ h H locs hW ls (lv_sub hl [1, 2, 3, 4, 5, 6, 7, 0] rfl)
              · have h := of_n u9 h
                refine lv_iload S.1 S.2.1 dX5_mostMovingAlike_42 (lv_at hl 5 rfl) ?_
                refine lv_iload_n S.1 S.2.1 dX5_mostMovingAlike_44 rfl (lv_at hl 1 rfl) ?_
                refine lv_iload_n S.1 S.2.1 dX5_mostMovingAlike_45 rfl (lv_at hl 2 rfl) ?_
                refine lv_iload_n S.1 S.2.1 dX5_mostMovingAlike_46 rfl (lv_at hl 3 rfl) ?_
                obtain ⟨r10, hy11, h⟩ := bd1_e h
                refine ks0 S hK hN hZ hA hW (rest := []) (t_X5_moved l dC dI cI cJ cZ cB zz x5 x1 x2 x3 _  hy11) wl_X5_33 wv_X5_moved rfl rfl ⟨Nat.le_of_ble_eq_true rfl, Nat.le_of_ble_eq_true rfl⟩ [] [] rfl rfl hl.1 rfl (Nat.le_of_ble_eq_true rfl) dX5_mostMovingAlike_47 [.int r10] rfl (fun H locs hW => ?_)
                refine lv_iload S.1 S.2.1 dX5_mostMovingAlike_50 (lv_at hl 7 rfl) ?_
                refine lv_iload_n S.1 S.2.1 dX5_mostMovingAlike_52 rfl (lv_at hl 1 rfl) ?_
                refine lv_iload_n S.1 S.2.1 dX5_mostMovingAlike_53 rfl (lv_at hl 2 rfl) ?_
                refine lv_iload_n S.1 S.2.1 dX5_mostMovingAlike_54 rfl (lv_at hl 3 rfl) ?_
                obtain ⟨r12, hy13, h⟩ := bd1_e h
                refine ks0 S hK hN hZ hA hW (rest := [.int r10]) (t_X5_moved l dC dI cI cJ cZ cB zz x7 x1 x2 x3 _  hy13) wl_X5_33 wv_X5_moved rfl rfl ⟨Nat.le_of_ble_eq_true rfl, Nat.le_of_ble_eq_true rfl⟩ [] [] rfl rfl hl.1 rfl (Nat.le_of_ble_eq_true rfl) dX5_mostMovingAlike_55 [.int r12, .int r10] rfl (fun H locs hW => ?_)
                refine lv_icmp_ne (tgt := 64) S.1 S.2.1 dX5_mostMovingAlike_58 (by decide) (fun u14 => ?_) (fun u14 => ?_)
                · have h := of_n u14 h
                  refine lv_iinc (v := (x7 + (1 : Int32))) (lv' := [(7, .int (x7 + (1 : Int32))), (0, .int x0), (1, .int x1), (2, .int x2), (3, .int x3), (4, .int x4), (5, .int x5), (6, .int x6)]) S.1 S.2.1 dX5_mostMovingAlike_64 hl (k := 7) rfl (congrArg (fun z => x7 + z) ki_1) (by decide) rfl (fun ls hl => ?_)
                  refine lv_goto (tgt := 18) S.1 S.2.1 dX5_mostMovingAlike_67 (by decide) ?_
                  exact ih18 _ _ _ _ _ _ _ _ h H locs hW ls (lv_sub hl [1, 2, 3, 4, 5, 6, 7, 0] rfl)
                · have h := of_p u14 h
                  refine lv_iinc (v := (x6 + (1 : Int32))) (lv' := [(6, .int (x6 + (1 : Int32))), (0, .int x0), (1, .int x1), (2, .int x2), (3, .int x3), (4, .int x4), (5, .int x5), (7, .int x7)]) S.1 S.2.1 dX5_mostMovingAlike_61 hl (k := 6) rfl (congrArg (fun z => x6 + z) ki_1) (by decide) rfl (fun ls hl => ?_)
                  refine lv_iinc (v := (x7 + (1 : Int32))) (lv' := [(7, .int (x7 + (1 : Int32))), (6, .int (x6 + (1 : Int32))), (0, .int x0), (1, .int x1), (2, .int x2), (3, .int x3), (4, .int x4), (5, .int x5)]) S.1 S.2.1 dX5_mostMovingAlike_64 hl (k := 7) rfl (congrArg (fun z => x7 + z) ki_1) (by decide) rfl (fun ls hl => ?_)
                  refine lv_goto (tgt := 18) S.1 S.2.1 dX5_mostMovingAlike_67 (by decide) ?_
                  exact ih18 _ _ _ _ _ _ _ _ h H locs hW ls (lv_sub hl [2, 3, 4, 5, 6, 7, 1, 0] rfl)
      refine lv_iload S.1 S.2.1 dX5_mostMovingAlike_6 (lv_at hl 5 rfl) ?_
      refine lv_iconst (v := (5 : Int32)) S.1 S.2.1 dX5_mostMovingAlike_8 ki_5 ?_
      refine lv_icmp_gt (tgt := 85) S.1 S.2.1 dX5_mostMovingAlike_9 (by decide) (fun u15 => ?_) (fun u15 => ?_)
      · have h := of_p u15 h
        refine lv_iload S.1 S.2.1 dX5_mostMovingAlike_85 (lv_at hl 4 rfl) ?_
        have f16 := Option.some.inj h
        subst f16
        exact ri S hr hlocks hW dX5_mostMovingAlike_87
      · have h := of_n u15 h
        refine lv_iconst (v := (0 : Int32)) S.1 S.2.1 dX5_mostMovingAlike_12 ki_0 ?_
        refine lv_istore (lv' := [(6, .int (0 : Int32)), (0, .int x0), (1, .int x1), (2, .int x2), (3, .int x3), (4, .int x4), (5, .int x5)]) S.1 S.2.1 dX5_mostMovingAlike_13 hl (by decide) rfl (fun ls hl => ?_)
        refine lv_iconst (v := (0 : Int32)) S.1 S.2.1 dX5_mostMovingAlike_15 ki_0 ?_
        refine lv_istore (lv' := [(7, .int (0 : Int32)), (6, .int (0 : Int32)), (0, .int x0), (1, .int x1), (2, .int x2), (3, .int x3), (4, .int x4), (5, .int x5)]) S.1 S.2.1 dX5_mostMovingAlike_16 hl (by decide) rfl (fun ls hl => ?_)
        exact hL18 F _ _ _ _ _ _ _ _ h H locs hW ls (lv_sub hl [2, 3, 4, 5, 6, 7, 1, 0] rfl)
  refine lv_iconst (v := (0 : Int32)) S.1 S.2.1 dX5_mostMovingAlike_0 ki_0 ?_
  refine lv_istore (lv' := [(4, .int (0 : Int32)), (0, .int p0), (1, .int p1), (2, .int p2), (3, .int p3)]) S.1 S.2.1 dX5_mostMovingAlike_1 hl (by decide) rfl (fun ls hl => ?_)
  refine lv_iconst (v := (0 : Int32)) S.1 S.2.1 dX5_mostMovingAlike_3 ki_0 ?_
  refine lv_istore (lv' := [(5, .int (0 : Int32)), (4, .int (0 : Int32)), (0, .int p0), (1, .int p1), (2, .int p2), (3, .int p3)]) S.1 S.2.1 dX5_mostMovingAlike_4 hl (by decide) rfl (fun ls hl => ?_)
  exact hL6 F _ _ _ _ _ _ h H locs hW ls (lv_sub hl [2, 3, 4, 5, 1, 0] rfl)
abbrev rmX5_bestLook : Room := { frames := 3, cells := 0, slots := 0, locals := 71 }
set_option maxHeartbeats 4000000 in
set_option maxRecDepth 100000 in
theorem t_X5_bestLook (l : Launch) (dC : Nat → ClassId) (dI : Nat → Nat → Nat) (cI cJ cZ cB : ClassId) (zz : ZT)   (F : Nat) (p0 : Int32) (p1 : Int32) (r : Int32) (hm : md_X5_bestLook F p0 p1 = some (r)) : ct l (dC, dI) zz (ty4 cI cJ cZ cB) yX5_bestLook cX5_bestLook 7 (some .int) rmX5_bestLook [.int p0, .int p1] [] [] (some (.int r)) := by
  refine ct_of (cc := cX5_bestLook) (maxL := 7) (ret := (some .int)) (by decide) (Nat.le_of_ble_eq_true rfl) ?_
  intro p e s m below meth c A S hr hlocks hK hN hZ hA H locs hW ls hl
  have S : CallFix p m c cX5_bestLook 7 s (List.toArray [.int p0, .int p1]) G RX5 := S
  have hl : lv_has ls 7 [(0, .int p0), (1, .int p1)] := hl
  have h := hm
  rw [md_X5_bestLook] at h
  have hW : wd (dC, dI) A s.heap [] H locs := hW
  have hL8 : ∀ (n8 : Nat) (x0 : Int32) (x1 : Int32) (x2 : Int32) (x3 : Int32) (x4 : Int32), ld_X5_bestLook_8 F n8 x0 x1 x2 x3 x4 = some (r) → ∀ (H : Heap) (locs : List Loc), wd (dC, dI) A s.heap [] H locs → ∀ ls : Array Slot, lv_has ls 7 [(0, .int x0), (1, .int x1), (2, .int x2), (3, .int x3), (4, .int x4)] → W p l e rmX5_bestLook s m (List.toArray [.int p0, .int p1]) below meth c H locs 0 0 (MQ below (kQ (dC, dI) [] (some (.int r)) A) (List.toArray [.int p0, .int p1]) s 0 0 A) (F0 m 8 ls []) := by
    intro n8
    induction n8 with
    | zero => intro x0 x1 x2 x3 x4 h; rw [ld_X5_bestLook_8] at h; cases h
    | succ n8 ih8 =>
      intro x0 x1 x2 x3 x4 h H locs hW ls hl
      rw [ld_X5_bestLook_8] at h
      have hL22 : ∀ (n22 : Nat) (x0 : Int32) (x1 : Int32) (x2 : Int32) (x3 : Int32) (x4 : Int32) (x5 : Int32), ld_X5_bestLook_22 F (ld_X5_bestLook_8 F n8) n22 x0 x1 x2 x3 x4 x5 = some (r) → ∀ (H : Heap) (locs : List Loc), wd (dC, dI) A s.heap [] H locs → ∀ ls : Array Slot, lv_has ls 7 [(0, .int x0), (1, .int x1), (2, .int x2), (3, .int x3), (4, .int x4), (5, .int x5)] → W p l e rmX5_bestLook s m (List.toArray [.int p0, .int p1]) below meth c H locs 0 0 (MQ below (kQ (dC, dI) [] (some (.int r)) A) (List.toArray [.int p0, .int p1]) s 0 0 A) (F0 m 22 ls []) := by
        intro n22
        induction n22 with
        | zero => intro x0 x1 x2 x3 x4 x5 h; rw [ld_X5_bestLook_22] at h; cases h
        | succ n22 ih22 =>
          intro x0 x1 x2 x3 x4 x5 h H locs hW ls hl
          rw [ld_X5_bestLook_22] at h
          refine lv_iload S.1 S.2.1 dX5_bestLook_22 (lv_at hl 5 rfl) ?_
          refine lv_bipush (v := (10 : Int32)) S.1 S.2.1 dX5_bestLook_24 kb_10 ?_
          refine lv_icmp_gt (tgt := 67) S.1 S.2.1 dX5_bestLook_26 (by decide) (fun u1 => ?_) (fun u1 => ?_)
          · have h := of_p u1 h
            refine lv_iinc (v := (x4 + (1 : Int32))) (lv' := [(4, .int (x4 + (1 : Int32))), (0, .int x0), (1, .int x1), (2, .int x2), (3, .int x3), (5, .int x5)]) S.1 S.2.1 dX5_bestLook_67 hl (k := 4) rfl (congrArg (fun z => x4 + z) ki_1) (by decide) rfl (fun ls hl => ?_)
            refine lv_goto (tgt := 8) S.1 S.2.1 dX5_bestLook_70 (by decide) ?_
            exact ih8 _ _ _ _ _ h H locs hW ls (lv_sub hl [1, 2, 3, 4, 0] rfl)
          · have h := of_n u1 h
            refine lv_iload_n S.1 S.2.1 dX5_bestLook_29 rfl (lv_at hl 0 rfl) ?_
            refine lv_iload_n S.1 S.2.1 dX5_bestLook_30 rfl (lv_at hl 1 rfl) ?_
            refine lv_iload S.1 S.2.1 dX5_bestLook_31 (lv_at hl 5 rfl) ?_
            refine lv_iload S.1 S.2.1 dX5_bestLook_33 (lv_at hl 4 rfl) ?_
            obtain ⟨r2, hy3, h⟩ := bd1_e h
            refine ks0 S hK hN hZ hA hW (rest := []) (t_X5_mostMovingAlike l dC dI cI cJ cZ cB zz F x0 x1 x5 x4 _  hy3) wl_X5_25 wv_X5_mostMovingAlike rfl rfl ⟨Nat.le_of_ble_eq_true rfl, Nat.le_of_ble_eq_true rfl⟩ [] [] rfl rfl hl.1 rfl (Nat.le_of_ble_eq_true rfl) dX5_bestLook_35 [.int r2] rfl (fun H locs hW => ?_)
            refine lv_istore (lv' := [(6, .int r2), (0, .int x0), (1, .int x1), (2, .int x2), (3, .int x3), (4, .int x4), (5, .int x5)]) S.1 S.2.1 dX5_bestLook_38 hl (by decide) rfl (fun ls hl => ?_)
            refine lv_iload S.1 S.2.1 dX5_bestLook_40 (lv_at hl 0 rfl) ?_
            refine lv_iload_n S.1 S.2.1 dX5_bestLook_42 rfl (lv_at hl 4 rfl) ?_
            obtain ⟨y4, e5, h⟩ := lt1_e h
            obtain ⟨y6, e7, h⟩ := lt1_e h
            suffices hM8 : ∀ ls : Array Slot, lv_has ls 7 [(0, .int x0), (1, .int x1), (2, .int y4), (3, .int y6), (4, .int x4), (5, .int x5)] → W p l e rmX5_bestLook s m (List.toArray [.int p0, .int p1]) below meth c H locs 0 0 (MQ below (kQ (dC, dI) [] (some (.int r)) A) (List.toArray [.int p0, .int p1]) s 0 0 A) (F0 m 61 ls []) by
              refine lv_icmp_ge (tgt := 61) S.1 S.2.1 dX5_bestLook_43 (by decide) (fun u9 => ?_) (fun u9 => ?_)
              · have e5 := e5.trans (if_pos u9)
                subst e5
                have e7 := e7.trans (if_pos u9)
                subst e7
                exact hM8 ls (lv_sub hl [1, 2, 3, 4, 5, 6] rfl)
              · refine lv_iload S.1 S.2.1 dX5_bestLook_46 (lv_at hl 0 rfl) ?_
                refine lv_istore_n (lv' := [(3, .int r2), (6, .int r2), (0, .int x0), (1, .int x1), (2, .int x2), (4, .int x4), (5, .int x5)]) S.1 S.2.1 dX5_bestLook_48 rfl hl (by decide) rfl (fun ls hl => ?_)
                refine lv_bipush (v := (100 : Int32)) S.1 S.2.1 dX5_bestLook_49 kb_100 ?_
                refine lv_iload S.1 S.2.1 dX5_bestLook_51 (lv_at hl 5 rfl) ?_
                refine lv_imul S.1 S.2.1 dX5_bestLook_53 ?_
                refine lv_iload S.1 S.2.1 dX5_bestLook_54 (lv_at hl 6 rfl) ?_
                refine lv_iadd S.1 S.2.1 dX5_bestLook_56 ?_
                refine lv_bipush (v := (10 : Int32)) S.1 S.2.1 dX5_bestLook_57 kb_10 ?_
                refine lv_iadd S.1 S.2.1 dX5_bestLook_59 ?_
                refine lv_istore_n (lv' := [(2, .int ((((100 : Int32) * x4) + x5) + (10 : Int32))), (3, .int r2), (6, .int r2), (0, .int x0), (1, .int x1), (4, .int x4), (5, .int x5)]) S.1 S.2.1 dX5_bestLook_60 rfl hl (by decide) rfl (fun ls hl => ?_)
                have e5 := e5.trans (if_neg u9)
                subst e5
                have e7 := e7.trans (if_neg u9)
                subst e7
                exact hM8 ls (lv_sub hl [3, 4, 0, 1, 5, 6] rfl)
            intro ls hl
            refine lv_iinc (v := (x5 + (1 : Int32))) (lv' := [(5, .int (x5 + (1 : Int32))), (0, .int x0), (1, .int x1), (2, .int y4), (3, .int y6), (4, .int x4)]) S.1 S.2.1 dX5_bestLook_61 hl (k := 5) rfl (congrArg (fun z => x5 + z) ki_1) (by decide) rfl (fun ls hl => ?_)
            refine lv_goto (tgt := 22) S.1 S.2.1 dX5_bestLook_64 (by decide) ?_
            exact ih22 _ _ _ _ _ _ h H locs hW ls (lv_sub hl [1, 2, 3, 4, 5, 0] rfl)
      refine lv_iload S.1 S.2.1 dX5_bestLook_8 (lv_at hl 4 rfl) ?_
      refine lv_iconst (v := (5 : Int32)) S.1 S.2.1 dX5_bestLook_10 ki_5 ?_
      refine lv_icmp_gt (tgt := 73) S.1 S.2.1 dX5_bestLook_11 (by decide) (fun u10 => ?_) (fun u10 => ?_)
      · have h := of_p u10 h
        refine lv_iload_n S.1 S.2.1 dX5_bestLook_73 rfl (lv_at hl 2 rfl) ?_
        have f11 := Option.some.inj h
        subst f11
        exact ri S hr hlocks hW dX5_bestLook_74
      · have h := of_n u10 h
        refine lv_iload_n S.1 S.2.1 dX5_bestLook_14 rfl (lv_at hl 0 rfl) ?_
        refine lv_if_eq (tgt := 73) S.1 S.2.1 dX5_bestLook_15 (by decide) (fun u12 => ?_) (fun u12 => ?_)
        · have h := of_p u12 h
          refine lv_iload_n S.1 S.2.1 dX5_bestLook_73 rfl (lv_at hl 2 rfl) ?_
          have f13 := Option.some.inj h
          subst f13
          exact ri S hr hlocks hW dX5_bestLook_74
        · have h := of_n u12 h
          refine lv_bipush (v := (-10 : Int32)) S.1 S.2.1 dX5_bestLook_18 kb_m10 ?_
          refine lv_istore (lv' := [(5, .int (-10 : Int32)), (0, .int x0), (1, .int x1), (2, .int x2), (3, .int x3), (4, .int x4)]) S.1 S.2.1 dX5_bestLook_20 hl (by decide) rfl (fun ls hl => ?_)
          exact hL22 F _ _ _ _ _ _ h H locs hW ls (lv_sub hl [1, 2, 3, 4, 5, 0] rfl)
  refine lv_iconst (v := (-1 : Int32)) S.1 S.2.1 dX5_bestLook_0 ki_m1 ?_
  refine lv_istore_n (lv' := [(2, .int (-1 : Int32)), (0, .int p0), (1, .int p1)]) S.1 S.2.1 dX5_bestLook_1 rfl hl (by decide) rfl (fun ls hl => ?_)
  refine lv_bipush (v := (7 : Int32)) S.1 S.2.1 dX5_bestLook_2 kb_7 ?_
  refine lv_istore_n (lv' := [(3, .int (7 : Int32)), (2, .int (-1 : Int32)), (0, .int p0), (1, .int p1)]) S.1 S.2.1 dX5_bestLook_4 rfl hl (by decide) rfl (fun ls hl => ?_)
  refine lv_iconst (v := (0 : Int32)) S.1 S.2.1 dX5_bestLook_5 ki_0 ?_
  refine lv_istore (lv' := [(4, .int (0 : Int32)), (3, .int (7 : Int32)), (2, .int (-1 : Int32)), (0, .int p0), (1, .int p1)]) S.1 S.2.1 dX5_bestLook_6 hl (by decide) rfl (fun ls hl => ?_)
  exact hL8 F _ _ _ _ _ h H locs hW ls (lv_sub hl [3, 4, 2, 1, 0] rfl)
abbrev rmX5_mostCountingAlike : Room := { frames := 2, cells := 0, slots := 0, locals := 42 }
set_option maxHeartbeats 4000000 in
set_option maxRecDepth 100000 in
theorem t_X5_mostCountingAlike (l : Launch) (dC : Nat → ClassId) (dI : Nat → Nat → Nat) (cI cJ cZ cB : ClassId) (zz : ZT)   (F : Nat) (p0 : Int32) (p1 : Int32) (p2 : Int32) (r : Int32) (hm : md_X5_mostCountingAlike F p0 p1 p2 = some (r)) : ct l (dC, dI) zz (ty4 cI cJ cZ cB) yX5_mostCountingAlike cX5_mostCountingAlike 7 (some .int) rmX5_mostCountingAlike [.int p0, .int p1, .int p2] [] [] (some (.int r)) := by
  refine ct_of (cc := cX5_mostCountingAlike) (maxL := 7) (ret := (some .int)) (by decide) (Nat.le_of_ble_eq_true rfl) ?_
  intro p e s m below meth c A S hr hlocks hK hN hZ hA H locs hW ls hl
  have S : CallFix p m c cX5_mostCountingAlike 7 s (List.toArray [.int p0, .int p1, .int p2]) G RX5 := S
  have hl : lv_has ls 7 [(0, .int p0), (1, .int p1), (2, .int p2)] := hl
  have h := hm
  rw [md_X5_mostCountingAlike] at h
  have hW : wd (dC, dI) A s.heap [] H locs := hW
  have hL5 : ∀ (n5 : Nat) (x0 : Int32) (x1 : Int32) (x2 : Int32) (x3 : Int32) (x4 : Int32), ld_X5_mostCountingAlike_5 F n5 x0 x1 x2 x3 x4 = some (r) → ∀ (H : Heap) (locs : List Loc), wd (dC, dI) A s.heap [] H locs → ∀ ls : Array Slot, lv_has ls 7 [(0, .int x0), (1, .int x1), (2, .int x2), (3, .int x3), (4, .int x4)] → W p l e rmX5_mostCountingAlike s m (List.toArray [.int p0, .int p1, .int p2]) below meth c H locs 0 0 (MQ below (kQ (dC, dI) [] (some (.int r)) A) (List.toArray [.int p0, .int p1, .int p2]) s 0 0 A) (F0 m 5 ls []) := by
    intro n5
    induction n5 with
    | zero => intro x0 x1 x2 x3 x4 h; rw [ld_X5_mostCountingAlike_5] at h; cases h
    | succ n5 ih5 =>
      intro x0 x1 x2 x3 x4 h H locs hW ls hl
      rw [ld_X5_mostCountingAlike_5] at h
      have hL17 : ∀ (n17 : Nat) (x0 : Int32) (x1 : Int32) (x2 : Int32) (x3 : Int32) (x4 : Int32) (x5 : Int32) (x6 : Int32), ld_X5_mostCountingAlike_17 F (ld_X5_mostCountingAlike_5 F n5) n17 x0 x1 x2 x3 x4 x5 x6 = some (r) → ∀ (H : Heap) (locs : List Loc), wd (dC, dI) A s.heap [] H locs → ∀ ls : Array Slot, lv_has ls 7 [(0, .int x0), (1, .int x1), (2, .int x2), (3, .int x3), (4, .int x4), (5, .int x5), (6, .int x6)] → W p l e rmX5_mostCountingAlike s m (List.toArray [.int p0, .int p1, .int p2]) below meth c H locs 0 0 (MQ below (kQ (dC, dI) [] (some (.int r)) A) (List.toArray [.int p0, .int p1, .int p2]) s 0 0 A) (F0 m 17 ls []) := by
        intro n17
        induction n17 with
        | zero => intro x0 x1 x2 x3 x4 x5 x6 h; rw [ld_X5_mostCountingAlike_17] at h; cases h
        | succ n17 ih17 =>
          intro x0 x1 x2 x3 x4 x5 x6 h H locs hW ls hl
          rw [ld_X5_mostCountingAlike_17] at h
          refine lv_iload S.1 S.2.1 dX5_mostCountingAlike_17 (lv_at hl 6 rfl) ?_
          refine lv_iconst (v := (5 : Int32)) S.1 S.2.1 dX5_mostCountingAlike_19 ki_5 ?_
          refine lv_icmp_gt (tgt := 67) S.1 S.2.1 dX5_mostCountingAlike_20 (by decide) (fun u1 => ?_) (fun u1 => ?_)
          · have h := of_p u1 h
            refine lv_iload_n S.1 S.2.1 dX5_mostCountingAlike_67 rfl (lv_at hl 3 rfl) ?_
            refine lv_iload S.1 S.2.1 dX5_mostCountingAlike_68 (lv_at hl 5 rfl) ?_
            refine va_mmax S.1 S.2.1 (S.2.2.1.trans hl.1.symm) S.2.2.2.1 (S.2.2.2.2 _ wl_X5_36) (S.2.2.2.2 _ ws_max) (S.2.2.2.2 _ wi_J9) (S.2.2.2.2 _ wo_max) (Nat.le_of_ble_eq_true rfl) (Nat.le_of_ble_eq_true rfl) (Nat.zero_le _) (Nat.zero_le _) dX5_mostCountingAlike_70 ?_
            obtain ⟨y2, e3, h⟩ := lt1_e h
            refine nmi e3 ?_
            refine lv_istore_n (lv' := [(3, .int y2), (0, .int x0), (1, .int x1), (2, .int x2), (4, .int x4), (5, .int x5), (6, .int x6)]) S.1 S.2.1 dX5_mostCountingAlike_73 rfl hl (by decide) rfl (fun ls hl => ?_)
            refine lv_iinc (v := (x4 + (1 : Int32))) (lv' := [(4, .int (x4 + (1 : Int32))), (3, .int y2), (0, .int x0), (1, .int x1), (2, .int x2), (5, .int x5), (6, .int x6)]) S.1 S.2.1 dX5_mostCountingAlike_74 hl (k := 4) rfl (congrArg (fun z => x4 + z) ki_1) (by decide) rfl (fun ls hl => ?_)
            refine lv_goto (tgt := 5) S.1 S.2.1 dX5_mostCountingAlike_77 (by decide) ?_
            exact ih5 _ _ _ _ _ h H locs hW ls (lv_sub hl [2, 3, 4, 1, 0] rfl)
          · have h := of_n u1 h
            refine lv_iload_n S.1 S.2.1 dX5_mostCountingAlike_23 rfl (lv_at hl 0 rfl) ?_
            refine lv_iload S.1 S.2.1 dX5_mostCountingAlike_24 (lv_at hl 4 rfl) ?_
            obtain ⟨r4, hy5, h⟩ := bd1_e h
            refine kn0 S hK hN hZ hA hW (rest := []) (t_X8_has l dC dI cI cJ cZ cB zz x0 x4 _  hy5) wx_X5_29 wv_X8_has rfl rfl ⟨Nat.le_of_ble_eq_true rfl, Nat.le_of_ble_eq_true rfl⟩ [] [] rfl rfl hl.1 rfl (Nat.le_of_ble_eq_true rfl) dX5_mostCountingAlike_26 [.int r4] rfl (fun H locs hW => ?_)
            refine lv_if_eq (tgt := 61) S.1 S.2.1 dX5_mostCountingAlike_29 (by decide) (fun u6 => ?_) (fun u6 => ?_)
            · have h := of_p u6 h
              refine lv_iinc (v := (x6 + (1 : Int32))) (lv' := [(6, .int (x6 + (1 : Int32))), (0, .int x0), (1, .int x1), (2, .int x2), (3, .int x3), (4, .int x4), (5, .int x5)]) S.1 S.2.1 dX5_mostCountingAlike_61 hl (k := 6) rfl (congrArg (fun z => x6 + z) ki_1) (by decide) rfl (fun ls hl => ?_)
              refine lv_goto (tgt := 17) S.1 S.2.1 dX5_mostCountingAlike_64 (by decide) ?_
              exact ih17 _ _ _ _ _ _ _ h H locs hW ls (lv_sub hl [1, 2, 3, 4, 5, 6, 0] rfl)
            · have h := of_n u6 h
              refine lv_iload_n S.1 S.2.1 dX5_mostCountingAlike_32 rfl (lv_at hl 0 rfl) ?_
              refine lv_iload S.1 S.2.1 dX5_mostCountingAlike_33 (lv_at hl 6 rfl) ?_
              obtain ⟨r7, hy8, h⟩ := bd1_e h
              refine kn0 S hK hN hZ hA hW (rest := []) (t_X8_has l dC dI cI cJ cZ cB zz x0 x6 _  hy8) wx_X5_29 wv_X8_has rfl rfl ⟨Nat.le_of_ble_eq_true rfl, Nat.le_of_ble_eq_true rfl⟩ [] [] rfl rfl hl.1 rfl (Nat.le_of_ble_eq_true rfl) dX5_mostCountingAlike_35 [.int r7] rfl (fun H locs hW => ?_)
              refine lv_if_eq (tgt := 61) S.1 S.2.1 dX5_mostCountingAlike_38 (by decide) (fun u9 => ?_) (fun u9 => ?_)
              · have h := of_p u9 h
                refine lv_iinc (v := (x6 + (1 : Int32))) (lv' := [(6, .int (x6 + (1 : Int32))), (0, .int x0), (1, .int x1), (2, .int x2), (3, .int x3), (4, .int x4), (5, .int x5)]) S.1 S.2.1 dX5_mostCountingAlike_61 hl (k := 6) rfl (congrArg (fun z => x6 + z) ki_1) (by decide) rfl (fun ls hl => ?_)
                refine lv_goto (tgt := 17) S.1 S.2.1 dX5_mostCountingAlike_64 (by decide) ?_
                exact ih17 _ _ _ _ _ _ _ h H locs hW ls (lv_sub hl [1, 2, 3, 4, 5, 6, 0] rfl)
              · have h := of_n u9 h
                refine lv_iload S.1 S.2.1 dX5_mostCountingAlike_41 (lv_at hl 4 rfl) ?_
                refine lv_iload_n S.1 S.2.1 dX5_mostCountingAlike_43 rfl (lv_at hl 1 rfl) ?_
                refine lv_iload_n S.1 S.2.1 dX5_mostCountingAlike_44 rfl (lv_at hl 2 rfl) ?_
                obtain ⟨r10, hy11, h⟩ := bd1_e h
                refine ks0 S hK hN hZ hA hW (rest := []) (t_X5_counted l dC dI cI cJ cZ cB zz x4 x1 x2 _  hy11) wl_X5_45 wv_X5_counted rfl rfl ⟨Nat.le_of_ble_eq_true rfl, Nat.le_of_ble_eq_true rfl⟩ [] [] rfl rfl hl.1 rfl (Nat.le_of_ble_eq_true rfl) dX5_mostCountingAlike_45 [.int r10] rfl (fun H locs hW => ?_)
                refine lv_iload S.1 S.2.1 dX5_mostCountingAlike_48 (lv_at hl 6 rfl) ?_
                refine lv_iload_n S.1 S.2.1 dX5_mostCountingAlike_50 rfl (lv_at hl 1 rfl) ?_
                refine lv_iload_n S.1 S.2.1 dX5_mostCountingAlike_51 rfl (lv_at hl 2 rfl) ?_
                obtain ⟨r12, hy13, h⟩ := bd1_e h
                refine ks0 S hK hN hZ hA hW (rest := [.int r10]) (t_X5_counted l dC dI cI cJ cZ cB zz x6 x1 x2 _  hy13) wl_X5_45 wv_X5_counted rfl rfl ⟨Nat.le_of_ble_eq_true rfl, Nat.le_of_ble_eq_true rfl⟩ [] [] rfl rfl hl.1 rfl (Nat.le_of_ble_eq_true rfl) dX5_mostCountingAlike_52 [.int r12, .int r10] rfl (fun H locs hW => ?_)
                refine lv_icmp_ne (tgt := 61) S.1 S.2.1 dX5_mostCountingAlike_55 (by decide) (fun u14 => ?_) (fun u14 => ?_)
                · have h := of_n u14 h
                  refine lv_iinc (v := (x6 + (1 : Int32))) (lv' := [(6, .int (x6 + (1 : Int32))), (0, .int x0), (1, .int x1), (2, .int x2), (3, .int x3), (4, .int x4), (5, .int x5)]) S.1 S.2.1 dX5_mostCountingAlike_61 hl (k := 6) rfl (congrArg (fun z => x6 + z) ki_1) (by decide) rfl (fun ls hl => ?_)
                  refine lv_goto (tgt := 17) S.1 S.2.1 dX5_mostCountingAlike_64 (by decide) ?_
                  exact ih17 _ _ _ _ _ _ _ h H locs hW ls (lv_sub hl [1, 2, 3, 4, 5, 6, 0] rfl)
                · have h := of_p u14 h
                  refine lv_iinc (v := (x5 + (1 : Int32))) (lv' := [(5, .int (x5 + (1 : Int32))), (0, .int x0), (1, .int x1), (2, .int x2), (3, .int x3), (4, .int x4), (6, .int x6)]) S.1 S.2.1 dX5_mostCountingAlike_58 hl (k := 5) rfl (congrArg (fun z => x5 + z) ki_1) (by decide) rfl (fun ls hl => ?_)
                  refine lv_iinc (v := (x6 + (1 : Int32))) (lv' := [(6, .int (x6 + (1 : Int32))), (5, .int (x5 + (1 : Int32))), (0, .int x0), (1, .int x1), (2, .int x2), (3, .int x3), (4, .int x4)]) S.1 S.2.1 dX5_mostCountingAlike_61 hl (k := 6) rfl (congrArg (fun z => x6 + z) ki_1) (by decide) rfl (fun ls hl => ?_)
                  refine lv_goto (tgt := 17) S.1 S.2.1 dX5_mostCountingAlike_64 (by decide) ?_
                  exact ih17 _ _ _ _ _ _ _ h H locs hW ls (lv_sub hl [2, 3, 4, 5, 6, 1, 0] rfl)
      refine lv_iload S.1 S.2.1 dX5_mostCountingAlike_5 (lv_at hl 4 rfl) ?_
      refine lv_iconst (v := (5 : Int32)) S.1 S.2.1 dX5_mostCountingAlike_7 ki_5 ?_
      refine lv_icmp_gt (tgt := 80) S.1 S.2.1 dX5_mostCountingAlike_8 (by decide) (fun u15 => ?_) (fun u15 => ?_)
      · have h := of_p u15 h
        refine lv_iload_n S.1 S.2.1 dX5_mostCountingAlike_80 rfl (lv_at hl 3 rfl) ?_
        have f16 := Option.some.inj h
        subst f16
        exact ri S hr hlocks hW dX5_mostCountingAlike_81
      · have h := of_n u15 h
        refine lv_iconst (v := (0 : Int32)) S.1 S.2.1 dX5_mostCountingAlike_11 ki_0 ?_
        refine lv_istore (lv' := [(5, .int (0 : Int32)), (0, .int x0), (1, .int x1), (2, .int x2), (3, .int x3), (4, .int x4)]) S.1 S.2.1 dX5_mostCountingAlike_12 hl (by decide) rfl (fun ls hl => ?_)
        refine lv_iconst (v := (0 : Int32)) S.1 S.2.1 dX5_mostCountingAlike_14 ki_0 ?_
        refine lv_istore (lv' := [(6, .int (0 : Int32)), (5, .int (0 : Int32)), (0, .int x0), (1, .int x1), (2, .int x2), (3, .int x3), (4, .int x4)]) S.1 S.2.1 dX5_mostCountingAlike_15 hl (by decide) rfl (fun ls hl => ?_)
        exact hL17 F _ _ _ _ _ _ _ h H locs hW ls (lv_sub hl [2, 3, 4, 5, 6, 1, 0] rfl)
  refine lv_iconst (v := (0 : Int32)) S.1 S.2.1 dX5_mostCountingAlike_0 ki_0 ?_
  refine lv_istore_n (lv' := [(3, .int (0 : Int32)), (0, .int p0), (1, .int p1), (2, .int p2)]) S.1 S.2.1 dX5_mostCountingAlike_1 rfl hl (by decide) rfl (fun ls hl => ?_)
  refine lv_iconst (v := (0 : Int32)) S.1 S.2.1 dX5_mostCountingAlike_2 ki_0 ?_
  refine lv_istore (lv' := [(4, .int (0 : Int32)), (3, .int (0 : Int32)), (0, .int p0), (1, .int p1), (2, .int p2)]) S.1 S.2.1 dX5_mostCountingAlike_3 hl (by decide) rfl (fun ls hl => ?_)
  exact hL5 F _ _ _ _ _ h H locs hW ls (lv_sub hl [2, 3, 4, 1, 0] rfl)
abbrev rmX5_bestQuestion : Room := { frames := 3, cells := 0, slots := 0, locals := 68 }
set_option maxHeartbeats 4000000 in
set_option maxRecDepth 100000 in
theorem t_X5_bestQuestion (l : Launch) (dC : Nat → ClassId) (dI : Nat → Nat → Nat) (cI cJ cZ cB : ClassId) (zz : ZT)   (F : Nat) (p0 : Int32) (r : Int32) (hm : md_X5_bestQuestion F p0 = some (r)) : ct l (dC, dI) zz (ty4 cI cJ cZ cB) yX5_bestQuestion cX5_bestQuestion 6 (some .int) rmX5_bestQuestion [.int p0] [] [] (some (.int r)) := by
  refine ct_of (cc := cX5_bestQuestion) (maxL := 6) (ret := (some .int)) (by decide) (Nat.le_of_ble_eq_true rfl) ?_
  intro p e s m below meth c A S hr hlocks hK hN hZ hA H locs hW ls hl
  have S : CallFix p m c cX5_bestQuestion 6 s (List.toArray [.int p0]) G RX5 := S
  have hl : lv_has ls 6 [(0, .int p0)] := hl
  have h := hm
  rw [md_X5_bestQuestion] at h
  have hW : wd (dC, dI) A s.heap [] H locs := hW
  have hL7 : ∀ (n7 : Nat) (x0 : Int32) (x1 : Int32) (x2 : Int32) (x3 : Int32), ld_X5_bestQuestion_7 F n7 x0 x1 x2 x3 = some (r) → ∀ (H : Heap) (locs : List Loc), wd (dC, dI) A s.heap [] H locs → ∀ ls : Array Slot, lv_has ls 6 [(0, .int x0), (1, .int x1), (2, .int x2), (3, .int x3)] → W p l e rmX5_bestQuestion s m (List.toArray [.int p0]) below meth c H locs 0 0 (MQ below (kQ (dC, dI) [] (some (.int r)) A) (List.toArray [.int p0]) s 0 0 A) (F0 m 7 ls []) := by
    intro n7
    induction n7 with
    | zero => intro x0 x1 x2 x3 h; rw [ld_X5_bestQuestion_7] at h; cases h
    | succ n7 ih7 =>
      intro x0 x1 x2 x3 h H locs hW ls hl
      rw [ld_X5_bestQuestion_7] at h
      have hL19 : ∀ (n19 : Nat) (x0 : Int32) (x1 : Int32) (x2 : Int32) (x3 : Int32) (x4 : Int32), ld_X5_bestQuestion_19 F (ld_X5_bestQuestion_7 F n7) n19 x0 x1 x2 x3 x4 = some (r) → ∀ (H : Heap) (locs : List Loc), wd (dC, dI) A s.heap [] H locs → ∀ ls : Array Slot, lv_has ls 6 [(0, .int x0), (1, .int x1), (2, .int x2), (3, .int x3), (4, .int x4)] → W p l e rmX5_bestQuestion s m (List.toArray [.int p0]) below meth c H locs 0 0 (MQ below (kQ (dC, dI) [] (some (.int r)) A) (List.toArray [.int p0]) s 0 0 A) (F0 m 19 ls []) := by
        intro n19
        induction n19 with
        | zero => intro x0 x1 x2 x3 x4 h; rw [ld_X5_bestQuestion_19] at h; cases h
        | succ n19 ih19 =>
          intro x0 x1 x2 x3 x4 h H locs hW ls hl
          rw [ld_X5_bestQuestion_19] at h
          refine lv_iload S.1 S.2.1 dX5_bestQuestion_19 (lv_at hl 4 rfl) ?_
          refine lv_bipush (v := (40 : Int32)) S.1 S.2.1 dX5_bestQuestion_21 kb_40 ?_
          refine lv_icmp_gt (tgt := 58) S.1 S.2.1 dX5_bestQuestion_23 (by decide) (fun u1 => ?_) (fun u1 => ?_)
          · have h := of_p u1 h
            refine lv_iinc (v := (x3 + (1 : Int32))) (lv' := [(3, .int (x3 + (1 : Int32))), (0, .int x0), (1, .int x1), (2, .int x2), (4, .int x4)]) S.1 S.2.1 dX5_bestQuestion_58 hl (k := 3) rfl (congrArg (fun z => x3 + z) ki_1) (by decide) rfl (fun ls hl => ?_)
            refine lv_goto (tgt := 7) S.1 S.2.1 dX5_bestQuestion_61 (by decide) ?_
            exact ih7 _ _ _ _ h H locs hW ls (lv_sub hl [1, 2, 3, 0] rfl)
          · have h := of_n u1 h
            refine lv_iload_n S.1 S.2.1 dX5_bestQuestion_26 rfl (lv_at hl 0 rfl) ?_
            refine lv_iload S.1 S.2.1 dX5_bestQuestion_27 (lv_at hl 4 rfl) ?_
            refine lv_iload_n S.1 S.2.1 dX5_bestQuestion_29 rfl (lv_at hl 3 rfl) ?_
            obtain ⟨r2, hy3, h⟩ := bd1_e h
            refine ks0 S hK hN hZ hA hW (rest := []) (t_X5_mostCountingAlike l dC dI cI cJ cZ cB zz F x0 x4 x3 _  hy3) wl_X5_41 wv_X5_mostCountingAlike rfl rfl ⟨Nat.le_of_ble_eq_true rfl, Nat.le_of_ble_eq_true rfl⟩ [] [] rfl rfl hl.1 rfl (Nat.le_of_ble_eq_true rfl) dX5_bestQuestion_30 [.int r2] rfl (fun H locs hW => ?_)
            refine lv_istore (lv' := [(5, .int r2), (0, .int x0), (1, .int x1), (2, .int x2), (3, .int x3), (4, .int x4)]) S.1 S.2.1 dX5_bestQuestion_33 hl (by decide) rfl (fun ls hl => ?_)
            refine lv_iload S.1 S.2.1 dX5_bestQuestion_35 (lv_at hl 0 rfl) ?_
            refine lv_iload_n S.1 S.2.1 dX5_bestQuestion_37 rfl (lv_at hl 3 rfl) ?_
            obtain ⟨y4, e5, h⟩ := lt1_e h
            obtain ⟨y6, e7, h⟩ := lt1_e h
            suffices hM8 : ∀ ls : Array Slot, lv_has ls 6 [(0, .int x0), (1, .int y4), (2, .int y6), (3, .int x3), (4, .int x4)] → W p l e rmX5_bestQuestion s m (List.toArray [.int p0]) below meth c H locs 0 0 (MQ below (kQ (dC, dI) [] (some (.int r)) A) (List.toArray [.int p0]) s 0 0 A) (F0 m 52 ls []) by
              refine lv_icmp_ge (tgt := 52) S.1 S.2.1 dX5_bestQuestion_38 (by decide) (fun u9 => ?_) (fun u9 => ?_)
              · have e5 := e5.trans (if_pos u9)
                subst e5
                have e7 := e7.trans (if_pos u9)
                subst e7
                exact hM8 ls (lv_sub hl [1, 2, 3, 4, 5] rfl)
              · refine lv_iload S.1 S.2.1 dX5_bestQuestion_41 (lv_at hl 0 rfl) ?_
                refine lv_istore_n (lv' := [(2, .int r2), (5, .int r2), (0, .int x0), (1, .int x1), (3, .int x3), (4, .int x4)]) S.1 S.2.1 dX5_bestQuestion_43 rfl hl (by decide) rfl (fun ls hl => ?_)
                refine lv_bipush (v := (100 : Int32)) S.1 S.2.1 dX5_bestQuestion_44 kb_100 ?_
                refine lv_iload_n S.1 S.2.1 dX5_bestQuestion_46 rfl (lv_at hl 4 rfl) ?_
                refine lv_imul S.1 S.2.1 dX5_bestQuestion_47 ?_
                refine lv_iload S.1 S.2.1 dX5_bestQuestion_48 (lv_at hl 5 rfl) ?_
                refine lv_iadd S.1 S.2.1 dX5_bestQuestion_50 ?_
                refine lv_istore_n (lv' := [(1, .int (((100 : Int32) * x3) + x4)), (2, .int r2), (5, .int r2), (0, .int x0), (3, .int x3), (4, .int x4)]) S.1 S.2.1 dX5_bestQuestion_51 rfl hl (by decide) rfl (fun ls hl => ?_)
                have e5 := e5.trans (if_neg u9)
                subst e5
                have e7 := e7.trans (if_neg u9)
                subst e7
                exact hM8 ls (lv_sub hl [3, 0, 1, 4, 5] rfl)
            intro ls hl
            refine lv_iinc (v := (x4 + (1 : Int32))) (lv' := [(4, .int (x4 + (1 : Int32))), (0, .int x0), (1, .int y4), (2, .int y6), (3, .int x3)]) S.1 S.2.1 dX5_bestQuestion_52 hl (k := 4) rfl (congrArg (fun z => x4 + z) ki_1) (by decide) rfl (fun ls hl => ?_)
            refine lv_goto (tgt := 19) S.1 S.2.1 dX5_bestQuestion_55 (by decide) ?_
            exact ih19 _ _ _ _ _ h H locs hW ls (lv_sub hl [1, 2, 3, 4, 0] rfl)
      refine lv_iload_n S.1 S.2.1 dX5_bestQuestion_7 rfl (lv_at hl 3 rfl) ?_
      refine lv_iconst (v := (1 : Int32)) S.1 S.2.1 dX5_bestQuestion_8 ki_1 ?_
      refine lv_icmp_gt (tgt := 64) S.1 S.2.1 dX5_bestQuestion_9 (by decide) (fun u10 => ?_) (fun u10 => ?_)
      · have h := of_p u10 h
        refine lv_iload_n S.1 S.2.1 dX5_bestQuestion_64 rfl (lv_at hl 1 rfl) ?_
        have f11 := Option.some.inj h
        subst f11
        exact ri S hr hlocks hW dX5_bestQuestion_65
      · have h := of_n u10 h
        refine lv_iload_n S.1 S.2.1 dX5_bestQuestion_12 rfl (lv_at hl 0 rfl) ?_
        refine lv_if_eq (tgt := 64) S.1 S.2.1 dX5_bestQuestion_13 (by decide) (fun u12 => ?_) (fun u12 => ?_)
        · have h := of_p u12 h
          refine lv_iload_n S.1 S.2.1 dX5_bestQuestion_64 rfl (lv_at hl 1 rfl) ?_
          have f13 := Option.some.inj h
          subst f13
          exact ri S hr hlocks hW dX5_bestQuestion_65
        · have h := of_n u12 h
          refine lv_iconst (v := (0 : Int32)) S.1 S.2.1 dX5_bestQuestion_16 ki_0 ?_
          refine lv_istore (lv' := [(4, .int (0 : Int32)), (0, .int x0), (1, .int x1), (2, .int x2), (3, .int x3)]) S.1 S.2.1 dX5_bestQuestion_17 hl (by decide) rfl (fun ls hl => ?_)
          exact hL19 F _ _ _ _ _ h H locs hW ls (lv_sub hl [1, 2, 3, 4, 0] rfl)
  refine lv_iconst (v := (-1 : Int32)) S.1 S.2.1 dX5_bestQuestion_0 ki_m1 ?_
  refine lv_istore_n (lv' := [(1, .int (-1 : Int32)), (0, .int p0)]) S.1 S.2.1 dX5_bestQuestion_1 rfl hl (by decide) rfl (fun ls hl => ?_)
  refine lv_bipush (v := (7 : Int32)) S.1 S.2.1 dX5_bestQuestion_2 kb_7 ?_
  refine lv_istore_n (lv' := [(2, .int (7 : Int32)), (1, .int (-1 : Int32)), (0, .int p0)]) S.1 S.2.1 dX5_bestQuestion_4 rfl hl (by decide) rfl (fun ls hl => ?_)
  refine lv_iconst (v := (0 : Int32)) S.1 S.2.1 dX5_bestQuestion_5 ki_0 ?_
  refine lv_istore_n (lv' := [(3, .int (0 : Int32)), (2, .int (7 : Int32)), (1, .int (-1 : Int32)), (0, .int p0)]) S.1 S.2.1 dX5_bestQuestion_6 rfl hl (by decide) rfl (fun ls hl => ?_)
  exact hL7 F _ _ _ _ h H locs hW ls (lv_sub hl [3, 2, 1, 0] rfl)
abbrev rmX6_gain : Room := { frames := 0, cells := 0, slots := 0, locals := 0 }
set_option maxHeartbeats 4000000 in
set_option maxRecDepth 100000 in
theorem t_X6_gain (l : Launch) (dC : Nat → ClassId) (dI : Nat → Nat → Nat) (cI cJ cZ cB : ClassId) (zz : ZT)   (p0 : Int32) (p1 : Int32) (p2 : Int32) (r : Int32) (hm : md_X6_gain p0 p1 p2 = some (r)) : ct l (dC, dI) zz (ty4 cI cJ cZ cB) yX6_gain cX6_gain 3 (some .int) rmX6_gain [.int p0, .int p1, .int p2] [] [] (some (.int r)) := by
  refine ct_of (cc := cX6_gain) (maxL := 3) (ret := (some .int)) (by decide) (Nat.le_of_ble_eq_true rfl) ?_
  intro p e s m below meth c A S hr hlocks hK hN hZ hA H locs hW ls hl
  have S : CallFix p m c cX6_gain 3 s (List.toArray [.int p0, .int p1, .int p2]) G RX6 := S
  have hl : lv_has ls 3 [(0, .int p0), (1, .int p1), (2, .int p2)] := hl
  have h := hm
  rw [md_X6_gain] at h
  have hW : wd (dC, dI) A s.heap [] H locs := hW
  refine lv_iload_n S.1 S.2.1 dX6_gain_0 rfl (lv_at hl 0 rfl) ?_
  refine lv_iload_n S.1 S.2.1 dX6_gain_1 rfl (lv_at hl 1 rfl) ?_
  refine lv_iadd S.1 S.2.1 dX6_gain_2 ?_
  refine lv_bipush (v := (10 : Int32)) S.1 S.2.1 dX6_gain_3 kb_10 ?_
  obtain ⟨y1, e2, h⟩ := lt1_e h
  suffices hM3 : ∀ ls : Array Slot, lv_has ls 3 [] → W p l e rmX6_gain s m (List.toArray [.int p0, .int p1, .int p2]) below meth c H locs 0 0 (MQ below (kQ (dC, dI) [] (some (.int r)) A) (List.toArray [.int p0, .int p1, .int p2]) s 0 0 A) (F0 m 17 ls [.int y1]) by
    refine lv_icmp_lt (tgt := 12) S.1 S.2.1 dX6_gain_5 (by decide) (fun u4 => ?_) (fun u4 => ?_)
    · refine lv_iconst (v := (5 : Int32)) S.1 S.2.1 dX6_gain_12 ki_5 ?_
      refine lv_iload_n S.1 S.2.1 dX6_gain_13 rfl (lv_at hl 1 rfl) ?_
      refine lv_iadd S.1 S.2.1 dX6_gain_14 ?_
      refine lv_iload_n S.1 S.2.1 dX6_gain_15 rfl (lv_at hl 0 rfl) ?_
      refine lv_isub S.1 S.2.1 dX6_gain_16 ?_
      have e2 := e2.trans (if_pos u4)
      subst e2
      exact hM3 ls (lv_sub hl [] rfl)
    · refine lv_iload_n S.1 S.2.1 dX6_gain_8 rfl (lv_at hl 2 rfl) ?_
      refine lv_goto (tgt := 17) S.1 S.2.1 dX6_gain_9 (by decide) ?_
      have e2 := e2.trans (if_neg u4)
      subst e2
      exact hM3 ls (lv_sub hl [] rfl)
  intro ls hl
  have f5 := Option.some.inj h
  subst f5
  exact ri S hr hlocks hW dX6_gain_17
abbrev rmX6_rests : Room := { frames := 1, cells := 0, slots := 0, locals := 22 }
set_option maxHeartbeats 4000000 in
set_option maxRecDepth 100000 in
theorem t_X6_rests (l : Launch) (dC : Nat → ClassId) (dI : Nat → Nat → Nat) (cI cJ cZ cB : ClassId) (zz : ZT)   (F : Nat) (p0 : Int32) (p1 : Int32) (p2 : Int32) (r : Int32) (hm : md_X6_rests F p0 p1 p2 = some (r)) : ct l (dC, dI) zz (ty4 cI cJ cZ cB) yX6_rests cX6_rests 4 (some .boolean) rmX6_rests [.int p0, .int p1, .int p2] [] [] (some (.int r)) := by
  refine ct_of (cc := cX6_rests) (maxL := 4) (ret := (some .boolean)) (by decide) (Nat.le_of_ble_eq_true rfl) ?_
  intro p e s m below meth c A S hr hlocks hK hN hZ hA H locs hW ls hl
  have S : CallFix p m c cX6_rests 4 s (List.toArray [.int p0, .int p1, .int p2]) G RX6 := S
  have hl : lv_has ls 4 [(0, .int p0), (1, .int p1), (2, .int p2)] := hl
  have h := hm
  rw [md_X6_rests] at h
  have hW : wd (dC, dI) A s.heap [] H locs := hW
  have hL2 : ∀ (n2 : Nat) (x0 : Int32) (x1 : Int32) (x2 : Int32) (x3 : Int32), ld_X6_rests_2 F n2 x0 x1 x2 x3 = some (r) → ∀ (H : Heap) (locs : List Loc), wd (dC, dI) A s.heap [] H locs → ∀ ls : Array Slot, lv_has ls 4 [(0, .int x0), (1, .int x1), (2, .int x2), (3, .int x3)] → W p l e rmX6_rests s m (List.toArray [.int p0, .int p1, .int p2]) below meth c H locs 0 0 (MQ below (kQ (dC, dI) [] (some (.int r)) A) (List.toArray [.int p0, .int p1, .int p2]) s 0 0 A) (F0 m 2 ls []) := by
    intro n2
    induction n2 with
    | zero => intro x0 x1 x2 x3 h; rw [ld_X6_rests_2] at h; cases h
    | succ n2 ih2 =>
      intro x0 x1 x2 x3 h H locs hW ls hl
      rw [ld_X6_rests_2] at h
      refine lv_iload_n S.1 S.2.1 dX6_rests_2 rfl (lv_at hl 3 rfl) ?_
      refine lv_bipush (v := (10 : Int32)) S.1 S.2.1 dX6_rests_3 kb_10 ?_
      refine lv_icmp_ge (tgt := 48) S.1 S.2.1 dX6_rests_5 (by decide) (fun u1 => ?_) (fun u1 => ?_)
      · have h := of_p u1 h
        refine lv_iconst (v := (1 : Int32)) S.1 S.2.1 dX6_rests_48 ki_1 ?_
        have f2 := Option.some.inj h
        subst f2
        exact rz S hr hlocks hW (nz (Or.inr rfl)) dX6_rests_49
      · have h := of_n u1 h
        refine lv_iload_n S.1 S.2.1 dX6_rests_8 rfl (lv_at hl 3 rfl) ?_
        refine lv_iload_n S.1 S.2.1 dX6_rests_9 rfl (lv_at hl 1 rfl) ?_
        refine lv_iload_n S.1 S.2.1 dX6_rests_10 rfl (lv_at hl 2 rfl) ?_
        obtain ⟨r3, hy4, h⟩ := bd1_e h
        refine ks0 S hK hN hZ hA hW (rest := []) (t_X6_gain l dC dI cI cJ cZ cB zz x3 x1 x2 _  hy4) wl_X6_9 wv_X6_gain rfl rfl ⟨Nat.le_of_ble_eq_true rfl, Nat.le_of_ble_eq_true rfl⟩ [] [] rfl rfl hl.1 rfl (Nat.le_of_ble_eq_true rfl) dX6_rests_11 [.int r3] rfl (fun H locs hW => ?_)
        refine lv_iload_n S.1 S.2.1 dX6_rests_14 rfl (lv_at hl 0 rfl) ?_
        refine lv_iload_n S.1 S.2.1 dX6_rests_15 rfl (lv_at hl 1 rfl) ?_
        refine lv_iload_n S.1 S.2.1 dX6_rests_16 rfl (lv_at hl 2 rfl) ?_
        obtain ⟨r5, hy6, h⟩ := bd1_e h
        refine ks0 S hK hN hZ hA hW (rest := [.int r3]) (t_X6_gain l dC dI cI cJ cZ cB zz x0 x1 x2 _  hy6) wl_X6_9 wv_X6_gain rfl rfl ⟨Nat.le_of_ble_eq_true rfl, Nat.le_of_ble_eq_true rfl⟩ [] [] rfl rfl hl.1 rfl (Nat.le_of_ble_eq_true rfl) dX6_rests_17 [.int r5, .int r3] rfl (fun H locs hW => ?_)
        refine lv_icmp_gt (tgt := 40) S.1 S.2.1 dX6_rests_20 (by decide) (fun u7 => ?_) (fun u7 => ?_)
        · have h := of_p u7 h
          refine lv_iconst (v := (0 : Int32)) S.1 S.2.1 dX6_rests_40 ki_0 ?_
          have f8 := Option.some.inj h
          subst f8
          exact rz S hr hlocks hW (nz (Or.inl rfl)) dX6_rests_41
        · have h := of_n u7 h
          refine lv_iload_n S.1 S.2.1 dX6_rests_23 rfl (lv_at hl 3 rfl) ?_
          refine lv_iload_n S.1 S.2.1 dX6_rests_24 rfl (lv_at hl 0 rfl) ?_
          refine lv_iload_n S.1 S.2.1 dX6_rests_25 rfl (lv_at hl 2 rfl) ?_
          refine lv_ineg S.1 S.2.1 dX6_rests_26 ?_
          obtain ⟨r9, hy10, h⟩ := bd1_e h
          refine ks0 S hK hN hZ hA hW (rest := []) (t_X6_gain l dC dI cI cJ cZ cB zz x3 x0 (-x2) _  hy10) wl_X6_9 wv_X6_gain rfl rfl ⟨Nat.le_of_ble_eq_true rfl, Nat.le_of_ble_eq_true rfl⟩ [] [] rfl rfl hl.1 rfl (Nat.le_of_ble_eq_true rfl) dX6_rests_27 [.int r9] rfl (fun H locs hW => ?_)
          refine lv_iload_n S.1 S.2.1 dX6_rests_30 rfl (lv_at hl 1 rfl) ?_
          refine lv_iload_n S.1 S.2.1 dX6_rests_31 rfl (lv_at hl 0 rfl) ?_
          refine lv_iload_n S.1 S.2.1 dX6_rests_32 rfl (lv_at hl 2 rfl) ?_
          refine lv_ineg S.1 S.2.1 dX6_rests_33 ?_
          obtain ⟨r11, hy12, h⟩ := bd1_e h
          refine ks0 S hK hN hZ hA hW (rest := [.int r9]) (t_X6_gain l dC dI cI cJ cZ cB zz x1 x0 (-x2) _  hy12) wl_X6_9 wv_X6_gain rfl rfl ⟨Nat.le_of_ble_eq_true rfl, Nat.le_of_ble_eq_true rfl⟩ [] [] rfl rfl hl.1 rfl (Nat.le_of_ble_eq_true rfl) dX6_rests_34 [.int r11, .int r9] rfl (fun H locs hW => ?_)
          refine lv_icmp_le (tgt := 42) S.1 S.2.1 dX6_rests_37 (by decide) (fun u13 => ?_) (fun u13 => ?_)
          · have h := of_p u13 h
            refine lv_iinc (v := (x3 + (1 : Int32))) (lv' := [(3, .int (x3 + (1 : Int32))), (0, .int x0), (1, .int x1), (2, .int x2)]) S.1 S.2.1 dX6_rests_42 hl (k := 3) rfl (congrArg (fun z => x3 + z) ki_1) (by decide) rfl (fun ls hl => ?_)
            refine lv_goto (tgt := 2) S.1 S.2.1 dX6_rests_45 (by decide) ?_
            exact ih2 _ _ _ _ h H locs hW ls (lv_sub hl [1, 2, 3, 0] rfl)
          · have h := of_n u13 h
            refine lv_iconst (v := (0 : Int32)) S.1 S.2.1 dX6_rests_40 ki_0 ?_
            have f14 := Option.some.inj h
            subst f14
            exact rz S hr hlocks hW (nz (Or.inl rfl)) dX6_rests_41
  refine lv_iconst (v := (0 : Int32)) S.1 S.2.1 dX6_rests_0 ki_0 ?_
  refine lv_istore_n (lv' := [(3, .int (0 : Int32)), (0, .int p0), (1, .int p1), (2, .int p2)]) S.1 S.2.1 dX6_rests_1 rfl hl (by decide) rfl (fun ls hl => ?_)
  exact hL2 F _ _ _ _ h H locs hW ls (lv_sub hl [1, 2, 3, 0] rfl)
abbrev rmX8_isKind : Room := { frames := 1, cells := 0, slots := 0, locals := 22 }
set_option maxHeartbeats 4000000 in
set_option maxRecDepth 100000 in
theorem t_X8_isKind (l : Launch) (dC : Nat → ClassId) (dI : Nat → Nat → Nat) (cI cJ cZ cB : ClassId) (zz : ZT)   (p0 : Int32) (r : Int32) (hm : md_X8_isKind p0 = some (r)) : ct l (dC, dI) zz (ty4 cI cJ cZ cB) yX8_isKind cX8_isKind 1 (some .boolean) rmX8_isKind [.int p0] [] [] (some (.int r)) := by
  refine ct_of (cc := cX8_isKind) (maxL := 1) (ret := (some .boolean)) (by decide) (Nat.le_of_ble_eq_true rfl) ?_
  intro p e s m below meth c A S hr hlocks hK hN hZ hA H locs hW ls hl
  have S : CallFix p m c cX8_isKind 1 s (List.toArray [.int p0]) G RX8 := S
  have hl : lv_has ls 1 [(0, .int p0)] := hl
  have h := hm
  rw [md_X8_isKind] at h
  have hW : wd (dC, dI) A s.heap [] H locs := hW
  refine lv_iconst (v := (0 : Int32)) S.1 S.2.1 dX8_isKind_0 ki_0 ?_
  refine lv_iload_n S.1 S.2.1 dX8_isKind_1 rfl (lv_at hl 0 rfl) ?_
  refine lv_iconst (v := (5 : Int32)) S.1 S.2.1 dX8_isKind_2 ki_5 ?_
  obtain ⟨r1, hy2, h⟩ := bd1_e h
  refine ks0 S hK hN hZ hA hW (rest := []) (t_X8_within l dC dI cI cJ cZ cB zz (0 : Int32) p0 (5 : Int32) _  hy2) wl_X8_71 wv_X8_within rfl rfl ⟨Nat.le_of_ble_eq_true rfl, Nat.le_of_ble_eq_true rfl⟩ [] [] rfl rfl hl.1 rfl (Nat.le_of_ble_eq_true rfl) dX8_isKind_3 [.int r1] rfl (fun H locs hW => ?_)
  obtain ⟨z3, h⟩ := of_g h
  have f4 := Option.some.inj h
  subst f4
  exact rz S hr hlocks hW (nz z3) dX8_isKind_6
abbrev rmX8_isChair : Room := { frames := 1, cells := 0, slots := 0, locals := 22 }
set_option maxHeartbeats 4000000 in
set_option maxRecDepth 100000 in
theorem t_X8_isChair (l : Launch) (dC : Nat → ClassId) (dI : Nat → Nat → Nat) (cI cJ cZ cB : ClassId) (zz : ZT)   (p0 : Int32) (r : Int32) (hm : md_X8_isChair p0 = some (r)) : ct l (dC, dI) zz (ty4 cI cJ cZ cB) yX8_isChair cX8_isChair 1 (some .boolean) rmX8_isChair [.int p0] [] [] (some (.int r)) := by
  refine ct_of (cc := cX8_isChair) (maxL := 1) (ret := (some .boolean)) (by decide) (Nat.le_of_ble_eq_true rfl) ?_
  intro p e s m below meth c A S hr hlocks hK hN hZ hA H locs hW ls hl
  have S : CallFix p m c cX8_isChair 1 s (List.toArray [.int p0]) G RX8 := S
  have hl : lv_has ls 1 [(0, .int p0)] := hl
  have h := hm
  rw [md_X8_isChair] at h
  have hW : wd (dC, dI) A s.heap [] H locs := hW
  refine lv_iconst (v := (0 : Int32)) S.1 S.2.1 dX8_isChair_0 ki_0 ?_
  refine lv_iload_n S.1 S.2.1 dX8_isChair_1 rfl (lv_at hl 0 rfl) ?_
  refine lv_iconst (v := (1 : Int32)) S.1 S.2.1 dX8_isChair_2 ki_1 ?_
  obtain ⟨r1, hy2, h⟩ := bd1_e h
  refine ks0 S hK hN hZ hA hW (rest := []) (t_X8_within l dC dI cI cJ cZ cB zz (0 : Int32) p0 (1 : Int32) _  hy2) wl_X8_71 wv_X8_within rfl rfl ⟨Nat.le_of_ble_eq_true rfl, Nat.le_of_ble_eq_true rfl⟩ [] [] rfl rfl hl.1 rfl (Nat.le_of_ble_eq_true rfl) dX8_isChair_3 [.int r1] rfl (fun H locs hW => ?_)
  obtain ⟨z3, h⟩ := of_g h
  have f4 := Option.some.inj h
  subst f4
  exact rz S hr hlocks hW (nz z3) dX8_isChair_6
