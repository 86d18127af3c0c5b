abbrev rmX8_forget : Room := { frames := 1, cells := 0, slots := 0, locals := 21 }
set_option maxHeartbeats 4000000 in
set_option maxRecDepth 100000 in
theorem t_X8_forget (l : Launch) (dC : Nat → ClassId) (dI : Nat → Nat → Nat) (cI cJ cZ cB : ClassId) (zz : ZT)  (h0 : Nat) (a0 : Nat → Nat) (a1 : Nat → Nat) (c0 : Nat → Nat → Int32) (w0 : Nat → Nat → Int64) (c1 : Nat → Nat → Int32) (w1 : Nat → Nat → Int64) (p1 : Int32) (r : Int32) (c0' : Nat → Nat → Int32) (c1' : Nat → Nat → Int32) (hm : md_X8_forget c0 w0 c1 w1 p1 = some (r, c0', c1')) : ct l (dC, dI) zz (ty4 cI cJ cZ cB) yX8_forget cX8_forget 3 (some .int) rmX8_forget [.ref h0, .int p1] (cwX8 cI cJ cZ cB h0 a0 c0 w0 (cwX1 cI cJ cZ cB (a0 0) a1 c1 w1 [])) (cwX8 cI cJ cZ cB h0 a0 c0' w0 (cwX1 cI cJ cZ cB (a0 0) a1 c1' w1 [])) (some (.int r)) := by
  refine ct_of (cc := cX8_forget) (maxL := 3) (ret := (some .int)) (by decide) (Nat.le_of_ble_eq_true rfl) ?_
  intro p e s m below meth c A S hr hlocks hK hN hZ hA H locs hW ls hl
  have S : CallFix p m c cX8_forget 3 s (List.toArray [.ref h0, .int p1]) G RX8 := S
  have hl : lv_has ls 3 [(0, .ref h0), (1, .int p1)] := hl
  have h := hm
  rw [md_X8_forget] at h
  have hW : wd (dC, dI) A s.heap (clX8 cI cJ cZ cB h0 a0 (c0 2) (c0 5) (w0 6 0) (w0 7 0) (clX1 cI cJ cZ cB (a0 0) a1 (c1 1) (c1 2 0) (c1 3) (c1 4 0) (c1 5) (c1 6 0) (w1 7) (c1 8 0) [])) H locs := hW
  refine lv_iload_n S.1 S.2.1 dX8_forget_0 rfl (lv_at hl 1 rfl) ?_
  by_cases u1 : p1 = (0 : Int32)
  · have h := of_p u1 h
    refine lv_tableIn (off := 27) (tgt := 28) S.1 S.2.1 dX8_forget_1 (by rw [u1]; decide) (by rw [u1]; decide) (by rw [u1]; decide +kernel) (by decide) ?_
    refine lv_aload_n S.1 S.2.1 dX8_forget_28 rfl (lv_at hl 0 rfl) ?_
    refine gf (C := RX8) (T := TX8) (N := 8) (ci := 4) (k := 0) S hK hW wu_X8 rfl (by decide) wf_X8_10 0 rfl rfl dX8_forget_29 ?_
    refine gf (C := RX1) (T := TX1) (N := 9) (ci := 0) (k := 2) S hK hW wu_X1 rfl (by decide) wf_X8_206 4 rfl rfl dX8_forget_32 ?_
    refine lv_istore_n (lv' := [(2, .int (c1 2 0)), (0, .ref h0), (1, .int p1)]) S.1 S.2.1 dX8_forget_35 rfl hl (by decide) rfl (fun ls hl => ?_)
    refine lv_aload_n S.1 S.2.1 dX8_forget_36 rfl (lv_at hl 1 rfl) ?_
    refine gf (C := RX8) (T := TX8) (N := 8) (ci := 4) (k := 0) S hK hW wu_X8 rfl (by decide) wf_X8_10 0 rfl rfl dX8_forget_37 ?_
    refine lv_iconst (v := (0 : Int32)) S.1 S.2.1 dX8_forget_40 ki_0 ?_
    refine pf (C := RX1) (T := TX1) (N := 9) (ci := 0) (k := 2) (ty := .int) S hK hW wu_X1 rfl (by decide) tyX1 tyX1_ok nmX1 wf_X8_206 4 rfl rfl rfl rfl rfl (Nat.le_of_ble_eq_true rfl) dX8_forget_41 (fun H locs hW => ?_)
    have hW : wd (dC, dI) A s.heap (clX8 cI cJ cZ cB h0 a0 (c0 2) (c0 5) (w0 6 0) (w0 7 0) (clX1 cI cJ cZ cB (a0 0) a1 (c1 1) (0 : Int32) (c1 3) (c1 4 0) (c1 5) (c1 6 0) (w1 7) (c1 8 0) [])) H locs := hW
    refine lv_iload_n S.1 S.2.1 dX8_forget_44 rfl (lv_at hl 0 rfl) ?_
    have f2 := Option.some.inj h
    obtain ⟨f3, f4⟩ := Prod.mk.inj f2
    obtain ⟨f5, f6⟩ := Prod.mk.inj f4
    subst f3
    subst f5
    subst f6
    exact ri S hr hlocks hW dX8_forget_45
  · have h := of_n u1 h
    by_cases u7 : p1 = (1 : Int32)
    · have h := of_p u7 h
      refine lv_tableIn (off := 45) (tgt := 46) S.1 S.2.1 dX8_forget_1 (by rw [u7]; decide) (by rw [u7]; decide) (by rw [u7]; decide +kernel) (by decide) ?_
      refine lv_aload_n S.1 S.2.1 dX8_forget_46 rfl (lv_at hl 0 rfl) ?_
      refine gf (C := RX8) (T := TX8) (N := 8) (ci := 4) (k := 0) S hK hW wu_X8 rfl (by decide) wf_X8_10 0 rfl rfl dX8_forget_47 ?_
      refine gf (C := RX1) (T := TX1) (N := 9) (ci := 0) (k := 4) S hK hW wu_X1 rfl (by decide) wf_X8_219 4 rfl rfl dX8_forget_50 ?_
      refine lv_istore_n (lv' := [(2, .int (c1 4 0)), (0, .ref h0), (1, .int p1)]) S.1 S.2.1 dX8_forget_53 rfl hl (by decide) rfl (fun ls hl => ?_)
      refine lv_aload_n S.1 S.2.1 dX8_forget_54 rfl (lv_at hl 1 rfl) ?_
      refine gf (C := RX8) (T := TX8) (N := 8) (ci := 4) (k := 0) S hK hW wu_X8 rfl (by decide) wf_X8_10 0 rfl rfl dX8_forget_55 ?_
      refine lv_iconst (v := (0 : Int32)) S.1 S.2.1 dX8_forget_58 ki_0 ?_
      refine pf (C := RX1) (T := TX1) (N := 9) (ci := 0) (k := 4) (ty := .int) S hK hW wu_X1 rfl (by decide) tyX1 tyX1_ok nmX1 wf_X8_219 4 rfl rfl rfl rfl rfl (Nat.le_of_ble_eq_true rfl) dX8_forget_59 (fun H locs hW => ?_)
      have hW : wd (dC, dI) A s.heap (clX8 cI cJ cZ cB h0 a0 (c0 2) (c0 5) (w0 6 0) (w0 7 0) (clX1 cI cJ cZ cB (a0 0) a1 (c1 1) (c1 2 0) (c1 3) (0 : Int32) (c1 5) (c1 6 0) (w1 7) (c1 8 0) [])) H locs := hW
      refine lv_iload_n S.1 S.2.1 dX8_forget_62 rfl (lv_at hl 0 rfl) ?_
      have f8 := Option.some.inj h
      obtain ⟨f9, f10⟩ := Prod.mk.inj f8
      obtain ⟨f11, f12⟩ := Prod.mk.inj f10
      subst f9
      subst f11
      subst f12
      exact ri S hr hlocks hW dX8_forget_63
    · have h := of_n u7 h
      by_cases u13 : p1 = (2 : Int32)
      · have h := of_p u13 h
        refine lv_tableIn (off := 63) (tgt := 64) S.1 S.2.1 dX8_forget_1 (by rw [u13]; decide) (by rw [u13]; decide) (by rw [u13]; decide +kernel) (by decide) ?_
        refine lv_aload_n S.1 S.2.1 dX8_forget_64 rfl (lv_at hl 0 rfl) ?_
        refine gf (C := RX8) (T := TX8) (N := 8) (ci := 4) (k := 0) S hK hW wu_X8 rfl (by decide) wf_X8_10 0 rfl rfl dX8_forget_65 ?_
        refine gf (C := RX1) (T := TX1) (N := 9) (ci := 0) (k := 6) S hK hW wu_X1 rfl (by decide) wf_X8_226 4 rfl rfl dX8_forget_68 ?_
        refine lv_istore_n (lv' := [(2, .int (c1 6 0)), (0, .ref h0), (1, .int p1)]) S.1 S.2.1 dX8_forget_71 rfl hl (by decide) rfl (fun ls hl => ?_)
        refine lv_aload_n S.1 S.2.1 dX8_forget_72 rfl (lv_at hl 1 rfl) ?_
        refine gf (C := RX8) (T := TX8) (N := 8) (ci := 4) (k := 0) S hK hW wu_X8 rfl (by decide) wf_X8_10 0 rfl rfl dX8_forget_73 ?_
        refine lv_iconst (v := (0 : Int32)) S.1 S.2.1 dX8_forget_76 ki_0 ?_
        refine pf (C := RX1) (T := TX1) (N := 9) (ci := 0) (k := 6) (ty := .int) S hK hW wu_X1 rfl (by decide) tyX1 tyX1_ok nmX1 wf_X8_226 4 rfl rfl rfl rfl rfl (Nat.le_of_ble_eq_true rfl) dX8_forget_77 (fun H locs hW => ?_)
        have hW : wd (dC, dI) A s.heap (clX8 cI cJ cZ cB h0 a0 (c0 2) (c0 5) (w0 6 0) (w0 7 0) (clX1 cI cJ cZ cB (a0 0) a1 (c1 1) (c1 2 0) (c1 3) (c1 4 0) (c1 5) (0 : Int32) (w1 7) (c1 8 0) [])) H locs := hW
        refine lv_iload_n S.1 S.2.1 dX8_forget_80 rfl (lv_at hl 0 rfl) ?_
        have f14 := Option.some.inj h
        obtain ⟨f15, f16⟩ := Prod.mk.inj f14
        obtain ⟨f17, f18⟩ := Prod.mk.inj f16
        subst f15
        subst f17
        subst f18
        exact ri S hr hlocks hW dX8_forget_81
      · have h := of_n u13 h
        refine lv_tableOut (tgt := 82) S.1 S.2.1 dX8_forget_1 (by have z0 := lv_neT u1 (a := 0) (by decide); have z1 := lv_neT u7 (a := 1) (by decide); have z2 := lv_neT u13 (a := 2) (by decide); omega) (by decide) ?_
        refine lv_aload_n S.1 S.2.1 dX8_forget_82 rfl (lv_at hl 0 rfl) ?_
        refine lv_bipush (v := (-2 : Int32)) S.1 S.2.1 dX8_forget_83 kb_m2 ?_
        obtain ⟨r19, cv20, hy21, h⟩ := bd2_e h
        refine kv (clX8 cI cJ cZ cB h0 a0 (cv20 2) (cv20 5) (w0 6 0) (w0 7 0) (clX1 cI cJ cZ cB (a0 0) a1 (c1 1) (c1 2 0) (c1 3) (c1 4 0) (c1 5) (c1 6 0) (w1 7) (c1 8 0) [])) S hK hN hZ hA hW (rest := []) (t_X8_refuseAsBad l dC dI cI cJ cZ cB zz h0 a0 c0 w0 (-2 : Int32) _ _  hy21) wl_X8_53 wv_X8_refuseAsBad rfl rfl ⟨Nat.le_of_ble_eq_true rfl, Nat.le_of_ble_eq_true rfl⟩ [] (clX1 cI cJ cZ cB (a0 0) a1 (c1 1) (c1 2 0) (c1 3) (c1 4 0) (c1 5) (c1 6 0) (w1 7) (c1 8 0) []) rfl rfl rfl 0 rfl rfl rfl rfl hl.1 rfl (Nat.le_of_ble_eq_true rfl) dX8_forget_85 [.int r19] rfl (fun H locs hW => ?_)
        have f22 := Option.some.inj h
        obtain ⟨f23, f24⟩ := Prod.mk.inj f22
        obtain ⟨f25, f26⟩ := Prod.mk.inj f24
        subst f23
        subst f25
        subst f26
        exact ri S hr hlocks hW dX8_forget_88
abbrev rmX8_is : Room := { frames := 4, cells := 0, slots := 0, locals := 91 }
set_option maxHeartbeats 4000000 in
set_option maxRecDepth 100000 in
theorem t_X8_is (l : Launch) (dC : Nat → ClassId) (dI : Nat → Nat → Nat) (cI cJ cZ cB : ClassId) (zz : ZT)  (h0 : Nat) (a0 : Nat → Nat) (a1 : Nat → Nat) (a2 : Nat → Nat) (F : Nat) (c0 : Nat → Nat → Int32) (w0 : Nat → Nat → Int64) (c1 : Nat → Nat → Int32) (w1 : Nat → Nat → Int64) (c2 : Nat → Nat → Int32) (p1 : Int32) (r : Int32) (c0' : Nat → Nat → Int32) (hm : md_X8_is F c0 w0 c1 w1 c2 p1 = some (r, c0')) : ct l (dC, dI) zz (ty4 cI cJ cZ cB) yX8_is cX8_is 2 (some .int) rmX8_is [.ref h0, .int p1] (cwX8 cI cJ cZ cB h0 a0 c0 w0 (cwX1 cI cJ cZ cB (a0 0) a1 c1 w1 (cwX3 cI cJ cZ cB (a1 0) a2 c2 []))) (cwX8 cI cJ cZ cB h0 a0 c0' w0 (cwX1 cI cJ cZ cB (a0 0) a1 c1 w1 (cwX3 cI cJ cZ cB (a1 0) a2 c2 []))) (some (.int r)) := by
  refine ct_of (cc := cX8_is) (maxL := 2) (ret := (some .int)) (by decide) (Nat.le_of_ble_eq_true rfl) ?_
  intro p e s m below meth c A S hr hlocks hK hN hZ hA H locs hW ls hl
  have S : CallFix p m c cX8_is 2 s (List.toArray [.ref h0, .int p1]) G RX8 := S
  have hl : lv_has ls 2 [(0, .ref h0), (1, .int p1)] := hl
  have h := hm
  rw [md_X8_is] at h
  have hW : wd (dC, dI) A s.heap (clX8 cI cJ cZ cB h0 a0 (c0 2) (c0 5) (w0 6 0) (w0 7 0) (clX1 cI cJ cZ cB (a0 0) a1 (c1 1) (c1 2 0) (c1 3) (c1 4 0) (c1 5) (c1 6 0) (w1 7) (c1 8 0) (clX3 cI cJ cZ cB (a1 0) a2 (c2 0) (c2 1) (c2 2) (c2 3) (c2 4) (c2 5 0) (c2 6 0) (c2 7 0) (c2 8 0) (c2 9 0) []))) H locs := hW
  refine lv_aload_n S.1 S.2.1 dX8_is_0 rfl (lv_at hl 0 rfl) ?_
  refine gf (C := RX8) (T := TX8) (N := 8) (ci := 4) (k := 0) S hK hW wu_X8 rfl (by decide) wf_X8_10 0 rfl rfl dX8_is_1 ?_
  refine gf (C := RX1) (T := TX1) (N := 9) (ci := 0) (k := 0) S hK hW wu_X1 rfl (by decide) wf_X8_57 4 rfl rfl dX8_is_4 ?_
  refine lv_iload_n S.1 S.2.1 dX8_is_7 rfl (lv_at hl 1 rfl) ?_
  obtain ⟨r1, hy2, h⟩ := bd1_e h
  refine kv0 S hK hN hZ hA hW (rest := []) (t_X3_hasPoint l dC dI cI cJ cZ cB zz (a1 0) a2 c2 p1 _  hy2) wl_X8_117 wv_X3_hasPoint rfl rfl ⟨Nat.le_of_ble_eq_true rfl, Nat.le_of_ble_eq_true rfl⟩ (clX8 cI cJ cZ cB h0 a0 (c0 2) (c0 5) (w0 6 0) (w0 7 0) (clX1 cI cJ cZ cB (a0 0) a1 (c1 1) (c1 2 0) (c1 3) (c1 4 0) (c1 5) (c1 6 0) (w1 7) (c1 8 0) [])) [] rfl 9 rfl rfl rfl rfl hl.1 rfl (Nat.le_of_ble_eq_true rfl) dX8_is_8 [.int r1] rfl (fun H locs hW => ?_)
  refine lv_if_ne (tgt := 21) S.1 S.2.1 dX8_is_11 (by decide) (fun u3 => ?_) (fun u3 => ?_)
  · have h := of_n u3 h
    refine lv_aload_n S.1 S.2.1 dX8_is_21 rfl (lv_at hl 0 rfl) ?_
    refine gf (C := RX8) (T := TX8) (N := 8) (ci := 4) (k := 0) S hK hW wu_X8 rfl (by decide) wf_X8_10 0 rfl rfl dX8_is_22 ?_
    refine lv_iload_n S.1 S.2.1 dX8_is_25 rfl (lv_at hl 1 rfl) ?_
    obtain ⟨r4, hy5, h⟩ := bd1_e h
    refine kv0 S hK hN hZ hA hW (rest := []) (t_X1_pointKindsThatFit l dC dI cI cJ cZ cB zz (a0 0) a1 F c1 w1 p1 _  hy5) wl_X8_233 wv_X1_pointKindsThatFit rfl rfl ⟨Nat.le_of_ble_eq_true rfl, Nat.le_of_ble_eq_true rfl⟩ (clX8 cI cJ cZ cB h0 a0 (c0 2) (c0 5) (w0 6 0) (w0 7 0) []) (clX3 cI cJ cZ cB (a1 0) a2 (c2 0) (c2 1) (c2 2) (c2 3) (c2 4) (c2 5 0) (c2 6 0) (c2 7 0) (c2 8 0) (c2 9 0) []) rfl 4 rfl rfl rfl rfl hl.1 rfl (Nat.le_of_ble_eq_true rfl) dX8_is_26 [.int r4] rfl (fun H locs hW => ?_)
    have f6 := Option.some.inj h
    obtain ⟨f7, f8⟩ := Prod.mk.inj f6
    subst f7
    subst f8
    exact ri S hr hlocks hW dX8_is_29
  · have h := of_p u3 h
    refine lv_aload_n S.1 S.2.1 dX8_is_14 rfl (lv_at hl 0 rfl) ?_
    refine lv_bipush (v := (-2 : Int32)) S.1 S.2.1 dX8_is_15 kb_m2 ?_
    obtain ⟨r9, cv10, hy11, h⟩ := bd2_e h
    refine kv (clX8 cI cJ cZ cB h0 a0 (cv10 2) (cv10 5) (w0 6 0) (w0 7 0) (clX1 cI cJ cZ cB (a0 0) a1 (c1 1) (c1 2 0) (c1 3) (c1 4 0) (c1 5) (c1 6 0) (w1 7) (c1 8 0) (clX3 cI cJ cZ cB (a1 0) a2 (c2 0) (c2 1) (c2 2) (c2 3) (c2 4) (c2 5 0) (c2 6 0) (c2 7 0) (c2 8 0) (c2 9 0) []))) S hK hN hZ hA hW (rest := []) (t_X8_refuseAsBad l dC dI cI cJ cZ cB zz h0 a0 c0 w0 (-2 : Int32) _ _  hy11) wl_X8_53 wv_X8_refuseAsBad rfl rfl ⟨Nat.le_of_ble_eq_true rfl, Nat.le_of_ble_eq_true rfl⟩ [] (clX1 cI cJ cZ cB (a0 0) a1 (c1 1) (c1 2 0) (c1 3) (c1 4 0) (c1 5) (c1 6 0) (w1 7) (c1 8 0) (clX3 cI cJ cZ cB (a1 0) a2 (c2 0) (c2 1) (c2 2) (c2 3) (c2 4) (c2 5 0) (c2 6 0) (c2 7 0) (c2 8 0) (c2 9 0) [])) rfl rfl rfl 0 rfl rfl rfl rfl hl.1 rfl (Nat.le_of_ble_eq_true rfl) dX8_is_17 [.int r9] rfl (fun H locs hW => ?_)
    have f12 := Option.some.inj h
    obtain ⟨f13, f14⟩ := Prod.mk.inj f12
    subst f13
    subst f14
    exact ri S hr hlocks hW dX8_is_20
abbrev rmX8_look : Room := { frames := 4, cells := 0, slots := 0, locals := 97 }
set_option maxHeartbeats 4000000 in
set_option maxRecDepth 100000 in
theorem t_X8_look (l : Launch) (dC : Nat → ClassId) (dI : Nat → Nat → Nat) (cI cJ cZ cB : ClassId) (zz : ZT)  (h0 : Nat) (a0 : Nat → Nat) (a1 : Nat → Nat) (a2 : Nat → Nat) (F : Nat) (c0 : Nat → Nat → Int32) (w0 : Nat → Nat → Int64) (c1 : Nat → Nat → Int32) (w1 : Nat → Nat → Int64) (c2 : Nat → Nat → Int32) (p1 : Int32) (r : Int32) (c0' : Nat → Nat → Int32) (hm : md_X8_look F c0 w0 c1 w1 c2 p1 = some (r, c0')) : ct l (dC, dI) zz (ty4 cI cJ cZ cB) yX8_look cX8_look 2 (some .int) rmX8_look [.ref h0, .int p1] (cwX8 cI cJ cZ cB h0 a0 c0 w0 (cwX1 cI cJ cZ cB (a0 0) a1 c1 w1 (cwX3 cI cJ cZ cB (a1 0) a2 c2 []))) (cwX8 cI cJ cZ cB h0 a0 c0' w0 (cwX1 cI cJ cZ cB (a0 0) a1 c1 w1 (cwX3 cI cJ cZ cB (a1 0) a2 c2 []))) (some (.int r)) := by
  refine ct_of (cc := cX8_look) (maxL := 2) (ret := (some .int)) (by decide) (Nat.le_of_ble_eq_true rfl) ?_
  intro p e s m below meth c A S hr hlocks hK hN hZ hA H locs hW ls hl
  have S : CallFix p m c cX8_look 2 s (List.toArray [.ref h0, .int p1]) G RX8 := S
  have hl : lv_has ls 2 [(0, .ref h0), (1, .int p1)] := hl
  have h := hm
  rw [md_X8_look] at h
  have hW : wd (dC, dI) A s.heap (clX8 cI cJ cZ cB h0 a0 (c0 2) (c0 5) (w0 6 0) (w0 7 0) (clX1 cI cJ cZ cB (a0 0) a1 (c1 1) (c1 2 0) (c1 3) (c1 4 0) (c1 5) (c1 6 0) (w1 7) (c1 8 0) (clX3 cI cJ cZ cB (a1 0) a2 (c2 0) (c2 1) (c2 2) (c2 3) (c2 4) (c2 5 0) (c2 6 0) (c2 7 0) (c2 8 0) (c2 9 0) []))) H locs := hW
  refine lv_aload_n S.1 S.2.1 dX8_look_0 rfl (lv_at hl 0 rfl) ?_
  refine gf (C := RX8) (T := TX8) (N := 8) (ci := 4) (k := 0) S hK hW wu_X8 rfl (by decide) wf_X8_10 0 rfl rfl dX8_look_1 ?_
  refine gf (C := RX1) (T := TX1) (N := 9) (ci := 0) (k := 0) S hK hW wu_X1 rfl (by decide) wf_X8_57 4 rfl rfl dX8_look_4 ?_
  refine lv_iload_n S.1 S.2.1 dX8_look_7 rfl (lv_at hl 1 rfl) ?_
  obtain ⟨r1, hy2, h⟩ := bd1_e h
  refine kv0 S hK hN hZ hA hW (rest := []) (t_X3_hasPoint l dC dI cI cJ cZ cB zz (a1 0) a2 c2 p1 _  hy2) wl_X8_117 wv_X3_hasPoint rfl rfl ⟨Nat.le_of_ble_eq_true rfl, Nat.le_of_ble_eq_true rfl⟩ (clX8 cI cJ cZ cB h0 a0 (c0 2) (c0 5) (w0 6 0) (w0 7 0) (clX1 cI cJ cZ cB (a0 0) a1 (c1 1) (c1 2 0) (c1 3) (c1 4 0) (c1 5) (c1 6 0) (w1 7) (c1 8 0) [])) [] rfl 9 rfl rfl rfl rfl hl.1 rfl (Nat.le_of_ble_eq_true rfl) dX8_look_8 [.int r1] rfl (fun H locs hW => ?_)
  refine lv_if_ne (tgt := 21) S.1 S.2.1 dX8_look_11 (by decide) (fun u3 => ?_) (fun u3 => ?_)
  · have h := of_n u3 h
    refine lv_aload_n S.1 S.2.1 dX8_look_21 rfl (lv_at hl 0 rfl) ?_
    refine gf (C := RX8) (T := TX8) (N := 8) (ci := 4) (k := 0) S hK hW wu_X8 rfl (by decide) wf_X8_10 0 rfl rfl dX8_look_22 ?_
    refine lv_iload_n S.1 S.2.1 dX8_look_25 rfl (lv_at hl 1 rfl) ?_
    obtain ⟨r4, hy5, h⟩ := bd1_e h
    refine kv0 S hK hN hZ hA hW (rest := []) (t_X1_pointKindsThatFit l dC dI cI cJ cZ cB zz (a0 0) a1 F c1 w1 p1 _  hy5) wl_X8_233 wv_X1_pointKindsThatFit rfl rfl ⟨Nat.le_of_ble_eq_true rfl, Nat.le_of_ble_eq_true rfl⟩ (clX8 cI cJ cZ cB h0 a0 (c0 2) (c0 5) (w0 6 0) (w0 7 0) []) (clX3 cI cJ cZ cB (a1 0) a2 (c2 0) (c2 1) (c2 2) (c2 3) (c2 4) (c2 5 0) (c2 6 0) (c2 7 0) (c2 8 0) (c2 9 0) []) rfl 4 rfl rfl rfl rfl hl.1 rfl (Nat.le_of_ble_eq_true rfl) dX8_look_26 [.int r4] rfl (fun H locs hW => ?_)
    refine lv_aload_n S.1 S.2.1 dX8_look_29 rfl (lv_at hl 0 rfl) ?_
    refine gf (C := RX8) (T := TX8) (N := 8) (ci := 4) (k := 0) S hK hW wu_X8 rfl (by decide) wf_X8_10 0 rfl rfl dX8_look_30 ?_
    refine gf (C := RX1) (T := TX1) (N := 9) (ci := 0) (k := 0) S hK hW wu_X1 rfl (by decide) wf_X8_57 4 rfl rfl dX8_look_33 ?_
    refine gf (C := RX3) (T := TX3) (N := 10) (ci := 2) (k := 3) S hK hW wu_X3 rfl (by decide) wf_X8_169 9 rfl rfl dX8_look_36 ?_
    refine lv_iload_n S.1 S.2.1 dX8_look_39 rfl (lv_at hl 1 rfl) ?_
    obtain ⟨z6, h⟩ := of_g h
    refine ia S hK hW rfl 13 rfl z6 dX8_look_40 ?_
    obtain ⟨r7, hy8, h⟩ := bd1_e h
    refine ks0 S hK hN hZ hA hW (rest := []) (t_X5_bestLook l dC dI cI cJ cZ cB zz F r4 ((c2 3) (ix p1)) _  hy8) wl_X8_236 wv_X5_bestLook rfl rfl ⟨Nat.le_of_ble_eq_true rfl, Nat.le_of_ble_eq_true rfl⟩ [] (clX8 cI cJ cZ cB h0 a0 (c0 2) (c0 5) (w0 6 0) (w0 7 0) (clX1 cI cJ cZ cB (a0 0) a1 (c1 1) (c1 2 0) (c1 3) (c1 4 0) (c1 5) (c1 6 0) (w1 7) (c1 8 0) (clX3 cI cJ cZ cB (a1 0) a2 (c2 0) (c2 1) (c2 2) (c2 3) (c2 4) (c2 5 0) (c2 6 0) (c2 7 0) (c2 8 0) (c2 9 0) []))) rfl rfl hl.1 rfl (Nat.le_of_ble_eq_true rfl) dX8_look_41 [.int r7] rfl (fun H locs hW => ?_)
    have f9 := Option.some.inj h
    obtain ⟨f10, f11⟩ := Prod.mk.inj f9
    subst f10
    subst f11
    exact ri S hr hlocks hW dX8_look_44
  · have h := of_p u3 h
    refine lv_aload_n S.1 S.2.1 dX8_look_14 rfl (lv_at hl 0 rfl) ?_
    refine lv_bipush (v := (-2 : Int32)) S.1 S.2.1 dX8_look_15 kb_m2 ?_
    obtain ⟨r12, cv13, hy14, h⟩ := bd2_e h
    refine kv (clX8 cI cJ cZ cB h0 a0 (cv13 2) (cv13 5) (w0 6 0) (w0 7 0) (clX1 cI cJ cZ cB (a0 0) a1 (c1 1) (c1 2 0) (c1 3) (c1 4 0) (c1 5) (c1 6 0) (w1 7) (c1 8 0) (clX3 cI cJ cZ cB (a1 0) a2 (c2 0) (c2 1) (c2 2) (c2 3) (c2 4) (c2 5 0) (c2 6 0) (c2 7 0) (c2 8 0) (c2 9 0) []))) S hK hN hZ hA hW (rest := []) (t_X8_refuseAsBad l dC dI cI cJ cZ cB zz h0 a0 c0 w0 (-2 : Int32) _ _  hy14) wl_X8_53 wv_X8_refuseAsBad rfl rfl ⟨Nat.le_of_ble_eq_true rfl, Nat.le_of_ble_eq_true rfl⟩ [] (clX1 cI cJ cZ cB (a0 0) a1 (c1 1) (c1 2 0) (c1 3) (c1 4 0) (c1 5) (c1 6 0) (w1 7) (c1 8 0) (clX3 cI cJ cZ cB (a1 0) a2 (c2 0) (c2 1) (c2 2) (c2 3) (c2 4) (c2 5 0) (c2 6 0) (c2 7 0) (c2 8 0) (c2 9 0) [])) rfl rfl rfl 0 rfl rfl rfl rfl hl.1 rfl (Nat.le_of_ble_eq_true rfl) dX8_look_17 [.int r12] rfl (fun H locs hW => ?_)
    have f15 := Option.some.inj h
    obtain ⟨f16, f17⟩ := Prod.mk.inj f15
    subst f16
    subst f17
    exact ri S hr hlocks hW dX8_look_20
abbrev rmX8_kinds : Room := { frames := 4, cells := 0, slots := 0, locals := 89 }
set_option maxHeartbeats 4000000 in
set_option maxRecDepth 100000 in
theorem t_X8_kinds (l : Launch) (dC : Nat → ClassId) (dI : Nat → Nat → Nat) (cI cJ cZ cB : ClassId) (zz : ZT)  (h0 : Nat) (a0 : Nat → Nat) (a1 : Nat → Nat) (F : Nat) (c0 : Nat → Nat → Int32) (w0 : Nat → Nat → Int64) (c1 : Nat → Nat → Int32) (w1 : Nat → Nat → Int64) (p1 : Int32) (r : Int32) (c0' : Nat → Nat → Int32) (hm : md_X8_kinds F c0 w0 c1 w1 p1 = some (r, c0')) : ct l (dC, dI) zz (ty4 cI cJ cZ cB) yX8_kinds cX8_kinds 2 (some .int) rmX8_kinds [.ref h0, .int p1] (cwX8 cI cJ cZ cB h0 a0 c0 w0 (cwX1 cI cJ cZ cB (a0 0) a1 c1 w1 [])) (cwX8 cI cJ cZ cB h0 a0 c0' w0 (cwX1 cI cJ cZ cB (a0 0) a1 c1 w1 [])) (some (.int r)) := by
  refine ct_of (cc := cX8_kinds) (maxL := 2) (ret := (some .int)) (by decide) (Nat.le_of_ble_eq_true rfl) ?_
  intro p e s m below meth c A S hr hlocks hK hN hZ hA H locs hW ls hl
  have S : CallFix p m c cX8_kinds 2 s (List.toArray [.ref h0, .int p1]) G RX8 := S
  have hl : lv_has ls 2 [(0, .ref h0), (1, .int p1)] := hl
  have h := hm
  rw [md_X8_kinds] at h
  have hW : wd (dC, dI) A s.heap (clX8 cI cJ cZ cB h0 a0 (c0 2) (c0 5) (w0 6 0) (w0 7 0) (clX1 cI cJ cZ cB (a0 0) a1 (c1 1) (c1 2 0) (c1 3) (c1 4 0) (c1 5) (c1 6 0) (w1 7) (c1 8 0) [])) H locs := hW
  refine lv_iload_n S.1 S.2.1 dX8_kinds_0 rfl (lv_at hl 1 rfl) ?_
  obtain ⟨r1, hy2, h⟩ := bd1_e h
  refine ks0 S hK hN hZ hA hW (rest := []) (t_X8_isCounsel l dC dI cI cJ cZ cB zz p1 _  hy2) wl_X8_68 wv_X8_isCounsel rfl rfl ⟨Nat.le_of_ble_eq_true rfl, Nat.le_of_ble_eq_true rfl⟩ [] (clX8 cI cJ cZ cB h0 a0 (c0 2) (c0 5) (w0 6 0) (w0 7 0) (clX1 cI cJ cZ cB (a0 0) a1 (c1 1) (c1 2 0) (c1 3) (c1 4 0) (c1 5) (c1 6 0) (w1 7) (c1 8 0) [])) rfl rfl hl.1 rfl (Nat.le_of_ble_eq_true rfl) dX8_kinds_1 [.int r1] rfl (fun H locs hW => ?_)
  refine lv_if_ne (tgt := 14) S.1 S.2.1 dX8_kinds_4 (by decide) (fun u3 => ?_) (fun u3 => ?_)
  · have h := of_n u3 h
    refine lv_aload_n S.1 S.2.1 dX8_kinds_14 rfl (lv_at hl 0 rfl) ?_
    refine gf (C := RX8) (T := TX8) (N := 8) (ci := 4) (k := 0) S hK hW wu_X8 rfl (by decide) wf_X8_10 0 rfl rfl dX8_kinds_15 ?_
    refine lv_iload_n S.1 S.2.1 dX8_kinds_18 rfl (lv_at hl 1 rfl) ?_
    obtain ⟨r4, hy5, h⟩ := bd1_e h
    refine kv0 S hK hN hZ hA hW (rest := []) (t_X1_counselKindsThatFit l dC dI cI cJ cZ cB zz (a0 0) a1 F c1 w1 p1 _  hy5) wl_X8_242 wv_X1_counselKindsThatFit rfl rfl ⟨Nat.le_of_ble_eq_true rfl, Nat.le_of_ble_eq_true rfl⟩ (clX8 cI cJ cZ cB h0 a0 (c0 2) (c0 5) (w0 6 0) (w0 7 0) []) [] rfl 4 rfl rfl rfl rfl hl.1 rfl (Nat.le_of_ble_eq_true rfl) dX8_kinds_19 [.int r4] rfl (fun H locs hW => ?_)
    have f6 := Option.some.inj h
    obtain ⟨f7, f8⟩ := Prod.mk.inj f6
    subst f7
    subst f8
    exact ri S hr hlocks hW dX8_kinds_22
  · have h := of_p u3 h
    refine lv_aload_n S.1 S.2.1 dX8_kinds_7 rfl (lv_at hl 0 rfl) ?_
    refine lv_bipush (v := (-2 : Int32)) S.1 S.2.1 dX8_kinds_8 kb_m2 ?_
    obtain ⟨r9, cv10, hy11, h⟩ := bd2_e h
    refine kv (clX8 cI cJ cZ cB h0 a0 (cv10 2) (cv10 5) (w0 6 0) (w0 7 0) (clX1 cI cJ cZ cB (a0 0) a1 (c1 1) (c1 2 0) (c1 3) (c1 4 0) (c1 5) (c1 6 0) (w1 7) (c1 8 0) [])) S hK hN hZ hA hW (rest := []) (t_X8_refuseAsBad l dC dI cI cJ cZ cB zz h0 a0 c0 w0 (-2 : Int32) _ _  hy11) wl_X8_53 wv_X8_refuseAsBad rfl rfl ⟨Nat.le_of_ble_eq_true rfl, Nat.le_of_ble_eq_true rfl⟩ [] (clX1 cI cJ cZ cB (a0 0) a1 (c1 1) (c1 2 0) (c1 3) (c1 4 0) (c1 5) (c1 6 0) (w1 7) (c1 8 0) []) rfl rfl rfl 0 rfl rfl rfl rfl hl.1 rfl (Nat.le_of_ble_eq_true rfl) dX8_kinds_10 [.int r9] rfl (fun H locs hW => ?_)
    have f12 := Option.some.inj h
    obtain ⟨f13, f14⟩ := Prod.mk.inj f12
    subst f13
    subst f14
    exact ri S hr hlocks hW dX8_kinds_13
abbrev rmX8_ask : Room := { frames := 4, cells := 0, slots := 0, locals := 93 }
set_option maxHeartbeats 4000000 in
set_option maxRecDepth 100000 in
theorem t_X8_ask (l : Launch) (dC : Nat → ClassId) (dI : Nat → Nat → Nat) (cI cJ cZ cB : ClassId) (zz : ZT)  (h0 : Nat) (a0 : Nat → Nat) (a1 : Nat → Nat) (F : Nat) (c0 : Nat → Nat → Int32) (w0 : Nat → Nat → Int64) (c1 : Nat → Nat → Int32) (w1 : Nat → Nat → Int64) (p1 : Int32) (r : Int32) (c0' : Nat → Nat → Int32) (hm : md_X8_ask F c0 w0 c1 w1 p1 = some (r, c0')) : ct l (dC, dI) zz (ty4 cI cJ cZ cB) yX8_ask cX8_ask 2 (some .int) rmX8_ask [.ref h0, .int p1] (cwX8 cI cJ cZ cB h0 a0 c0 w0 (cwX1 cI cJ cZ cB (a0 0) a1 c1 w1 [])) (cwX8 cI cJ cZ cB h0 a0 c0' w0 (cwX1 cI cJ cZ cB (a0 0) a1 c1 w1 [])) (some (.int r)) := by
  refine ct_of (cc := cX8_ask) (maxL := 2) (ret := (some .int)) (by decide) (Nat.le_of_ble_eq_true rfl) ?_
  intro p e s m below meth c A S hr hlocks hK hN hZ hA H locs hW ls hl
  have S : CallFix p m c cX8_ask 2 s (List.toArray [.ref h0, .int p1]) G RX8 := S
  have hl : lv_has ls 2 [(0, .ref h0), (1, .int p1)] := hl
  have h := hm
  rw [md_X8_ask] at h
  have hW : wd (dC, dI) A s.heap (clX8 cI cJ cZ cB h0 a0 (c0 2) (c0 5) (w0 6 0) (w0 7 0) (clX1 cI cJ cZ cB (a0 0) a1 (c1 1) (c1 2 0) (c1 3) (c1 4 0) (c1 5) (c1 6 0) (w1 7) (c1 8 0) [])) H locs := hW
  refine lv_iload_n S.1 S.2.1 dX8_ask_0 rfl (lv_at hl 1 rfl) ?_
  obtain ⟨r1, hy2, h⟩ := bd1_e h
  refine ks0 S hK hN hZ hA hW (rest := []) (t_X8_isCounsel l dC dI cI cJ cZ cB zz p1 _  hy2) wl_X8_68 wv_X8_isCounsel rfl rfl ⟨Nat.le_of_ble_eq_true rfl, Nat.le_of_ble_eq_true rfl⟩ [] (clX8 cI cJ cZ cB h0 a0 (c0 2) (c0 5) (w0 6 0) (w0 7 0) (clX1 cI cJ cZ cB (a0 0) a1 (c1 1) (c1 2 0) (c1 3) (c1 4 0) (c1 5) (c1 6 0) (w1 7) (c1 8 0) [])) rfl rfl hl.1 rfl (Nat.le_of_ble_eq_true rfl) dX8_ask_1 [.int r1] rfl (fun H locs hW => ?_)
  refine lv_if_ne (tgt := 14) S.1 S.2.1 dX8_ask_4 (by decide) (fun u3 => ?_) (fun u3 => ?_)
  · have h := of_n u3 h
    refine lv_aload_n S.1 S.2.1 dX8_ask_14 rfl (lv_at hl 0 rfl) ?_
    refine gf (C := RX8) (T := TX8) (N := 8) (ci := 4) (k := 0) S hK hW wu_X8 rfl (by decide) wf_X8_10 0 rfl rfl dX8_ask_15 ?_
    refine lv_iload_n S.1 S.2.1 dX8_ask_18 rfl (lv_at hl 1 rfl) ?_
    obtain ⟨r4, hy5, h⟩ := bd1_e h
    refine kv0 S hK hN hZ hA hW (rest := []) (t_X1_counselKindsThatFit l dC dI cI cJ cZ cB zz (a0 0) a1 F c1 w1 p1 _  hy5) wl_X8_242 wv_X1_counselKindsThatFit rfl rfl ⟨Nat.le_of_ble_eq_true rfl, Nat.le_of_ble_eq_true rfl⟩ (clX8 cI cJ cZ cB h0 a0 (c0 2) (c0 5) (w0 6 0) (w0 7 0) []) [] rfl 4 rfl rfl rfl rfl hl.1 rfl (Nat.le_of_ble_eq_true rfl) dX8_ask_19 [.int r4] rfl (fun H locs hW => ?_)
    obtain ⟨r6, hy7, h⟩ := bd1_e h
    refine ks0 S hK hN hZ hA hW (rest := []) (t_X5_bestQuestion l dC dI cI cJ cZ cB zz F r4 _  hy7) wl_X8_245 wv_X5_bestQuestion rfl rfl ⟨Nat.le_of_ble_eq_true rfl, Nat.le_of_ble_eq_true rfl⟩ [] (clX8 cI cJ cZ cB h0 a0 (c0 2) (c0 5) (w0 6 0) (w0 7 0) (clX1 cI cJ cZ cB (a0 0) a1 (c1 1) (c1 2 0) (c1 3) (c1 4 0) (c1 5) (c1 6 0) (w1 7) (c1 8 0) [])) rfl rfl hl.1 rfl (Nat.le_of_ble_eq_true rfl) dX8_ask_22 [.int r6] rfl (fun H locs hW => ?_)
    have f8 := Option.some.inj h
    obtain ⟨f9, f10⟩ := Prod.mk.inj f8
    subst f9
    subst f10
    exact ri S hr hlocks hW dX8_ask_25
  · have h := of_p u3 h
    refine lv_aload_n S.1 S.2.1 dX8_ask_7 rfl (lv_at hl 0 rfl) ?_
    refine lv_bipush (v := (-2 : Int32)) S.1 S.2.1 dX8_ask_8 kb_m2 ?_
    obtain ⟨r11, cv12, hy13, h⟩ := bd2_e h
    refine kv (clX8 cI cJ cZ cB h0 a0 (cv12 2) (cv12 5) (w0 6 0) (w0 7 0) (clX1 cI cJ cZ cB (a0 0) a1 (c1 1) (c1 2 0) (c1 3) (c1 4 0) (c1 5) (c1 6 0) (w1 7) (c1 8 0) [])) S hK hN hZ hA hW (rest := []) (t_X8_refuseAsBad l dC dI cI cJ cZ cB zz h0 a0 c0 w0 (-2 : Int32) _ _  hy13) wl_X8_53 wv_X8_refuseAsBad rfl rfl ⟨Nat.le_of_ble_eq_true rfl, Nat.le_of_ble_eq_true rfl⟩ [] (clX1 cI cJ cZ cB (a0 0) a1 (c1 1) (c1 2 0) (c1 3) (c1 4 0) (c1 5) (c1 6 0) (w1 7) (c1 8 0) []) rfl rfl rfl 0 rfl rfl rfl rfl hl.1 rfl (Nat.le_of_ble_eq_true rfl) dX8_ask_10 [.int r11] rfl (fun H locs hW => ?_)
    have f14 := Option.some.inj h
    obtain ⟨f15, f16⟩ := Prod.mk.inj f14
    subst f15
    subst f16
    exact ri S hr hlocks hW dX8_ask_13
abbrev rmX8_settle : Room := { frames := 26, cells := 0, slots := 0, locals := 772 }
set_option maxHeartbeats 4000000 in
set_option maxRecDepth 100000 in
theorem t_X8_settle (l : Launch) (dC : Nat → ClassId) (dI : Nat → Nat → Nat) (cI cJ cZ cB : ClassId) (zz : ZT)  (h0 : Nat) (a0 : Nat → Nat) (a1 : Nat → Nat) (a2 : Nat → Nat) (a3 : Nat → Nat) (F : Nat) (c0 : Nat → Nat → Int32) (w0 : Nat → Nat → Int64) (c1 : Nat → Nat → Int32) (w1 : Nat → Nat → Int64) (c2 : Nat → Nat → Int32) (c3 : Nat → Nat → Int32) (p1 : Int32) (r : Int32) (c0' : Nat → Nat → Int32) (c3' : Nat → Nat → Int32) (hm : md_X8_settle F c0 w0 c1 w1 c2 c3 p1 = some (r, c0', c3')) : ct l (dC, dI) zz (ty4 cI cJ cZ cB) yX8_settle cX8_settle 5 (some .int) rmX8_settle [.ref h0, .int p1] (cwX8 cI cJ cZ cB h0 a0 c0 w0 (cwX1 cI cJ cZ cB (a0 0) a1 c1 w1 (cwX3 cI cJ cZ cB (a1 0) a2 c2 (cwX3 cI cJ cZ cB (a0 3) a3 c3 [])))) (cwX8 cI cJ cZ cB h0 a0 c0' w0 (cwX1 cI cJ cZ cB (a0 0) a1 c1 w1 (cwX3 cI cJ cZ cB (a1 0) a2 c2 (cwX3 cI cJ cZ cB (a0 3) a3 c3' [])))) (some (.int r)) := by
  refine ct_of (cc := cX8_settle) (maxL := 5) (ret := (some .int)) (by decide) (Nat.le_of_ble_eq_true rfl) ?_
  intro p e s m below meth c A S hr hlocks hK hN hZ hA H locs hW ls hl
  have S : CallFix p m c cX8_settle 5 s (List.toArray [.ref h0, .int p1]) G RX8 := S
  have hl : lv_has ls 5 [(0, .ref h0), (1, .int p1)] := hl
  have h := hm
  rw [md_X8_settle] at h
  have hW : wd (dC, dI) A s.heap (clX8 cI cJ cZ cB h0 a0 (c0 2) (c0 5) (w0 6 0) (w0 7 0) (clX1 cI cJ cZ cB (a0 0) a1 (c1 1) (c1 2 0) (c1 3) (c1 4 0) (c1 5) (c1 6 0) (w1 7) (c1 8 0) (clX3 cI cJ cZ cB (a1 0) a2 (c2 0) (c2 1) (c2 2) (c2 3) (c2 4) (c2 5 0) (c2 6 0) (c2 7 0) (c2 8 0) (c2 9 0) (clX3 cI cJ cZ cB (a0 3) a3 (c3 0) (c3 1) (c3 2) (c3 3) (c3 4) (c3 5 0) (c3 6 0) (c3 7 0) (c3 8 0) (c3 9 0) [])))) H locs := hW
  have hL46 : ∀ (n46 : Nat) (c0 : Nat → Nat → Int32) (c3 : Nat → Nat → Int32) (x1 : Int32) (x2 : Int32) (x3 : Int32) (x4 : Int32), ld_X8_settle_46 F w0 c1 w1 c2 n46 c0 c3 x1 x2 x3 x4 = some (r, c0', c3') → ∀ (H : Heap) (locs : List Loc), wd (dC, dI) A s.heap (clX8 cI cJ cZ cB h0 a0 (c0 2) (c0 5) (w0 6 0) (w0 7 0) (clX1 cI cJ cZ cB (a0 0) a1 (c1 1) (c1 2 0) (c1 3) (c1 4 0) (c1 5) (c1 6 0) (w1 7) (c1 8 0) (clX3 cI cJ cZ cB (a1 0) a2 (c2 0) (c2 1) (c2 2) (c2 3) (c2 4) (c2 5 0) (c2 6 0) (c2 7 0) (c2 8 0) (c2 9 0) (clX3 cI cJ cZ cB (a0 3) a3 (c3 0) (c3 1) (c3 2) (c3 3) (c3 4) (c3 5 0) (c3 6 0) (c3 7 0) (c3 8 0) (c3 9 0) [])))) H locs → ∀ ls : Array Slot, lv_has ls 5 [(1, .int x1), (2, .int x2), (3, .int x3), (4, .int x4)] → W p l e rmX8_settle s m (List.toArray [.ref h0, .int p1]) below meth c H locs 0 0 (MQ below (kQ (dC, dI) (cwX8 cI cJ cZ cB h0 a0 c0' w0 (cwX1 cI cJ cZ cB (a0 0) a1 c1 w1 (cwX3 cI cJ cZ cB (a1 0) a2 c2 (cwX3 cI cJ cZ cB (a0 3) a3 c3' [])))) (some (.int r)) A) (List.toArray [.ref h0, .int p1]) s 0 0 A) (F0 m 46 ls []) := by
    intro n46
    induction n46 with
    | zero => intro c0 c3 x1 x2 x3 x4 h; rw [ld_X8_settle_46] at h; cases h
    | succ n46 ih46 =>
      intro c0 c3 x1 x2 x3 x4 h H locs hW ls hl
      rw [ld_X8_settle_46] at h
      refine lv_iload S.1 S.2.1 dX8_settle_46 (lv_at hl 3 rfl) ?_
      refine lv_bipush (v := (100 : Int32)) S.1 S.2.1 dX8_settle_48 kb_100 ?_
      refine lv_icmp_ge (tgt := 87) S.1 S.2.1 dX8_settle_50 (by decide) (fun u1 => ?_) (fun u1 => ?_)
      · have h := of_p u1 h
        refine lv_iload_n S.1 S.2.1 dX8_settle_87 rfl (lv_at hl 0 rfl) ?_
        refine lv_iconst (v := (-1 : Int32)) S.1 S.2.1 dX8_settle_88 ki_m1 ?_
        obtain ⟨y2, e3, h⟩ := lt1_e h
        suffices hM4 : ∀ ls : Array Slot, lv_has ls 5 [] → W p l e rmX8_settle s m (List.toArray [.ref h0, .int p1]) below meth c H locs 0 0 (MQ below (kQ (dC, dI) (cwX8 cI cJ cZ cB h0 a0 c0' w0 (cwX1 cI cJ cZ cB (a0 0) a1 c1 w1 (cwX3 cI cJ cZ cB (a1 0) a2 c2 (cwX3 cI cJ cZ cB (a0 3) a3 c3' [])))) (some (.int r)) A) (List.toArray [.ref h0, .int p1]) s 0 0 A) (F0 m 98 ls [.int y2]) by
          refine lv_icmp_ne (tgt := 96) S.1 S.2.1 dX8_settle_89 (by decide) (fun u5 => ?_) (fun u5 => ?_)
          · refine lv_bipush (v := (-5 : Int32)) S.1 S.2.1 dX8_settle_96 kb_m5 ?_
            have e3 := e3.trans (if_neg u5)
            subst e3
            exact hM4 ls (lv_sub hl [] rfl)
          · refine lv_iload_n S.1 S.2.1 dX8_settle_92 rfl (lv_at hl 2 rfl) ?_
            refine lv_goto (tgt := 98) S.1 S.2.1 dX8_settle_93 (by decide) ?_
            have e3 := e3.trans (if_pos u5)
            subst e3
            exact hM4 ls (lv_sub hl [] rfl)
        intro ls hl
        have f6 := Option.some.inj h
        obtain ⟨f7, f8⟩ := Prod.mk.inj f6
        obtain ⟨f9, f10⟩ := Prod.mk.inj f8
        subst f7
        subst f9
        subst f10
        exact ri S hr hlocks hW dX8_settle_98
      · have h := of_n u1 h
        refine lv_iload S.1 S.2.1 dX8_settle_53 (lv_at hl 3 rfl) ?_
        refine lv_bipush (v := (10 : Int32)) S.1 S.2.1 dX8_settle_55 kb_10 ?_
        refine lv_idiv S.1 S.2.1 dX8_settle_57 (by decide) ?_
        refine lv_iload S.1 S.2.1 dX8_settle_58 (lv_at hl 3 rfl) ?_
        refine lv_bipush (v := (10 : Int32)) S.1 S.2.1 dX8_settle_60 kb_10 ?_
        refine lv_irem S.1 S.2.1 dX8_settle_62 (by decide) ?_
        refine lv_iload_n S.1 S.2.1 dX8_settle_63 rfl (lv_at hl 1 rfl) ?_
        obtain ⟨r11, hy12, h⟩ := bd1_e h
        refine ks0 S hK hN hZ hA hW (rest := []) (t_X6_rests l dC dI cI cJ cZ cB zz F (x4 / (10 : Int32)) (x4 - x4 / (10 : Int32) * (10 : Int32)) x2 _  hy12) wl_X8_248 wv_X6_rests rfl rfl ⟨Nat.le_of_ble_eq_true rfl, Nat.le_of_ble_eq_true rfl⟩ [] (clX8 cI cJ cZ cB h0 a0 (c0 2) (c0 5) (w0 6 0) (w0 7 0) (clX1 cI cJ cZ cB (a0 0) a1 (c1 1) (c1 2 0) (c1 3) (c1 4 0) (c1 5) (c1 6 0) (w1 7) (c1 8 0) (clX3 cI cJ cZ cB (a1 0) a2 (c2 0) (c2 1) (c2 2) (c2 3) (c2 4) (c2 5 0) (c2 6 0) (c2 7 0) (c2 8 0) (c2 9 0) (clX3 cI cJ cZ cB (a0 3) a3 (c3 0) (c3 1) (c3 2) (c3 3) (c3 4) (c3 5 0) (c3 6 0) (c3 7 0) (c3 8 0) (c3 9 0) [])))) rfl rfl hl.1 rfl (Nat.le_of_ble_eq_true rfl) dX8_settle_64 [.int r11] rfl (fun H locs hW => ?_)
        refine lv_if_eq (tgt := 81) S.1 S.2.1 dX8_settle_67 (by decide) (fun u13 => ?_) (fun u13 => ?_)
        · have h := of_p u13 h
          refine lv_iinc (v := (x4 + (1 : Int32))) (lv' := [(4, .int (x4 + (1 : Int32))), (1, .int x1), (2, .int x2), (3, .int x3)]) S.1 S.2.1 dX8_settle_81 hl (k := 3) rfl (congrArg (fun z => x4 + z) ki_1) (by decide) rfl (fun ls hl => ?_)
          refine lv_goto (tgt := 46) S.1 S.2.1 dX8_settle_84 (by decide) ?_
          exact ih46 _ _ _ _ _ _ h H locs hW ls (lv_sub hl [1, 2, 3, 0] rfl)
        · have h := of_n u13 h
          refine lv_iload_n S.1 S.2.1 dX8_settle_70 rfl (lv_at hl 2 rfl) ?_
          refine lv_iload_n S.1 S.2.1 dX8_settle_71 rfl (lv_at hl 0 rfl) ?_
          refine lv_icmp_ne (tgt := 78) S.1 S.2.1 dX8_settle_72 (by decide) (fun u14 => ?_) (fun u14 => ?_)
          · have h := of_n u14 h
            refine lv_iinc (v := (x3 + (1 : Int32))) (lv' := [(3, .int (x3 + (1 : Int32))), (1, .int x1), (2, .int x2), (4, .int x4)]) S.1 S.2.1 dX8_settle_78 hl (k := 2) rfl (congrArg (fun z => x3 + z) ki_1) (by decide) rfl (fun ls hl => ?_)
            refine lv_iinc (v := (x4 + (1 : Int32))) (lv' := [(4, .int (x4 + (1 : Int32))), (3, .int (x3 + (1 : Int32))), (1, .int x1), (2, .int x2)]) S.1 S.2.1 dX8_settle_81 hl (k := 3) rfl (congrArg (fun z => x4 + z) ki_1) (by decide) rfl (fun ls hl => ?_)
            refine lv_goto (tgt := 46) S.1 S.2.1 dX8_settle_84 (by decide) ?_
            exact ih46 _ _ _ _ _ _ h H locs hW ls (lv_sub hl [2, 3, 1, 0] rfl)
          · have h := of_p u14 h
            refine lv_iload S.1 S.2.1 dX8_settle_75 (lv_at hl 3 rfl) ?_
            have f15 := Option.some.inj h
            obtain ⟨f16, f17⟩ := Prod.mk.inj f15
            obtain ⟨f18, f19⟩ := Prod.mk.inj f17
            subst f16
            subst f18
            subst f19
            exact ri S hr hlocks hW dX8_settle_77
  refine lv_iload_n S.1 S.2.1 dX8_settle_0 rfl (lv_at hl 1 rfl) ?_
  refine lv_iconst (v := (-1 : Int32)) S.1 S.2.1 dX8_settle_1 ki_m1 ?_
  refine lv_icmp_ge (tgt := 12) S.1 S.2.1 dX8_settle_2 (by decide) (fun u20 => ?_) (fun u20 => ?_)
  · have h := of_p u20 h
    refine lv_aload_n S.1 S.2.1 dX8_settle_12 rfl (lv_at hl 0 rfl) ?_
    refine gf (C := RX8) (T := TX8) (N := 8) (ci := 4) (k := 3) S hK hW wu_X8 rfl (by decide) wf_X8_27 0 rfl rfl dX8_settle_13 ?_
    refine lv_aload_n S.1 S.2.1 dX8_settle_16 rfl (lv_at hl 0 rfl) ?_
    refine gf (C := RX8) (T := TX8) (N := 8) (ci := 4) (k := 0) S hK hW wu_X8 rfl (by decide) wf_X8_10 0 rfl rfl dX8_settle_17 ?_
    refine gf (C := RX1) (T := TX1) (N := 9) (ci := 0) (k := 0) S hK hW wu_X1 rfl (by decide) wf_X8_57 4 rfl rfl dX8_settle_20 ?_
    obtain ⟨cv21, hy22, h⟩ := bd1_e h
    refine kv (clX8 cI cJ cZ cB h0 a0 (c0 2) (c0 5) (w0 6 0) (w0 7 0) (clX1 cI cJ cZ cB (a0 0) a1 (c1 1) (c1 2 0) (c1 3) (c1 4 0) (c1 5) (c1 6 0) (w1 7) (c1 8 0) (clX3 cI cJ cZ cB (a1 0) a2 (c2 0) (c2 1) (c2 2) (c2 3) (c2 4) (c2 5 0) (c2 6 0) (c2 7 0) (c2 8 0) (c2 9 0) (clX3 cI cJ cZ cB (a0 3) a3 (cv21 0) (cv21 1) (cv21 2) (cv21 3) (cv21 4) (cv21 5 0) (cv21 6 0) (cv21 7 0) (cv21 8 0) (cv21 9 0) [])))) S hK hN hZ hA hW (rest := []) (t_X3_copy l dC dI cI cJ cZ cB zz (a1 0) a2 (a0 3) a3 F c2 c3 _  hy22) wl_X8_113 wv_X3_copy rfl rfl ⟨Nat.le_of_ble_eq_true rfl, Nat.le_of_ble_eq_true rfl⟩ (clX8 cI cJ cZ cB h0 a0 (c0 2) (c0 5) (w0 6 0) (w0 7 0) (clX1 cI cJ cZ cB (a0 0) a1 (c1 1) (c1 2 0) (c1 3) (c1 4 0) (c1 5) (c1 6 0) (w1 7) (c1 8 0) [])) [] rfl rfl rfl 15 rfl rfl rfl rfl hl.1 rfl (Nat.le_of_ble_eq_true rfl) dX8_settle_23 [] rfl (fun H locs hW => ?_)
    refine lv_aload_n S.1 S.2.1 dX8_settle_26 rfl (lv_at hl 0 rfl) ?_
    refine gf (C := RX8) (T := TX8) (N := 8) (ci := 4) (k := 3) S hK hW wu_X8 rfl (by decide) wf_X8_27 0 rfl rfl dX8_settle_27 ?_
    refine lv_sipush (v := (-1000 : Int32)) S.1 S.2.1 dX8_settle_30 ks_m1000 ?_
    refine lv_sipush (v := (1000 : Int32)) S.1 S.2.1 dX8_settle_33 ks_1000 ?_
    refine lv_iconst (v := (0 : Int32)) S.1 S.2.1 dX8_settle_36 ki_0 ?_
    obtain ⟨r23, cv24, hy25, h⟩ := bd2_e h
    refine kn (clX8 cI cJ cZ cB h0 a0 (c0 2) (c0 5) (w0 6 0) (w0 7 0) (clX1 cI cJ cZ cB (a0 0) a1 (c1 1) (c1 2 0) (c1 3) (c1 4 0) (c1 5) (c1 6 0) (w1 7) (c1 8 0) (clX3 cI cJ cZ cB (a1 0) a2 (c2 0) (c2 1) (c2 2) (c2 3) (c2 4) (c2 5 0) (c2 6 0) (c2 7 0) (c2 8 0) (c2 9 0) (clX3 cI cJ cZ cB (a0 3) a3 (cv24 0) (cv24 1) (cv24 2) (cv24 3) (cv24 4) (cv24 5 0) (cv24 6 0) (cv24 7 0) (cv24 8 0) (cv24 9 0) [])))) S hK hN hZ hA hW (rest := []) (t_wD8 l dC dI cI cJ cZ cB zz (a0 3) a3 F cv21 (-1000 : Int32) (1000 : Int32) (0 : Int32) _ _  hy25) wx_X8_186 wv_X0_worth rfl rfl ⟨Nat.le_of_ble_eq_true rfl, Nat.le_of_ble_eq_true rfl⟩ (clX8 cI cJ cZ cB h0 a0 (c0 2) (c0 5) (w0 6 0) (w0 7 0) (clX1 cI cJ cZ cB (a0 0) a1 (c1 1) (c1 2 0) (c1 3) (c1 4 0) (c1 5) (c1 6 0) (w1 7) (c1 8 0) (clX3 cI cJ cZ cB (a1 0) a2 (c2 0) (c2 1) (c2 2) (c2 3) (c2 4) (c2 5 0) (c2 6 0) (c2 7 0) (c2 8 0) (c2 9 0) []))) [] rfl rfl rfl rfl hl.1 rfl (Nat.le_of_ble_eq_true rfl) dX8_settle_37 [.int r23] rfl (fun H locs hW => ?_)
    refine lv_istore_n (lv' := [(2, .int r23), (0, .ref h0), (1, .int p1)]) S.1 S.2.1 dX8_settle_40 rfl hl (by decide) rfl (fun ls hl => ?_)
    refine lv_iconst (v := (0 : Int32)) S.1 S.2.1 dX8_settle_41 ki_0 ?_
    refine lv_istore_n (lv' := [(3, .int (0 : Int32)), (2, .int r23), (0, .ref h0), (1, .int p1)]) S.1 S.2.1 dX8_settle_42 rfl hl (by decide) rfl (fun ls hl => ?_)
    refine lv_iconst (v := (0 : Int32)) S.1 S.2.1 dX8_settle_43 ki_0 ?_
    refine lv_istore (lv' := [(4, .int (0 : Int32)), (3, .int (0 : Int32)), (2, .int r23), (0, .ref h0), (1, .int p1)]) S.1 S.2.1 dX8_settle_44 hl (by decide) rfl (fun ls hl => ?_)
    exact hL46 F _ _ _ _ _ _ h H locs hW ls (lv_sub hl [4, 2, 1, 0] rfl)
  · have h := of_n u20 h
    refine lv_aload_n S.1 S.2.1 dX8_settle_5 rfl (lv_at hl 0 rfl) ?_
    refine lv_bipush (v := (-10 : Int32)) S.1 S.2.1 dX8_settle_6 kb_m10 ?_
    obtain ⟨r26, cv27, hy28, h⟩ := bd2_e h
    refine kv (clX8 cI cJ cZ cB h0 a0 (cv27 2) (cv27 5) (w0 6 0) (w0 7 0) (clX1 cI cJ cZ cB (a0 0) a1 (c1 1) (c1 2 0) (c1 3) (c1 4 0) (c1 5) (c1 6 0) (w1 7) (c1 8 0) (clX3 cI cJ cZ cB (a1 0) a2 (c2 0) (c2 1) (c2 2) (c2 3) (c2 4) (c2 5 0) (c2 6 0) (c2 7 0) (c2 8 0) (c2 9 0) (clX3 cI cJ cZ cB (a0 3) a3 (c3 0) (c3 1) (c3 2) (c3 3) (c3 4) (c3 5 0) (c3 6 0) (c3 7 0) (c3 8 0) (c3 9 0) [])))) S hK hN hZ hA hW (rest := []) (t_X8_refuseAsBad l dC dI cI cJ cZ cB zz h0 a0 c0 w0 (-10 : Int32) _ _  hy28) wl_X8_53 wv_X8_refuseAsBad rfl rfl ⟨Nat.le_of_ble_eq_true rfl, Nat.le_of_ble_eq_true rfl⟩ [] (clX1 cI cJ cZ cB (a0 0) a1 (c1 1) (c1 2 0) (c1 3) (c1 4 0) (c1 5) (c1 6 0) (w1 7) (c1 8 0) (clX3 cI cJ cZ cB (a1 0) a2 (c2 0) (c2 1) (c2 2) (c2 3) (c2 4) (c2 5 0) (c2 6 0) (c2 7 0) (c2 8 0) (c2 9 0) (clX3 cI cJ cZ cB (a0 3) a3 (c3 0) (c3 1) (c3 2) (c3 3) (c3 4) (c3 5 0) (c3 6 0) (c3 7 0) (c3 8 0) (c3 9 0) []))) rfl rfl rfl 0 rfl rfl rfl rfl hl.1 rfl (Nat.le_of_ble_eq_true rfl) dX8_settle_8 [.int r26] rfl (fun H locs hW => ?_)
    have f29 := Option.some.inj h
    obtain ⟨f30, f31⟩ := Prod.mk.inj f29
    obtain ⟨f32, f33⟩ := Prod.mk.inj f31
    subst f30
    subst f32
    subst f33
    exact ri S hr hlocks hW dX8_settle_11
abbrev rmX8_keepFraction : Room := { frames := 0, cells := 0, slots := 0, locals := 0 }
set_option maxHeartbeats 4000000 in
set_option maxRecDepth 100000 in
theorem t_X8_keepFraction (l : Launch) (dC : Nat → ClassId) (dI : Nat → Nat → Nat) (cI cJ cZ cB : ClassId) (zz : ZT)  (h0 : Nat) (a0 : Nat → Nat) (F : Nat) (c0 : Nat → Nat → Int32) (w0 : Nat → Nat → Int64) (p1 : Int64) (p3 : Int64) (w0' : Nat → Nat → Int64) (hm : md_X8_keepFraction F c0 w0 p1 p3 = some (w0')) : ct l (dC, dI) zz (ty4 cI cJ cZ cB) yX8_keepFraction cX8_keepFraction 12 none rmX8_keepFraction [.ref h0, .long p1, .long p3] (cwX8 cI cJ cZ cB h0 a0 c0 w0 []) (cwX8 cI cJ cZ cB h0 a0 c0 w0' []) none := by
  refine ct_of (cc := cX8_keepFraction) (maxL := 12) (ret := none) (by decide) (Nat.le_of_ble_eq_true rfl) ?_
  intro p e s m below meth c A S hr hlocks hK hN hZ hA H locs hW ls hl
  have S : CallFix p m c cX8_keepFraction 12 s (List.toArray [.ref h0, .long p1, .long p3]) G RX8 := S
  have hl : lv_has ls 12 [(0, .ref h0), (1, .long p1), (3, .long p3)] := hl
  have h := hm
  rw [md_X8_keepFraction] at h
  have hW : wd (dC, dI) A s.heap (clX8 cI cJ cZ cB h0 a0 (c0 2) (c0 5) (w0 6 0) (w0 7 0) []) H locs := hW
  have hJ45 : ∀ (w0 : Nat → Nat → Int64) (x1 : Int64) (x3 : Int64) (x5 : Int64), jd_X8_keepFraction_45 F c0 w0 x1 x3 x5 = some (w0') → ∀ (H : Heap) (locs : List Loc), wd (dC, dI) A s.heap (clX8 cI cJ cZ cB h0 a0 (c0 2) (c0 5) (w0 6 0) (w0 7 0) []) H locs → ∀ ls : Array Slot, lv_has ls 12 [(0, .ref h0), (1, .long x1), (3, .long x3), (5, .long x5)] → W p l e rmX8_keepFraction s m (List.toArray [.ref h0, .long p1, .long p3]) below meth c H locs 0 0 (MQ below (kQ (dC, dI) (cwX8 cI cJ cZ cB h0 a0 c0 w0' []) none A) (List.toArray [.ref h0, .long p1, .long p3]) s 0 0 A) (F0 m 45 ls []) := by
    intro w0 x1 x3 x5 h H locs hW ls hl
    rw [jd_X8_keepFraction_45] at h
    refine lv_lload S.1 S.2.1 dX8_keepFraction_45 (lv_at hl 3 rfl) ?_
    refine lv_lconst (v := (0 : Int64)) S.1 S.2.1 dX8_keepFraction_47 rfl ?_
    refine W.lcmp S.1 S.2.1 dX8_keepFraction_48 ?_
    refine lv_if_le (tgt := 68) S.1 S.2.1 dX8_keepFraction_49 (by decide) (fun u1 => ?_) (fun u1 => ?_)
    · have h := of_p u1 h
      have f2 := Option.some.inj h
      subst f2
      exact rv S hr hlocks hW dX8_keepFraction_68
    · have h := of_n u1 h
      refine lv_aload_n S.1 S.2.1 dX8_keepFraction_52 rfl (lv_at hl 0 rfl) ?_
      refine lv_lload_n S.1 S.2.1 dX8_keepFraction_53 rfl (lv_at hl 1 rfl) ?_
      refine lv_lload S.1 S.2.1 dX8_keepFraction_54 (lv_at hl 3 rfl) ?_
      obtain ⟨z3, h⟩ := of_g h
      refine lv_ldiv S.1 S.2.1 dX8_keepFraction_56 z3 ?_
      refine pf (C := RX8) (T := TX8) (N := 8) (ci := 4) (k := 6) (ty := .long) S hK hW wu_X8 rfl (by decide) tyX8 tyX8_ok nmX8 wf_X8_42 0 rfl rfl rfl rfl rfl (Nat.le_of_ble_eq_true rfl) dX8_keepFraction_57 (fun H locs hW => ?_)
      have hW : wd (dC, dI) A s.heap (clX8 cI cJ cZ cB h0 a0 (c0 2) (c0 5) (x1 / x5) (w0 7 0) []) H locs := hW
      refine lv_aload_n S.1 S.2.1 dX8_keepFraction_60 rfl (lv_at hl 0 rfl) ?_
      refine lv_lload_n S.1 S.2.1 dX8_keepFraction_61 rfl (lv_at hl 2 rfl) ?_
      refine lv_lload S.1 S.2.1 dX8_keepFraction_62 (lv_at hl 3 rfl) ?_
      obtain ⟨z4, h⟩ := of_g h
      refine lv_ldiv S.1 S.2.1 dX8_keepFraction_64 z4 ?_
      refine pf (C := RX8) (T := TX8) (N := 8) (ci := 4) (k := 7) (ty := .long) S hK hW wu_X8 rfl (by decide) tyX8 tyX8_ok nmX8 wf_X8_46 0 rfl rfl rfl rfl rfl (Nat.le_of_ble_eq_true rfl) dX8_keepFraction_65 (fun H locs hW => ?_)
      have hW : wd (dC, dI) A s.heap (clX8 cI cJ cZ cB h0 a0 (c0 2) (c0 5) (x1 / x5) (x3 / x5) []) H locs := hW
      have f5 := Option.some.inj h
      subst f5
      exact rv S hr hlocks hW dX8_keepFraction_68
  have hL9 : ∀ (n9 : Nat) (w0 : Nat → Nat → Int64) (x1 : Int64) (x3 : Int64) (x5 : Int64) (x7 : Int64) (x9 : Int32), ld_X8_keepFraction_9 F c0 n9 w0 x1 x3 x5 x7 x9 = some (w0') → ∀ (H : Heap) (locs : List Loc), wd (dC, dI) A s.heap (clX8 cI cJ cZ cB h0 a0 (c0 2) (c0 5) (w0 6 0) (w0 7 0) []) H locs → ∀ ls : Array Slot, lv_has ls 12 [(0, .ref h0), (1, .long x1), (3, .long x3), (5, .long x5), (7, .long x7), (9, .int x9)] → W p l e rmX8_keepFraction s m (List.toArray [.ref h0, .long p1, .long p3]) below meth c H locs 0 0 (MQ below (kQ (dC, dI) (cwX8 cI cJ cZ cB h0 a0 c0 w0' []) none A) (List.toArray [.ref h0, .long p1, .long p3]) s 0 0 A) (F0 m 9 ls []) := by
    intro n9
    induction n9 with
    | zero => intro w0 x1 x3 x5 x7 x9 h; rw [ld_X8_keepFraction_9] at h; cases h
    | succ n9 ih9 =>
      intro w0 x1 x3 x5 x7 x9 h H locs hW ls hl
      rw [ld_X8_keepFraction_9] at h
      refine lv_iload S.1 S.2.1 dX8_keepFraction_9 (lv_at hl 5 rfl) ?_
      refine lv_sipush (v := (128 : Int32)) S.1 S.2.1 dX8_keepFraction_11 ks_128 ?_
      refine lv_icmp_ge (tgt := 45) S.1 S.2.1 dX8_keepFraction_14 (by decide) (fun u6 => ?_) (fun u6 => ?_)
      · have h := of_p u6 h
        exact hJ45 _ _ _ _ h H locs hW ls (lv_sub hl [0, 1, 2, 3] rfl)
      · have h := of_n u6 h
        refine lv_lload S.1 S.2.1 dX8_keepFraction_17 (lv_at hl 4 rfl) ?_
        refine lv_lconst (v := (0 : Int64)) S.1 S.2.1 dX8_keepFraction_19 rfl ?_
        refine W.lcmp S.1 S.2.1 dX8_keepFraction_20 ?_
        refine lv_if_eq (tgt := 45) S.1 S.2.1 dX8_keepFraction_21 (by decide) (fun u7 => ?_) (fun u7 => ?_)
        · have h := of_p u7 h
          exact hJ45 _ _ _ _ h H locs hW ls (lv_sub hl [0, 1, 2, 3] rfl)
        · have h := of_n u7 h
          refine lv_lload S.1 S.2.1 dX8_keepFraction_24 (lv_at hl 3 rfl) ?_
          refine lv_lload S.1 S.2.1 dX8_keepFraction_26 (lv_at hl 4 rfl) ?_
          obtain ⟨z8, h⟩ := of_g h
          refine lv_lrem S.1 S.2.1 dX8_keepFraction_28 z8 ?_
          refine lv_lstore (lv' := [(10, .long (x5 - x5 / x7 * x7)), (0, .ref h0), (1, .long x1), (3, .long x3), (5, .long x5), (7, .long x7), (9, .int x9)]) S.1 S.2.1 dX8_keepFraction_29 hl (by decide) rfl (fun ls hl => ?_)
          refine lv_lload S.1 S.2.1 dX8_keepFraction_31 (lv_at hl 5 rfl) ?_
          refine lv_lstore (lv' := [(5, .long x7), (10, .long (x5 - x5 / x7 * x7)), (0, .ref h0), (1, .long x1), (3, .long x3), (7, .long x7), (9, .int x9)]) S.1 S.2.1 dX8_keepFraction_33 hl (by decide) rfl (fun ls hl => ?_)
          refine lv_lload S.1 S.2.1 dX8_keepFraction_35 (lv_at hl 1 rfl) ?_
          refine lv_lstore (lv' := [(7, .long (x5 - x5 / x7 * x7)), (5, .long x7), (10, .long (x5 - x5 / x7 * x7)), (0, .ref h0), (1, .long x1), (3, .long x3), (9, .int x9)]) S.1 S.2.1 dX8_keepFraction_37 hl (by decide) rfl (fun ls hl => ?_)
          refine lv_iinc (v := (x9 + (1 : Int32))) (lv' := [(9, .int (x9 + (1 : Int32))), (7, .long (x5 - x5 / x7 * x7)), (5, .long x7), (10, .long (x5 - x5 / x7 * x7)), (0, .ref h0), (1, .long x1), (3, .long x3)]) S.1 S.2.1 dX8_keepFraction_39 hl (k := 6) rfl (congrArg (fun z => x9 + z) ki_1) (by decide) rfl (fun ls hl => ?_)
          refine lv_goto (tgt := 9) S.1 S.2.1 dX8_keepFraction_42 (by decide) ?_
          exact ih9 _ _ _ _ _ _ h H locs hW ls (lv_sub hl [4, 5, 6, 2, 1, 0] rfl)
  refine lv_lload_n S.1 S.2.1 dX8_keepFraction_0 rfl (lv_at hl 1 rfl) ?_
  refine lv_lstore (lv' := [(5, .long p1), (0, .ref h0), (1, .long p1), (3, .long p3)]) S.1 S.2.1 dX8_keepFraction_1 hl (by decide) rfl (fun ls hl => ?_)
  refine lv_lload_n S.1 S.2.1 dX8_keepFraction_3 rfl (lv_at hl 3 rfl) ?_
  refine lv_lstore (lv' := [(7, .long p3), (5, .long p1), (0, .ref h0), (1, .long p1), (3, .long p3)]) S.1 S.2.1 dX8_keepFraction_4 hl (by decide) rfl (fun ls hl => ?_)
  refine lv_iconst (v := (0 : Int32)) S.1 S.2.1 dX8_keepFraction_6 ki_0 ?_
  refine lv_istore (lv' := [(9, .int (0 : Int32)), (7, .long p3), (5, .long p1), (0, .ref h0), (1, .long p1), (3, .long p3)]) S.1 S.2.1 dX8_keepFraction_7 hl (by decide) rfl (fun ls hl => ?_)
  exact hL9 F _ _ _ _ _ _ h H locs hW ls (lv_sub hl [3, 4, 5, 2, 1, 0] rfl)
abbrev rmX8_hearings : Room := { frames := 5, cells := 0, slots := 0, locals := 118 }
set_option maxHeartbeats 4000000 in
set_option maxRecDepth 100000 in
theorem t_X8_hearings (l : Launch) (dC : Nat → ClassId) (dI : Nat → Nat → Nat) (cI cJ cZ cB : ClassId) (zz : ZT)  (h0 : Nat) (a0 : Nat → Nat) (a1 : Nat → Nat) (a2 : Nat → Nat) (a3 : Nat → Nat) (F : Nat) (c0 : Nat → Nat → Int32) (w0 : Nat → Nat → Int64) (c1 : Nat → Nat → Int32) (w1 : Nat → Nat → Int64) (c2 : Nat → Nat → Int32) (c3 : Nat → Nat → Int32) (p1 : Int32) (r : Int32) (c0' : Nat → Nat → Int32) (w0' : Nat → Nat → Int64) (c3' : Nat → Nat → Int32) (hm : md_X8_hearings F c0 w0 c1 w1 c2 c3 p1 = some (r, c0', w0', c3')) : ct l (dC, dI) zz (ty4 cI cJ cZ cB) yX8_hearings cX8_hearings 9 (some .int) rmX8_hearings [.ref h0, .int p1] (cwX8 cI cJ cZ cB h0 a0 c0 w0 (cwX1 cI cJ cZ cB (a0 0) a1 c1 w1 (cwX3 cI cJ cZ cB (a1 0) a2 c2 (cwX3 cI cJ cZ cB (a0 3) a3 c3 [])))) (cwX8 cI cJ cZ cB h0 a0 c0' w0' (cwX1 cI cJ cZ cB (a0 0) a1 c1 w1 (cwX3 cI cJ cZ cB (a1 0) a2 c2 (cwX3 cI cJ cZ cB (a0 3) a3 c3' [])))) (some (.int r)) := by
  refine ct_of (cc := cX8_hearings) (maxL := 9) (ret := (some .int)) (by decide) (Nat.le_of_ble_eq_true rfl) ?_
  intro p e s m below meth c A S hr hlocks hK hN hZ hA H locs hW ls hl
  have S : CallFix p m c cX8_hearings 9 s (List.toArray [.ref h0, .int p1]) G RX8 := S
  have hl : lv_has ls 9 [(0, .ref h0), (1, .int p1)] := hl
  have h := hm
  rw [md_X8_hearings] at h
  have hW : wd (dC, dI) A s.heap (clX8 cI cJ cZ cB h0 a0 (c0 2) (c0 5) (w0 6 0) (w0 7 0) (clX1 cI cJ cZ cB (a0 0) a1 (c1 1) (c1 2 0) (c1 3) (c1 4 0) (c1 5) (c1 6 0) (w1 7) (c1 8 0) (clX3 cI cJ cZ cB (a1 0) a2 (c2 0) (c2 1) (c2 2) (c2 3) (c2 4) (c2 5 0) (c2 6 0) (c2 7 0) (c2 8 0) (c2 9 0) (clX3 cI cJ cZ cB (a0 3) a3 (c3 0) (c3 1) (c3 2) (c3 3) (c3 4) (c3 5 0) (c3 6 0) (c3 7 0) (c3 8 0) (c3 9 0) [])))) H locs := hW
  have hL107 : ∀ (n107 : Nat) (c0 : Nat → Nat → Int32) (w0 : Nat → Nat → Int64) (c3 : Nat → Nat → Int32) (x4 : Int64) (x6 : Int64) (x8 : Int32), ld_X8_hearings_107 F c1 w1 c2 n107 c0 w0 c3 x4 x6 x8 = some (r, c0', w0', c3') → ∀ (H : Heap) (locs : List Loc), wd (dC, dI) A s.heap (clX8 cI cJ cZ cB h0 a0 (c0 2) (c0 5) (w0 6 0) (w0 7 0) (clX1 cI cJ cZ cB (a0 0) a1 (c1 1) (c1 2 0) (c1 3) (c1 4 0) (c1 5) (c1 6 0) (w1 7) (c1 8 0) (clX3 cI cJ cZ cB (a1 0) a2 (c2 0) (c2 1) (c2 2) (c2 3) (c2 4) (c2 5 0) (c2 6 0) (c2 7 0) (c2 8 0) (c2 9 0) (clX3 cI cJ cZ cB (a0 3) a3 (c3 0) (c3 1) (c3 2) (c3 3) (c3 4) (c3 5 0) (c3 6 0) (c3 7 0) (c3 8 0) (c3 9 0) [])))) H locs → ∀ ls : Array Slot, lv_has ls 9 [(0, .ref h0), (4, .long x4), (6, .long x6), (8, .int x8)] → W p l e rmX8_hearings s m (List.toArray [.ref h0, .int p1]) below meth c H locs 0 0 (MQ below (kQ (dC, dI) (cwX8 cI cJ cZ cB h0 a0 c0' w0' (cwX1 cI cJ cZ cB (a0 0) a1 c1 w1 (cwX3 cI cJ cZ cB (a1 0) a2 c2 (cwX3 cI cJ cZ cB (a0 3) a3 c3' [])))) (some (.int r)) A) (List.toArray [.ref h0, .int p1]) s 0 0 A) (F0 m 107 ls []) := by
    intro n107
    induction n107 with
    | zero => intro c0 w0 c3 x4 x6 x8 h; rw [ld_X8_hearings_107] at h; cases h
    | succ n107 ih107 =>
      intro c0 w0 c3 x4 x6 x8 h H locs hW ls hl
      rw [ld_X8_hearings_107] at h
      refine lv_iload S.1 S.2.1 dX8_hearings_107 (lv_at hl 3 rfl) ?_
      refine lv_if_le (tgt := 126) S.1 S.2.1 dX8_hearings_109 (by decide) (fun u1 => ?_) (fun u1 => ?_)
      · have h := of_p u1 h
        refine lv_aload_n S.1 S.2.1 dX8_hearings_126 rfl (lv_at hl 0 rfl) ?_
        refine lv_lload S.1 S.2.1 dX8_hearings_127 (lv_at hl 1 rfl) ?_
        refine lv_lload S.1 S.2.1 dX8_hearings_129 (lv_at hl 2 rfl) ?_
        obtain ⟨wv2, hy3, h⟩ := bd1_e h
        refine kv (clX8 cI cJ cZ cB h0 a0 (c0 2) (c0 5) (wv2 6 0) (wv2 7 0) (clX1 cI cJ cZ cB (a0 0) a1 (c1 1) (c1 2 0) (c1 3) (c1 4 0) (c1 5) (c1 6 0) (w1 7) (c1 8 0) (clX3 cI cJ cZ cB (a1 0) a2 (c2 0) (c2 1) (c2 2) (c2 3) (c2 4) (c2 5 0) (c2 6 0) (c2 7 0) (c2 8 0) (c2 9 0) (clX3 cI cJ cZ cB (a0 3) a3 (c3 0) (c3 1) (c3 2) (c3 3) (c3 4) (c3 5 0) (c3 6 0) (c3 7 0) (c3 8 0) (c3 9 0) [])))) S hK hN hZ hA hW (rest := []) (t_X8_keepFraction l dC dI cI cJ cZ cB zz h0 a0 F c0 w0 x4 x6 _  hy3) wl_X8_267 wv_X8_keepFraction rfl rfl ⟨Nat.le_of_ble_eq_true rfl, Nat.le_of_ble_eq_true rfl⟩ [] (clX1 cI cJ cZ cB (a0 0) a1 (c1 1) (c1 2 0) (c1 3) (c1 4 0) (c1 5) (c1 6 0) (w1 7) (c1 8 0) (clX3 cI cJ cZ cB (a1 0) a2 (c2 0) (c2 1) (c2 2) (c2 3) (c2 4) (c2 5 0) (c2 6 0) (c2 7 0) (c2 8 0) (c2 9 0) (clX3 cI cJ cZ cB (a0 3) a3 (c3 0) (c3 1) (c3 2) (c3 3) (c3 4) (c3 5 0) (c3 6 0) (c3 7 0) (c3 8 0) (c3 9 0) []))) rfl rfl rfl 0 rfl rfl rfl rfl hl.1 rfl (Nat.le_of_ble_eq_true rfl) dX8_hearings_131 [] rfl (fun H locs hW => ?_)
        refine lv_iconst (v := (1 : Int32)) S.1 S.2.1 dX8_hearings_134 ki_1 ?_
        have f4 := Option.some.inj h
        obtain ⟨f5, f6⟩ := Prod.mk.inj f4
        obtain ⟨f7, f8⟩ := Prod.mk.inj f6
        obtain ⟨f9, f10⟩ := Prod.mk.inj f8
        subst f5
        subst f7
        subst f9
        subst f10
        exact ri S hr hlocks hW dX8_hearings_135
      · have h := of_n u1 h
        refine lv_lload S.1 S.2.1 dX8_hearings_112 (lv_at hl 2 rfl) ?_
        refine lv_ldc2 (v := (10 : Int64)) S.1 S.2.1 S.2.2.2.1 (S.2.2.2.2 _ wk_X8_265) dX8_hearings_114 ?_
        refine lv_lmul S.1 S.2.1 dX8_hearings_117 ?_
        refine lv_lstore (lv' := [(6, .long (x6 * (10 : Int64))), (0, .ref h0), (4, .long x4), (8, .int x8)]) S.1 S.2.1 dX8_hearings_118 hl (by decide) rfl (fun ls hl => ?_)
        refine lv_iinc (v := (x8 + (-1 : Int32))) (lv' := [(8, .int (x8 + (-1 : Int32))), (6, .long (x6 * (10 : Int64))), (0, .ref h0), (4, .long x4)]) S.1 S.2.1 dX8_hearings_120 hl (k := 3) rfl (congrArg (fun z => x8 + z) ki_m1) (by decide) rfl (fun ls hl => ?_)
        refine lv_goto (tgt := 107) S.1 S.2.1 dX8_hearings_123 (by decide) ?_
        exact ih107 _ _ _ _ _ _ h H locs hW ls (lv_sub hl [2, 3, 1, 0] rfl)
  have hL36 : ∀ (n36 : Nat) (c0 : Nat → Nat → Int32) (w0 : Nat → Nat → Int64) (c3 : Nat → Nat → Int32) (x1 : Int32) (x3 : Int32) (x4 : Int64) (x6 : Int32), ld_X8_hearings_36 F c1 w1 c2 n36 c0 w0 c3 x1 x3 x4 x6 = some (r, c0', w0', c3') → ∀ (H : Heap) (locs : List Loc), wd (dC, dI) A s.heap (clX8 cI cJ cZ cB h0 a0 (c0 2) (c0 5) (w0 6 0) (w0 7 0) (clX1 cI cJ cZ cB (a0 0) a1 (c1 1) (c1 2 0) (c1 3) (c1 4 0) (c1 5) (c1 6 0) (w1 7) (c1 8 0) (clX3 cI cJ cZ cB (a1 0) a2 (c2 0) (c2 1) (c2 2) (c2 3) (c2 4) (c2 5 0) (c2 6 0) (c2 7 0) (c2 8 0) (c2 9 0) (clX3 cI cJ cZ cB (a0 3) a3 (c3 0) (c3 1) (c3 2) (c3 3) (c3 4) (c3 5 0) (c3 6 0) (c3 7 0) (c3 8 0) (c3 9 0) [])))) H locs → ∀ ls : Array Slot, lv_has ls 9 [(0, .ref h0), (1, .int x1), (2, .ref (a1 0)), (3, .int x3), (4, .long x4), (6, .int x6)] → W p l e rmX8_hearings s m (List.toArray [.ref h0, .int p1]) below meth c H locs 0 0 (MQ below (kQ (dC, dI) (cwX8 cI cJ cZ cB h0 a0 c0' w0' (cwX1 cI cJ cZ cB (a0 0) a1 c1 w1 (cwX3 cI cJ cZ cB (a1 0) a2 c2 (cwX3 cI cJ cZ cB (a0 3) a3 c3' [])))) (some (.int r)) A) (List.toArray [.ref h0, .int p1]) s 0 0 A) (F0 m 36 ls []) := by
    intro n36
    induction n36 with
    | zero => intro c0 w0 c3 x1 x3 x4 x6 h; rw [ld_X8_hearings_36] at h; cases h
    | succ n36 ih36 =>
      intro c0 w0 c3 x1 x3 x4 x6 h H locs hW ls hl
      rw [ld_X8_hearings_36] at h
      refine lv_iload S.1 S.2.1 dX8_hearings_36 (lv_at hl 5 rfl) ?_
      refine lv_iload_n S.1 S.2.1 dX8_hearings_38 rfl (lv_at hl 3 rfl) ?_
      refine lv_icmp_gt (tgt := 98) S.1 S.2.1 dX8_hearings_39 (by decide) (fun u11 => ?_) (fun u11 => ?_)
      · have h := of_p u11 h
        refine lv_lconst (v := (1 : Int64)) S.1 S.2.1 dX8_hearings_98 rfl ?_
        refine lv_lstore (lv' := [(6, .long (1 : Int64)), (0, .ref h0), (1, .int x1), (2, .ref (a1 0)), (3, .int x3), (4, .long x4)]) S.1 S.2.1 dX8_hearings_99 hl (by decide) rfl (fun ls hl => ?_)
        refine lv_iload_n S.1 S.2.1 dX8_hearings_101 rfl (lv_at hl 4 rfl) ?_
        obtain ⟨r12, hy13, h⟩ := bd1_e h
        refine ks0 S hK hN hZ hA hW (rest := []) (t_J6_bitCount_0f7a4 l dC dI cI cJ cZ cB zz x3 _  hy13) wl_X8_260 wv_J6_bitCount_0f7a4 rfl rfl ⟨Nat.le_of_ble_eq_true rfl, Nat.le_of_ble_eq_true rfl⟩ [] (clX8 cI cJ cZ cB h0 a0 (c0 2) (c0 5) (w0 6 0) (w0 7 0) (clX1 cI cJ cZ cB (a0 0) a1 (c1 1) (c1 2 0) (c1 3) (c1 4 0) (c1 5) (c1 6 0) (w1 7) (c1 8 0) (clX3 cI cJ cZ cB (a1 0) a2 (c2 0) (c2 1) (c2 2) (c2 3) (c2 4) (c2 5 0) (c2 6 0) (c2 7 0) (c2 8 0) (c2 9 0) (clX3 cI cJ cZ cB (a0 3) a3 (c3 0) (c3 1) (c3 2) (c3 3) (c3 4) (c3 5 0) (c3 6 0) (c3 7 0) (c3 8 0) (c3 9 0) [])))) rfl rfl hl.1 rfl (Nat.le_of_ble_eq_true rfl) dX8_hearings_102 [.int r12] rfl (fun H locs hW => ?_)
        refine lv_istore (lv' := [(8, .int r12), (6, .long (1 : Int64)), (0, .ref h0), (1, .int x1), (2, .ref (a1 0)), (3, .int x3), (4, .long x4)]) S.1 S.2.1 dX8_hearings_105 hl (by decide) rfl (fun ls hl => ?_)
        exact hL107 F _ _ _ _ _ _ h H locs hW ls (lv_sub hl [2, 6, 1, 0] rfl)
      · have h := of_n u11 h
        refine lv_iload S.1 S.2.1 dX8_hearings_42 (lv_at hl 5 rfl) ?_
        refine lv_iload_n S.1 S.2.1 dX8_hearings_44 rfl (lv_at hl 3 rfl) ?_
        refine lv_iconst (v := (-1 : Int32)) S.1 S.2.1 dX8_hearings_45 ki_m1 ?_
        refine lv_ixor S.1 S.2.1 dX8_hearings_46 ?_
        refine lv_iand S.1 S.2.1 dX8_hearings_47 ?_
        refine lv_if_ne (tgt := 92) S.1 S.2.1 dX8_hearings_48 (by decide) (fun u14 => ?_) (fun u14 => ?_)
        · have h := of_n u14 h
          refine lv_iinc (v := (x6 + (1 : Int32))) (lv' := [(6, .int (x6 + (1 : Int32))), (0, .ref h0), (1, .int x1), (2, .ref (a1 0)), (3, .int x3), (4, .long x4)]) S.1 S.2.1 dX8_hearings_92 hl (k := 5) rfl (congrArg (fun z => x6 + z) ki_1) (by decide) rfl (fun ls hl => ?_)
          refine lv_goto (tgt := 36) S.1 S.2.1 dX8_hearings_95 (by decide) ?_
          exact ih36 _ _ _ _ _ _ _ h H locs hW ls (lv_sub hl [1, 2, 3, 4, 5, 0] rfl)
        · have h := of_p u14 h
          refine lv_aload_n S.1 S.2.1 dX8_hearings_51 rfl (lv_at hl 0 rfl) ?_
          refine gf (C := RX8) (T := TX8) (N := 8) (ci := 4) (k := 3) S hK hW wu_X8 rfl (by decide) wf_X8_27 0 rfl rfl dX8_hearings_52 ?_
          refine lv_aload_n S.1 S.2.1 dX8_hearings_55 rfl (lv_at hl 2 rfl) ?_
          obtain ⟨cv15, hy16, h⟩ := bd1_e h
          refine kv (clX8 cI cJ cZ cB h0 a0 (c0 2) (c0 5) (w0 6 0) (w0 7 0) (clX1 cI cJ cZ cB (a0 0) a1 (c1 1) (c1 2 0) (c1 3) (c1 4 0) (c1 5) (c1 6 0) (w1 7) (c1 8 0) (clX3 cI cJ cZ cB (a1 0) a2 (c2 0) (c2 1) (c2 2) (c2 3) (c2 4) (c2 5 0) (c2 6 0) (c2 7 0) (c2 8 0) (c2 9 0) (clX3 cI cJ cZ cB (a0 3) a3 (cv15 0) (cv15 1) (cv15 2) (cv15 3) (cv15 4) (cv15 5 0) (cv15 6 0) (cv15 7 0) (cv15 8 0) (cv15 9 0) [])))) S hK hN hZ hA hW (rest := []) (t_X3_copy l dC dI cI cJ cZ cB zz (a1 0) a2 (a0 3) a3 F c2 c3 _  hy16) wl_X8_113 wv_X3_copy rfl rfl ⟨Nat.le_of_ble_eq_true rfl, Nat.le_of_ble_eq_true rfl⟩ (clX8 cI cJ cZ cB h0 a0 (c0 2) (c0 5) (w0 6 0) (w0 7 0) (clX1 cI cJ cZ cB (a0 0) a1 (c1 1) (c1 2 0) (c1 3) (c1 4 0) (c1 5) (c1 6 0) (w1 7) (c1 8 0) [])) [] rfl rfl rfl 15 rfl rfl rfl rfl hl.1 rfl (Nat.le_of_ble_eq_true rfl) dX8_hearings_56 [] rfl (fun H locs hW => ?_)
          refine lv_aload_n S.1 S.2.1 dX8_hearings_59 rfl (lv_at hl 0 rfl) ?_
          refine gf (C := RX8) (T := TX8) (N := 8) (ci := 4) (k := 3) S hK hW wu_X8 rfl (by decide) wf_X8_27 0 rfl rfl dX8_hearings_60 ?_
          refine lv_iload S.1 S.2.1 dX8_hearings_63 (lv_at hl 5 rfl) ?_
          refine lv_iload_n S.1 S.2.1 dX8_hearings_65 rfl (lv_at hl 1 rfl) ?_
          obtain ⟨r17, cv18, hy19, h⟩ := bd2_e h
          refine ks (clX8 cI cJ cZ cB h0 a0 (c0 2) (c0 5) (w0 6 0) (w0 7 0) (clX1 cI cJ cZ cB (a0 0) a1 (c1 1) (c1 2 0) (c1 3) (c1 4 0) (c1 5) (c1 6 0) (w1 7) (c1 8 0) (clX3 cI cJ cZ cB (a1 0) a2 (c2 0) (c2 1) (c2 2) (c2 3) (c2 4) (c2 5 0) (c2 6 0) (c2 7 0) (c2 8 0) (c2 9 0) (clX3 cI cJ cZ cB (a0 3) a3 (cv18 0) (cv18 1) (cv18 2) (cv18 3) (cv18 4) (cv18 5 0) (cv18 6 0) (cv18 7 0) (cv18 8 0) (cv18 9 0) [])))) S hK hN hZ hA hW (rest := []) (t_X4_weightOf l dC dI cI cJ cZ cB zz (a0 3) a3 F cv15 x6 x1 _ _  hy19) wl_X8_253 wv_X4_weightOf rfl rfl ⟨Nat.le_of_ble_eq_true rfl, Nat.le_of_ble_eq_true rfl⟩ (clX8 cI cJ cZ cB h0 a0 (c0 2) (c0 5) (w0 6 0) (w0 7 0) (clX1 cI cJ cZ cB (a0 0) a1 (c1 1) (c1 2 0) (c1 3) (c1 4 0) (c1 5) (c1 6 0) (w1 7) (c1 8 0) (clX3 cI cJ cZ cB (a1 0) a2 (c2 0) (c2 1) (c2 2) (c2 3) (c2 4) (c2 5 0) (c2 6 0) (c2 7 0) (c2 8 0) (c2 9 0) []))) [] rfl rfl rfl rfl hl.1 rfl (Nat.le_of_ble_eq_true rfl) dX8_hearings_66 [.long r17] rfl (fun H locs hW => ?_)
          refine lv_lstore (lv' := [(7, .long r17), (0, .ref h0), (1, .int x1), (2, .ref (a1 0)), (3, .int x3), (4, .long x4), (6, .int x6)]) S.1 S.2.1 dX8_hearings_69 hl (by decide) rfl (fun ls hl => ?_)
          refine lv_lload S.1 S.2.1 dX8_hearings_71 (lv_at hl 5 rfl) ?_
          refine lv_aload_n S.1 S.2.1 dX8_hearings_73 rfl (lv_at hl 1 rfl) ?_
          refine gf (C := RX8) (T := TX8) (N := 8) (ci := 4) (k := 3) S hK hW wu_X8 rfl (by decide) wf_X8_27 0 rfl rfl dX8_hearings_74 ?_
          obtain ⟨r20, hy21, h⟩ := bd1_e h
          refine kv0 S hK hN hZ hA hW (rest := [.long x4]) (t_X3_counselZeroWins l dC dI cI cJ cZ cB zz (a0 3) a3 cv18 _  hy21) wl_X8_257 wv_X3_counselZeroWins rfl rfl ⟨Nat.le_of_ble_eq_true rfl, Nat.le_of_ble_eq_true rfl⟩ (clX8 cI cJ cZ cB h0 a0 (c0 2) (c0 5) (w0 6 0) (w0 7 0) (clX1 cI cJ cZ cB (a0 0) a1 (c1 1) (c1 2 0) (c1 3) (c1 4 0) (c1 5) (c1 6 0) (w1 7) (c1 8 0) (clX3 cI cJ cZ cB (a1 0) a2 (c2 0) (c2 1) (c2 2) (c2 3) (c2 4) (c2 5 0) (c2 6 0) (c2 7 0) (c2 8 0) (c2 9 0) []))) [] rfl 15 rfl rfl rfl rfl hl.1 rfl (Nat.le_of_ble_eq_true rfl) dX8_hearings_77 [.int r20, .long x4] rfl (fun H locs hW => ?_)
          obtain ⟨y22, e23, h⟩ := lt1_e h
          suffices hM24 : ∀ ls : Array Slot, lv_has ls 9 [(0, .ref h0), (1, .int x1), (2, .ref (a1 0)), (3, .int x3), (6, .int x6)] → W p l e rmX8_hearings s m (List.toArray [.ref h0, .int p1]) below meth c H locs 0 0 (MQ below (kQ (dC, dI) (cwX8 cI cJ cZ cB h0 a0 c0' w0' (cwX1 cI cJ cZ cB (a0 0) a1 c1 w1 (cwX3 cI cJ cZ cB (a1 0) a2 c2 (cwX3 cI cJ cZ cB (a0 3) a3 c3' [])))) (some (.int r)) A) (List.toArray [.ref h0, .int p1]) s 0 0 A) (F0 m 89 ls [.long y22, .long x4]) by
            refine lv_if_eq (tgt := 88) S.1 S.2.1 dX8_hearings_80 (by decide) (fun u25 => ?_) (fun u25 => ?_)
            · refine lv_lconst (v := (0 : Int64)) S.1 S.2.1 dX8_hearings_88 rfl ?_
              have e23 := e23.trans (if_pos u25)
              subst e23
              exact hM24 ls (lv_sub hl [1, 2, 3, 4, 6] rfl)
            · refine lv_lload S.1 S.2.1 dX8_hearings_83 (lv_at hl 0 rfl) ?_
              refine lv_goto (tgt := 89) S.1 S.2.1 dX8_hearings_85 (by decide) ?_
              have e23 := e23.trans (if_neg u25)
              subst e23
              exact hM24 ls (lv_sub hl [1, 2, 3, 4, 6] rfl)
          intro ls hl
          refine lv_ladd S.1 S.2.1 dX8_hearings_89 ?_
          refine lv_lstore (lv' := [(4, .long (x4 + y22)), (0, .ref h0), (1, .int x1), (2, .ref (a1 0)), (3, .int x3), (6, .int x6)]) S.1 S.2.1 dX8_hearings_90 hl (by decide) rfl (fun ls hl => ?_)
          refine lv_iinc (v := (x6 + (1 : Int32))) (lv' := [(6, .int (x6 + (1 : Int32))), (4, .long (x4 + y22)), (0, .ref h0), (1, .int x1), (2, .ref (a1 0)), (3, .int x3)]) S.1 S.2.1 dX8_hearings_92 hl (k := 5) rfl (congrArg (fun z => x6 + z) ki_1) (by decide) rfl (fun ls hl => ?_)
          refine lv_goto (tgt := 36) S.1 S.2.1 dX8_hearings_95 (by decide) ?_
          exact ih36 _ _ _ _ _ _ _ h H locs hW ls (lv_sub hl [2, 3, 4, 5, 1, 0] rfl)
  refine lv_iconst (v := (0 : Int32)) S.1 S.2.1 dX8_hearings_0 ki_0 ?_
  refine lv_iload_n S.1 S.2.1 dX8_hearings_1 rfl (lv_at hl 1 rfl) ?_
  refine lv_bipush (v := (10 : Int32)) S.1 S.2.1 dX8_hearings_2 kb_10 ?_
  obtain ⟨r26, hy27, h⟩ := bd1_e h
  refine ks0 S hK hN hZ hA hW (rest := []) (t_X8_within l dC dI cI cJ cZ cB zz (0 : Int32) p1 (10 : Int32) _  hy27) wl_X8_71 wv_X8_within rfl rfl ⟨Nat.le_of_ble_eq_true rfl, Nat.le_of_ble_eq_true rfl⟩ [] (clX8 cI cJ cZ cB h0 a0 (c0 2) (c0 5) (w0 6 0) (w0 7 0) (clX1 cI cJ cZ cB (a0 0) a1 (c1 1) (c1 2 0) (c1 3) (c1 4 0) (c1 5) (c1 6 0) (w1 7) (c1 8 0) (clX3 cI cJ cZ cB (a1 0) a2 (c2 0) (c2 1) (c2 2) (c2 3) (c2 4) (c2 5 0) (c2 6 0) (c2 7 0) (c2 8 0) (c2 9 0) (clX3 cI cJ cZ cB (a0 3) a3 (c3 0) (c3 1) (c3 2) (c3 3) (c3 4) (c3 5 0) (c3 6 0) (c3 7 0) (c3 8 0) (c3 9 0) [])))) rfl rfl hl.1 rfl (Nat.le_of_ble_eq_true rfl) dX8_hearings_4 [.int r26] rfl (fun H locs hW => ?_)
  refine lv_if_ne (tgt := 17) S.1 S.2.1 dX8_hearings_7 (by decide) (fun u28 => ?_) (fun u28 => ?_)
  · have h := of_n u28 h
    refine lv_aload_n S.1 S.2.1 dX8_hearings_17 rfl (lv_at hl 0 rfl) ?_
    refine gf (C := RX8) (T := TX8) (N := 8) (ci := 4) (k := 0) S hK hW wu_X8 rfl (by decide) wf_X8_10 0 rfl rfl dX8_hearings_18 ?_
    refine gf (C := RX1) (T := TX1) (N := 9) (ci := 0) (k := 0) S hK hW wu_X1 rfl (by decide) wf_X8_57 4 rfl rfl dX8_hearings_21 ?_
    refine lv_astore_n (lv' := [(2, .ref (a1 0)), (0, .ref h0), (1, .int p1)]) S.1 S.2.1 dX8_hearings_24 rfl hl (by decide) rfl (fun ls hl => ?_)
    refine lv_aload_n S.1 S.2.1 dX8_hearings_25 rfl (lv_at hl 0 rfl) ?_
    obtain ⟨r29, hy30, h⟩ := bd1_e h
    refine kv0 S hK hN hZ hA hW (rest := []) (t_X3_unsaid l dC dI cI cJ cZ cB zz (a1 0) a2 c2 _  hy30) wl_X8_160 wv_X3_unsaid rfl rfl ⟨Nat.le_of_ble_eq_true rfl, Nat.le_of_ble_eq_true rfl⟩ (clX8 cI cJ cZ cB h0 a0 (c0 2) (c0 5) (w0 6 0) (w0 7 0) (clX1 cI cJ cZ cB (a0 0) a1 (c1 1) (c1 2 0) (c1 3) (c1 4 0) (c1 5) (c1 6 0) (w1 7) (c1 8 0) [])) (clX3 cI cJ cZ cB (a0 3) a3 (c3 0) (c3 1) (c3 2) (c3 3) (c3 4) (c3 5 0) (c3 6 0) (c3 7 0) (c3 8 0) (c3 9 0) []) rfl 9 rfl rfl rfl rfl hl.1 rfl (Nat.le_of_ble_eq_true rfl) dX8_hearings_26 [.int r29] rfl (fun H locs hW => ?_)
    refine lv_istore_n (lv' := [(3, .int r29), (2, .ref (a1 0)), (0, .ref h0), (1, .int p1)]) S.1 S.2.1 dX8_hearings_29 rfl hl (by decide) rfl (fun ls hl => ?_)
    refine lv_lconst (v := (0 : Int64)) S.1 S.2.1 dX8_hearings_30 rfl ?_
    refine lv_lstore (lv' := [(4, .long (0 : Int64)), (3, .int r29), (2, .ref (a1 0)), (0, .ref h0), (1, .int p1)]) S.1 S.2.1 dX8_hearings_31 hl (by decide) rfl (fun ls hl => ?_)
    refine lv_iconst (v := (0 : Int32)) S.1 S.2.1 dX8_hearings_33 ki_0 ?_
    refine lv_istore (lv' := [(6, .int (0 : Int32)), (4, .long (0 : Int64)), (3, .int r29), (2, .ref (a1 0)), (0, .ref h0), (1, .int p1)]) S.1 S.2.1 dX8_hearings_34 hl (by decide) rfl (fun ls hl => ?_)
    exact hL36 F _ _ _ _ _ _ _ h H locs hW ls (lv_sub hl [4, 5, 3, 2, 1, 0] rfl)
  · have h := of_p u28 h
    refine lv_aload_n S.1 S.2.1 dX8_hearings_10 rfl (lv_at hl 0 rfl) ?_
    refine lv_bipush (v := (-2 : Int32)) S.1 S.2.1 dX8_hearings_11 kb_m2 ?_
    obtain ⟨r31, cv32, hy33, h⟩ := bd2_e h
    refine kv (clX8 cI cJ cZ cB h0 a0 (cv32 2) (cv32 5) (w0 6 0) (w0 7 0) (clX1 cI cJ cZ cB (a0 0) a1 (c1 1) (c1 2 0) (c1 3) (c1 4 0) (c1 5) (c1 6 0) (w1 7) (c1 8 0) (clX3 cI cJ cZ cB (a1 0) a2 (c2 0) (c2 1) (c2 2) (c2 3) (c2 4) (c2 5 0) (c2 6 0) (c2 7 0) (c2 8 0) (c2 9 0) (clX3 cI cJ cZ cB (a0 3) a3 (c3 0) (c3 1) (c3 2) (c3 3) (c3 4) (c3 5 0) (c3 6 0) (c3 7 0) (c3 8 0) (c3 9 0) [])))) S hK hN hZ hA hW (rest := []) (t_X8_refuseAsBad l dC dI cI cJ cZ cB zz h0 a0 c0 w0 (-2 : Int32) _ _  hy33) wl_X8_53 wv_X8_refuseAsBad rfl rfl ⟨Nat.le_of_ble_eq_true rfl, Nat.le_of_ble_eq_true rfl⟩ [] (clX1 cI cJ cZ cB (a0 0) a1 (c1 1) (c1 2 0) (c1 3) (c1 4 0) (c1 5) (c1 6 0) (w1 7) (c1 8 0) (clX3 cI cJ cZ cB (a1 0) a2 (c2 0) (c2 1) (c2 2) (c2 3) (c2 4) (c2 5 0) (c2 6 0) (c2 7 0) (c2 8 0) (c2 9 0) (clX3 cI cJ cZ cB (a0 3) a3 (c3 0) (c3 1) (c3 2) (c3 3) (c3 4) (c3 5 0) (c3 6 0) (c3 7 0) (c3 8 0) (c3 9 0) []))) rfl rfl rfl 0 rfl rfl rfl rfl hl.1 rfl (Nat.le_of_ble_eq_true rfl) dX8_hearings_13 [.int r31] rfl (fun H locs hW => ?_)
    have f34 := Option.some.inj h
    obtain ⟨f35, f36⟩ := Prod.mk.inj f34
    obtain ⟨f37, f38⟩ := Prod.mk.inj f36
    obtain ⟨f39, f40⟩ := Prod.mk.inj f38
    subst f35
    subst f37
    subst f39
    subst f40
    exact ri S hr hlocks hW dX8_hearings_16
abbrev rmX8_days : Room := { frames := 5, cells := 0, slots := 0, locals := 117 }
set_option maxHeartbeats 4000000 in
set_option maxRecDepth 100000 in
theorem t_X8_days (l : Launch) (dC : Nat → ClassId) (dI : Nat → Nat → Nat) (cI cJ cZ cB : ClassId) (zz : ZT)  (h0 : Nat) (a0 : Nat → Nat) (a1 : Nat → Nat) (a2 : Nat → Nat) (a3 : Nat → Nat) (F : Nat) (c0 : Nat → Nat → Int32) (w0 : Nat → Nat → Int64) (c1 : Nat → Nat → Int32) (w1 : Nat → Nat → Int64) (c2 : Nat → Nat → Int32) (c3 : Nat → Nat → Int32) (p1 : Int32) (p2 : Int32) (r : Int32) (c0' : Nat → Nat → Int32) (c3' : Nat → Nat → Int32) (hm : md_X8_days F c0 w0 c1 w1 c2 c3 p1 p2 = some (r, c0', c3')) : ct l (dC, dI) zz (ty4 cI cJ cZ cB) yX8_days cX8_days 7 (some .int) rmX8_days [.ref h0, .int p1, .int p2] (cwX8 cI cJ cZ cB h0 a0 c0 w0 (cwX1 cI cJ cZ cB (a0 0) a1 c1 w1 (cwX3 cI cJ cZ cB (a1 0) a2 c2 (cwX3 cI cJ cZ cB (a0 3) a3 c3 [])))) (cwX8 cI cJ cZ cB h0 a0 c0' w0 (cwX1 cI cJ cZ cB (a0 0) a1 c1 w1 (cwX3 cI cJ cZ cB (a1 0) a2 c2 (cwX3 cI cJ cZ cB (a0 3) a3 c3' [])))) (some (.int r)) := by
  refine ct_of (cc := cX8_days) (maxL := 7) (ret := (some .int)) (by decide) (Nat.le_of_ble_eq_true rfl) ?_
  intro p e s m below meth c A S hr hlocks hK hN hZ hA H locs hW ls hl
  have S : CallFix p m c cX8_days 7 s (List.toArray [.ref h0, .int p1, .int p2]) G RX8 := S
  have hl : lv_has ls 7 [(0, .ref h0), (1, .int p1), (2, .int p2)] := hl
  have h := hm
  rw [md_X8_days] at h
  have hW : wd (dC, dI) A s.heap (clX8 cI cJ cZ cB h0 a0 (c0 2) (c0 5) (w0 6 0) (w0 7 0) (clX1 cI cJ cZ cB (a0 0) a1 (c1 1) (c1 2 0) (c1 3) (c1 4 0) (c1 5) (c1 6 0) (w1 7) (c1 8 0) (clX3 cI cJ cZ cB (a1 0) a2 (c2 0) (c2 1) (c2 2) (c2 3) (c2 4) (c2 5 0) (c2 6 0) (c2 7 0) (c2 8 0) (c2 9 0) (clX3 cI cJ cZ cB (a0 3) a3 (c3 0) (c3 1) (c3 2) (c3 3) (c3 4) (c3 5 0) (c3 6 0) (c3 7 0) (c3 8 0) (c3 9 0) [])))) H locs := hW
  have hL37 : ∀ (n37 : Nat) (c0 : Nat → Nat → Int32) (c3 : Nat → Nat → Int32) (x2 : Int32) (x3 : Int64) (x5 : Int32) (x6 : Int32), ld_X8_days_37 F w0 c1 w1 c2 n37 c0 c3 x2 x3 x5 x6 = some (r, c0', c3') → ∀ (H : Heap) (locs : List Loc), wd (dC, dI) A s.heap (clX8 cI cJ cZ cB h0 a0 (c0 2) (c0 5) (w0 6 0) (w0 7 0) (clX1 cI cJ cZ cB (a0 0) a1 (c1 1) (c1 2 0) (c1 3) (c1 4 0) (c1 5) (c1 6 0) (w1 7) (c1 8 0) (clX3 cI cJ cZ cB (a1 0) a2 (c2 0) (c2 1) (c2 2) (c2 3) (c2 4) (c2 5 0) (c2 6 0) (c2 7 0) (c2 8 0) (c2 9 0) (clX3 cI cJ cZ cB (a0 3) a3 (c3 0) (c3 1) (c3 2) (c3 3) (c3 4) (c3 5 0) (c3 6 0) (c3 7 0) (c3 8 0) (c3 9 0) [])))) H locs → ∀ ls : Array Slot, lv_has ls 7 [(0, .ref h0), (2, .int x2), (3, .long x3), (5, .int x5), (6, .int x6)] → W p l e rmX8_days s m (List.toArray [.ref h0, .int p1, .int p2]) below meth c H locs 0 0 (MQ below (kQ (dC, dI) (cwX8 cI cJ cZ cB h0 a0 c0' w0 (cwX1 cI cJ cZ cB (a0 0) a1 c1 w1 (cwX3 cI cJ cZ cB (a1 0) a2 c2 (cwX3 cI cJ cZ cB (a0 3) a3 c3' [])))) (some (.int r)) A) (List.toArray [.ref h0, .int p1, .int p2]) s 0 0 A) (F0 m 37 ls []) := by
    intro n37
    induction n37 with
    | zero => intro c0 c3 x2 x3 x5 x6 h; rw [ld_X8_days_37] at h; cases h
    | succ n37 ih37 =>
      intro c0 c3 x2 x3 x5 x6 h H locs hW ls hl
      rw [ld_X8_days_37] at h
      refine lv_iload S.1 S.2.1 dX8_days_37 (lv_at hl 4 rfl) ?_
      refine lv_iload_n S.1 S.2.1 dX8_days_39 rfl (lv_at hl 1 rfl) ?_
      refine lv_icmp_ge (tgt := 92) S.1 S.2.1 dX8_days_40 (by decide) (fun u1 => ?_) (fun u1 => ?_)
      · have h := of_p u1 h
        refine lv_iload S.1 S.2.1 dX8_days_92 (lv_at hl 3 rfl) ?_
        have f2 := Option.some.inj h
        obtain ⟨f3, f4⟩ := Prod.mk.inj f2
        obtain ⟨f5, f6⟩ := Prod.mk.inj f4
        subst f3
        subst f5
        subst f6
        exact ri S hr hlocks hW dX8_days_94
      · have h := of_n u1 h
        refine lv_aload_n S.1 S.2.1 dX8_days_43 rfl (lv_at hl 0 rfl) ?_
        refine gf (C := RX8) (T := TX8) (N := 8) (ci := 4) (k := 3) S hK hW wu_X8 rfl (by decide) wf_X8_27 0 rfl rfl dX8_days_44 ?_
        refine lv_aload_n S.1 S.2.1 dX8_days_47 rfl (lv_at hl 0 rfl) ?_
        refine gf (C := RX8) (T := TX8) (N := 8) (ci := 4) (k := 0) S hK hW wu_X8 rfl (by decide) wf_X8_10 0 rfl rfl dX8_days_48 ?_
        refine gf (C := RX1) (T := TX1) (N := 9) (ci := 0) (k := 0) S hK hW wu_X1 rfl (by decide) wf_X8_57 4 rfl rfl dX8_days_51 ?_
        obtain ⟨cv7, hy8, h⟩ := bd1_e h
        refine kv (clX8 cI cJ cZ cB h0 a0 (c0 2) (c0 5) (w0 6 0) (w0 7 0) (clX1 cI cJ cZ cB (a0 0) a1 (c1 1) (c1 2 0) (c1 3) (c1 4 0) (c1 5) (c1 6 0) (w1 7) (c1 8 0) (clX3 cI cJ cZ cB (a1 0) a2 (c2 0) (c2 1) (c2 2) (c2 3) (c2 4) (c2 5 0) (c2 6 0) (c2 7 0) (c2 8 0) (c2 9 0) (clX3 cI cJ cZ cB (a0 3) a3 (cv7 0) (cv7 1) (cv7 2) (cv7 3) (cv7 4) (cv7 5 0) (cv7 6 0) (cv7 7 0) (cv7 8 0) (cv7 9 0) [])))) S hK hN hZ hA hW (rest := []) (t_X3_copy l dC dI cI cJ cZ cB zz (a1 0) a2 (a0 3) a3 F c2 c3 _  hy8) wl_X8_113 wv_X3_copy rfl rfl ⟨Nat.le_of_ble_eq_true rfl, Nat.le_of_ble_eq_true rfl⟩ (clX8 cI cJ cZ cB h0 a0 (c0 2) (c0 5) (w0 6 0) (w0 7 0) (clX1 cI cJ cZ cB (a0 0) a1 (c1 1) (c1 2 0) (c1 3) (c1 4 0) (c1 5) (c1 6 0) (w1 7) (c1 8 0) [])) [] rfl rfl rfl 15 rfl rfl rfl rfl hl.1 rfl (Nat.le_of_ble_eq_true rfl) dX8_days_54 [] rfl (fun H locs hW => ?_)
        refine lv_aload_n S.1 S.2.1 dX8_days_57 rfl (lv_at hl 0 rfl) ?_
        refine gf (C := RX8) (T := TX8) (N := 8) (ci := 4) (k := 3) S hK hW wu_X8 rfl (by decide) wf_X8_27 0 rfl rfl dX8_days_58 ?_
        refine lv_lload_n S.1 S.2.1 dX8_days_61 rfl (lv_at hl 2 rfl) ?_
        obtain ⟨r9, cv10, hy11, h⟩ := bd2_e h
        refine ks (clX8 cI cJ cZ cB h0 a0 (c0 2) (c0 5) (w0 6 0) (w0 7 0) (clX1 cI cJ cZ cB (a0 0) a1 (c1 1) (c1 2 0) (c1 3) (c1 4 0) (c1 5) (c1 6 0) (w1 7) (c1 8 0) (clX3 cI cJ cZ cB (a1 0) a2 (c2 0) (c2 1) (c2 2) (c2 3) (c2 4) (c2 5 0) (c2 6 0) (c2 7 0) (c2 8 0) (c2 9 0) (clX3 cI cJ cZ cB (a0 3) a3 (cv10 0) (cv10 1) (cv10 2) (cv10 3) (cv10 4) (cv10 5 0) (cv10 6 0) (cv10 7 0) (cv10 8 0) (cv10 9 0) [])))) S hK hN hZ hA hW (rest := []) (t_X4_dayBy l dC dI cI cJ cZ cB zz (a0 3) a3 F cv7 x3 _ _  hy11) wl_X8_272 wv_X4_dayBy rfl rfl ⟨Nat.le_of_ble_eq_true rfl, Nat.le_of_ble_eq_true rfl⟩ (clX8 cI cJ cZ cB h0 a0 (c0 2) (c0 5) (w0 6 0) (w0 7 0) (clX1 cI cJ cZ cB (a0 0) a1 (c1 1) (c1 2 0) (c1 3) (c1 4 0) (c1 5) (c1 6 0) (w1 7) (c1 8 0) (clX3 cI cJ cZ cB (a1 0) a2 (c2 0) (c2 1) (c2 2) (c2 3) (c2 4) (c2 5 0) (c2 6 0) (c2 7 0) (c2 8 0) (c2 9 0) []))) [] rfl rfl rfl rfl hl.1 rfl (Nat.le_of_ble_eq_true rfl) dX8_days_62 [.long r9] rfl (fun H locs hW => ?_)
        refine lv_lstore_n (lv' := [(3, .long r9), (0, .ref h0), (2, .int x2), (5, .int x5), (6, .int x6)]) S.1 S.2.1 dX8_days_65 rfl hl (by decide) rfl (fun ls hl => ?_)
        refine lv_iload S.1 S.2.1 dX8_days_66 (lv_at hl 3 rfl) ?_
        refine lv_aload_n S.1 S.2.1 dX8_days_68 rfl (lv_at hl 1 rfl) ?_
        refine gf (C := RX8) (T := TX8) (N := 8) (ci := 4) (k := 3) S hK hW wu_X8 rfl (by decide) wf_X8_27 0 rfl rfl dX8_days_69 ?_
        obtain ⟨r12, hy13, h⟩ := bd1_e h
        refine kv0 S hK hN hZ hA hW (rest := [.int x5]) (t_X3_counselZeroWins l dC dI cI cJ cZ cB zz (a0 3) a3 cv10 _  hy13) wl_X8_257 wv_X3_counselZeroWins rfl rfl ⟨Nat.le_of_ble_eq_true rfl, Nat.le_of_ble_eq_true rfl⟩ (clX8 cI cJ cZ cB h0 a0 (c0 2) (c0 5) (w0 6 0) (w0 7 0) (clX1 cI cJ cZ cB (a0 0) a1 (c1 1) (c1 2 0) (c1 3) (c1 4 0) (c1 5) (c1 6 0) (w1 7) (c1 8 0) (clX3 cI cJ cZ cB (a1 0) a2 (c2 0) (c2 1) (c2 2) (c2 3) (c2 4) (c2 5 0) (c2 6 0) (c2 7 0) (c2 8 0) (c2 9 0) []))) [] rfl 15 rfl rfl rfl rfl hl.1 rfl (Nat.le_of_ble_eq_true rfl) dX8_days_72 [.int r12, .int x5] rfl (fun H locs hW => ?_)
        obtain ⟨y14, e15, h⟩ := lt1_e h
        suffices hM16 : ∀ ls : Array Slot, lv_has ls 7 [(0, .ref h0), (2, .int x2), (3, .long r9), (6, .int x6)] → W p l e rmX8_days s m (List.toArray [.ref h0, .int p1, .int p2]) below meth c H locs 0 0 (MQ below (kQ (dC, dI) (cwX8 cI cJ cZ cB h0 a0 c0' w0 (cwX1 cI cJ cZ cB (a0 0) a1 c1 w1 (cwX3 cI cJ cZ cB (a1 0) a2 c2 (cwX3 cI cJ cZ cB (a0 3) a3 c3' [])))) (some (.int r)) A) (List.toArray [.ref h0, .int p1, .int p2]) s 0 0 A) (F0 m 83 ls [.int y14, .int x5]) by
          refine lv_if_eq (tgt := 82) S.1 S.2.1 dX8_days_75 (by decide) (fun u17 => ?_) (fun u17 => ?_)
          · refine lv_iconst (v := (0 : Int32)) S.1 S.2.1 dX8_days_82 ki_0 ?_
            have e15 := e15.trans (if_pos u17)
            subst e15
            exact hM16 ls (lv_sub hl [1, 2, 0, 4] rfl)
          · refine lv_iconst (v := (1 : Int32)) S.1 S.2.1 dX8_days_78 ki_1 ?_
            refine lv_goto (tgt := 83) S.1 S.2.1 dX8_days_79 (by decide) ?_
            have e15 := e15.trans (if_neg u17)
            subst e15
            exact hM16 ls (lv_sub hl [1, 2, 0, 4] rfl)
        intro ls hl
        refine lv_iadd S.1 S.2.1 dX8_days_83 ?_
        refine lv_istore (lv' := [(5, .int (x5 + y14)), (0, .ref h0), (2, .int x2), (3, .long r9), (6, .int x6)]) S.1 S.2.1 dX8_days_84 hl (by decide) rfl (fun ls hl => ?_)
        refine lv_iinc (v := (x6 + (1 : Int32))) (lv' := [(6, .int (x6 + (1 : Int32))), (5, .int (x5 + y14)), (0, .ref h0), (2, .int x2), (3, .long r9)]) S.1 S.2.1 dX8_days_86 hl (k := 4) rfl (congrArg (fun z => x6 + z) ki_1) (by decide) rfl (fun ls hl => ?_)
        refine lv_goto (tgt := 37) S.1 S.2.1 dX8_days_89 (by decide) ?_
        exact ih37 _ _ _ _ _ _ h H locs hW ls (lv_sub hl [2, 3, 4, 1, 0] rfl)
  have hJ21 : ∀ (c0 : Nat → Nat → Int32) (c3 : Nat → Nat → Int32), jd_X8_days_21 F w0 c1 w1 c2 c0 c3 = some (r, c0', c3') → ∀ (H : Heap) (locs : List Loc), wd (dC, dI) A s.heap (clX8 cI cJ cZ cB h0 a0 (c0 2) (c0 5) (w0 6 0) (w0 7 0) (clX1 cI cJ cZ cB (a0 0) a1 (c1 1) (c1 2 0) (c1 3) (c1 4 0) (c1 5) (c1 6 0) (w1 7) (c1 8 0) (clX3 cI cJ cZ cB (a1 0) a2 (c2 0) (c2 1) (c2 2) (c2 3) (c2 4) (c2 5 0) (c2 6 0) (c2 7 0) (c2 8 0) (c2 9 0) (clX3 cI cJ cZ cB (a0 3) a3 (c3 0) (c3 1) (c3 2) (c3 3) (c3 4) (c3 5 0) (c3 6 0) (c3 7 0) (c3 8 0) (c3 9 0) [])))) H locs → ∀ ls : Array Slot, lv_has ls 7 [(0, .ref h0)] → W p l e rmX8_days s m (List.toArray [.ref h0, .int p1, .int p2]) below meth c H locs 0 0 (MQ below (kQ (dC, dI) (cwX8 cI cJ cZ cB h0 a0 c0' w0 (cwX1 cI cJ cZ cB (a0 0) a1 c1 w1 (cwX3 cI cJ cZ cB (a1 0) a2 c2 (cwX3 cI cJ cZ cB (a0 3) a3 c3' [])))) (some (.int r)) A) (List.toArray [.ref h0, .int p1, .int p2]) s 0 0 A) (F0 m 21 ls []) := by
    intro c0 c3 h H locs hW ls hl
    rw [jd_X8_days_21] at h
    refine lv_aload_n S.1 S.2.1 dX8_days_21 rfl (lv_at hl 0 rfl) ?_
    refine lv_bipush (v := (-2 : Int32)) S.1 S.2.1 dX8_days_22 kb_m2 ?_
    obtain ⟨r18, cv19, hy20, h⟩ := bd2_e h
    refine kv (clX8 cI cJ cZ cB h0 a0 (cv19 2) (cv19 5) (w0 6 0) (w0 7 0) (clX1 cI cJ cZ cB (a0 0) a1 (c1 1) (c1 2 0) (c1 3) (c1 4 0) (c1 5) (c1 6 0) (w1 7) (c1 8 0) (clX3 cI cJ cZ cB (a1 0) a2 (c2 0) (c2 1) (c2 2) (c2 3) (c2 4) (c2 5 0) (c2 6 0) (c2 7 0) (c2 8 0) (c2 9 0) (clX3 cI cJ cZ cB (a0 3) a3 (c3 0) (c3 1) (c3 2) (c3 3) (c3 4) (c3 5 0) (c3 6 0) (c3 7 0) (c3 8 0) (c3 9 0) [])))) S hK hN hZ hA hW (rest := []) (t_X8_refuseAsBad l dC dI cI cJ cZ cB zz h0 a0 c0 w0 (-2 : Int32) _ _  hy20) wl_X8_53 wv_X8_refuseAsBad rfl rfl ⟨Nat.le_of_ble_eq_true rfl, Nat.le_of_ble_eq_true rfl⟩ [] (clX1 cI cJ cZ cB (a0 0) a1 (c1 1) (c1 2 0) (c1 3) (c1 4 0) (c1 5) (c1 6 0) (w1 7) (c1 8 0) (clX3 cI cJ cZ cB (a1 0) a2 (c2 0) (c2 1) (c2 2) (c2 3) (c2 4) (c2 5 0) (c2 6 0) (c2 7 0) (c2 8 0) (c2 9 0) (clX3 cI cJ cZ cB (a0 3) a3 (c3 0) (c3 1) (c3 2) (c3 3) (c3 4) (c3 5 0) (c3 6 0) (c3 7 0) (c3 8 0) (c3 9 0) []))) rfl rfl rfl 0 rfl rfl rfl rfl hl.1 rfl (Nat.le_of_ble_eq_true rfl) dX8_days_24 [.int r18] rfl (fun H locs hW => ?_)
    have f21 := Option.some.inj h
    obtain ⟨f22, f23⟩ := Prod.mk.inj f21
    obtain ⟨f24, f25⟩ := Prod.mk.inj f23
    subst f22
    subst f24
    subst f25
    exact ri S hr hlocks hW dX8_days_27
  refine lv_iconst (v := (0 : Int32)) S.1 S.2.1 dX8_days_0 ki_0 ?_
  refine lv_iload_n S.1 S.2.1 dX8_days_1 rfl (lv_at hl 1 rfl) ?_
  refine lv_ldcw (v := (999999 : Int32)) S.1 S.2.1 S.2.2.2.1 (S.2.2.2.2 _ wk_X8_271) dX8_days_2 ?_
  obtain ⟨r26, hy27, h⟩ := bd1_e h
  refine ks0 S hK hN hZ hA hW (rest := []) (t_X8_within l dC dI cI cJ cZ cB zz (0 : Int32) p1 (999999 : Int32) _  hy27) wl_X8_71 wv_X8_within rfl rfl ⟨Nat.le_of_ble_eq_true rfl, Nat.le_of_ble_eq_true rfl⟩ [] (clX8 cI cJ cZ cB h0 a0 (c0 2) (c0 5) (w0 6 0) (w0 7 0) (clX1 cI cJ cZ cB (a0 0) a1 (c1 1) (c1 2 0) (c1 3) (c1 4 0) (c1 5) (c1 6 0) (w1 7) (c1 8 0) (clX3 cI cJ cZ cB (a1 0) a2 (c2 0) (c2 1) (c2 2) (c2 3) (c2 4) (c2 5 0) (c2 6 0) (c2 7 0) (c2 8 0) (c2 9 0) (clX3 cI cJ cZ cB (a0 3) a3 (c3 0) (c3 1) (c3 2) (c3 3) (c3 4) (c3 5 0) (c3 6 0) (c3 7 0) (c3 8 0) (c3 9 0) [])))) rfl rfl hl.1 rfl (Nat.le_of_ble_eq_true rfl) dX8_days_5 [.int r26] rfl (fun H locs hW => ?_)
  refine lv_if_eq (tgt := 21) S.1 S.2.1 dX8_days_8 (by decide) (fun u28 => ?_) (fun u28 => ?_)
  · have h := of_p u28 h
    exact hJ21 _ _ h H locs hW ls (lv_sub hl [0] rfl)
  · have h := of_n u28 h
    refine lv_iconst (v := (0 : Int32)) S.1 S.2.1 dX8_days_11 ki_0 ?_
    refine lv_iload_n S.1 S.2.1 dX8_days_12 rfl (lv_at hl 2 rfl) ?_
    refine lv_bipush (v := (60 : Int32)) S.1 S.2.1 dX8_days_13 kb_60 ?_
    obtain ⟨r29, hy30, h⟩ := bd1_e h
    refine ks0 S hK hN hZ hA hW (rest := []) (t_X8_within l dC dI cI cJ cZ cB zz (0 : Int32) p2 (60 : Int32) _  hy30) wl_X8_71 wv_X8_within rfl rfl ⟨Nat.le_of_ble_eq_true rfl, Nat.le_of_ble_eq_true rfl⟩ [] (clX8 cI cJ cZ cB h0 a0 (c0 2) (c0 5) (w0 6 0) (w0 7 0) (clX1 cI cJ cZ cB (a0 0) a1 (c1 1) (c1 2 0) (c1 3) (c1 4 0) (c1 5) (c1 6 0) (w1 7) (c1 8 0) (clX3 cI cJ cZ cB (a1 0) a2 (c2 0) (c2 1) (c2 2) (c2 3) (c2 4) (c2 5 0) (c2 6 0) (c2 7 0) (c2 8 0) (c2 9 0) (clX3 cI cJ cZ cB (a0 3) a3 (c3 0) (c3 1) (c3 2) (c3 3) (c3 4) (c3 5 0) (c3 6 0) (c3 7 0) (c3 8 0) (c3 9 0) [])))) rfl rfl hl.1 rfl (Nat.le_of_ble_eq_true rfl) dX8_days_15 [.int r29] rfl (fun H locs hW => ?_)
    refine lv_if_ne (tgt := 28) S.1 S.2.1 dX8_days_18 (by decide) (fun u31 => ?_) (fun u31 => ?_)
    · have h := of_n u31 h
      refine lv_iload_n S.1 S.2.1 dX8_days_28 rfl (lv_at hl 1 rfl) ?_
      refine lv_i2l S.1 S.2.1 dX8_days_29 rfl ?_
      refine lv_lstore_n (lv' := [(3, .long p1.toInt64), (0, .ref h0), (1, .int p1), (2, .int p2)]) S.1 S.2.1 dX8_days_30 rfl hl (by decide) rfl (fun ls hl => ?_)
      refine lv_iconst (v := (0 : Int32)) S.1 S.2.1 dX8_days_31 ki_0 ?_
      refine lv_istore (lv' := [(5, .int (0 : Int32)), (3, .long p1.toInt64), (0, .ref h0), (1, .int p1), (2, .int p2)]) S.1 S.2.1 dX8_days_32 hl (by decide) rfl (fun ls hl => ?_)
      refine lv_iconst (v := (0 : Int32)) S.1 S.2.1 dX8_days_34 ki_0 ?_
      refine lv_istore (lv' := [(6, .int (0 : Int32)), (5, .int (0 : Int32)), (3, .long p1.toInt64), (0, .ref h0), (1, .int p1), (2, .int p2)]) S.1 S.2.1 dX8_days_35 hl (by decide) rfl (fun ls hl => ?_)
      exact hL37 F _ _ _ _ _ _ h H locs hW ls (lv_sub hl [3, 5, 2, 1, 0] rfl)
    · have h := of_p u31 h
      exact hJ21 _ _ h H locs hW ls (lv_sub hl [0] rfl)
abbrev rmX8_part : Room := { frames := 1, cells := 0, slots := 0, locals := 22 }
set_option maxHeartbeats 4000000 in
set_option maxRecDepth 100000 in
theorem t_X8_part (l : Launch) (dC : Nat → ClassId) (dI : Nat → Nat → Nat) (cI cJ cZ cB : ClassId) (zz : ZT)  (h0 : Nat) (a0 : Nat → Nat) (c0 : Nat → Nat → Int32) (w0 : Nat → Nat → Int64) (p1 : Int32) (r : Int64) (c0' : Nat → Nat → Int32) (hm : md_X8_part c0 w0 p1 = some (r, c0')) : ct l (dC, dI) zz (ty4 cI cJ cZ cB) yX8_part cX8_part 2 (some .long) rmX8_part [.ref h0, .int p1] (cwX8 cI cJ cZ cB h0 a0 c0 w0 []) (cwX8 cI cJ cZ cB h0 a0 c0' w0 []) (some (.long r)) := by
  refine ct_of (cc := cX8_part) (maxL := 2) (ret := (some .long)) (by decide) (Nat.le_of_ble_eq_true rfl) ?_
  intro p e s m below meth c A S hr hlocks hK hN hZ hA H locs hW ls hl
  have S : CallFix p m c cX8_part 2 s (List.toArray [.ref h0, .int p1]) G RX8 := S
  have hl : lv_has ls 2 [(0, .ref h0), (1, .int p1)] := hl
  have h := hm
  rw [md_X8_part] at h
  have hW : wd (dC, dI) A s.heap (clX8 cI cJ cZ cB h0 a0 (c0 2) (c0 5) (w0 6 0) (w0 7 0) []) H locs := hW
  refine lv_iconst (v := (0 : Int32)) S.1 S.2.1 dX8_part_0 ki_0 ?_
  refine lv_iload_n S.1 S.2.1 dX8_part_1 rfl (lv_at hl 1 rfl) ?_
  refine lv_iconst (v := (1 : Int32)) S.1 S.2.1 dX8_part_2 ki_1 ?_
  obtain ⟨r1, hy2, h⟩ := bd1_e h
  refine ks0 S hK hN hZ hA hW (rest := []) (t_X8_within l dC dI cI cJ cZ cB zz (0 : Int32) p1 (1 : Int32) _  hy2) wl_X8_71 wv_X8_within rfl rfl ⟨Nat.le_of_ble_eq_true rfl, Nat.le_of_ble_eq_true rfl⟩ [] (clX8 cI cJ cZ cB h0 a0 (c0 2) (c0 5) (w0 6 0) (w0 7 0) []) rfl rfl hl.1 rfl (Nat.le_of_ble_eq_true rfl) dX8_part_3 [.int r1] rfl (fun H locs hW => ?_)
  refine lv_if_ne (tgt := 17) S.1 S.2.1 dX8_part_6 (by decide) (fun u3 => ?_) (fun u3 => ?_)
  · have h := of_n u3 h
    refine lv_iload_n S.1 S.2.1 dX8_part_17 rfl (lv_at hl 1 rfl) ?_
    obtain ⟨y4, e5, h⟩ := lt1_e h
    suffices hM6 : ∀ ls : Array Slot, lv_has ls 2 [] → W p l e rmX8_part s m (List.toArray [.ref h0, .int p1]) below meth c H locs 0 0 (MQ below (kQ (dC, dI) (cwX8 cI cJ cZ cB h0 a0 c0' w0 []) (some (.long r)) A) (List.toArray [.ref h0, .int p1]) s 0 0 A) (F0 m 32 ls [.long y4]) by
      refine lv_if_ne (tgt := 28) S.1 S.2.1 dX8_part_18 (by decide) (fun u7 => ?_) (fun u7 => ?_)
      · refine lv_aload_n S.1 S.2.1 dX8_part_28 rfl (lv_at hl 0 rfl) ?_
        refine gf (C := RX8) (T := TX8) (N := 8) (ci := 4) (k := 7) S hK hW wu_X8 rfl (by decide) wf_X8_46 0 rfl rfl dX8_part_29 ?_
        have e5 := e5.trans (if_neg u7)
        subst e5
        exact hM6 ls (lv_sub hl [] rfl)
      · refine lv_aload_n S.1 S.2.1 dX8_part_21 rfl (lv_at hl 0 rfl) ?_
        refine gf (C := RX8) (T := TX8) (N := 8) (ci := 4) (k := 6) S hK hW wu_X8 rfl (by decide) wf_X8_42 0 rfl rfl dX8_part_22 ?_
        refine lv_goto (tgt := 32) S.1 S.2.1 dX8_part_25 (by decide) ?_
        have e5 := e5.trans (if_pos u7)
        subst e5
        exact hM6 ls (lv_sub hl [] rfl)
    intro ls hl
    have f8 := Option.some.inj h
    obtain ⟨f9, f10⟩ := Prod.mk.inj f8
    subst f9
    subst f10
    exact rl S hr hlocks hW dX8_part_32
  · have h := of_p u3 h
    refine lv_aload_n S.1 S.2.1 dX8_part_9 rfl (lv_at hl 0 rfl) ?_
    refine lv_bipush (v := (-2 : Int32)) S.1 S.2.1 dX8_part_10 kb_m2 ?_
    obtain ⟨r11, cv12, hy13, h⟩ := bd2_e h
    refine kv (clX8 cI cJ cZ cB h0 a0 (cv12 2) (cv12 5) (w0 6 0) (w0 7 0) []) S hK hN hZ hA hW (rest := []) (t_X8_refuseAsBad l dC dI cI cJ cZ cB zz h0 a0 c0 w0 (-2 : Int32) _ _  hy13) wl_X8_53 wv_X8_refuseAsBad rfl rfl ⟨Nat.le_of_ble_eq_true rfl, Nat.le_of_ble_eq_true rfl⟩ [] [] rfl rfl rfl 0 rfl rfl rfl rfl hl.1 rfl (Nat.le_of_ble_eq_true rfl) dX8_part_12 [.int r11] rfl (fun H locs hW => ?_)
    refine lv_i2l S.1 S.2.1 dX8_part_15 rfl ?_
    have f14 := Option.some.inj h
    obtain ⟨f15, f16⟩ := Prod.mk.inj f14
    subst f15
    subst f16
    exact rl S hr hlocks hW dX8_part_16
abbrev rmX8_image : Room := { frames := 2, cells := 0, slots := 0, locals := 61 }
set_option maxHeartbeats 4000000 in
set_option maxRecDepth 100000 in
theorem t_X8_image (l : Launch) (dC : Nat → ClassId) (dI : Nat → Nat → Nat) (cI cJ cZ cB : ClassId) (zz : ZT)  (h0 : Nat) (a0 : Nat → Nat) (a1 : Nat → Nat) (a2 : Nat → Nat) (a3 : Nat → Nat) (a4 : Nat → Nat) (a5 : Nat → Nat) (a6 : Nat → Nat) (F : Nat) (c0 : Nat → Nat → Int32) (w0 : Nat → Nat → Int64) (c1 : Nat → Nat → Int32) (w1 : Nat → Nat → Int64) (c2 : Nat → Nat → Int32) (c3 : Nat → Nat → Int32) (w3 : Nat → Nat → Int64) (c4 : Nat → Nat → Int32) (c5 : Nat → Nat → Int32) (w5 : Nat → Nat → Int64) (c6 : Nat → Nat → Int32) (p1 : Int32) (r : Int32) (c0' : Nat → Nat → Int32) (c3' : Nat → Nat → Int32) (w3' : Nat → Nat → Int64) (c4' : Nat → Nat → Int32) (c5' : Nat → Nat → Int32) (w5' : Nat → Nat → Int64) (c6' : Nat → Nat → Int32) (hm : md_X8_image F c0 w0 c1 w1 c2 c3 w3 c4 c5 w5 c6 p1 = some (r, c0', c3', w3', c4', c5', w5', c6')) : ct l (dC, dI) zz (ty4 cI cJ cZ cB) yX8_image cX8_image 2 (some .int) rmX8_image [.ref h0, .int p1] (cwX8 cI cJ cZ cB h0 a0 c0 w0 (cwX1 cI cJ cZ cB (a0 0) a1 c1 w1 (cwX3 cI cJ cZ cB (a1 0) a2 c2 (cwX1 cI cJ cZ cB (a0 8) a3 c3 w3 (cwX3 cI cJ cZ cB (a3 0) a4 c4 (cwX1 cI cJ cZ cB (a0 9) a5 c5 w5 (cwX3 cI cJ cZ cB (a5 0) a6 c6 []))))))) (cwX8 cI cJ cZ cB h0 a0 c0' w0 (cwX1 cI cJ cZ cB (a0 0) a1 c1 w1 (cwX3 cI cJ cZ cB (a1 0) a2 c2 (cwX1 cI cJ cZ cB (a0 8) a3 c3' w3' (cwX3 cI cJ cZ cB (a3 0) a4 c4' (cwX1 cI cJ cZ cB (a0 9) a5 c5' w5' (cwX3 cI cJ cZ cB (a5 0) a6 c6' []))))))) (some (.int r)) := by
  refine ct_of (cc := cX8_image) (maxL := 2) (ret := (some .int)) (by decide) (Nat.le_of_ble_eq_true rfl) ?_
  intro p e s m below meth c A S hr hlocks hK hN hZ hA H locs hW ls hl
  have S : CallFix p m c cX8_image 2 s (List.toArray [.ref h0, .int p1]) G RX8 := S
  have hl : lv_has ls 2 [(0, .ref h0), (1, .int p1)] := hl
  have h := hm
  rw [md_X8_image] at h
  have hW : wd (dC, dI) A s.heap (clX8 cI cJ cZ cB h0 a0 (c0 2) (c0 5) (w0 6 0) (w0 7 0) (clX1 cI cJ cZ cB (a0 0) a1 (c1 1) (c1 2 0) (c1 3) (c1 4 0) (c1 5) (c1 6 0) (w1 7) (c1 8 0) (clX3 cI cJ cZ cB (a1 0) a2 (c2 0) (c2 1) (c2 2) (c2 3) (c2 4) (c2 5 0) (c2 6 0) (c2 7 0) (c2 8 0) (c2 9 0) (clX1 cI cJ cZ cB (a0 8) a3 (c3 1) (c3 2 0) (c3 3) (c3 4 0) (c3 5) (c3 6 0) (w3 7) (c3 8 0) (clX3 cI cJ cZ cB (a3 0) a4 (c4 0) (c4 1) (c4 2) (c4 3) (c4 4) (c4 5 0) (c4 6 0) (c4 7 0) (c4 8 0) (c4 9 0) (clX1 cI cJ cZ cB (a0 9) a5 (c5 1) (c5 2 0) (c5 3) (c5 4 0) (c5 5) (c5 6 0) (w5 7) (c5 8 0) (clX3 cI cJ cZ cB (a5 0) a6 (c6 0) (c6 1) (c6 2) (c6 3) (c6 4) (c6 5 0) (c6 6 0) (c6 7 0) (c6 8 0) (c6 9 0) []))))))) H locs := hW
  refine lv_iconst (v := (0 : Int32)) S.1 S.2.1 dX8_image_0 ki_0 ?_
  refine lv_iload_n S.1 S.2.1 dX8_image_1 rfl (lv_at hl 1 rfl) ?_
  refine lv_iconst (v := (1 : Int32)) S.1 S.2.1 dX8_image_2 ki_1 ?_
  obtain ⟨r1, hy2, h⟩ := bd1_e h
  refine ks0 S hK hN hZ hA hW (rest := []) (t_X8_within l dC dI cI cJ cZ cB zz (0 : Int32) p1 (1 : Int32) _  hy2) wl_X8_71 wv_X8_within rfl rfl ⟨Nat.le_of_ble_eq_true rfl, Nat.le_of_ble_eq_true rfl⟩ [] (clX8 cI cJ cZ cB h0 a0 (c0 2) (c0 5) (w0 6 0) (w0 7 0) (clX1 cI cJ cZ cB (a0 0) a1 (c1 1) (c1 2 0) (c1 3) (c1 4 0) (c1 5) (c1 6 0) (w1 7) (c1 8 0) (clX3 cI cJ cZ cB (a1 0) a2 (c2 0) (c2 1) (c2 2) (c2 3) (c2 4) (c2 5 0) (c2 6 0) (c2 7 0) (c2 8 0) (c2 9 0) (clX1 cI cJ cZ cB (a0 8) a3 (c3 1) (c3 2 0) (c3 3) (c3 4 0) (c3 5) (c3 6 0) (w3 7) (c3 8 0) (clX3 cI cJ cZ cB (a3 0) a4 (c4 0) (c4 1) (c4 2) (c4 3) (c4 4) (c4 5 0) (c4 6 0) (c4 7 0) (c4 8 0) (c4 9 0) (clX1 cI cJ cZ cB (a0 9) a5 (c5 1) (c5 2 0) (c5 3) (c5 4 0) (c5 5) (c5 6 0) (w5 7) (c5 8 0) (clX3 cI cJ cZ cB (a5 0) a6 (c6 0) (c6 1) (c6 2) (c6 3) (c6 4) (c6 5 0) (c6 6 0) (c6 7 0) (c6 8 0) (c6 9 0) []))))))) rfl rfl hl.1 rfl (Nat.le_of_ble_eq_true rfl) dX8_image_3 [.int r1] rfl (fun H locs hW => ?_)
  refine lv_if_ne (tgt := 16) S.1 S.2.1 dX8_image_6 (by decide) (fun u3 => ?_) (fun u3 => ?_)
  · have h := of_n u3 h
    refine lv_aload_n S.1 S.2.1 dX8_image_16 rfl (lv_at hl 0 rfl) ?_
    refine gf (C := RX8) (T := TX8) (N := 8) (ci := 4) (k := 1) S hK hW wu_X8 rfl (by decide) wf_X8_16 0 rfl rfl dX8_image_17 ?_
    refine lv_iload_n S.1 S.2.1 dX8_image_20 rfl (lv_at hl 1 rfl) ?_
    obtain ⟨z4, h⟩ := of_g h
    by_cases u5 : p1 = 0
    · have h := of_p u5 h
      refine xa0 S hK hW rfl 1 rfl z4 u5 dX8_image_21 ?_
      refine lv_aload_n S.1 S.2.1 dX8_image_22 rfl (lv_at hl 0 rfl) ?_
      refine gf (C := RX8) (T := TX8) (N := 8) (ci := 4) (k := 0) S hK hW wu_X8 rfl (by decide) wf_X8_10 0 rfl rfl dX8_image_23 ?_
      obtain ⟨cv6, wv7, cv8, hy9, h⟩ := bd3_e h
      refine kv (clX8 cI cJ cZ cB h0 a0 (c0 2) (c0 5) (w0 6 0) (w0 7 0) (clX1 cI cJ cZ cB (a0 0) a1 (c1 1) (c1 2 0) (c1 3) (c1 4 0) (c1 5) (c1 6 0) (w1 7) (c1 8 0) (clX3 cI cJ cZ cB (a1 0) a2 (c2 0) (c2 1) (c2 2) (c2 3) (c2 4) (c2 5 0) (c2 6 0) (c2 7 0) (c2 8 0) (c2 9 0) (clX1 cI cJ cZ cB (a0 8) a3 (cv6 1) (cv6 2 0) (cv6 3) (cv6 4 0) (cv6 5) (cv6 6 0) (wv7 7) (cv6 8 0) (clX3 cI cJ cZ cB (a3 0) a4 (cv8 0) (cv8 1) (cv8 2) (cv8 3) (cv8 4) (cv8 5 0) (cv8 6 0) (cv8 7 0) (cv8 8 0) (cv8 9 0) (clX1 cI cJ cZ cB (a0 9) a5 (c5 1) (c5 2 0) (c5 3) (c5 4 0) (c5 5) (c5 6 0) (w5 7) (c5 8 0) (clX3 cI cJ cZ cB (a5 0) a6 (c6 0) (c6 1) (c6 2) (c6 3) (c6 4) (c6 5 0) (c6 6 0) (c6 7 0) (c6 8 0) (c6 9 0) []))))))) S hK hN hZ hA hW (rest := []) (t_X1_copyAll l dC dI cI cJ cZ cB zz (a0 0) a1 a2 (a0 8) a3 a4 F c1 w1 c2 c3 w3 c4 _ _ _  hy9) wl_X8_276 wv_X1_copyAll rfl rfl ⟨Nat.le_of_ble_eq_true rfl, Nat.le_of_ble_eq_true rfl⟩ (clX8 cI cJ cZ cB h0 a0 (c0 2) (c0 5) (w0 6 0) (w0 7 0) []) (clX1 cI cJ cZ cB (a0 9) a5 (c5 1) (c5 2 0) (c5 3) (c5 4 0) (c5 5) (c5 6 0) (w5 7) (c5 8 0) (clX3 cI cJ cZ cB (a5 0) a6 (c6 0) (c6 1) (c6 2) (c6 3) (c6 4) (c6 5 0) (c6 6 0) (c6 7 0) (c6 8 0) (c6 9 0) [])) rfl rfl rfl 15 rfl rfl rfl rfl hl.1 rfl (Nat.le_of_ble_eq_true rfl) dX8_image_26 [] rfl (fun H locs hW => ?_)
      refine lv_aload_n S.1 S.2.1 dX8_image_29 rfl (lv_at hl 0 rfl) ?_
      refine gf (C := RX8) (T := TX8) (N := 8) (ci := 4) (k := 2) S hK hW wu_X8 rfl (by decide) wf_X8_20 0 rfl rfl dX8_image_30 ?_
      refine lv_iload_n S.1 S.2.1 dX8_image_33 rfl (lv_at hl 1 rfl) ?_
      refine lv_iconst (v := (1 : Int32)) S.1 S.2.1 dX8_image_34 ki_1 ?_
      obtain ⟨z10, h⟩ := of_g h
      refine zst S hK hW rfl 2 rfl z10 rfl dX8_image_35 (fun H locs hW => ?_)
      have hW : wd (dC, dI) A s.heap (clX8 cI cJ cZ cB h0 a0 (upd (c0 2) (ix p1) (1 : Int32)) (c0 5) (w0 6 0) (w0 7 0) (clX1 cI cJ cZ cB (a0 0) a1 (c1 1) (c1 2 0) (c1 3) (c1 4 0) (c1 5) (c1 6 0) (w1 7) (c1 8 0) (clX3 cI cJ cZ cB (a1 0) a2 (c2 0) (c2 1) (c2 2) (c2 3) (c2 4) (c2 5 0) (c2 6 0) (c2 7 0) (c2 8 0) (c2 9 0) (clX1 cI cJ cZ cB (a0 8) a3 (cv6 1) (cv6 2 0) (cv6 3) (cv6 4 0) (cv6 5) (cv6 6 0) (wv7 7) (cv6 8 0) (clX3 cI cJ cZ cB (a3 0) a4 (cv8 0) (cv8 1) (cv8 2) (cv8 3) (cv8 4) (cv8 5 0) (cv8 6 0) (cv8 7 0) (cv8 8 0) (cv8 9 0) (clX1 cI cJ cZ cB (a0 9) a5 (c5 1) (c5 2 0) (c5 3) (c5 4 0) (c5 5) (c5 6 0) (w5 7) (c5 8 0) (clX3 cI cJ cZ cB (a5 0) a6 (c6 0) (c6 1) (c6 2) (c6 3) (c6 4) (c6 5 0) (c6 6 0) (c6 7 0) (c6 8 0) (c6 9 0) []))))))) H locs := hW
      refine lv_iconst (v := (1 : Int32)) S.1 S.2.1 dX8_image_36 ki_1 ?_
      have f11 := Option.some.inj h
      obtain ⟨f12, f13⟩ := Prod.mk.inj f11
      obtain ⟨f14, f15⟩ := Prod.mk.inj f13
      obtain ⟨f16, f17⟩ := Prod.mk.inj f15
      obtain ⟨f18, f19⟩ := Prod.mk.inj f17
      obtain ⟨f20, f21⟩ := Prod.mk.inj f19
      obtain ⟨f22, f23⟩ := Prod.mk.inj f21
      obtain ⟨f24, f25⟩ := Prod.mk.inj f23
      subst f12
      subst f14
      subst f16
      subst f18
      subst f20
      subst f22
      subst f24
      subst f25
      exact ri S hr hlocks hW dX8_image_37
    · have h := of_n u5 h
      refine xa1 S hK hW rfl 1 rfl z4 u5 dX8_image_21 ?_
      refine lv_aload_n S.1 S.2.1 dX8_image_22 rfl (lv_at hl 0 rfl) ?_
      refine gf (C := RX8) (T := TX8) (N := 8) (ci := 4) (k := 0) S hK hW wu_X8 rfl (by decide) wf_X8_10 0 rfl rfl dX8_image_23 ?_
      obtain ⟨cv26, wv27, cv28, hy29, h⟩ := bd3_e h
      have hW : wd (dC, dI) A s.heap (clX1 cI cJ cZ cB (a0 0) a1 (c1 1) (c1 2 0) (c1 3) (c1 4 0) (c1 5) (c1 6 0) (w1 7) (c1 8 0) (clX3 cI cJ cZ cB (a1 0) a2 (c2 0) (c2 1) (c2 2) (c2 3) (c2 4) (c2 5 0) (c2 6 0) (c2 7 0) (c2 8 0) (c2 9 0) (clX1 cI cJ cZ cB (a0 9) a5 (c5 1) (c5 2 0) (c5 3) (c5 4 0) (c5 5) (c5 6 0) (w5 7) (c5 8 0) (clX3 cI cJ cZ cB (a5 0) a6 (c6 0) (c6 1) (c6 2) (c6 3) (c6 4) (c6 5 0) (c6 6 0) (c6 7 0) (c6 8 0) (c6 9 0) (clX8 cI cJ cZ cB h0 a0 (c0 2) (c0 5) (w0 6 0) (w0 7 0) (clX1 cI cJ cZ cB (a0 8) a3 (c3 1) (c3 2 0) (c3 3) (c3 4 0) (c3 5) (c3 6 0) (w3 7) (c3 8 0) (clX3 cI cJ cZ cB (a3 0) a4 (c4 0) (c4 1) (c4 2) (c4 3) (c4 4) (c4 5 0) (c4 6 0) (c4 7 0) (c4 8 0) (c4 9 0) []))))))) H locs := wd_sub hW [4, 5, 6, 7, 8, 9, 10, 11, 12, 13, 14, 26, 27, 28, 29, 30, 31, 32, 33, 34, 35, 36, 0, 1, 2, 3, 15, 16, 17, 18, 19, 20, 21, 22, 23, 24, 25] rfl rfl
      refine kv (clX1 cI cJ cZ cB (a0 0) a1 (c1 1) (c1 2 0) (c1 3) (c1 4 0) (c1 5) (c1 6 0) (w1 7) (c1 8 0) (clX3 cI cJ cZ cB (a1 0) a2 (c2 0) (c2 1) (c2 2) (c2 3) (c2 4) (c2 5 0) (c2 6 0) (c2 7 0) (c2 8 0) (c2 9 0) (clX1 cI cJ cZ cB (a0 9) a5 (cv26 1) (cv26 2 0) (cv26 3) (cv26 4 0) (cv26 5) (cv26 6 0) (wv27 7) (cv26 8 0) (clX3 cI cJ cZ cB (a5 0) a6 (cv28 0) (cv28 1) (cv28 2) (cv28 3) (cv28 4) (cv28 5 0) (cv28 6 0) (cv28 7 0) (cv28 8 0) (cv28 9 0) (clX8 cI cJ cZ cB h0 a0 (c0 2) (c0 5) (w0 6 0) (w0 7 0) (clX1 cI cJ cZ cB (a0 8) a3 (c3 1) (c3 2 0) (c3 3) (c3 4 0) (c3 5) (c3 6 0) (w3 7) (c3 8 0) (clX3 cI cJ cZ cB (a3 0) a4 (c4 0) (c4 1) (c4 2) (c4 3) (c4 4) (c4 5 0) (c4 6 0) (c4 7 0) (c4 8 0) (c4 9 0) []))))))) S hK hN hZ hA hW (rest := []) (t_X1_copyAll l dC dI cI cJ cZ cB zz (a0 0) a1 a2 (a0 9) a5 a6 F c1 w1 c2 c5 w5 c6 _ _ _  hy29) wl_X8_276 wv_X1_copyAll rfl rfl ⟨Nat.le_of_ble_eq_true rfl, Nat.le_of_ble_eq_true rfl⟩ [] (clX8 cI cJ cZ cB h0 a0 (c0 2) (c0 5) (w0 6 0) (w0 7 0) (clX1 cI cJ cZ cB (a0 8) a3 (c3 1) (c3 2 0) (c3 3) (c3 4 0) (c3 5) (c3 6 0) (w3 7) (c3 8 0) (clX3 cI cJ cZ cB (a3 0) a4 (c4 0) (c4 1) (c4 2) (c4 3) (c4 4) (c4 5 0) (c4 6 0) (c4 7 0) (c4 8 0) (c4 9 0) []))) rfl rfl rfl 11 rfl rfl rfl rfl hl.1 rfl (Nat.le_of_ble_eq_true rfl) dX8_image_26 [] rfl (fun H locs hW => ?_)
      have hW : wd (dC, dI) A s.heap (clX8 cI cJ cZ cB h0 a0 (c0 2) (c0 5) (w0 6 0) (w0 7 0) (clX1 cI cJ cZ cB (a0 0) a1 (c1 1) (c1 2 0) (c1 3) (c1 4 0) (c1 5) (c1 6 0) (w1 7) (c1 8 0) (clX3 cI cJ cZ cB (a1 0) a2 (c2 0) (c2 1) (c2 2) (c2 3) (c2 4) (c2 5 0) (c2 6 0) (c2 7 0) (c2 8 0) (c2 9 0) (clX1 cI cJ cZ cB (a0 8) a3 (c3 1) (c3 2 0) (c3 3) (c3 4 0) (c3 5) (c3 6 0) (w3 7) (c3 8 0) (clX3 cI cJ cZ cB (a3 0) a4 (c4 0) (c4 1) (c4 2) (c4 3) (c4 4) (c4 5 0) (c4 6 0) (c4 7 0) (c4 8 0) (c4 9 0) (clX1 cI cJ cZ cB (a0 9) a5 (cv26 1) (cv26 2 0) (cv26 3) (cv26 4 0) (cv26 5) (cv26 6 0) (wv27 7) (cv26 8 0) (clX3 cI cJ cZ cB (a5 0) a6 (cv28 0) (cv28 1) (cv28 2) (cv28 3) (cv28 4) (cv28 5 0) (cv28 6 0) (cv28 7 0) (cv28 8 0) (cv28 9 0) []))))))) H locs := wd_sub hW [22, 23, 24, 25, 0, 1, 2, 3, 4, 5, 6, 7, 8, 9, 10, 26, 27, 28, 29, 30, 31, 32, 33, 34, 35, 36, 11, 12, 13, 14, 15, 16, 17, 18, 19, 20, 21] rfl rfl
      refine lv_aload_n S.1 S.2.1 dX8_image_29 rfl (lv_at hl 0 rfl) ?_
      refine gf (C := RX8) (T := TX8) (N := 8) (ci := 4) (k := 2) S hK hW wu_X8 rfl (by decide) wf_X8_20 0 rfl rfl dX8_image_30 ?_
      refine lv_iload_n S.1 S.2.1 dX8_image_33 rfl (lv_at hl 1 rfl) ?_
      refine lv_iconst (v := (1 : Int32)) S.1 S.2.1 dX8_image_34 ki_1 ?_
      obtain ⟨z30, h⟩ := of_g h
      refine zst S hK hW rfl 2 rfl z30 rfl dX8_image_35 (fun H locs hW => ?_)
      have hW : wd (dC, dI) A s.heap (clX8 cI cJ cZ cB h0 a0 (upd (c0 2) (ix p1) (1 : Int32)) (c0 5) (w0 6 0) (w0 7 0) (clX1 cI cJ cZ cB (a0 0) a1 (c1 1) (c1 2 0) (c1 3) (c1 4 0) (c1 5) (c1 6 0) (w1 7) (c1 8 0) (clX3 cI cJ cZ cB (a1 0) a2 (c2 0) (c2 1) (c2 2) (c2 3) (c2 4) (c2 5 0) (c2 6 0) (c2 7 0) (c2 8 0) (c2 9 0) (clX1 cI cJ cZ cB (a0 8) a3 (c3 1) (c3 2 0) (c3 3) (c3 4 0) (c3 5) (c3 6 0) (w3 7) (c3 8 0) (clX3 cI cJ cZ cB (a3 0) a4 (c4 0) (c4 1) (c4 2) (c4 3) (c4 4) (c4 5 0) (c4 6 0) (c4 7 0) (c4 8 0) (c4 9 0) (clX1 cI cJ cZ cB (a0 9) a5 (cv26 1) (cv26 2 0) (cv26 3) (cv26 4 0) (cv26 5) (cv26 6 0) (wv27 7) (cv26 8 0) (clX3 cI cJ cZ cB (a5 0) a6 (cv28 0) (cv28 1) (cv28 2) (cv28 3) (cv28 4) (cv28 5 0) (cv28 6 0) (cv28 7 0) (cv28 8 0) (cv28 9 0) []))))))) H locs := hW
      refine lv_iconst (v := (1 : Int32)) S.1 S.2.1 dX8_image_36 ki_1 ?_
      have f31 := Option.some.inj h
      obtain ⟨f32, f33⟩ := Prod.mk.inj f31
      obtain ⟨f34, f35⟩ := Prod.mk.inj f33
      obtain ⟨f36, f37⟩ := Prod.mk.inj f35
      obtain ⟨f38, f39⟩ := Prod.mk.inj f37
      obtain ⟨f40, f41⟩ := Prod.mk.inj f39
      obtain ⟨f42, f43⟩ := Prod.mk.inj f41
      obtain ⟨f44, f45⟩ := Prod.mk.inj f43
      subst f32
      subst f34
      subst f36
      subst f38
      subst f40
      subst f42
      subst f44
      subst f45
      exact ri S hr hlocks hW dX8_image_37
  · have h := of_p u3 h
    refine lv_aload_n S.1 S.2.1 dX8_image_9 rfl (lv_at hl 0 rfl) ?_
    refine lv_bipush (v := (-2 : Int32)) S.1 S.2.1 dX8_image_10 kb_m2 ?_
    obtain ⟨r46, cv47, hy48, h⟩ := bd2_e h
    refine kv (clX8 cI cJ cZ cB h0 a0 (cv47 2) (cv47 5) (w0 6 0) (w0 7 0) (clX1 cI cJ cZ cB (a0 0) a1 (c1 1) (c1 2 0) (c1 3) (c1 4 0) (c1 5) (c1 6 0) (w1 7) (c1 8 0) (clX3 cI cJ cZ cB (a1 0) a2 (c2 0) (c2 1) (c2 2) (c2 3) (c2 4) (c2 5 0) (c2 6 0) (c2 7 0) (c2 8 0) (c2 9 0) (clX1 cI cJ cZ cB (a0 8) a3 (c3 1) (c3 2 0) (c3 3) (c3 4 0) (c3 5) (c3 6 0) (w3 7) (c3 8 0) (clX3 cI cJ cZ cB (a3 0) a4 (c4 0) (c4 1) (c4 2) (c4 3) (c4 4) (c4 5 0) (c4 6 0) (c4 7 0) (c4 8 0) (c4 9 0) (clX1 cI cJ cZ cB (a0 9) a5 (c5 1) (c5 2 0) (c5 3) (c5 4 0) (c5 5) (c5 6 0) (w5 7) (c5 8 0) (clX3 cI cJ cZ cB (a5 0) a6 (c6 0) (c6 1) (c6 2) (c6 3) (c6 4) (c6 5 0) (c6 6 0) (c6 7 0) (c6 8 0) (c6 9 0) []))))))) S hK hN hZ hA hW (rest := []) (t_X8_refuseAsBad l dC dI cI cJ cZ cB zz h0 a0 c0 w0 (-2 : Int32) _ _  hy48) wl_X8_53 wv_X8_refuseAsBad rfl rfl ⟨Nat.le_of_ble_eq_true rfl, Nat.le_of_ble_eq_true rfl⟩ [] (clX1 cI cJ cZ cB (a0 0) a1 (c1 1) (c1 2 0) (c1 3) (c1 4 0) (c1 5) (c1 6 0) (w1 7) (c1 8 0) (clX3 cI cJ cZ cB (a1 0) a2 (c2 0) (c2 1) (c2 2) (c2 3) (c2 4) (c2 5 0) (c2 6 0) (c2 7 0) (c2 8 0) (c2 9 0) (clX1 cI cJ cZ cB (a0 8) a3 (c3 1) (c3 2 0) (c3 3) (c3 4 0) (c3 5) (c3 6 0) (w3 7) (c3 8 0) (clX3 cI cJ cZ cB (a3 0) a4 (c4 0) (c4 1) (c4 2) (c4 3) (c4 4) (c4 5 0) (c4 6 0) (c4 7 0) (c4 8 0) (c4 9 0) (clX1 cI cJ cZ cB (a0 9) a5 (c5 1) (c5 2 0) (c5 3) (c5 4 0) (c5 5) (c5 6 0) (w5 7) (c5 8 0) (clX3 cI cJ cZ cB (a5 0) a6 (c6 0) (c6 1) (c6 2) (c6 3) (c6 4) (c6 5 0) (c6 6 0) (c6 7 0) (c6 8 0) (c6 9 0) [])))))) rfl rfl rfl 0 rfl rfl rfl rfl hl.1 rfl (Nat.le_of_ble_eq_true rfl) dX8_image_12 [.int r46] rfl (fun H locs hW => ?_)
    have f49 := Option.some.inj h
    obtain ⟨f50, f51⟩ := Prod.mk.inj f49
    obtain ⟨f52, f53⟩ := Prod.mk.inj f51
    obtain ⟨f54, f55⟩ := Prod.mk.inj f53
    obtain ⟨f56, f57⟩ := Prod.mk.inj f55
    obtain ⟨f58, f59⟩ := Prod.mk.inj f57
    obtain ⟨f60, f61⟩ := Prod.mk.inj f59
    obtain ⟨f62, f63⟩ := Prod.mk.inj f61
    subst f50
    subst f52
    subst f54
    subst f56
    subst f58
    subst f60
    subst f62
    subst f63
    exact ri S hr hlocks hW dX8_image_15
abbrev rmX8_from : Room := { frames := 2, cells := 0, slots := 0, locals := 61 }
set_option maxHeartbeats 4000000 in
set_option maxRecDepth 100000 in
theorem t_X8_from (l : Launch) (dC : Nat → ClassId) (dI : Nat → Nat → Nat) (cI cJ cZ cB : ClassId) (zz : ZT)  (h0 : Nat) (a0 : Nat → Nat) (a1 : Nat → Nat) (a2 : Nat → Nat) (a3 : Nat → Nat) (a4 : Nat → Nat) (a5 : Nat → Nat) (a6 : Nat → Nat) (F : Nat) (c0 : Nat → Nat → Int32) (w0 : Nat → Nat → Int64) (c1 : Nat → Nat → Int32) (w1 : Nat → Nat → Int64) (c2 : Nat → Nat → Int32) (c3 : Nat → Nat → Int32) (w3 : Nat → Nat → Int64) (c4 : Nat → Nat → Int32) (c5 : Nat → Nat → Int32) (w5 : Nat → Nat → Int64) (c6 : Nat → Nat → Int32) (p1 : Int32) (r : Int32) (c0' : Nat → Nat → Int32) (c1' : Nat → Nat → Int32) (w1' : Nat → Nat → Int64) (c2' : Nat → Nat → Int32) (hm : md_X8_from F c0 w0 c1 w1 c2 c3 w3 c4 c5 w5 c6 p1 = some (r, c0', c1', w1', c2')) : ct l (dC, dI) zz (ty4 cI cJ cZ cB) yX8_from cX8_from 2 (some .int) rmX8_from [.ref h0, .int p1] (cwX8 cI cJ cZ cB h0 a0 c0 w0 (cwX1 cI cJ cZ cB (a0 0) a1 c1 w1 (cwX3 cI cJ cZ cB (a1 0) a2 c2 (cwX1 cI cJ cZ cB (a0 8) a3 c3 w3 (cwX3 cI cJ cZ cB (a3 0) a4 c4 (cwX1 cI cJ cZ cB (a0 9) a5 c5 w5 (cwX3 cI cJ cZ cB (a5 0) a6 c6 []))))))) (cwX8 cI cJ cZ cB h0 a0 c0' w0 (cwX1 cI cJ cZ cB (a0 0) a1 c1' w1' (cwX3 cI cJ cZ cB (a1 0) a2 c2' (cwX1 cI cJ cZ cB (a0 8) a3 c3 w3 (cwX3 cI cJ cZ cB (a3 0) a4 c4 (cwX1 cI cJ cZ cB (a0 9) a5 c5 w5 (cwX3 cI cJ cZ cB (a5 0) a6 c6 []))))))) (some (.int r)) := by
  refine ct_of (cc := cX8_from) (maxL := 2) (ret := (some .int)) (by decide) (Nat.le_of_ble_eq_true rfl) ?_
  intro p e s m below meth c A S hr hlocks hK hN hZ hA H locs hW ls hl
  have S : CallFix p m c cX8_from 2 s (List.toArray [.ref h0, .int p1]) G RX8 := S
  have hl : lv_has ls 2 [(0, .ref h0), (1, .int p1)] := hl
  have h := hm
  rw [md_X8_from] at h
  have hW : wd (dC, dI) A s.heap (clX8 cI cJ cZ cB h0 a0 (c0 2) (c0 5) (w0 6 0) (w0 7 0) (clX1 cI cJ cZ cB (a0 0) a1 (c1 1) (c1 2 0) (c1 3) (c1 4 0) (c1 5) (c1 6 0) (w1 7) (c1 8 0) (clX3 cI cJ cZ cB (a1 0) a2 (c2 0) (c2 1) (c2 2) (c2 3) (c2 4) (c2 5 0) (c2 6 0) (c2 7 0) (c2 8 0) (c2 9 0) (clX1 cI cJ cZ cB (a0 8) a3 (c3 1) (c3 2 0) (c3 3) (c3 4 0) (c3 5) (c3 6 0) (w3 7) (c3 8 0) (clX3 cI cJ cZ cB (a3 0) a4 (c4 0) (c4 1) (c4 2) (c4 3) (c4 4) (c4 5 0) (c4 6 0) (c4 7 0) (c4 8 0) (c4 9 0) (clX1 cI cJ cZ cB (a0 9) a5 (c5 1) (c5 2 0) (c5 3) (c5 4 0) (c5 5) (c5 6 0) (w5 7) (c5 8 0) (clX3 cI cJ cZ cB (a5 0) a6 (c6 0) (c6 1) (c6 2) (c6 3) (c6 4) (c6 5 0) (c6 6 0) (c6 7 0) (c6 8 0) (c6 9 0) []))))))) H locs := hW
  refine lv_iconst (v := (0 : Int32)) S.1 S.2.1 dX8_from_0 ki_0 ?_
  refine lv_iload_n S.1 S.2.1 dX8_from_1 rfl (lv_at hl 1 rfl) ?_
  refine lv_iconst (v := (1 : Int32)) S.1 S.2.1 dX8_from_2 ki_1 ?_
  obtain ⟨r1, hy2, h⟩ := bd1_e h
  refine ks0 S hK hN hZ hA hW (rest := []) (t_X8_within l dC dI cI cJ cZ cB zz (0 : Int32) p1 (1 : Int32) _  hy2) wl_X8_71 wv_X8_within rfl rfl ⟨Nat.le_of_ble_eq_true rfl, Nat.le_of_ble_eq_true rfl⟩ [] (clX8 cI cJ cZ cB h0 a0 (c0 2) (c0 5) (w0 6 0) (w0 7 0) (clX1 cI cJ cZ cB (a0 0) a1 (c1 1) (c1 2 0) (c1 3) (c1 4 0) (c1 5) (c1 6 0) (w1 7) (c1 8 0) (clX3 cI cJ cZ cB (a1 0) a2 (c2 0) (c2 1) (c2 2) (c2 3) (c2 4) (c2 5 0) (c2 6 0) (c2 7 0) (c2 8 0) (c2 9 0) (clX1 cI cJ cZ cB (a0 8) a3 (c3 1) (c3 2 0) (c3 3) (c3 4 0) (c3 5) (c3 6 0) (w3 7) (c3 8 0) (clX3 cI cJ cZ cB (a3 0) a4 (c4 0) (c4 1) (c4 2) (c4 3) (c4 4) (c4 5 0) (c4 6 0) (c4 7 0) (c4 8 0) (c4 9 0) (clX1 cI cJ cZ cB (a0 9) a5 (c5 1) (c5 2 0) (c5 3) (c5 4 0) (c5 5) (c5 6 0) (w5 7) (c5 8 0) (clX3 cI cJ cZ cB (a5 0) a6 (c6 0) (c6 1) (c6 2) (c6 3) (c6 4) (c6 5 0) (c6 6 0) (c6 7 0) (c6 8 0) (c6 9 0) []))))))) rfl rfl hl.1 rfl (Nat.le_of_ble_eq_true rfl) dX8_from_3 [.int r1] rfl (fun H locs hW => ?_)
  refine lv_if_ne (tgt := 16) S.1 S.2.1 dX8_from_6 (by decide) (fun u3 => ?_) (fun u3 => ?_)
  · have h := of_n u3 h
    refine lv_aload_n S.1 S.2.1 dX8_from_16 rfl (lv_at hl 0 rfl) ?_
    refine gf (C := RX8) (T := TX8) (N := 8) (ci := 4) (k := 2) S hK hW wu_X8 rfl (by decide) wf_X8_20 0 rfl rfl dX8_from_17 ?_
    refine lv_iload_n S.1 S.2.1 dX8_from_20 rfl (lv_at hl 1 rfl) ?_
    obtain ⟨z4, h⟩ := of_g h
    refine za S hK hW rfl 2 rfl z4 dX8_from_21 ?_
    refine lv_if_ne (tgt := 32) S.1 S.2.1 dX8_from_22 (by decide) (fun u5 => ?_) (fun u5 => ?_)
    · have h := of_n u5 h
      refine lv_aload_n S.1 S.2.1 dX8_from_32 rfl (lv_at hl 0 rfl) ?_
      refine gf (C := RX8) (T := TX8) (N := 8) (ci := 4) (k := 0) S hK hW wu_X8 rfl (by decide) wf_X8_10 0 rfl rfl dX8_from_33 ?_
      refine lv_aload_n S.1 S.2.1 dX8_from_36 rfl (lv_at hl 0 rfl) ?_
      refine gf (C := RX8) (T := TX8) (N := 8) (ci := 4) (k := 1) S hK hW wu_X8 rfl (by decide) wf_X8_16 0 rfl rfl dX8_from_37 ?_
      refine lv_iload_n S.1 S.2.1 dX8_from_40 rfl (lv_at hl 1 rfl) ?_
      obtain ⟨z6, h⟩ := of_g h
      by_cases u7 : p1 = 0
      · have h := of_p u7 h
        refine xa0 S hK hW rfl 1 rfl z6 u7 dX8_from_41 ?_
        obtain ⟨cv8, wv9, cv10, hy11, h⟩ := bd3_e h
        have hW : wd (dC, dI) A s.heap (clX1 cI cJ cZ cB (a0 8) a3 (c3 1) (c3 2 0) (c3 3) (c3 4 0) (c3 5) (c3 6 0) (w3 7) (c3 8 0) (clX3 cI cJ cZ cB (a3 0) a4 (c4 0) (c4 1) (c4 2) (c4 3) (c4 4) (c4 5 0) (c4 6 0) (c4 7 0) (c4 8 0) (c4 9 0) (clX1 cI cJ cZ cB (a0 0) a1 (c1 1) (c1 2 0) (c1 3) (c1 4 0) (c1 5) (c1 6 0) (w1 7) (c1 8 0) (clX3 cI cJ cZ cB (a1 0) a2 (c2 0) (c2 1) (c2 2) (c2 3) (c2 4) (c2 5 0) (c2 6 0) (c2 7 0) (c2 8 0) (c2 9 0) (clX8 cI cJ cZ cB h0 a0 (c0 2) (c0 5) (w0 6 0) (w0 7 0) (clX1 cI cJ cZ cB (a0 9) a5 (c5 1) (c5 2 0) (c5 3) (c5 4 0) (c5 5) (c5 6 0) (w5 7) (c5 8 0) (clX3 cI cJ cZ cB (a5 0) a6 (c6 0) (c6 1) (c6 2) (c6 3) (c6 4) (c6 5 0) (c6 6 0) (c6 7 0) (c6 8 0) (c6 9 0) []))))))) H locs := wd_sub hW [15, 16, 17, 18, 19, 20, 21, 22, 23, 24, 25, 4, 5, 6, 7, 8, 9, 10, 11, 12, 13, 14, 0, 1, 2, 3, 26, 27, 28, 29, 30, 31, 32, 33, 34, 35, 36] rfl rfl
        refine kv (clX1 cI cJ cZ cB (a0 8) a3 (c3 1) (c3 2 0) (c3 3) (c3 4 0) (c3 5) (c3 6 0) (w3 7) (c3 8 0) (clX3 cI cJ cZ cB (a3 0) a4 (c4 0) (c4 1) (c4 2) (c4 3) (c4 4) (c4 5 0) (c4 6 0) (c4 7 0) (c4 8 0) (c4 9 0) (clX1 cI cJ cZ cB (a0 0) a1 (cv8 1) (cv8 2 0) (cv8 3) (cv8 4 0) (cv8 5) (cv8 6 0) (wv9 7) (cv8 8 0) (clX3 cI cJ cZ cB (a1 0) a2 (cv10 0) (cv10 1) (cv10 2) (cv10 3) (cv10 4) (cv10 5 0) (cv10 6 0) (cv10 7 0) (cv10 8 0) (cv10 9 0) (clX8 cI cJ cZ cB h0 a0 (c0 2) (c0 5) (w0 6 0) (w0 7 0) (clX1 cI cJ cZ cB (a0 9) a5 (c5 1) (c5 2 0) (c5 3) (c5 4 0) (c5 5) (c5 6 0) (w5 7) (c5 8 0) (clX3 cI cJ cZ cB (a5 0) a6 (c6 0) (c6 1) (c6 2) (c6 3) (c6 4) (c6 5 0) (c6 6 0) (c6 7 0) (c6 8 0) (c6 9 0) []))))))) S hK hN hZ hA hW (rest := []) (t_X1_copyAll l dC dI cI cJ cZ cB zz (a0 8) a3 a4 (a0 0) a1 a2 F c3 w3 c4 c1 w1 c2 _ _ _  hy11) wl_X8_276 wv_X1_copyAll rfl rfl ⟨Nat.le_of_ble_eq_true rfl, Nat.le_of_ble_eq_true rfl⟩ [] (clX8 cI cJ cZ cB h0 a0 (c0 2) (c0 5) (w0 6 0) (w0 7 0) (clX1 cI cJ cZ cB (a0 9) a5 (c5 1) (c5 2 0) (c5 3) (c5 4 0) (c5 5) (c5 6 0) (w5 7) (c5 8 0) (clX3 cI cJ cZ cB (a5 0) a6 (c6 0) (c6 1) (c6 2) (c6 3) (c6 4) (c6 5 0) (c6 6 0) (c6 7 0) (c6 8 0) (c6 9 0) []))) rfl rfl rfl 11 rfl rfl rfl rfl hl.1 rfl (Nat.le_of_ble_eq_true rfl) dX8_from_42 [] rfl (fun H locs hW => ?_)
        have hW : wd (dC, dI) A s.heap (clX8 cI cJ cZ cB h0 a0 (c0 2) (c0 5) (w0 6 0) (w0 7 0) (clX1 cI cJ cZ cB (a0 0) a1 (cv8 1) (cv8 2 0) (cv8 3) (cv8 4 0) (cv8 5) (cv8 6 0) (wv9 7) (cv8 8 0) (clX3 cI cJ cZ cB (a1 0) a2 (cv10 0) (cv10 1) (cv10 2) (cv10 3) (cv10 4) (cv10 5 0) (cv10 6 0) (cv10 7 0) (cv10 8 0) (cv10 9 0) (clX1 cI cJ cZ cB (a0 8) a3 (c3 1) (c3 2 0) (c3 3) (c3 4 0) (c3 5) (c3 6 0) (w3 7) (c3 8 0) (clX3 cI cJ cZ cB (a3 0) a4 (c4 0) (c4 1) (c4 2) (c4 3) (c4 4) (c4 5 0) (c4 6 0) (c4 7 0) (c4 8 0) (c4 9 0) (clX1 cI cJ cZ cB (a0 9) a5 (c5 1) (c5 2 0) (c5 3) (c5 4 0) (c5 5) (c5 6 0) (w5 7) (c5 8 0) (clX3 cI cJ cZ cB (a5 0) a6 (c6 0) (c6 1) (c6 2) (c6 3) (c6 4) (c6 5 0) (c6 6 0) (c6 7 0) (c6 8 0) (c6 9 0) []))))))) H locs := wd_sub hW [22, 23, 24, 25, 11, 12, 13, 14, 15, 16, 17, 18, 19, 20, 21, 0, 1, 2, 3, 4, 5, 6, 7, 8, 9, 10, 26, 27, 28, 29, 30, 31, 32, 33, 34, 35, 36] rfl rfl
        refine lv_iconst (v := (1 : Int32)) S.1 S.2.1 dX8_from_45 ki_1 ?_
        have f12 := Option.some.inj h
        obtain ⟨f13, f14⟩ := Prod.mk.inj f12
        obtain ⟨f15, f16⟩ := Prod.mk.inj f14
        obtain ⟨f17, f18⟩ := Prod.mk.inj f16
        obtain ⟨f19, f20⟩ := Prod.mk.inj f18
        subst f13
        subst f15
        subst f17
        subst f19
        subst f20
        exact ri S hr hlocks hW dX8_from_46
      · have h := of_n u7 h
        refine xa1 S hK hW rfl 1 rfl z6 u7 dX8_from_41 ?_
        obtain ⟨cv21, wv22, cv23, hy24, h⟩ := bd3_e h
        have hW : wd (dC, dI) A s.heap (clX1 cI cJ cZ cB (a0 9) a5 (c5 1) (c5 2 0) (c5 3) (c5 4 0) (c5 5) (c5 6 0) (w5 7) (c5 8 0) (clX3 cI cJ cZ cB (a5 0) a6 (c6 0) (c6 1) (c6 2) (c6 3) (c6 4) (c6 5 0) (c6 6 0) (c6 7 0) (c6 8 0) (c6 9 0) (clX1 cI cJ cZ cB (a0 0) a1 (c1 1) (c1 2 0) (c1 3) (c1 4 0) (c1 5) (c1 6 0) (w1 7) (c1 8 0) (clX3 cI cJ cZ cB (a1 0) a2 (c2 0) (c2 1) (c2 2) (c2 3) (c2 4) (c2 5 0) (c2 6 0) (c2 7 0) (c2 8 0) (c2 9 0) (clX8 cI cJ cZ cB h0 a0 (c0 2) (c0 5) (w0 6 0) (w0 7 0) (clX1 cI cJ cZ cB (a0 8) a3 (c3 1) (c3 2 0) (c3 3) (c3 4 0) (c3 5) (c3 6 0) (w3 7) (c3 8 0) (clX3 cI cJ cZ cB (a3 0) a4 (c4 0) (c4 1) (c4 2) (c4 3) (c4 4) (c4 5 0) (c4 6 0) (c4 7 0) (c4 8 0) (c4 9 0) []))))))) H locs := wd_sub hW [26, 27, 28, 29, 30, 31, 32, 33, 34, 35, 36, 4, 5, 6, 7, 8, 9, 10, 11, 12, 13, 14, 0, 1, 2, 3, 15, 16, 17, 18, 19, 20, 21, 22, 23, 24, 25] rfl rfl
        refine kv (clX1 cI cJ cZ cB (a0 9) a5 (c5 1) (c5 2 0) (c5 3) (c5 4 0) (c5 5) (c5 6 0) (w5 7) (c5 8 0) (clX3 cI cJ cZ cB (a5 0) a6 (c6 0) (c6 1) (c6 2) (c6 3) (c6 4) (c6 5 0) (c6 6 0) (c6 7 0) (c6 8 0) (c6 9 0) (clX1 cI cJ cZ cB (a0 0) a1 (cv21 1) (cv21 2 0) (cv21 3) (cv21 4 0) (cv21 5) (cv21 6 0) (wv22 7) (cv21 8 0) (clX3 cI cJ cZ cB (a1 0) a2 (cv23 0) (cv23 1) (cv23 2) (cv23 3) (cv23 4) (cv23 5 0) (cv23 6 0) (cv23 7 0) (cv23 8 0) (cv23 9 0) (clX8 cI cJ cZ cB h0 a0 (c0 2) (c0 5) (w0 6 0) (w0 7 0) (clX1 cI cJ cZ cB (a0 8) a3 (c3 1) (c3 2 0) (c3 3) (c3 4 0) (c3 5) (c3 6 0) (w3 7) (c3 8 0) (clX3 cI cJ cZ cB (a3 0) a4 (c4 0) (c4 1) (c4 2) (c4 3) (c4 4) (c4 5 0) (c4 6 0) (c4 7 0) (c4 8 0) (c4 9 0) []))))))) S hK hN hZ hA hW (rest := []) (t_X1_copyAll l dC dI cI cJ cZ cB zz (a0 9) a5 a6 (a0 0) a1 a2 F c5 w5 c6 c1 w1 c2 _ _ _  hy24) wl_X8_276 wv_X1_copyAll rfl rfl ⟨Nat.le_of_ble_eq_true rfl, Nat.le_of_ble_eq_true rfl⟩ [] (clX8 cI cJ cZ cB h0 a0 (c0 2) (c0 5) (w0 6 0) (w0 7 0) (clX1 cI cJ cZ cB (a0 8) a3 (c3 1) (c3 2 0) (c3 3) (c3 4 0) (c3 5) (c3 6 0) (w3 7) (c3 8 0) (clX3 cI cJ cZ cB (a3 0) a4 (c4 0) (c4 1) (c4 2) (c4 3) (c4 4) (c4 5 0) (c4 6 0) (c4 7 0) (c4 8 0) (c4 9 0) []))) rfl rfl rfl 11 rfl rfl rfl rfl hl.1 rfl (Nat.le_of_ble_eq_true rfl) dX8_from_42 [] rfl (fun H locs hW => ?_)
        have hW : wd (dC, dI) A s.heap (clX8 cI cJ cZ cB h0 a0 (c0 2) (c0 5) (w0 6 0) (w0 7 0) (clX1 cI cJ cZ cB (a0 0) a1 (cv21 1) (cv21 2 0) (cv21 3) (cv21 4 0) (cv21 5) (cv21 6 0) (wv22 7) (cv21 8 0) (clX3 cI cJ cZ cB (a1 0) a2 (cv23 0) (cv23 1) (cv23 2) (cv23 3) (cv23 4) (cv23 5 0) (cv23 6 0) (cv23 7 0) (cv23 8 0) (cv23 9 0) (clX1 cI cJ cZ cB (a0 8) a3 (c3 1) (c3 2 0) (c3 3) (c3 4 0) (c3 5) (c3 6 0) (w3 7) (c3 8 0) (clX3 cI cJ cZ cB (a3 0) a4 (c4 0) (c4 1) (c4 2) (c4 3) (c4 4) (c4 5 0) (c4 6 0) (c4 7 0) (c4 8 0) (c4 9 0) (clX1 cI cJ cZ cB (a0 9) a5 (c5 1) (c5 2 0) (c5 3) (c5 4 0) (c5 5) (c5 6 0) (w5 7) (c5 8 0) (clX3 cI cJ cZ cB (a5 0) a6 (c6 0) (c6 1) (c6 2) (c6 3) (c6 4) (c6 5 0) (c6 6 0) (c6 7 0) (c6 8 0) (c6 9 0) []))))))) H locs := wd_sub hW [22, 23, 24, 25, 11, 12, 13, 14, 15, 16, 17, 18, 19, 20, 21, 26, 27, 28, 29, 30, 31, 32, 33, 34, 35, 36, 0, 1, 2, 3, 4, 5, 6, 7, 8, 9, 10] rfl rfl
        refine lv_iconst (v := (1 : Int32)) S.1 S.2.1 dX8_from_45 ki_1 ?_
        have f25 := Option.some.inj h
        obtain ⟨f26, f27⟩ := Prod.mk.inj f25
        obtain ⟨f28, f29⟩ := Prod.mk.inj f27
        obtain ⟨f30, f31⟩ := Prod.mk.inj f29
        obtain ⟨f32, f33⟩ := Prod.mk.inj f31
        subst f26
        subst f28
        subst f30
        subst f32
        subst f33
        exact ri S hr hlocks hW dX8_from_46
    · have h := of_p u5 h
      refine lv_aload_n S.1 S.2.1 dX8_from_25 rfl (lv_at hl 0 rfl) ?_
      refine lv_bipush (v := (-3 : Int32)) S.1 S.2.1 dX8_from_26 kb_m3 ?_
      obtain ⟨r34, cv35, hy36, h⟩ := bd2_e h
      refine kv (clX8 cI cJ cZ cB h0 a0 (cv35 2) (cv35 5) (w0 6 0) (w0 7 0) (clX1 cI cJ cZ cB (a0 0) a1 (c1 1) (c1 2 0) (c1 3) (c1 4 0) (c1 5) (c1 6 0) (w1 7) (c1 8 0) (clX3 cI cJ cZ cB (a1 0) a2 (c2 0) (c2 1) (c2 2) (c2 3) (c2 4) (c2 5 0) (c2 6 0) (c2 7 0) (c2 8 0) (c2 9 0) (clX1 cI cJ cZ cB (a0 8) a3 (c3 1) (c3 2 0) (c3 3) (c3 4 0) (c3 5) (c3 6 0) (w3 7) (c3 8 0) (clX3 cI cJ cZ cB (a3 0) a4 (c4 0) (c4 1) (c4 2) (c4 3) (c4 4) (c4 5 0) (c4 6 0) (c4 7 0) (c4 8 0) (c4 9 0) (clX1 cI cJ cZ cB (a0 9) a5 (c5 1) (c5 2 0) (c5 3) (c5 4 0) (c5 5) (c5 6 0) (w5 7) (c5 8 0) (clX3 cI cJ cZ cB (a5 0) a6 (c6 0) (c6 1) (c6 2) (c6 3) (c6 4) (c6 5 0) (c6 6 0) (c6 7 0) (c6 8 0) (c6 9 0) []))))))) S hK hN hZ hA hW (rest := []) (t_X8_refuseAsNo l dC dI cI cJ cZ cB zz h0 a0 c0 w0 (-3 : Int32) _ _  hy36) wl_X8_127 wv_X8_refuseAsNo rfl rfl ⟨Nat.le_of_ble_eq_true rfl, Nat.le_of_ble_eq_true rfl⟩ [] (clX1 cI cJ cZ cB (a0 0) a1 (c1 1) (c1 2 0) (c1 3) (c1 4 0) (c1 5) (c1 6 0) (w1 7) (c1 8 0) (clX3 cI cJ cZ cB (a1 0) a2 (c2 0) (c2 1) (c2 2) (c2 3) (c2 4) (c2 5 0) (c2 6 0) (c2 7 0) (c2 8 0) (c2 9 0) (clX1 cI cJ cZ cB (a0 8) a3 (c3 1) (c3 2 0) (c3 3) (c3 4 0) (c3 5) (c3 6 0) (w3 7) (c3 8 0) (clX3 cI cJ cZ cB (a3 0) a4 (c4 0) (c4 1) (c4 2) (c4 3) (c4 4) (c4 5 0) (c4 6 0) (c4 7 0) (c4 8 0) (c4 9 0) (clX1 cI cJ cZ cB (a0 9) a5 (c5 1) (c5 2 0) (c5 3) (c5 4 0) (c5 5) (c5 6 0) (w5 7) (c5 8 0) (clX3 cI cJ cZ cB (a5 0) a6 (c6 0) (c6 1) (c6 2) (c6 3) (c6 4) (c6 5 0) (c6 6 0) (c6 7 0) (c6 8 0) (c6 9 0) [])))))) rfl rfl rfl 0 rfl rfl rfl rfl hl.1 rfl (Nat.le_of_ble_eq_true rfl) dX8_from_28 [.int r34] rfl (fun H locs hW => ?_)
      have f37 := Option.some.inj h
      obtain ⟨f38, f39⟩ := Prod.mk.inj f37
      obtain ⟨f40, f41⟩ := Prod.mk.inj f39
      obtain ⟨f42, f43⟩ := Prod.mk.inj f41
      obtain ⟨f44, f45⟩ := Prod.mk.inj f43
      subst f38
      subst f40
      subst f42
      subst f44
      subst f45
      exact ri S hr hlocks hW dX8_from_31
  · have h := of_p u3 h
    refine lv_aload_n S.1 S.2.1 dX8_from_9 rfl (lv_at hl 0 rfl) ?_
    refine lv_bipush (v := (-2 : Int32)) S.1 S.2.1 dX8_from_10 kb_m2 ?_
    obtain ⟨r46, cv47, hy48, h⟩ := bd2_e h
    refine kv (clX8 cI cJ cZ cB h0 a0 (cv47 2) (cv47 5) (w0 6 0) (w0 7 0) (clX1 cI cJ cZ cB (a0 0) a1 (c1 1) (c1 2 0) (c1 3) (c1 4 0) (c1 5) (c1 6 0) (w1 7) (c1 8 0) (clX3 cI cJ cZ cB (a1 0) a2 (c2 0) (c2 1) (c2 2) (c2 3) (c2 4) (c2 5 0) (c2 6 0) (c2 7 0) (c2 8 0) (c2 9 0) (clX1 cI cJ cZ cB (a0 8) a3 (c3 1) (c3 2 0) (c3 3) (c3 4 0) (c3 5) (c3 6 0) (w3 7) (c3 8 0) (clX3 cI cJ cZ cB (a3 0) a4 (c4 0) (c4 1) (c4 2) (c4 3) (c4 4) (c4 5 0) (c4 6 0) (c4 7 0) (c4 8 0) (c4 9 0) (clX1 cI cJ cZ cB (a0 9) a5 (c5 1) (c5 2 0) (c5 3) (c5 4 0) (c5 5) (c5 6 0) (w5 7) (c5 8 0) (clX3 cI cJ cZ cB (a5 0) a6 (c6 0) (c6 1) (c6 2) (c6 3) (c6 4) (c6 5 0) (c6 6 0) (c6 7 0) (c6 8 0) (c6 9 0) []))))))) S hK hN hZ hA hW (rest := []) (t_X8_refuseAsBad l dC dI cI cJ cZ cB zz h0 a0 c0 w0 (-2 : Int32) _ _  hy48) wl_X8_53 wv_X8_refuseAsBad rfl rfl ⟨Nat.le_of_ble_eq_true rfl, Nat.le_of_ble_eq_true rfl⟩ [] (clX1 cI cJ cZ cB (a0 0) a1 (c1 1) (c1 2 0) (c1 3) (c1 4 0) (c1 5) (c1 6 0) (w1 7) (c1 8 0) (clX3 cI cJ cZ cB (a1 0) a2 (c2 0) (c2 1) (c2 2) (c2 3) (c2 4) (c2 5 0) (c2 6 0) (c2 7 0) (c2 8 0) (c2 9 0) (clX1 cI cJ cZ cB (a0 8) a3 (c3 1) (c3 2 0) (c3 3) (c3 4 0) (c3 5) (c3 6 0) (w3 7) (c3 8 0) (clX3 cI cJ cZ cB (a3 0) a4 (c4 0) (c4 1) (c4 2) (c4 3) (c4 4) (c4 5 0) (c4 6 0) (c4 7 0) (c4 8 0) (c4 9 0) (clX1 cI cJ cZ cB (a0 9) a5 (c5 1) (c5 2 0) (c5 3) (c5 4 0) (c5 5) (c5 6 0) (w5 7) (c5 8 0) (clX3 cI cJ cZ cB (a5 0) a6 (c6 0) (c6 1) (c6 2) (c6 3) (c6 4) (c6 5 0) (c6 6 0) (c6 7 0) (c6 8 0) (c6 9 0) [])))))) rfl rfl rfl 0 rfl rfl rfl rfl hl.1 rfl (Nat.le_of_ble_eq_true rfl) dX8_from_12 [.int r46] rfl (fun H locs hW => ?_)
    have f49 := Option.some.inj h
    obtain ⟨f50, f51⟩ := Prod.mk.inj f49
    obtain ⟨f52, f53⟩ := Prod.mk.inj f51
    obtain ⟨f54, f55⟩ := Prod.mk.inj f53
    obtain ⟨f56, f57⟩ := Prod.mk.inj f55
    subst f50
    subst f52
    subst f54
    subst f56
    subst f57
    exact ri S hr hlocks hW dX8_from_15
abbrev rmX8_status : Room := { frames := 1, cells := 0, slots := 0, locals := 22 }
set_option maxHeartbeats 4000000 in
set_option maxRecDepth 100000 in
theorem t_X8_status (l : Launch) (dC : Nat → ClassId) (dI : Nat → Nat → Nat) (cI cJ cZ cB : ClassId) (zz : ZT)  (h0 : Nat) (a0 : Nat → Nat) (c0 : Nat → Nat → Int32) (w0 : Nat → Nat → Int64) (p1 : Int32) (r : Int32) (c0' : Nat → Nat → Int32) (hm : md_X8_status c0 w0 p1 = some (r, c0')) : ct l (dC, dI) zz (ty4 cI cJ cZ cB) yX8_status cX8_status 2 (some .int) rmX8_status [.ref h0, .int p1] (cwX8 cI cJ cZ cB h0 a0 c0 w0 []) (cwX8 cI cJ cZ cB h0 a0 c0' w0 []) (some (.int r)) := by
  refine ct_of (cc := cX8_status) (maxL := 2) (ret := (some .int)) (by decide) (Nat.le_of_ble_eq_true rfl) ?_
  intro p e s m below meth c A S hr hlocks hK hN hZ hA H locs hW ls hl
  have S : CallFix p m c cX8_status 2 s (List.toArray [.ref h0, .int p1]) G RX8 := S
  have hl : lv_has ls 2 [(0, .ref h0), (1, .int p1)] := hl
  have h := hm
  rw [md_X8_status] at h
  have hW : wd (dC, dI) A s.heap (clX8 cI cJ cZ cB h0 a0 (c0 2) (c0 5) (w0 6 0) (w0 7 0) []) H locs := hW
  refine lv_iconst (v := (0 : Int32)) S.1 S.2.1 dX8_status_0 ki_0 ?_
  refine lv_iload_n S.1 S.2.1 dX8_status_1 rfl (lv_at hl 1 rfl) ?_
  refine lv_iconst (v := (2 : Int32)) S.1 S.2.1 dX8_status_2 ki_2 ?_
  obtain ⟨r1, hy2, h⟩ := bd1_e h
  refine ks0 S hK hN hZ hA hW (rest := []) (t_X8_within l dC dI cI cJ cZ cB zz (0 : Int32) p1 (2 : Int32) _  hy2) wl_X8_71 wv_X8_within rfl rfl ⟨Nat.le_of_ble_eq_true rfl, Nat.le_of_ble_eq_true rfl⟩ [] (clX8 cI cJ cZ cB h0 a0 (c0 2) (c0 5) (w0 6 0) (w0 7 0) []) rfl rfl hl.1 rfl (Nat.le_of_ble_eq_true rfl) dX8_status_3 [.int r1] rfl (fun H locs hW => ?_)
  refine lv_if_ne (tgt := 15) S.1 S.2.1 dX8_status_6 (by decide) (fun u3 => ?_) (fun u3 => ?_)
  · have h := of_n u3 h
    refine lv_aload_n S.1 S.2.1 dX8_status_15 rfl (lv_at hl 0 rfl) ?_
    refine gf (C := RX8) (T := TX8) (N := 8) (ci := 4) (k := 5) S hK hW wu_X8 rfl (by decide) wf_X8_38 0 rfl rfl dX8_status_16 ?_
    refine lv_iload_n S.1 S.2.1 dX8_status_19 rfl (lv_at hl 1 rfl) ?_
    obtain ⟨z4, h⟩ := of_g h
    refine ia S hK hW rfl 3 rfl z4 dX8_status_20 ?_
    have f5 := Option.some.inj h
    obtain ⟨f6, f7⟩ := Prod.mk.inj f5
    subst f6
    subst f7
    exact ri S hr hlocks hW dX8_status_21
  · have h := of_p u3 h
    refine lv_aload_n S.1 S.2.1 dX8_status_9 rfl (lv_at hl 0 rfl) ?_
    refine lv_iconst (v := (-1 : Int32)) S.1 S.2.1 dX8_status_10 ki_m1 ?_
    obtain ⟨r8, cv9, hy10, h⟩ := bd2_e h
    refine kv (clX8 cI cJ cZ cB h0 a0 (cv9 2) (cv9 5) (w0 6 0) (w0 7 0) []) S hK hN hZ hA hW (rest := []) (t_X8_refuseAsBad l dC dI cI cJ cZ cB zz h0 a0 c0 w0 (-1 : Int32) _ _  hy10) wl_X8_53 wv_X8_refuseAsBad rfl rfl ⟨Nat.le_of_ble_eq_true rfl, Nat.le_of_ble_eq_true rfl⟩ [] [] rfl rfl rfl 0 rfl rfl rfl rfl hl.1 rfl (Nat.le_of_ble_eq_true rfl) dX8_status_11 [.int r8] rfl (fun H locs hW => ?_)
    have f11 := Option.some.inj h
    obtain ⟨f12, f13⟩ := Prod.mk.inj f11
    subst f12
    subst f13
    exact ri S hr hlocks hW dX8_status_14
abbrev rmX8_count : Room := { frames := 2, cells := 0, slots := 0, locals := 40 }
set_option maxHeartbeats 4000000 in
set_option maxRecDepth 100000 in
theorem t_X8_count (l : Launch) (dC : Nat → ClassId) (dI : Nat → Nat → Nat) (cI cJ cZ cB : ClassId) (zz : ZT)  (h0 : Nat) (a0 : Nat → Nat) (a1 : Nat → Nat) (a2 : Nat → Nat) (a3 : Nat → Nat) (a4 : Nat → Nat) (F : Nat) (c0 : Nat → Nat → Int32) (w0 : Nat → Nat → Int64) (c1 : Nat → Nat → Int32) (w1 : Nat → Nat → Int64) (c2 : Nat → Nat → Int32) (c4 : Nat → Nat → Int32) (p1 : Int32) (r : Int32) (c0' : Nat → Nat → Int32) (hm : md_X8_count F c0 w0 c1 w1 c2 c4 p1 = some (r, c0')) : ct l (dC, dI) zz (ty4 cI cJ cZ cB) yX8_count cX8_count 2 (some .int) rmX8_count [.ref h0, .int p1] (cwX8 cI cJ cZ cB h0 a0 c0 w0 (cwX1 cI cJ cZ cB (a0 0) a1 c1 w1 (cwX3 cI cJ cZ cB (a1 0) a2 c2 (cwX2 cI cJ cZ cB (a0 4) a3  (cwX7 cI cJ cZ cB (a3 0) a4 c4 []))))) (cwX8 cI cJ cZ cB h0 a0 c0' w0 (cwX1 cI cJ cZ cB (a0 0) a1 c1 w1 (cwX3 cI cJ cZ cB (a1 0) a2 c2 (cwX2 cI cJ cZ cB (a0 4) a3  (cwX7 cI cJ cZ cB (a3 0) a4 c4 []))))) (some (.int r)) := by
  refine ct_of (cc := cX8_count) (maxL := 2) (ret := (some .int)) (by decide) (Nat.le_of_ble_eq_true rfl) ?_
  intro p e s m below meth c A S hr hlocks hK hN hZ hA H locs hW ls hl
  have S : CallFix p m c cX8_count 2 s (List.toArray [.ref h0, .int p1]) G RX8 := S
  have hl : lv_has ls 2 [(0, .ref h0), (1, .int p1)] := hl
  have h := hm
  rw [md_X8_count] at h
  have hW : wd (dC, dI) A s.heap (clX8 cI cJ cZ cB h0 a0 (c0 2) (c0 5) (w0 6 0) (w0 7 0) (clX1 cI cJ cZ cB (a0 0) a1 (c1 1) (c1 2 0) (c1 3) (c1 4 0) (c1 5) (c1 6 0) (w1 7) (c1 8 0) (clX3 cI cJ cZ cB (a1 0) a2 (c2 0) (c2 1) (c2 2) (c2 3) (c2 4) (c2 5 0) (c2 6 0) (c2 7 0) (c2 8 0) (c2 9 0) (clX2 cI cJ cZ cB (a0 4) a3  (clX7 cI cJ cZ cB (a3 0) a4 (c4 0) (c4 1 0) (c4 2 0) (c4 3 0) (c4 4 0) (c4 5 0) []))))) H locs := hW
  refine lv_iload_n S.1 S.2.1 dX8_count_0 rfl (lv_at hl 1 rfl) ?_
  by_cases u1 : p1 = (0 : Int32)
  · have h := of_p u1 h
    refine lv_tableIn (off := 47) (tgt := 48) S.1 S.2.1 dX8_count_1 (by rw [u1]; decide) (by rw [u1]; decide) (by rw [u1]; decide +kernel) (by decide) ?_
    refine lv_aload_n S.1 S.2.1 dX8_count_48 rfl (lv_at hl 0 rfl) ?_
    refine gf (C := RX8) (T := TX8) (N := 8) (ci := 4) (k := 0) S hK hW wu_X8 rfl (by decide) wf_X8_10 0 rfl rfl dX8_count_49 ?_
    refine gf (C := RX1) (T := TX1) (N := 9) (ci := 0) (k := 0) S hK hW wu_X1 rfl (by decide) wf_X8_57 4 rfl rfl dX8_count_52 ?_
    refine gf (C := RX3) (T := TX3) (N := 10) (ci := 2) (k := 5) S hK hW wu_X3 rfl (by decide) wf_X8_60 9 rfl rfl dX8_count_55 ?_
    have f2 := Option.some.inj h
    obtain ⟨f3, f4⟩ := Prod.mk.inj f2
    subst f3
    subst f4
    exact ri S hr hlocks hW dX8_count_58
  · have h := of_n u1 h
    by_cases u5 : p1 = (1 : Int32)
    · have h := of_p u5 h
      refine lv_tableIn (off := 58) (tgt := 59) S.1 S.2.1 dX8_count_1 (by rw [u5]; decide) (by rw [u5]; decide) (by rw [u5]; decide +kernel) (by decide) ?_
      refine lv_aload_n S.1 S.2.1 dX8_count_59 rfl (lv_at hl 0 rfl) ?_
      refine gf (C := RX8) (T := TX8) (N := 8) (ci := 4) (k := 0) S hK hW wu_X8 rfl (by decide) wf_X8_10 0 rfl rfl dX8_count_60 ?_
      refine gf (C := RX1) (T := TX1) (N := 9) (ci := 0) (k := 0) S hK hW wu_X1 rfl (by decide) wf_X8_57 4 rfl rfl dX8_count_63 ?_
      obtain ⟨r6, hy7, h⟩ := bd1_e h
      refine kv0 S hK hN hZ hA hW (rest := []) (t_X3_turn l dC dI cI cJ cZ cB zz (a1 0) a2 c2 _  hy7) wl_X8_154 wv_X3_turn rfl rfl ⟨Nat.le_of_ble_eq_true rfl, Nat.le_of_ble_eq_true rfl⟩ (clX8 cI cJ cZ cB h0 a0 (c0 2) (c0 5) (w0 6 0) (w0 7 0) (clX1 cI cJ cZ cB (a0 0) a1 (c1 1) (c1 2 0) (c1 3) (c1 4 0) (c1 5) (c1 6 0) (w1 7) (c1 8 0) [])) (clX2 cI cJ cZ cB (a0 4) a3  (clX7 cI cJ cZ cB (a3 0) a4 (c4 0) (c4 1 0) (c4 2 0) (c4 3 0) (c4 4 0) (c4 5 0) [])) rfl 9 rfl rfl rfl rfl hl.1 rfl (Nat.le_of_ble_eq_true rfl) dX8_count_66 [.int r6] rfl (fun H locs hW => ?_)
      have f8 := Option.some.inj h
      obtain ⟨f9, f10⟩ := Prod.mk.inj f8
      subst f9
      subst f10
      exact ri S hr hlocks hW dX8_count_69
    · have h := of_n u5 h
      by_cases u11 : p1 = (2 : Int32)
      · have h := of_p u11 h
        refine lv_tableIn (off := 69) (tgt := 70) S.1 S.2.1 dX8_count_1 (by rw [u11]; decide) (by rw [u11]; decide) (by rw [u11]; decide +kernel) (by decide) ?_
        refine lv_aload_n S.1 S.2.1 dX8_count_70 rfl (lv_at hl 0 rfl) ?_
        refine gf (C := RX8) (T := TX8) (N := 8) (ci := 4) (k := 0) S hK hW wu_X8 rfl (by decide) wf_X8_10 0 rfl rfl dX8_count_71 ?_
        refine gf (C := RX1) (T := TX1) (N := 9) (ci := 0) (k := 0) S hK hW wu_X1 rfl (by decide) wf_X8_57 4 rfl rfl dX8_count_74 ?_
        obtain ⟨r12, hy13, h⟩ := bd1_e h
        refine kv0 S hK hN hZ hA hW (rest := []) (t_X3_allGroundsLeft l dC dI cI cJ cZ cB zz (a1 0) a2 F c2 _  hy13) wl_X8_280 wv_X3_allGroundsLeft rfl rfl ⟨Nat.le_of_ble_eq_true rfl, Nat.le_of_ble_eq_true rfl⟩ (clX8 cI cJ cZ cB h0 a0 (c0 2) (c0 5) (w0 6 0) (w0 7 0) (clX1 cI cJ cZ cB (a0 0) a1 (c1 1) (c1 2 0) (c1 3) (c1 4 0) (c1 5) (c1 6 0) (w1 7) (c1 8 0) [])) (clX2 cI cJ cZ cB (a0 4) a3  (clX7 cI cJ cZ cB (a3 0) a4 (c4 0) (c4 1 0) (c4 2 0) (c4 3 0) (c4 4 0) (c4 5 0) [])) rfl 9 rfl rfl rfl rfl hl.1 rfl (Nat.le_of_ble_eq_true rfl) dX8_count_77 [.int r12] rfl (fun H locs hW => ?_)
        have f14 := Option.some.inj h
        obtain ⟨f15, f16⟩ := Prod.mk.inj f14
        subst f15
        subst f16
        exact ri S hr hlocks hW dX8_count_80
      · have h := of_n u11 h
        by_cases u17 : p1 = (3 : Int32)
        · have h := of_p u17 h
          refine lv_tableIn (off := 80) (tgt := 81) S.1 S.2.1 dX8_count_1 (by rw [u17]; decide) (by rw [u17]; decide) (by rw [u17]; decide +kernel) (by decide) ?_
          refine lv_aload_n S.1 S.2.1 dX8_count_81 rfl (lv_at hl 0 rfl) ?_
          refine gf (C := RX8) (T := TX8) (N := 8) (ci := 4) (k := 0) S hK hW wu_X8 rfl (by decide) wf_X8_10 0 rfl rfl dX8_count_82 ?_
          refine gf (C := RX1) (T := TX1) (N := 9) (ci := 0) (k := 2) S hK hW wu_X1 rfl (by decide) wf_X8_206 4 rfl rfl dX8_count_85 ?_
          have f18 := Option.some.inj h
          obtain ⟨f19, f20⟩ := Prod.mk.inj f18
          subst f19
          subst f20
          exact ri S hr hlocks hW dX8_count_88
        · have h := of_n u17 h
          by_cases u21 : p1 = (4 : Int32)
          · have h := of_p u21 h
            refine lv_tableIn (off := 88) (tgt := 89) S.1 S.2.1 dX8_count_1 (by rw [u21]; decide) (by rw [u21]; decide) (by rw [u21]; decide +kernel) (by decide) ?_
            refine lv_aload_n S.1 S.2.1 dX8_count_89 rfl (lv_at hl 0 rfl) ?_
            refine gf (C := RX8) (T := TX8) (N := 8) (ci := 4) (k := 0) S hK hW wu_X8 rfl (by decide) wf_X8_10 0 rfl rfl dX8_count_90 ?_
            refine gf (C := RX1) (T := TX1) (N := 9) (ci := 0) (k := 4) S hK hW wu_X1 rfl (by decide) wf_X8_219 4 rfl rfl dX8_count_93 ?_
            have f22 := Option.some.inj h
            obtain ⟨f23, f24⟩ := Prod.mk.inj f22
            subst f23
            subst f24
            exact ri S hr hlocks hW dX8_count_96
          · have h := of_n u21 h
            by_cases u25 : p1 = (5 : Int32)
            · have h := of_p u25 h
              refine lv_tableIn (off := 96) (tgt := 97) S.1 S.2.1 dX8_count_1 (by rw [u25]; decide) (by rw [u25]; decide) (by rw [u25]; decide +kernel) (by decide) ?_
              refine lv_aload_n S.1 S.2.1 dX8_count_97 rfl (lv_at hl 0 rfl) ?_
              refine gf (C := RX8) (T := TX8) (N := 8) (ci := 4) (k := 0) S hK hW wu_X8 rfl (by decide) wf_X8_10 0 rfl rfl dX8_count_98 ?_
              refine gf (C := RX1) (T := TX1) (N := 9) (ci := 0) (k := 6) S hK hW wu_X1 rfl (by decide) wf_X8_226 4 rfl rfl dX8_count_101 ?_
              have f26 := Option.some.inj h
              obtain ⟨f27, f28⟩ := Prod.mk.inj f26
              subst f27
              subst f28
              exact ri S hr hlocks hW dX8_count_104
            · have h := of_n u25 h
              by_cases u29 : p1 = (6 : Int32)
              · have h := of_p u29 h
                refine lv_tableIn (off := 104) (tgt := 105) S.1 S.2.1 dX8_count_1 (by rw [u29]; decide) (by rw [u29]; decide) (by rw [u29]; decide +kernel) (by decide) ?_
                refine lv_aload_n S.1 S.2.1 dX8_count_105 rfl (lv_at hl 0 rfl) ?_
                refine gf (C := RX8) (T := TX8) (N := 8) (ci := 4) (k := 0) S hK hW wu_X8 rfl (by decide) wf_X8_10 0 rfl rfl dX8_count_106 ?_
                refine gf (C := RX1) (T := TX1) (N := 9) (ci := 0) (k := 8) S hK hW wu_X1 rfl (by decide) wf_X8_148 4 rfl rfl dX8_count_109 ?_
                have f30 := Option.some.inj h
                obtain ⟨f31, f32⟩ := Prod.mk.inj f30
                subst f31
                subst f32
                exact ri S hr hlocks hW dX8_count_112
              · have h := of_n u29 h
                by_cases u33 : p1 = (7 : Int32)
                · have h := of_p u33 h
                  refine lv_tableIn (off := 112) (tgt := 113) S.1 S.2.1 dX8_count_1 (by rw [u33]; decide) (by rw [u33]; decide) (by rw [u33]; decide +kernel) (by decide) ?_
                  refine lv_aload_n S.1 S.2.1 dX8_count_113 rfl (lv_at hl 0 rfl) ?_
                  refine gf (C := RX8) (T := TX8) (N := 8) (ci := 4) (k := 4) S hK hW wu_X8 rfl (by decide) wf_X8_34 0 rfl rfl dX8_count_114 ?_
                  refine gf (C := RX2) (T := TX2) (N := 2) (ci := 1) (k := 0) S hK hW wu_X2 rfl (by decide) wf_X8_93 15 rfl rfl dX8_count_117 ?_
                  refine gf (C := RX7) (T := TX7) (N := 6) (ci := 3) (k := 1) S hK hW wu_X7 rfl (by decide) wf_X8_97 16 rfl rfl dX8_count_120 ?_
                  have f34 := Option.some.inj h
                  obtain ⟨f35, f36⟩ := Prod.mk.inj f34
                  subst f35
                  subst f36
                  exact ri S hr hlocks hW dX8_count_123
                · have h := of_n u33 h
                  refine lv_tableOut (tgt := 124) S.1 S.2.1 dX8_count_1 (by have z0 := lv_neT u1 (a := 0) (by decide); have z1 := lv_neT u5 (a := 1) (by decide); have z2 := lv_neT u11 (a := 2) (by decide); have z3 := lv_neT u17 (a := 3) (by decide); have z4 := lv_neT u21 (a := 4) (by decide); have z5 := lv_neT u25 (a := 5) (by decide); have z6 := lv_neT u29 (a := 6) (by decide); have z7 := lv_neT u33 (a := 7) (by decide); omega) (by decide) ?_
                  refine lv_aload_n S.1 S.2.1 dX8_count_124 rfl (lv_at hl 0 rfl) ?_
                  refine lv_bipush (v := (-2 : Int32)) S.1 S.2.1 dX8_count_125 kb_m2 ?_
                  obtain ⟨r37, cv38, hy39, h⟩ := bd2_e h
                  refine kv (clX8 cI cJ cZ cB h0 a0 (cv38 2) (cv38 5) (w0 6 0) (w0 7 0) (clX1 cI cJ cZ cB (a0 0) a1 (c1 1) (c1 2 0) (c1 3) (c1 4 0) (c1 5) (c1 6 0) (w1 7) (c1 8 0) (clX3 cI cJ cZ cB (a1 0) a2 (c2 0) (c2 1) (c2 2) (c2 3) (c2 4) (c2 5 0) (c2 6 0) (c2 7 0) (c2 8 0) (c2 9 0) (clX2 cI cJ cZ cB (a0 4) a3  (clX7 cI cJ cZ cB (a3 0) a4 (c4 0) (c4 1 0) (c4 2 0) (c4 3 0) (c4 4 0) (c4 5 0) []))))) S hK hN hZ hA hW (rest := []) (t_X8_refuseAsBad l dC dI cI cJ cZ cB zz h0 a0 c0 w0 (-2 : Int32) _ _  hy39) wl_X8_53 wv_X8_refuseAsBad rfl rfl ⟨Nat.le_of_ble_eq_true rfl, Nat.le_of_ble_eq_true rfl⟩ [] (clX1 cI cJ cZ cB (a0 0) a1 (c1 1) (c1 2 0) (c1 3) (c1 4 0) (c1 5) (c1 6 0) (w1 7) (c1 8 0) (clX3 cI cJ cZ cB (a1 0) a2 (c2 0) (c2 1) (c2 2) (c2 3) (c2 4) (c2 5 0) (c2 6 0) (c2 7 0) (c2 8 0) (c2 9 0) (clX2 cI cJ cZ cB (a0 4) a3  (clX7 cI cJ cZ cB (a3 0) a4 (c4 0) (c4 1 0) (c4 2 0) (c4 3 0) (c4 4 0) (c4 5 0) [])))) rfl rfl rfl 0 rfl rfl rfl rfl hl.1 rfl (Nat.le_of_ble_eq_true rfl) dX8_count_127 [.int r37] rfl (fun H locs hW => ?_)
                  have f40 := Option.some.inj h
                  obtain ⟨f41, f42⟩ := Prod.mk.inj f40
                  subst f41
                  subst f42
                  exact ri S hr hlocks hW dX8_count_130
abbrev rmX8_digest : Room := { frames := 4, cells := 0, slots := 0, locals := 82 }
set_option maxHeartbeats 4000000 in
set_option maxRecDepth 100000 in
theorem t_X8_digest (l : Launch) (dC : Nat → ClassId) (dI : Nat → Nat → Nat) (cI cJ cZ cB : ClassId) (zz : ZT)  (h0 : Nat) (a0 : Nat → Nat) (a1 : Nat → Nat) (a2 : Nat → Nat) (a3 : Nat → Nat) (a4 : Nat → Nat) (F : Nat) (c0 : Nat → Nat → Int32) (w0 : Nat → Nat → Int64) (c1 : Nat → Nat → Int32) (w1 : Nat → Nat → Int64) (c2 : Nat → Nat → Int32) (c4 : Nat → Nat → Int32) (r : Int64) (c0' : Nat → Nat → Int32) (hm : md_X8_digest F c0 w0 c1 w1 c2 c4 = some (r, c0')) : ct l (dC, dI) zz (ty4 cI cJ cZ cB) yX8_digest cX8_digest 4 (some .long) rmX8_digest [.ref h0] (cwX8 cI cJ cZ cB h0 a0 c0 w0 (cwX1 cI cJ cZ cB (a0 0) a1 c1 w1 (cwX3 cI cJ cZ cB (a1 0) a2 c2 (cwX2 cI cJ cZ cB (a0 4) a3  (cwX7 cI cJ cZ cB (a3 0) a4 c4 []))))) (cwX8 cI cJ cZ cB h0 a0 c0' w0 (cwX1 cI cJ cZ cB (a0 0) a1 c1 w1 (cwX3 cI cJ cZ cB (a1 0) a2 c2 (cwX2 cI cJ cZ cB (a0 4) a3  (cwX7 cI cJ cZ cB (a3 0) a4 c4 []))))) (some (.long r)) := by
  refine ct_of (cc := cX8_digest) (maxL := 4) (ret := (some .long)) (by decide) (Nat.le_of_ble_eq_true rfl) ?_
  intro p e s m below meth c A S hr hlocks hK hN hZ hA H locs hW ls hl
  have S : CallFix p m c cX8_digest 4 s (List.toArray [.ref h0]) G RX8 := S
  have hl : lv_has ls 4 [(0, .ref h0)] := hl
  have h := hm
  rw [md_X8_digest] at h
  have hW : wd (dC, dI) A s.heap (clX8 cI cJ cZ cB h0 a0 (c0 2) (c0 5) (w0 6 0) (w0 7 0) (clX1 cI cJ cZ cB (a0 0) a1 (c1 1) (c1 2 0) (c1 3) (c1 4 0) (c1 5) (c1 6 0) (w1 7) (c1 8 0) (clX3 cI cJ cZ cB (a1 0) a2 (c2 0) (c2 1) (c2 2) (c2 3) (c2 4) (c2 5 0) (c2 6 0) (c2 7 0) (c2 8 0) (c2 9 0) (clX2 cI cJ cZ cB (a0 4) a3  (clX7 cI cJ cZ cB (a3 0) a4 (c4 0) (c4 1 0) (c4 2 0) (c4 3 0) (c4 4 0) (c4 5 0) []))))) H locs := hW
  have hL33 : ∀ (n33 : Nat) (c0 : Nat → Nat → Int32) (x1 : Int64) (x3 : Int32), ld_X8_digest_33 F w0 c1 w1 c2 c4 n33 c0 x1 x3 = some (r, c0') → ∀ (H : Heap) (locs : List Loc), wd (dC, dI) A s.heap (clX8 cI cJ cZ cB h0 a0 (c0 2) (c0 5) (w0 6 0) (w0 7 0) (clX1 cI cJ cZ cB (a0 0) a1 (c1 1) (c1 2 0) (c1 3) (c1 4 0) (c1 5) (c1 6 0) (w1 7) (c1 8 0) (clX3 cI cJ cZ cB (a1 0) a2 (c2 0) (c2 1) (c2 2) (c2 3) (c2 4) (c2 5 0) (c2 6 0) (c2 7 0) (c2 8 0) (c2 9 0) (clX2 cI cJ cZ cB (a0 4) a3  (clX7 cI cJ cZ cB (a3 0) a4 (c4 0) (c4 1 0) (c4 2 0) (c4 3 0) (c4 4 0) (c4 5 0) []))))) H locs → ∀ ls : Array Slot, lv_has ls 4 [(0, .ref h0), (1, .long x1), (3, .int x3)] → W p l e rmX8_digest s m (List.toArray [.ref h0]) below meth c H locs 0 0 (MQ below (kQ (dC, dI) (cwX8 cI cJ cZ cB h0 a0 c0' w0 (cwX1 cI cJ cZ cB (a0 0) a1 c1 w1 (cwX3 cI cJ cZ cB (a1 0) a2 c2 (cwX2 cI cJ cZ cB (a0 4) a3  (cwX7 cI cJ cZ cB (a3 0) a4 c4 []))))) (some (.long r)) A) (List.toArray [.ref h0]) s 0 0 A) (F0 m 33 ls []) := by
    intro n33
    induction n33 with
    | zero => intro c0 x1 x3 h; rw [ld_X8_digest_33] at h; cases h
    | succ n33 ih33 =>
      intro c0 x1 x3 h H locs hW ls hl
      rw [ld_X8_digest_33] at h
      refine lv_iload_n S.1 S.2.1 dX8_digest_33 rfl (lv_at hl 2 rfl) ?_
      refine lv_iconst (v := (4 : Int32)) S.1 S.2.1 dX8_digest_34 ki_4 ?_
      refine lv_icmp_gt (tgt := 57) S.1 S.2.1 dX8_digest_35 (by decide) (fun u1 => ?_) (fun u1 => ?_)
      · have h := of_p u1 h
        refine lv_aload_n S.1 S.2.1 dX8_digest_57 rfl (lv_at hl 0 rfl) ?_
        refine gf (C := RX8) (T := TX8) (N := 8) (ci := 4) (k := 0) S hK hW wu_X8 rfl (by decide) wf_X8_10 0 rfl rfl dX8_digest_58 ?_
        refine gf (C := RX1) (T := TX1) (N := 9) (ci := 0) (k := 0) S hK hW wu_X1 rfl (by decide) wf_X8_57 4 rfl rfl dX8_digest_61 ?_
        refine lv_lload_n S.1 S.2.1 dX8_digest_64 rfl (lv_at hl 1 rfl) ?_
        obtain ⟨r2, hy3, h⟩ := bd1_e h
        refine kv0 S hK hN hZ hA hW (rest := []) (t_X3_digestOn l dC dI cI cJ cZ cB zz (a1 0) a2 F c2 x1 _  hy3) wl_X8_293 wv_X3_digestOn rfl rfl ⟨Nat.le_of_ble_eq_true rfl, Nat.le_of_ble_eq_true rfl⟩ (clX8 cI cJ cZ cB h0 a0 (c0 2) (c0 5) (w0 6 0) (w0 7 0) (clX1 cI cJ cZ cB (a0 0) a1 (c1 1) (c1 2 0) (c1 3) (c1 4 0) (c1 5) (c1 6 0) (w1 7) (c1 8 0) [])) (clX2 cI cJ cZ cB (a0 4) a3  (clX7 cI cJ cZ cB (a3 0) a4 (c4 0) (c4 1 0) (c4 2 0) (c4 3 0) (c4 4 0) (c4 5 0) [])) rfl 9 rfl rfl rfl rfl hl.1 rfl (Nat.le_of_ble_eq_true rfl) dX8_digest_65 [.long r2] rfl (fun H locs hW => ?_)
        refine lv_lstore_n (lv' := [(1, .long r2), (0, .ref h0), (3, .int x3)]) S.1 S.2.1 dX8_digest_68 rfl hl (by decide) rfl (fun ls hl => ?_)
        refine lv_aload_n S.1 S.2.1 dX8_digest_69 rfl (lv_at hl 1 rfl) ?_
        refine gf (C := RX8) (T := TX8) (N := 8) (ci := 4) (k := 0) S hK hW wu_X8 rfl (by decide) wf_X8_10 0 rfl rfl dX8_digest_70 ?_
        refine lv_lload_n S.1 S.2.1 dX8_digest_73 rfl (lv_at hl 0 rfl) ?_
        obtain ⟨r4, hy5, h⟩ := bd1_e h
        refine kv0 S hK hN hZ hA hW (rest := []) (t_X1_digestOn l dC dI cI cJ cZ cB zz (a0 0) a1 F c1 w1 r2 _  hy5) wl_X8_297 wv_X1_digestOn rfl rfl ⟨Nat.le_of_ble_eq_true rfl, Nat.le_of_ble_eq_true rfl⟩ (clX8 cI cJ cZ cB h0 a0 (c0 2) (c0 5) (w0 6 0) (w0 7 0) []) (clX3 cI cJ cZ cB (a1 0) a2 (c2 0) (c2 1) (c2 2) (c2 3) (c2 4) (c2 5 0) (c2 6 0) (c2 7 0) (c2 8 0) (c2 9 0) (clX2 cI cJ cZ cB (a0 4) a3  (clX7 cI cJ cZ cB (a3 0) a4 (c4 0) (c4 1 0) (c4 2 0) (c4 3 0) (c4 4 0) (c4 5 0) []))) rfl 4 rfl rfl rfl rfl hl.1 rfl (Nat.le_of_ble_eq_true rfl) dX8_digest_74 [.long r4] rfl (fun H locs hW => ?_)
        refine lv_lstore_n (lv' := [(1, .long r4), (0, .ref h0), (3, .int x3)]) S.1 S.2.1 dX8_digest_77 rfl hl (by decide) rfl (fun ls hl => ?_)
        refine lv_ldc2 (v := (31 : Int64)) S.1 S.2.1 S.2.2.2.1 (S.2.2.2.2 _ wk_X8_285) dX8_digest_78 ?_
        refine lv_lload_n S.1 S.2.1 dX8_digest_81 rfl (lv_at hl 0 rfl) ?_
        refine lv_lmul S.1 S.2.1 dX8_digest_82 ?_
        refine lv_aload_n S.1 S.2.1 dX8_digest_83 rfl (lv_at hl 1 rfl) ?_
        refine gf (C := RX8) (T := TX8) (N := 8) (ci := 4) (k := 6) S hK hW wu_X8 rfl (by decide) wf_X8_42 0 rfl rfl dX8_digest_84 ?_
        refine lv_ladd S.1 S.2.1 dX8_digest_87 ?_
        obtain ⟨y6, e7, h⟩ := lt1_e h
        refine nml e7 ?_
        refine lv_lstore_n (lv' := [(1, .long y6), (0, .ref h0), (3, .int x3)]) S.1 S.2.1 dX8_digest_88 rfl hl (by decide) rfl (fun ls hl => ?_)
        refine lv_ldc2 (v := (31 : Int64)) S.1 S.2.1 S.2.2.2.1 (S.2.2.2.2 _ wk_X8_285) dX8_digest_89 ?_
        refine lv_lload_n S.1 S.2.1 dX8_digest_92 rfl (lv_at hl 0 rfl) ?_
        refine lv_lmul S.1 S.2.1 dX8_digest_93 ?_
        refine lv_aload_n S.1 S.2.1 dX8_digest_94 rfl (lv_at hl 1 rfl) ?_
        refine gf (C := RX8) (T := TX8) (N := 8) (ci := 4) (k := 7) S hK hW wu_X8 rfl (by decide) wf_X8_46 0 rfl rfl dX8_digest_95 ?_
        refine lv_ladd S.1 S.2.1 dX8_digest_98 ?_
        have f8 := Option.some.inj h
        obtain ⟨f9, f10⟩ := Prod.mk.inj f8
        subst f9
        subst f10
        exact rl S hr hlocks hW dX8_digest_99
      · have h := of_n u1 h
        refine lv_ldc2 (v := (31 : Int64)) S.1 S.2.1 S.2.2.2.1 (S.2.2.2.2 _ wk_X8_285) dX8_digest_38 ?_
        refine lv_lload_n S.1 S.2.1 dX8_digest_41 rfl (lv_at hl 1 rfl) ?_
        refine lv_lmul S.1 S.2.1 dX8_digest_42 ?_
        refine lv_aload_n S.1 S.2.1 dX8_digest_43 rfl (lv_at hl 0 rfl) ?_
        refine lv_iload_n S.1 S.2.1 dX8_digest_44 rfl (lv_at hl 2 rfl) ?_
        obtain ⟨r11, cv12, hy13, h⟩ := bd2_e h
        refine kv (clX8 cI cJ cZ cB h0 a0 (cv12 2) (cv12 5) (w0 6 0) (w0 7 0) (clX1 cI cJ cZ cB (a0 0) a1 (c1 1) (c1 2 0) (c1 3) (c1 4 0) (c1 5) (c1 6 0) (w1 7) (c1 8 0) (clX3 cI cJ cZ cB (a1 0) a2 (c2 0) (c2 1) (c2 2) (c2 3) (c2 4) (c2 5 0) (c2 6 0) (c2 7 0) (c2 8 0) (c2 9 0) (clX2 cI cJ cZ cB (a0 4) a3  (clX7 cI cJ cZ cB (a3 0) a4 (c4 0) (c4 1 0) (c4 2 0) (c4 3 0) (c4 4 0) (c4 5 0) []))))) S hK hN hZ hA hW (rest := [.long ((31 : Int64) * x1)]) (t_X8_now l dC dI cI cJ cZ cB zz h0 a0 a1 a2 c0 w0 c1 w1 c2 x3 _ _  hy13) wl_X8_290 wv_X8_now rfl rfl ⟨Nat.le_of_ble_eq_true rfl, Nat.le_of_ble_eq_true rfl⟩ [] (clX2 cI cJ cZ cB (a0 4) a3  (clX7 cI cJ cZ cB (a3 0) a4 (c4 0) (c4 1 0) (c4 2 0) (c4 3 0) (c4 4 0) (c4 5 0) [])) rfl rfl rfl 0 rfl rfl rfl rfl hl.1 rfl (Nat.le_of_ble_eq_true rfl) dX8_digest_45 [.int r11, .long ((31 : Int64) * x1)] rfl (fun H locs hW => ?_)
        refine lv_i2l S.1 S.2.1 dX8_digest_48 rfl ?_
        refine lv_ladd S.1 S.2.1 dX8_digest_49 ?_
        obtain ⟨y14, e15, h⟩ := lt1_e h
        refine nml e15 ?_
        refine lv_lstore_n (lv' := [(1, .long y14), (0, .ref h0), (3, .int x3)]) S.1 S.2.1 dX8_digest_50 rfl hl (by decide) rfl (fun ls hl => ?_)
        refine lv_iinc (v := (x3 + (1 : Int32))) (lv' := [(3, .int (x3 + (1 : Int32))), (1, .long y14), (0, .ref h0)]) S.1 S.2.1 dX8_digest_51 hl (k := 2) rfl (congrArg (fun z => x3 + z) ki_1) (by decide) rfl (fun ls hl => ?_)
        refine lv_goto (tgt := 33) S.1 S.2.1 dX8_digest_54 (by decide) ?_
        exact ih33 _ _ _ h H locs hW ls (lv_sub hl [2, 1, 0] rfl)
  have hL6 : ∀ (n6 : Nat) (c0 : Nat → Nat → Int32) (x1 : Int64) (x3 : Int32), ld_X8_digest_6 F w0 c1 w1 c2 c4 n6 c0 x1 x3 = some (r, c0') → ∀ (H : Heap) (locs : List Loc), wd (dC, dI) A s.heap (clX8 cI cJ cZ cB h0 a0 (c0 2) (c0 5) (w0 6 0) (w0 7 0) (clX1 cI cJ cZ cB (a0 0) a1 (c1 1) (c1 2 0) (c1 3) (c1 4 0) (c1 5) (c1 6 0) (w1 7) (c1 8 0) (clX3 cI cJ cZ cB (a1 0) a2 (c2 0) (c2 1) (c2 2) (c2 3) (c2 4) (c2 5 0) (c2 6 0) (c2 7 0) (c2 8 0) (c2 9 0) (clX2 cI cJ cZ cB (a0 4) a3  (clX7 cI cJ cZ cB (a3 0) a4 (c4 0) (c4 1 0) (c4 2 0) (c4 3 0) (c4 4 0) (c4 5 0) []))))) H locs → ∀ ls : Array Slot, lv_has ls 4 [(0, .ref h0), (1, .long x1), (3, .int x3)] → W p l e rmX8_digest s m (List.toArray [.ref h0]) below meth c H locs 0 0 (MQ below (kQ (dC, dI) (cwX8 cI cJ cZ cB h0 a0 c0' w0 (cwX1 cI cJ cZ cB (a0 0) a1 c1 w1 (cwX3 cI cJ cZ cB (a1 0) a2 c2 (cwX2 cI cJ cZ cB (a0 4) a3  (cwX7 cI cJ cZ cB (a3 0) a4 c4 []))))) (some (.long r)) A) (List.toArray [.ref h0]) s 0 0 A) (F0 m 6 ls []) := by
    intro n6
    induction n6 with
    | zero => intro c0 x1 x3 h; rw [ld_X8_digest_6] at h; cases h
    | succ n6 ih6 =>
      intro c0 x1 x3 h H locs hW ls hl
      rw [ld_X8_digest_6] at h
      refine lv_iload_n S.1 S.2.1 dX8_digest_6 rfl (lv_at hl 2 rfl) ?_
      refine lv_bipush (v := (7 : Int32)) S.1 S.2.1 dX8_digest_7 kb_7 ?_
      refine lv_icmp_gt (tgt := 31) S.1 S.2.1 dX8_digest_9 (by decide) (fun u16 => ?_) (fun u16 => ?_)
      · have h := of_p u16 h
        refine lv_iconst (v := (0 : Int32)) S.1 S.2.1 dX8_digest_31 ki_0 ?_
        refine lv_istore_n (lv' := [(3, .int (0 : Int32)), (0, .ref h0), (1, .long x1)]) S.1 S.2.1 dX8_digest_32 rfl hl (by decide) rfl (fun ls hl => ?_)
        exact hL33 F _ _ _ h H locs hW ls (lv_sub hl [1, 2, 0] rfl)
      · have h := of_n u16 h
        refine lv_ldc2 (v := (31 : Int64)) S.1 S.2.1 S.2.2.2.1 (S.2.2.2.2 _ wk_X8_285) dX8_digest_12 ?_
        refine lv_lload_n S.1 S.2.1 dX8_digest_15 rfl (lv_at hl 1 rfl) ?_
        refine lv_lmul S.1 S.2.1 dX8_digest_16 ?_
        refine lv_aload_n S.1 S.2.1 dX8_digest_17 rfl (lv_at hl 0 rfl) ?_
        refine lv_iload_n S.1 S.2.1 dX8_digest_18 rfl (lv_at hl 2 rfl) ?_
        obtain ⟨r17, cv18, hy19, h⟩ := bd2_e h
        refine kv (clX8 cI cJ cZ cB h0 a0 (cv18 2) (cv18 5) (w0 6 0) (w0 7 0) (clX1 cI cJ cZ cB (a0 0) a1 (c1 1) (c1 2 0) (c1 3) (c1 4 0) (c1 5) (c1 6 0) (w1 7) (c1 8 0) (clX3 cI cJ cZ cB (a1 0) a2 (c2 0) (c2 1) (c2 2) (c2 3) (c2 4) (c2 5 0) (c2 6 0) (c2 7 0) (c2 8 0) (c2 9 0) (clX2 cI cJ cZ cB (a0 4) a3  (clX7 cI cJ cZ cB (a3 0) a4 (c4 0) (c4 1 0) (c4 2 0) (c4 3 0) (c4 4 0) (c4 5 0) []))))) S hK hN hZ hA hW (rest := [.long ((31 : Int64) * x1)]) (t_X8_count l dC dI cI cJ cZ cB zz h0 a0 a1 a2 a3 a4 F c0 w0 c1 w1 c2 c4 x3 _ _  hy19) wl_X8_287 wv_X8_count rfl rfl ⟨Nat.le_of_ble_eq_true rfl, Nat.le_of_ble_eq_true rfl⟩ [] [] rfl rfl rfl 0 rfl rfl rfl rfl hl.1 rfl (Nat.le_of_ble_eq_true rfl) dX8_digest_19 [.int r17, .long ((31 : Int64) * x1)] rfl (fun H locs hW => ?_)
        refine lv_i2l S.1 S.2.1 dX8_digest_22 rfl ?_
        refine lv_ladd S.1 S.2.1 dX8_digest_23 ?_
        obtain ⟨y20, e21, h⟩ := lt1_e h
        refine nml e21 ?_
        refine lv_lstore_n (lv' := [(1, .long y20), (0, .ref h0), (3, .int x3)]) S.1 S.2.1 dX8_digest_24 rfl hl (by decide) rfl (fun ls hl => ?_)
        refine lv_iinc (v := (x3 + (1 : Int32))) (lv' := [(3, .int (x3 + (1 : Int32))), (1, .long y20), (0, .ref h0)]) S.1 S.2.1 dX8_digest_25 hl (k := 2) rfl (congrArg (fun z => x3 + z) ki_1) (by decide) rfl (fun ls hl => ?_)
        refine lv_goto (tgt := 6) S.1 S.2.1 dX8_digest_28 (by decide) ?_
        exact ih6 _ _ _ h H locs hW ls (lv_sub hl [2, 1, 0] rfl)
  refine lv_ldc2 (v := (1597 : Int64)) S.1 S.2.1 S.2.2.2.1 (S.2.2.2.2 _ wk_X8_283) dX8_digest_0 ?_
  refine lv_lstore_n (lv' := [(1, .long (1597 : Int64)), (0, .ref h0)]) S.1 S.2.1 dX8_digest_3 rfl hl (by decide) rfl (fun ls hl => ?_)
  refine lv_iconst (v := (0 : Int32)) S.1 S.2.1 dX8_digest_4 ki_0 ?_
  refine lv_istore_n (lv' := [(3, .int (0 : Int32)), (1, .long (1597 : Int64)), (0, .ref h0)]) S.1 S.2.1 dX8_digest_5 rfl hl (by decide) rfl (fun ls hl => ?_)
  exact hL6 F _ _ _ h H locs hW ls (lv_sub hl [2, 1, 0] rfl)
