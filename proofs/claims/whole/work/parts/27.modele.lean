abbrev rmX9_takes : Room := { frames := 4, cells := 0, slots := 0, locals := 89 }
set_option maxHeartbeats 4000000 in
set_option maxRecDepth 100000 in
theorem t_X9_takes (l : Launch) (dC : Nat → ClassId) (dI : Nat → Nat → Nat) (cI cJ cZ cB : ClassId) (zz : ZT)  (h0 : Nat) (a0 : Nat → Nat) (F : Nat) (c0 : Nat → Nat → Int32) (w0 : Nat → Nat → Int64) (p1 : Int32) (p2 : Int32) (p3 : Int32) (r : Int32) (c0' : Nat → Nat → Int32) (hm : md_X9_takes F c0 w0 p1 p2 p3 = some (r, c0')) : ct l (dC, dI) zz (ty4 cI cJ cZ cB) yX9_takes cX9_takes 4 (some .boolean) rmX9_takes [.ref h0, .int p1, .int p2, .int p3] (cwX9 cI cJ cZ cB h0 a0 c0 w0 []) (cwX9 cI cJ cZ cB h0 a0 c0' w0 []) (some (.int r)) := by
  refine ct_of (cc := cX9_takes) (maxL := 4) (ret := (some .boolean)) (by decide) (Nat.le_of_ble_eq_true rfl) ?_
  intro p e s m below meth c A S hr hlocks hK hN hZ hA H locs hW ls hl
  have S : CallFix p m c cX9_takes 4 s (List.toArray [.ref h0, .int p1, .int p2, .int p3]) G RX9 := S
  have hl : lv_has ls 4 [(0, .ref h0), (1, .int p1), (2, .int p2), (3, .int p3)] := hl
  have h := hm
  rw [md_X9_takes] at h
  have hW : wd (dC, dI) A s.heap (clX9 cI cJ cZ cB h0 a0 (c0 0) (c0 1) (c0 2) (c0 3) (w0 4 0) (w0 5 0) (c0 6) (c0 7) (c0 8) (c0 9) (c0 10) (c0 11) (c0 12) (c0 13) (c0 14 0) (c0 15 0) (c0 16 0) (c0 17 0) (c0 18) (c0 19) (c0 20) (c0 21 0) (c0 22 0) (c0 23 0) (c0 24 0) (c0 25 0) (c0 26) (c0 27) []) H locs := hW
  refine lv_aload_n S.1 S.2.1 dX9_takes_0 rfl (lv_at hl 0 rfl) ?_
  refine gf (C := RX9) (T := TX9) (N := 28) (ci := 5) (k := 24) S hK hW wu_X9 rfl (by decide) wf_X9_284 0 rfl rfl dX9_takes_1 ?_
  refine lv_iconst (v := (2 : Int32)) S.1 S.2.1 dX9_takes_4 ki_2 ?_
  refine lv_icmp_ne (tgt := 23) S.1 S.2.1 dX9_takes_5 (by decide) (fun u1 => ?_) (fun u1 => ?_)
  · have h := of_n u1 h
    refine lv_iconst (v := (0 : Int32)) S.1 S.2.1 dX9_takes_23 ki_0 ?_
    have f2 := Option.some.inj h
    obtain ⟨f3, f4⟩ := Prod.mk.inj f2
    subst f3
    subst f4
    exact rz S hr hlocks hW (nz (Or.inl rfl)) dX9_takes_24
  · have h := of_p u1 h
    refine lv_aload_n S.1 S.2.1 dX9_takes_8 rfl (lv_at hl 0 rfl) ?_
    refine gf (C := RX9) (T := TX9) (N := 28) (ci := 5) (k := 25) S hK hW wu_X9 rfl (by decide) wf_X9_287 0 rfl rfl dX9_takes_9 ?_
    refine lv_i2l S.1 S.2.1 dX9_takes_12 rfl ?_
    refine lv_iload_n S.1 S.2.1 dX9_takes_13 rfl (lv_at hl 2 rfl) ?_
    refine lv_i2l S.1 S.2.1 dX9_takes_14 rfl ?_
    refine lv_iload_n S.1 S.2.1 dX9_takes_15 rfl (lv_at hl 3 rfl) ?_
    refine lv_i2l S.1 S.2.1 dX9_takes_16 rfl ?_
    obtain ⟨r5, hy6, h⟩ := bd1_e h
    refine ks0 S hK hN hZ hA hW (rest := []) (t_X9_in l dC dI cI cJ cZ cB zz (c0 25 0).toInt64 p2.toInt64 p3.toInt64 _  hy6) wl_X9_74 wv_X9_in rfl rfl ⟨Nat.le_of_ble_eq_true rfl, Nat.le_of_ble_eq_true rfl⟩ [] (clX9 cI cJ cZ cB h0 a0 (c0 0) (c0 1) (c0 2) (c0 3) (w0 4 0) (w0 5 0) (c0 6) (c0 7) (c0 8) (c0 9) (c0 10) (c0 11) (c0 12) (c0 13) (c0 14 0) (c0 15 0) (c0 16 0) (c0 17 0) (c0 18) (c0 19) (c0 20) (c0 21 0) (c0 22 0) (c0 23 0) (c0 24 0) (c0 25 0) (c0 26) (c0 27) []) rfl rfl hl.1 rfl (Nat.le_of_ble_eq_true rfl) dX9_takes_17 [.int r5] rfl (fun H locs hW => ?_)
    refine lv_if_ne (tgt := 25) S.1 S.2.1 dX9_takes_20 (by decide) (fun u7 => ?_) (fun u7 => ?_)
    · have h := of_n u7 h
      refine lv_aload_n S.1 S.2.1 dX9_takes_25 rfl (lv_at hl 0 rfl) ?_
      refine gf (C := RX9) (T := TX9) (N := 28) (ci := 5) (k := 27) S hK hW wu_X9 rfl (by decide) wf_X9_63 0 rfl rfl dX9_takes_26 ?_
      refine lv_iload_n S.1 S.2.1 dX9_takes_29 rfl (lv_at hl 1 rfl) ?_
      refine lv_aload_n S.1 S.2.1 dX9_takes_30 rfl (lv_at hl 0 rfl) ?_
      refine gf (C := RX9) (T := TX9) (N := 28) (ci := 5) (k := 25) S hK hW wu_X9 rfl (by decide) wf_X9_287 0 rfl rfl dX9_takes_31 ?_
      obtain ⟨z8, h⟩ := of_g h
      refine ist S hK hW rfl 17 rfl z8 dX9_takes_34 (fun H locs hW => ?_)
      have hW : wd (dC, dI) A s.heap (clX9 cI cJ cZ cB h0 a0 (c0 0) (c0 1) (c0 2) (c0 3) (w0 4 0) (w0 5 0) (c0 6) (c0 7) (c0 8) (c0 9) (c0 10) (c0 11) (c0 12) (c0 13) (c0 14 0) (c0 15 0) (c0 16 0) (c0 17 0) (c0 18) (c0 19) (c0 20) (c0 21 0) (c0 22 0) (c0 23 0) (c0 24 0) (c0 25 0) (c0 26) (upd (c0 27) (ix p1) (c0 25 0)) []) H locs := hW
      refine lv_aload_n S.1 S.2.1 dX9_takes_35 rfl (lv_at hl 0 rfl) ?_
      obtain ⟨cv9, hy10, h⟩ := bd1_e h
      refine kv (clX9 cI cJ cZ cB h0 a0 (cv9 0) (cv9 1) (cv9 2) (cv9 3) (w0 4 0) (w0 5 0) (cv9 6) (cv9 7) (cv9 8) (cv9 9) (cv9 10) (cv9 11) (cv9 12) (cv9 13) (cv9 14 0) (cv9 15 0) (cv9 16 0) (cv9 17 0) (cv9 18) (cv9 19) (cv9 20) (cv9 21 0) (cv9 22 0) (cv9 23 0) (cv9 24 0) (cv9 25 0) (cv9 26) (cv9 27) []) S hK hN hZ hA hW (rest := []) (t_X9_goBehind l dC dI cI cJ cZ cB zz h0 a0 F (rs c0 27 (upd (c0 27) (ix p1) (c0 25 0))) w0 _  hy10) wl_X9_299 wv_X9_goBehind rfl rfl ⟨Nat.le_of_ble_eq_true rfl, Nat.le_of_ble_eq_true rfl⟩ [] [] rfl rfl rfl 0 rfl rfl rfl rfl hl.1 rfl (Nat.le_of_ble_eq_true rfl) dX9_takes_36 [] rfl (fun H locs hW => ?_)
      refine lv_iconst (v := (1 : Int32)) S.1 S.2.1 dX9_takes_39 ki_1 ?_
      have f11 := Option.some.inj h
      obtain ⟨f12, f13⟩ := Prod.mk.inj f11
      subst f12
      subst f13
      exact rz S hr hlocks hW (nz (Or.inr rfl)) dX9_takes_40
    · have h := of_p u7 h
      refine lv_iconst (v := (0 : Int32)) S.1 S.2.1 dX9_takes_23 ki_0 ?_
      have f14 := Option.some.inj h
      obtain ⟨f15, f16⟩ := Prod.mk.inj f14
      subst f15
      subst f16
      exact rz S hr hlocks hW (nz (Or.inl rfl)) dX9_takes_24
abbrev rmX9_takesBows : Room := { frames := 5, cells := 0, slots := 0, locals := 112 }
set_option maxHeartbeats 4000000 in
set_option maxRecDepth 100000 in
theorem t_X9_takesBows (l : Launch) (dC : Nat → ClassId) (dI : Nat → Nat → Nat) (cI cJ cZ cB : ClassId) (zz : ZT)  (h0 : Nat) (a0 : Nat → Nat) (F : Nat) (c0 : Nat → Nat → Int32) (w0 : Nat → Nat → Int64) (r : Int32) (c0' : Nat → Nat → Int32) (hm : md_X9_takesBows F c0 w0 = some (r, c0')) : ct l (dC, dI) zz (ty4 cI cJ cZ cB) yX9_takesBows cX9_takesBows 1 (some .boolean) rmX9_takesBows [.ref h0] (cwX9 cI cJ cZ cB h0 a0 c0 w0 []) (cwX9 cI cJ cZ cB h0 a0 c0' w0 []) (some (.int r)) := by
  refine ct_of (cc := cX9_takesBows) (maxL := 1) (ret := (some .boolean)) (by decide) (Nat.le_of_ble_eq_true rfl) ?_
  intro p e s m below meth c A S hr hlocks hK hN hZ hA H locs hW ls hl
  have S : CallFix p m c cX9_takesBows 1 s (List.toArray [.ref h0]) G RX9 := S
  have hl : lv_has ls 1 [(0, .ref h0)] := hl
  have h := hm
  rw [md_X9_takesBows] at h
  have hW : wd (dC, dI) A s.heap (clX9 cI cJ cZ cB h0 a0 (c0 0) (c0 1) (c0 2) (c0 3) (w0 4 0) (w0 5 0) (c0 6) (c0 7) (c0 8) (c0 9) (c0 10) (c0 11) (c0 12) (c0 13) (c0 14 0) (c0 15 0) (c0 16 0) (c0 17 0) (c0 18) (c0 19) (c0 20) (c0 21 0) (c0 22 0) (c0 23 0) (c0 24 0) (c0 25 0) (c0 26) (c0 27) []) H locs := hW
  refine lv_aload_n S.1 S.2.1 dX9_takesBows_0 rfl (lv_at hl 0 rfl) ?_
  obtain ⟨cv1, hy2, h⟩ := bd1_e h
  refine kv (clX9 cI cJ cZ cB h0 a0 (cv1 0) (cv1 1) (cv1 2) (cv1 3) (w0 4 0) (w0 5 0) (cv1 6) (cv1 7) (cv1 8) (cv1 9) (cv1 10) (cv1 11) (cv1 12) (cv1 13) (cv1 14 0) (cv1 15 0) (cv1 16 0) (cv1 17 0) (cv1 18) (cv1 19) (cv1 20) (cv1 21 0) (cv1 22 0) (cv1 23 0) (cv1 24 0) (cv1 25 0) (cv1 26) (cv1 27) []) S hK hN hZ hA hW (rest := []) (t_X9_goBehind l dC dI cI cJ cZ cB zz h0 a0 F c0 w0 _  hy2) wl_X9_299 wv_X9_goBehind rfl rfl ⟨Nat.le_of_ble_eq_true rfl, Nat.le_of_ble_eq_true rfl⟩ [] [] rfl rfl rfl 0 rfl rfl rfl rfl hl.1 rfl (Nat.le_of_ble_eq_true rfl) dX9_takesBows_1 [] rfl (fun H locs hW => ?_)
  refine lv_aload_n S.1 S.2.1 dX9_takesBows_4 rfl (lv_at hl 0 rfl) ?_
  refine lv_iconst (v := (0 : Int32)) S.1 S.2.1 dX9_takesBows_5 ki_0 ?_
  refine lv_iconst (v := (0 : Int32)) S.1 S.2.1 dX9_takesBows_6 ki_0 ?_
  refine lv_iconst (v := (1 : Int32)) S.1 S.2.1 dX9_takesBows_7 ki_1 ?_
  obtain ⟨r3, cv4, hy5, h⟩ := bd2_e h
  refine kv (clX9 cI cJ cZ cB h0 a0 (cv4 0) (cv4 1) (cv4 2) (cv4 3) (w0 4 0) (w0 5 0) (cv4 6) (cv4 7) (cv4 8) (cv4 9) (cv4 10) (cv4 11) (cv4 12) (cv4 13) (cv4 14 0) (cv4 15 0) (cv4 16 0) (cv4 17 0) (cv4 18) (cv4 19) (cv4 20) (cv4 21 0) (cv4 22 0) (cv4 23 0) (cv4 24 0) (cv4 25 0) (cv4 26) (cv4 27) []) S hK hN hZ hA hW (rest := []) (t_X9_takes l dC dI cI cJ cZ cB zz h0 a0 F cv1 w0 (0 : Int32) (0 : Int32) (1 : Int32) _ _  hy5) wl_X9_302 wv_X9_takes rfl rfl ⟨Nat.le_of_ble_eq_true rfl, Nat.le_of_ble_eq_true rfl⟩ [] [] rfl rfl rfl 0 rfl rfl rfl rfl hl.1 rfl (Nat.le_of_ble_eq_true rfl) dX9_takesBows_8 [.int r3] rfl (fun H locs hW => ?_)
  refine lv_if_eq (tgt := 24) S.1 S.2.1 dX9_takesBows_11 (by decide) (fun u6 => ?_) (fun u6 => ?_)
  · have h := of_p u6 h
    refine lv_iconst (v := (0 : Int32)) S.1 S.2.1 dX9_takesBows_24 ki_0 ?_
    have f7 := Option.some.inj h
    obtain ⟨f8, f9⟩ := Prod.mk.inj f7
    subst f8
    subst f9
    exact rz S hr hlocks hW (nz (Or.inl rfl)) dX9_takesBows_25
  · have h := of_n u6 h
    refine lv_aload_n S.1 S.2.1 dX9_takesBows_14 rfl (lv_at hl 0 rfl) ?_
    refine lv_iconst (v := (1 : Int32)) S.1 S.2.1 dX9_takesBows_15 ki_1 ?_
    refine lv_iconst (v := (0 : Int32)) S.1 S.2.1 dX9_takesBows_16 ki_0 ?_
    refine lv_iconst (v := (3 : Int32)) S.1 S.2.1 dX9_takesBows_17 ki_3 ?_
    obtain ⟨r10, cv11, hy12, h⟩ := bd2_e h
    refine kv (clX9 cI cJ cZ cB h0 a0 (cv11 0) (cv11 1) (cv11 2) (cv11 3) (w0 4 0) (w0 5 0) (cv11 6) (cv11 7) (cv11 8) (cv11 9) (cv11 10) (cv11 11) (cv11 12) (cv11 13) (cv11 14 0) (cv11 15 0) (cv11 16 0) (cv11 17 0) (cv11 18) (cv11 19) (cv11 20) (cv11 21 0) (cv11 22 0) (cv11 23 0) (cv11 24 0) (cv11 25 0) (cv11 26) (cv11 27) []) S hK hN hZ hA hW (rest := []) (t_X9_takes l dC dI cI cJ cZ cB zz h0 a0 F cv4 w0 (1 : Int32) (0 : Int32) (3 : Int32) _ _  hy12) wl_X9_302 wv_X9_takes rfl rfl ⟨Nat.le_of_ble_eq_true rfl, Nat.le_of_ble_eq_true rfl⟩ [] [] rfl rfl rfl 0 rfl rfl rfl rfl hl.1 rfl (Nat.le_of_ble_eq_true rfl) dX9_takesBows_18 [.int r10] rfl (fun H locs hW => ?_)
    refine lv_if_ne (tgt := 26) S.1 S.2.1 dX9_takesBows_21 (by decide) (fun u13 => ?_) (fun u13 => ?_)
    · have h := of_n u13 h
      refine lv_aload_n S.1 S.2.1 dX9_takesBows_26 rfl (lv_at hl 0 rfl) ?_
      refine gf (C := RX9) (T := TX9) (N := 28) (ci := 5) (k := 0) S hK hW wu_X9 rfl (by decide) wf_X9_7 0 rfl rfl dX9_takesBows_27 ?_
      refine lv_bipush (v := (12 : Int32)) S.1 S.2.1 dX9_takesBows_30 kb_12 ?_
      refine lv_aload_n S.1 S.2.1 dX9_takesBows_32 rfl (lv_at hl 0 rfl) ?_
      refine gf (C := RX9) (T := TX9) (N := 28) (ci := 5) (k := 27) S hK hW wu_X9 rfl (by decide) wf_X9_63 0 rfl rfl dX9_takesBows_33 ?_
      refine lv_iconst (v := (0 : Int32)) S.1 S.2.1 dX9_takesBows_36 ki_0 ?_
      refine iaK S hK hW rfl 17 rfl b_0_3 x_0 dX9_takesBows_37 ?_
      refine lv_iadd S.1 S.2.1 dX9_takesBows_38 ?_
      refine lv_aload_n S.1 S.2.1 dX9_takesBows_39 rfl (lv_at hl 0 rfl) ?_
      refine gf (C := RX9) (T := TX9) (N := 28) (ci := 5) (k := 27) S hK hW wu_X9 rfl (by decide) wf_X9_63 0 rfl rfl dX9_takesBows_40 ?_
      refine lv_iconst (v := (1 : Int32)) S.1 S.2.1 dX9_takesBows_43 ki_1 ?_
      refine iaK S hK hW rfl 17 rfl b_1_3 x_1 dX9_takesBows_44 ?_
      obtain ⟨z14, h⟩ := of_g h
      refine ist S hK hW rfl 1 rfl z14 dX9_takesBows_45 (fun H locs hW => ?_)
      have hW : wd (dC, dI) A s.heap (clX9 cI cJ cZ cB h0 a0 (upd (cv11 0) (ix ((12 : Int32) + ((cv11 27) 0))) ((cv11 27) 1)) (cv11 1) (cv11 2) (cv11 3) (w0 4 0) (w0 5 0) (cv11 6) (cv11 7) (cv11 8) (cv11 9) (cv11 10) (cv11 11) (cv11 12) (cv11 13) (cv11 14 0) (cv11 15 0) (cv11 16 0) (cv11 17 0) (cv11 18) (cv11 19) (cv11 20) (cv11 21 0) (cv11 22 0) (cv11 23 0) (cv11 24 0) (cv11 25 0) (cv11 26) (cv11 27) []) H locs := hW
      refine lv_iconst (v := (1 : Int32)) S.1 S.2.1 dX9_takesBows_46 ki_1 ?_
      have f15 := Option.some.inj h
      obtain ⟨f16, f17⟩ := Prod.mk.inj f15
      subst f16
      subst f17
      exact rz S hr hlocks hW (nz (Or.inr rfl)) dX9_takesBows_47
    · have h := of_p u13 h
      refine lv_iconst (v := (0 : Int32)) S.1 S.2.1 dX9_takesBows_24 ki_0 ?_
      have f18 := Option.some.inj h
      obtain ⟨f19, f20⟩ := Prod.mk.inj f18
      subst f19
      subst f20
      exact rz S hr hlocks hW (nz (Or.inl rfl)) dX9_takesBows_25
abbrev rmX9_takesPoint : Room := { frames := 5, cells := 0, slots := 0, locals := 112 }
set_option maxHeartbeats 4000000 in
set_option maxRecDepth 100000 in
theorem t_X9_takesPoint (l : Launch) (dC : Nat → ClassId) (dI : Nat → Nat → Nat) (cI cJ cZ cB : ClassId) (zz : ZT)  (h0 : Nat) (a0 : Nat → Nat) (F : Nat) (c0 : Nat → Nat → Int32) (w0 : Nat → Nat → Int64) (r : Int32) (c0' : Nat → Nat → Int32) (hm : md_X9_takesPoint F c0 w0 = some (r, c0')) : ct l (dC, dI) zz (ty4 cI cJ cZ cB) yX9_takesPoint cX9_takesPoint 1 (some .boolean) rmX9_takesPoint [.ref h0] (cwX9 cI cJ cZ cB h0 a0 c0 w0 []) (cwX9 cI cJ cZ cB h0 a0 c0' w0 []) (some (.int r)) := by
  refine ct_of (cc := cX9_takesPoint) (maxL := 1) (ret := (some .boolean)) (by decide) (Nat.le_of_ble_eq_true rfl) ?_
  intro p e s m below meth c A S hr hlocks hK hN hZ hA H locs hW ls hl
  have S : CallFix p m c cX9_takesPoint 1 s (List.toArray [.ref h0]) G RX9 := S
  have hl : lv_has ls 1 [(0, .ref h0)] := hl
  have h := hm
  rw [md_X9_takesPoint] at h
  have hW : wd (dC, dI) A s.heap (clX9 cI cJ cZ cB h0 a0 (c0 0) (c0 1) (c0 2) (c0 3) (w0 4 0) (w0 5 0) (c0 6) (c0 7) (c0 8) (c0 9) (c0 10) (c0 11) (c0 12) (c0 13) (c0 14 0) (c0 15 0) (c0 16 0) (c0 17 0) (c0 18) (c0 19) (c0 20) (c0 21 0) (c0 22 0) (c0 23 0) (c0 24 0) (c0 25 0) (c0 26) (c0 27) []) H locs := hW
  refine lv_aload_n S.1 S.2.1 dX9_takesPoint_0 rfl (lv_at hl 0 rfl) ?_
  obtain ⟨r1, hy2, h⟩ := bd1_e h
  refine kv0 S hK hN hZ hA hW (rest := []) (t_X9_many l dC dI cI cJ cZ cB zz h0 a0 c0 w0 _  hy2) wl_X9_70 wv_X9_many rfl rfl ⟨Nat.le_of_ble_eq_true rfl, Nat.le_of_ble_eq_true rfl⟩ [] [] rfl 0 rfl rfl rfl rfl hl.1 rfl (Nat.le_of_ble_eq_true rfl) dX9_takesPoint_1 [.int r1] rfl (fun H locs hW => ?_)
  refine lv_bipush (v := (6 : Int32)) S.1 S.2.1 dX9_takesPoint_4 kb_6 ?_
  refine lv_icmp_ne (tgt := 11) S.1 S.2.1 dX9_takesPoint_6 (by decide) (fun u3 => ?_) (fun u3 => ?_)
  · have h := of_n u3 h
    refine lv_aload_n S.1 S.2.1 dX9_takesPoint_11 rfl (lv_at hl 0 rfl) ?_
    obtain ⟨cv4, hy5, h⟩ := bd1_e h
    refine kv (clX9 cI cJ cZ cB h0 a0 (cv4 0) (cv4 1) (cv4 2) (cv4 3) (w0 4 0) (w0 5 0) (cv4 6) (cv4 7) (cv4 8) (cv4 9) (cv4 10) (cv4 11) (cv4 12) (cv4 13) (cv4 14 0) (cv4 15 0) (cv4 16 0) (cv4 17 0) (cv4 18) (cv4 19) (cv4 20) (cv4 21 0) (cv4 22 0) (cv4 23 0) (cv4 24 0) (cv4 25 0) (cv4 26) (cv4 27) []) S hK hN hZ hA hW (rest := []) (t_X9_goBehind l dC dI cI cJ cZ cB zz h0 a0 F c0 w0 _  hy5) wl_X9_299 wv_X9_goBehind rfl rfl ⟨Nat.le_of_ble_eq_true rfl, Nat.le_of_ble_eq_true rfl⟩ [] [] rfl rfl rfl 0 rfl rfl rfl rfl hl.1 rfl (Nat.le_of_ble_eq_true rfl) dX9_takesPoint_12 [] rfl (fun H locs hW => ?_)
    refine lv_aload_n S.1 S.2.1 dX9_takesPoint_15 rfl (lv_at hl 0 rfl) ?_
    refine lv_iconst (v := (0 : Int32)) S.1 S.2.1 dX9_takesPoint_16 ki_0 ?_
    refine lv_iconst (v := (0 : Int32)) S.1 S.2.1 dX9_takesPoint_17 ki_0 ?_
    refine lv_iconst (v := (5 : Int32)) S.1 S.2.1 dX9_takesPoint_18 ki_5 ?_
    obtain ⟨r6, cv7, hy8, h⟩ := bd2_e h
    refine kv (clX9 cI cJ cZ cB h0 a0 (cv7 0) (cv7 1) (cv7 2) (cv7 3) (w0 4 0) (w0 5 0) (cv7 6) (cv7 7) (cv7 8) (cv7 9) (cv7 10) (cv7 11) (cv7 12) (cv7 13) (cv7 14 0) (cv7 15 0) (cv7 16 0) (cv7 17 0) (cv7 18) (cv7 19) (cv7 20) (cv7 21 0) (cv7 22 0) (cv7 23 0) (cv7 24 0) (cv7 25 0) (cv7 26) (cv7 27) []) S hK hN hZ hA hW (rest := []) (t_X9_takes l dC dI cI cJ cZ cB zz h0 a0 F cv4 w0 (0 : Int32) (0 : Int32) (5 : Int32) _ _  hy8) wl_X9_302 wv_X9_takes rfl rfl ⟨Nat.le_of_ble_eq_true rfl, Nat.le_of_ble_eq_true rfl⟩ [] [] rfl rfl rfl 0 rfl rfl rfl rfl hl.1 rfl (Nat.le_of_ble_eq_true rfl) dX9_takesPoint_19 [.int r6] rfl (fun H locs hW => ?_)
    refine lv_if_eq (tgt := 46) S.1 S.2.1 dX9_takesPoint_22 (by decide) (fun u9 => ?_) (fun u9 => ?_)
    · have h := of_p u9 h
      refine lv_iconst (v := (0 : Int32)) S.1 S.2.1 dX9_takesPoint_46 ki_0 ?_
      have f10 := Option.some.inj h
      obtain ⟨f11, f12⟩ := Prod.mk.inj f10
      subst f11
      subst f12
      exact rz S hr hlocks hW (nz (Or.inl rfl)) dX9_takesPoint_47
    · have h := of_n u9 h
      refine lv_aload_n S.1 S.2.1 dX9_takesPoint_25 rfl (lv_at hl 0 rfl) ?_
      refine lv_iconst (v := (1 : Int32)) S.1 S.2.1 dX9_takesPoint_26 ki_1 ?_
      refine lv_iconst (v := (1 : Int32)) S.1 S.2.1 dX9_takesPoint_27 ki_1 ?_
      refine lv_bipush (v := (9 : Int32)) S.1 S.2.1 dX9_takesPoint_28 kb_9 ?_
      obtain ⟨r13, cv14, hy15, h⟩ := bd2_e h
      refine kv (clX9 cI cJ cZ cB h0 a0 (cv14 0) (cv14 1) (cv14 2) (cv14 3) (w0 4 0) (w0 5 0) (cv14 6) (cv14 7) (cv14 8) (cv14 9) (cv14 10) (cv14 11) (cv14 12) (cv14 13) (cv14 14 0) (cv14 15 0) (cv14 16 0) (cv14 17 0) (cv14 18) (cv14 19) (cv14 20) (cv14 21 0) (cv14 22 0) (cv14 23 0) (cv14 24 0) (cv14 25 0) (cv14 26) (cv14 27) []) S hK hN hZ hA hW (rest := []) (t_X9_takes l dC dI cI cJ cZ cB zz h0 a0 F cv7 w0 (1 : Int32) (1 : Int32) (9 : Int32) _ _  hy15) wl_X9_302 wv_X9_takes rfl rfl ⟨Nat.le_of_ble_eq_true rfl, Nat.le_of_ble_eq_true rfl⟩ [] [] rfl rfl rfl 0 rfl rfl rfl rfl hl.1 rfl (Nat.le_of_ble_eq_true rfl) dX9_takesPoint_30 [.int r13] rfl (fun H locs hW => ?_)
      refine lv_if_eq (tgt := 46) S.1 S.2.1 dX9_takesPoint_33 (by decide) (fun u16 => ?_) (fun u16 => ?_)
      · have h := of_p u16 h
        refine lv_iconst (v := (0 : Int32)) S.1 S.2.1 dX9_takesPoint_46 ki_0 ?_
        have f17 := Option.some.inj h
        obtain ⟨f18, f19⟩ := Prod.mk.inj f17
        subst f18
        subst f19
        exact rz S hr hlocks hW (nz (Or.inl rfl)) dX9_takesPoint_47
      · have h := of_n u16 h
        refine lv_aload_n S.1 S.2.1 dX9_takesPoint_36 rfl (lv_at hl 0 rfl) ?_
        refine lv_iconst (v := (2 : Int32)) S.1 S.2.1 dX9_takesPoint_37 ki_2 ?_
        refine lv_iconst (v := (0 : Int32)) S.1 S.2.1 dX9_takesPoint_38 ki_0 ?_
        refine lv_iconst (v := (3 : Int32)) S.1 S.2.1 dX9_takesPoint_39 ki_3 ?_
        obtain ⟨r20, cv21, hy22, h⟩ := bd2_e h
        refine kv (clX9 cI cJ cZ cB h0 a0 (cv21 0) (cv21 1) (cv21 2) (cv21 3) (w0 4 0) (w0 5 0) (cv21 6) (cv21 7) (cv21 8) (cv21 9) (cv21 10) (cv21 11) (cv21 12) (cv21 13) (cv21 14 0) (cv21 15 0) (cv21 16 0) (cv21 17 0) (cv21 18) (cv21 19) (cv21 20) (cv21 21 0) (cv21 22 0) (cv21 23 0) (cv21 24 0) (cv21 25 0) (cv21 26) (cv21 27) []) S hK hN hZ hA hW (rest := []) (t_X9_takes l dC dI cI cJ cZ cB zz h0 a0 F cv14 w0 (2 : Int32) (0 : Int32) (3 : Int32) _ _  hy22) wl_X9_302 wv_X9_takes rfl rfl ⟨Nat.le_of_ble_eq_true rfl, Nat.le_of_ble_eq_true rfl⟩ [] [] rfl rfl rfl 0 rfl rfl rfl rfl hl.1 rfl (Nat.le_of_ble_eq_true rfl) dX9_takesPoint_40 [.int r20] rfl (fun H locs hW => ?_)
        refine lv_if_ne (tgt := 48) S.1 S.2.1 dX9_takesPoint_43 (by decide) (fun u23 => ?_) (fun u23 => ?_)
        · have h := of_n u23 h
          refine lv_aload_n S.1 S.2.1 dX9_takesPoint_48 rfl (lv_at hl 0 rfl) ?_
          refine gf (C := RX9) (T := TX9) (N := 28) (ci := 5) (k := 0) S hK hW wu_X9 rfl (by decide) wf_X9_7 0 rfl rfl dX9_takesPoint_49 ?_
          refine lv_aload_n S.1 S.2.1 dX9_takesPoint_52 rfl (lv_at hl 0 rfl) ?_
          refine gf (C := RX9) (T := TX9) (N := 28) (ci := 5) (k := 27) S hK hW wu_X9 rfl (by decide) wf_X9_63 0 rfl rfl dX9_takesPoint_53 ?_
          refine lv_iconst (v := (0 : Int32)) S.1 S.2.1 dX9_takesPoint_56 ki_0 ?_
          refine iaK S hK hW rfl 17 rfl b_0_3 x_0 dX9_takesPoint_57 ?_
          refine lv_aload_n S.1 S.2.1 dX9_takesPoint_58 rfl (lv_at hl 0 rfl) ?_
          refine gf (C := RX9) (T := TX9) (N := 28) (ci := 5) (k := 27) S hK hW wu_X9 rfl (by decide) wf_X9_63 0 rfl rfl dX9_takesPoint_59 ?_
          refine lv_iconst (v := (1 : Int32)) S.1 S.2.1 dX9_takesPoint_62 ki_1 ?_
          refine iaK S hK hW rfl 17 rfl b_1_3 x_1 dX9_takesPoint_63 ?_
          refine lv_aload_n S.1 S.2.1 dX9_takesPoint_64 rfl (lv_at hl 0 rfl) ?_
          refine gf (C := RX9) (T := TX9) (N := 28) (ci := 5) (k := 27) S hK hW wu_X9 rfl (by decide) wf_X9_63 0 rfl rfl dX9_takesPoint_65 ?_
          refine lv_iconst (v := (2 : Int32)) S.1 S.2.1 dX9_takesPoint_68 ki_2 ?_
          refine iaK S hK hW rfl 17 rfl b_2_3 x_2 dX9_takesPoint_69 ?_
          obtain ⟨cv24, hy25, h⟩ := bd1_e h
          refine ks (clX9 cI cJ cZ cB h0 a0 (cv24 0) (cv21 1) (cv21 2) (cv21 3) (w0 4 0) (w0 5 0) (cv21 6) (cv21 7) (cv21 8) (cv21 9) (cv21 10) (cv21 11) (cv21 12) (cv21 13) (cv21 14 0) (cv21 15 0) (cv21 16 0) (cv21 17 0) (cv21 18) (cv21 19) (cv21 20) (cv21 21 0) (cv21 22 0) (cv21 23 0) (cv21 24 0) (cv21 25 0) (cv21 26) (cv21 27) []) S hK hN hZ hA hW (rest := []) (t_X9_layPoint l dC dI cI cJ cZ cB zz (fun _ => a0 0) (fun _ => (cv21 0)) ((cv21 27) 0) ((cv21 27) 1) ((cv21 27) 2) _  hy25) wl_X9_98 wv_X9_layPoint rfl rfl ⟨Nat.le_of_ble_eq_true rfl, Nat.le_of_ble_eq_true rfl⟩ [(h0, .inr (5, [.ref (a0 0), .ref (a0 1), .ref (a0 2), .ref (a0 3), .long (w0 4 0), .long (w0 5 0), .ref (a0 6), .ref (a0 7), .ref (a0 8), .ref (a0 9), .ref (a0 10), .ref (a0 11), .ref (a0 12), .ref (a0 13), .int (cv21 14 0), .int (cv21 15 0), .int (cv21 16 0), .int (cv21 17 0), .ref (a0 18), .ref (a0 19), .ref (a0 20), .int (cv21 21 0), .int (cv21 22 0), .int (cv21 23 0), .int (cv21 24 0), .int (cv21 25 0), .ref (a0 26), .ref (a0 27)]))] [(a0 1, .inl (cI, 388, .inl (cv21 1))), (a0 2, .inl (cZ, 2, .inl (cv21 2))), (a0 3, .inl (cI, 3, .inl (cv21 3))), (a0 6, .inl (cI, 14, .inl (cv21 6))), (a0 7, .inl (cI, 14, .inl (cv21 7))), (a0 8, .inl (cI, 14, .inl (cv21 8))), (a0 9, .inl (cI, 14, .inl (cv21 9))), (a0 10, .inl (cI, 28, .inl (cv21 10))), (a0 11, .inl (cI, 14, .inl (cv21 11))), (a0 12, .inl (cI, 14, .inl (cv21 12))), (a0 13, .inl (cI, 14, .inl (cv21 13))), (a0 18, .inl (cI, 2, .inl (cv21 18))), (a0 19, .inl (cI, 6, .inl (cv21 19))), (a0 20, .inl (cI, 150, .inl (cv21 20))), (a0 26, .inl (cI, 90, .inl (cv21 26))), (a0 27, .inl (cI, 3, .inl (cv21 27)))] rfl rfl rfl rfl hl.1 rfl (Nat.le_of_ble_eq_true rfl) dX9_takesPoint_70 [] rfl (fun H locs hW => ?_)
          refine lv_iconst (v := (1 : Int32)) S.1 S.2.1 dX9_takesPoint_73 ki_1 ?_
          have f26 := Option.some.inj h
          obtain ⟨f27, f28⟩ := Prod.mk.inj f26
          subst f27
          subst f28
          exact rz S hr hlocks hW (nz (Or.inr rfl)) dX9_takesPoint_74
        · have h := of_p u23 h
          refine lv_iconst (v := (0 : Int32)) S.1 S.2.1 dX9_takesPoint_46 ki_0 ?_
          have f29 := Option.some.inj h
          obtain ⟨f30, f31⟩ := Prod.mk.inj f29
          subst f30
          subst f31
          exact rz S hr hlocks hW (nz (Or.inl rfl)) dX9_takesPoint_47
  · have h := of_p u3 h
    refine lv_iconst (v := (0 : Int32)) S.1 S.2.1 dX9_takesPoint_9 ki_0 ?_
    have f32 := Option.some.inj h
    obtain ⟨f33, f34⟩ := Prod.mk.inj f32
    subst f33
    subst f34
    exact rz S hr hlocks hW (nz (Or.inl rfl)) dX9_takesPoint_10
abbrev rmX9_goSays : Room := { frames := 3, cells := 0, slots := 0, locals := 78 }
set_option maxHeartbeats 4000000 in
set_option maxRecDepth 100000 in
theorem t_X9_goSays (l : Launch) (dC : Nat → ClassId) (dI : Nat → Nat → Nat) (cI cJ cZ cB : ClassId) (zz : ZT)  (h0 : Nat) (a0 : Nat → Nat) (c0 : Nat → Nat → Int32) (w0 : Nat → Nat → Int64) (p1 : Int32) (c0' : Nat → Nat → Int32) (hm : md_X9_goSays c0 w0 p1 = some (c0')) : ct l (dC, dI) zz (ty4 cI cJ cZ cB) yX9_goSays cX9_goSays 2 none rmX9_goSays [.ref h0, .int p1] (cwX9 cI cJ cZ cB h0 a0 c0 w0 []) (cwX9 cI cJ cZ cB h0 a0 c0' w0 []) none := by
  refine ct_of (cc := cX9_goSays) (maxL := 2) (ret := none) (by decide) (Nat.le_of_ble_eq_true rfl) ?_
  intro p e s m below meth c A S hr hlocks hK hN hZ hA H locs hW ls hl
  have S : CallFix p m c cX9_goSays 2 s (List.toArray [.ref h0, .int p1]) G RX9 := S
  have hl : lv_has ls 2 [(0, .ref h0), (1, .int p1)] := hl
  have h := hm
  rw [md_X9_goSays] at h
  have hW : wd (dC, dI) A s.heap (clX9 cI cJ cZ cB h0 a0 (c0 0) (c0 1) (c0 2) (c0 3) (w0 4 0) (w0 5 0) (c0 6) (c0 7) (c0 8) (c0 9) (c0 10) (c0 11) (c0 12) (c0 13) (c0 14 0) (c0 15 0) (c0 16 0) (c0 17 0) (c0 18) (c0 19) (c0 20) (c0 21 0) (c0 22 0) (c0 23 0) (c0 24 0) (c0 25 0) (c0 26) (c0 27) []) H locs := hW
  refine lv_aload_n S.1 S.2.1 dX9_goSays_0 rfl (lv_at hl 0 rfl) ?_
  refine gf (C := RX9) (T := TX9) (N := 28) (ci := 5) (k := 0) S hK hW wu_X9 rfl (by decide) wf_X9_7 0 rfl rfl dX9_goSays_1 ?_
  refine lv_bipush (v := (15 : Int32)) S.1 S.2.1 dX9_goSays_4 kb_15 ?_
  refine lv_aload_n S.1 S.2.1 dX9_goSays_6 rfl (lv_at hl 0 rfl) ?_
  refine lv_iload_n S.1 S.2.1 dX9_goSays_7 rfl (lv_at hl 1 rfl) ?_
  refine lv_aload_n S.1 S.2.1 dX9_goSays_8 rfl (lv_at hl 0 rfl) ?_
  refine gf (C := RX9) (T := TX9) (N := 28) (ci := 5) (k := 0) S hK hW wu_X9 rfl (by decide) wf_X9_7 0 rfl rfl dX9_goSays_9 ?_
  refine lv_bipush (v := (14 : Int32)) S.1 S.2.1 dX9_goSays_12 kb_14 ?_
  refine iaK S hK hW rfl 1 rfl b_14_194 x_14 dX9_goSays_14 ?_
  refine lv_aload_n S.1 S.2.1 dX9_goSays_15 rfl (lv_at hl 0 rfl) ?_
  refine gf (C := RX9) (T := TX9) (N := 28) (ci := 5) (k := 0) S hK hW wu_X9 rfl (by decide) wf_X9_7 0 rfl rfl dX9_goSays_16 ?_
  refine lv_bipush (v := (15 : Int32)) S.1 S.2.1 dX9_goSays_19 kb_15 ?_
  refine iaK S hK hW rfl 1 rfl b_15_194 x_15 dX9_goSays_21 ?_
  refine lv_aload_n S.1 S.2.1 dX9_goSays_22 rfl (lv_at hl 0 rfl) ?_
  refine gf (C := RX9) (T := TX9) (N := 28) (ci := 5) (k := 0) S hK hW wu_X9 rfl (by decide) wf_X9_7 0 rfl rfl dX9_goSays_23 ?_
  refine lv_bipush (v := (16 : Int32)) S.1 S.2.1 dX9_goSays_26 kb_16 ?_
  refine iaK S hK hW rfl 1 rfl b_16_194 x_16 dX9_goSays_28 ?_
  obtain ⟨r1, hy2, h⟩ := bd1_e h
  refine kv0 S hK hN hZ hA hW (rest := [.int (15 : Int32), .ref (a0 0)]) (t_X9_meritBy l dC dI cI cJ cZ cB zz h0 a0 c0 w0 p1 ((c0 0) 14) ((c0 0) 15) ((c0 0) 16) _  hy2) wl_X9_130 wv_X9_meritBy rfl rfl ⟨Nat.le_of_ble_eq_true rfl, Nat.le_of_ble_eq_true rfl⟩ [] [] rfl 0 rfl rfl rfl rfl hl.1 rfl (Nat.le_of_ble_eq_true rfl) dX9_goSays_29 [.int r1, .int (15 : Int32), .ref (a0 0)] rfl (fun H locs hW => ?_)
  refine istK S hK hW rfl 1 rfl b_15_194 x_15 dX9_goSays_32 (fun H locs hW => ?_)
  have hW : wd (dC, dI) A s.heap (clX9 cI cJ cZ cB h0 a0 (upd (c0 0) 15 r1) (c0 1) (c0 2) (c0 3) (w0 4 0) (w0 5 0) (c0 6) (c0 7) (c0 8) (c0 9) (c0 10) (c0 11) (c0 12) (c0 13) (c0 14 0) (c0 15 0) (c0 16 0) (c0 17 0) (c0 18) (c0 19) (c0 20) (c0 21 0) (c0 22 0) (c0 23 0) (c0 24 0) (c0 25 0) (c0 26) (c0 27) []) H locs := hW
  refine lv_aload_n S.1 S.2.1 dX9_goSays_33 rfl (lv_at hl 0 rfl) ?_
  refine gf (C := RX9) (T := TX9) (N := 28) (ci := 5) (k := 0) S hK hW wu_X9 rfl (by decide) wf_X9_7 0 rfl rfl dX9_goSays_34 ?_
  refine lv_iconst (v := (5 : Int32)) S.1 S.2.1 dX9_goSays_37 ki_5 ?_
  refine lv_dup2_11 S.1 S.2.1 dX9_goSays_38 rfl rfl ?_
  refine iaK S hK hW rfl 1 rfl b_5_194 x_5 dX9_goSays_39 ?_
  refine lv_iconst (v := (1 : Int32)) S.1 S.2.1 dX9_goSays_40 ki_1 ?_
  refine lv_iload_n S.1 S.2.1 dX9_goSays_41 rfl (lv_at hl 1 rfl) ?_
  refine lv_ishl S.1 S.2.1 dX9_goSays_42 ?_
  refine lv_ior S.1 S.2.1 dX9_goSays_43 ?_
  refine istK S hK hW rfl 1 rfl b_5_194 x_5 dX9_goSays_44 (fun H locs hW => ?_)
  have hW : wd (dC, dI) A s.heap (clX9 cI cJ cZ cB h0 a0 (upd (upd (c0 0) 15 r1) 5 (((upd (c0 0) 15 r1) 5) ||| ((1 : Int32) <<< (p1 &&& 31)))) (c0 1) (c0 2) (c0 3) (w0 4 0) (w0 5 0) (c0 6) (c0 7) (c0 8) (c0 9) (c0 10) (c0 11) (c0 12) (c0 13) (c0 14 0) (c0 15 0) (c0 16 0) (c0 17 0) (c0 18) (c0 19) (c0 20) (c0 21 0) (c0 22 0) (c0 23 0) (c0 24 0) (c0 25 0) (c0 26) (c0 27) []) H locs := hW
  refine lv_aload_n S.1 S.2.1 dX9_goSays_45 rfl (lv_at hl 0 rfl) ?_
  refine gf (C := RX9) (T := TX9) (N := 28) (ci := 5) (k := 0) S hK hW wu_X9 rfl (by decide) wf_X9_7 0 rfl rfl dX9_goSays_46 ?_
  refine lv_bipush (v := (16 : Int32)) S.1 S.2.1 dX9_goSays_49 kb_16 ?_
  refine lv_dup2_11 S.1 S.2.1 dX9_goSays_51 rfl rfl ?_
  refine iaK S hK hW rfl 1 rfl b_16_194 x_16 dX9_goSays_52 ?_
  refine lv_iconst (v := (1 : Int32)) S.1 S.2.1 dX9_goSays_53 ki_1 ?_
  refine lv_iadd S.1 S.2.1 dX9_goSays_54 ?_
  obtain ⟨y3, e4, h⟩ := lt1_e h
  refine nmi e4 ?_
  refine istK S hK hW rfl 1 rfl b_16_194 x_16 dX9_goSays_55 (fun H locs hW => ?_)
  have hW : wd (dC, dI) A s.heap (clX9 cI cJ cZ cB h0 a0 (upd (upd (upd (c0 0) 15 r1) 5 (((upd (c0 0) 15 r1) 5) ||| ((1 : Int32) <<< (p1 &&& 31)))) 16 y3) (c0 1) (c0 2) (c0 3) (w0 4 0) (w0 5 0) (c0 6) (c0 7) (c0 8) (c0 9) (c0 10) (c0 11) (c0 12) (c0 13) (c0 14 0) (c0 15 0) (c0 16 0) (c0 17 0) (c0 18) (c0 19) (c0 20) (c0 21 0) (c0 22 0) (c0 23 0) (c0 24 0) (c0 25 0) (c0 26) (c0 27) []) H locs := hW
  refine lv_aload_n S.1 S.2.1 dX9_goSays_56 rfl (lv_at hl 0 rfl) ?_
  refine gf (C := RX9) (T := TX9) (N := 28) (ci := 5) (k := 0) S hK hW wu_X9 rfl (by decide) wf_X9_7 0 rfl rfl dX9_goSays_57 ?_
  refine lv_bipush (v := (17 : Int32)) S.1 S.2.1 dX9_goSays_60 kb_17 ?_
  refine lv_iload_n S.1 S.2.1 dX9_goSays_62 rfl (lv_at hl 1 rfl) ?_
  refine istK S hK hW rfl 1 rfl b_17_194 x_17 dX9_goSays_63 (fun H locs hW => ?_)
  have hW : wd (dC, dI) A s.heap (clX9 cI cJ cZ cB h0 a0 (upd (upd (upd (upd (c0 0) 15 r1) 5 (((upd (c0 0) 15 r1) 5) ||| ((1 : Int32) <<< (p1 &&& 31)))) 16 y3) 17 p1) (c0 1) (c0 2) (c0 3) (w0 4 0) (w0 5 0) (c0 6) (c0 7) (c0 8) (c0 9) (c0 10) (c0 11) (c0 12) (c0 13) (c0 14 0) (c0 15 0) (c0 16 0) (c0 17 0) (c0 18) (c0 19) (c0 20) (c0 21 0) (c0 22 0) (c0 23 0) (c0 24 0) (c0 25 0) (c0 26) (c0 27) []) H locs := hW
  have f5 := Option.some.inj h
  subst f5
  exact rv S hr hlocks hW dX9_goSays_64
abbrev rmX9_goObjects : Room := { frames := 0, cells := 0, slots := 0, locals := 0 }
set_option maxHeartbeats 4000000 in
set_option maxRecDepth 100000 in
theorem t_X9_goObjects (l : Launch) (dC : Nat → ClassId) (dI : Nat → Nat → Nat) (cI cJ cZ cB : ClassId) (zz : ZT)  (h0 : Nat) (a0 : Nat → Nat) (c0 : Nat → Nat → Int32) (w0 : Nat → Nat → Int64) (c0' : Nat → Nat → Int32) (hm : md_X9_goObjects c0 w0 = some (c0')) : ct l (dC, dI) zz (ty4 cI cJ cZ cB) yX9_goObjects cX9_goObjects 1 none rmX9_goObjects [.ref h0] (cwX9 cI cJ cZ cB h0 a0 c0 w0 []) (cwX9 cI cJ cZ cB h0 a0 c0' w0 []) none := by
  refine ct_of (cc := cX9_goObjects) (maxL := 1) (ret := none) (by decide) (Nat.le_of_ble_eq_true rfl) ?_
  intro p e s m below meth c A S hr hlocks hK hN hZ hA H locs hW ls hl
  have S : CallFix p m c cX9_goObjects 1 s (List.toArray [.ref h0]) G RX9 := S
  have hl : lv_has ls 1 [(0, .ref h0)] := hl
  have h := hm
  rw [md_X9_goObjects] at h
  have hW : wd (dC, dI) A s.heap (clX9 cI cJ cZ cB h0 a0 (c0 0) (c0 1) (c0 2) (c0 3) (w0 4 0) (w0 5 0) (c0 6) (c0 7) (c0 8) (c0 9) (c0 10) (c0 11) (c0 12) (c0 13) (c0 14 0) (c0 15 0) (c0 16 0) (c0 17 0) (c0 18) (c0 19) (c0 20) (c0 21 0) (c0 22 0) (c0 23 0) (c0 24 0) (c0 25 0) (c0 26) (c0 27) []) H locs := hW
  refine lv_aload_n S.1 S.2.1 dX9_goObjects_0 rfl (lv_at hl 0 rfl) ?_
  refine gf (C := RX9) (T := TX9) (N := 28) (ci := 5) (k := 0) S hK hW wu_X9 rfl (by decide) wf_X9_7 0 rfl rfl dX9_goObjects_1 ?_
  refine lv_bipush (v := (12 : Int32)) S.1 S.2.1 dX9_goObjects_4 kb_12 ?_
  refine lv_aload_n S.1 S.2.1 dX9_goObjects_6 rfl (lv_at hl 0 rfl) ?_
  refine gf (C := RX9) (T := TX9) (N := 28) (ci := 5) (k := 0) S hK hW wu_X9 rfl (by decide) wf_X9_7 0 rfl rfl dX9_goObjects_7 ?_
  refine lv_bipush (v := (16 : Int32)) S.1 S.2.1 dX9_goObjects_10 kb_16 ?_
  refine iaK S hK hW rfl 1 rfl b_16_194 x_16 dX9_goObjects_12 ?_
  refine lv_iconst (v := (2 : Int32)) S.1 S.2.1 dX9_goObjects_13 ki_2 ?_
  refine lv_irem S.1 S.2.1 dX9_goObjects_14 (by decide) ?_
  refine lv_iadd S.1 S.2.1 dX9_goObjects_15 ?_
  refine lv_dup2_11 S.1 S.2.1 dX9_goObjects_16 rfl rfl ?_
  obtain ⟨z1, h⟩ := of_g h
  refine ia S hK hW rfl 1 rfl z1 dX9_goObjects_17 ?_
  refine lv_iconst (v := (1 : Int32)) S.1 S.2.1 dX9_goObjects_18 ki_1 ?_
  refine lv_isub S.1 S.2.1 dX9_goObjects_19 ?_
  obtain ⟨y2, e3, h⟩ := lt1_e h
  refine nmi e3 ?_
  obtain ⟨z4, h⟩ := of_g h
  refine ist S hK hW rfl 1 rfl z4 dX9_goObjects_20 (fun H locs hW => ?_)
  have hW : wd (dC, dI) A s.heap (clX9 cI cJ cZ cB h0 a0 (upd (c0 0) (ix ((12 : Int32) + (((c0 0) 16) - ((c0 0) 16) / (2 : Int32) * (2 : Int32)))) y2) (c0 1) (c0 2) (c0 3) (w0 4 0) (w0 5 0) (c0 6) (c0 7) (c0 8) (c0 9) (c0 10) (c0 11) (c0 12) (c0 13) (c0 14 0) (c0 15 0) (c0 16 0) (c0 17 0) (c0 18) (c0 19) (c0 20) (c0 21 0) (c0 22 0) (c0 23 0) (c0 24 0) (c0 25 0) (c0 26) (c0 27) []) H locs := hW
  refine lv_aload_n S.1 S.2.1 dX9_goObjects_21 rfl (lv_at hl 0 rfl) ?_
  refine gf (C := RX9) (T := TX9) (N := 28) (ci := 5) (k := 0) S hK hW wu_X9 rfl (by decide) wf_X9_7 0 rfl rfl dX9_goObjects_22 ?_
  refine lv_bipush (v := (6 : Int32)) S.1 S.2.1 dX9_goObjects_25 kb_6 ?_
  refine lv_aload_n S.1 S.2.1 dX9_goObjects_27 rfl (lv_at hl 0 rfl) ?_
  refine gf (C := RX9) (T := TX9) (N := 28) (ci := 5) (k := 0) S hK hW wu_X9 rfl (by decide) wf_X9_7 0 rfl rfl dX9_goObjects_28 ?_
  refine lv_bipush (v := (17 : Int32)) S.1 S.2.1 dX9_goObjects_31 kb_17 ?_
  refine iaK S hK hW rfl 1 rfl b_17_194 x_17 dX9_goObjects_33 ?_
  refine lv_iadd S.1 S.2.1 dX9_goObjects_34 ?_
  refine lv_dup2_11 S.1 S.2.1 dX9_goObjects_35 rfl rfl ?_
  obtain ⟨z5, h⟩ := of_g h
  refine ia S hK hW rfl 1 rfl z5 dX9_goObjects_36 ?_
  refine lv_iconst (v := (1 : Int32)) S.1 S.2.1 dX9_goObjects_37 ki_1 ?_
  refine lv_isub S.1 S.2.1 dX9_goObjects_38 ?_
  obtain ⟨y6, e7, h⟩ := lt1_e h
  refine nmi e7 ?_
  obtain ⟨z8, h⟩ := of_g h
  refine ist S hK hW rfl 1 rfl z8 dX9_goObjects_39 (fun H locs hW => ?_)
  have hW : wd (dC, dI) A s.heap (clX9 cI cJ cZ cB h0 a0 (upd (upd (c0 0) (ix ((12 : Int32) + (((c0 0) 16) - ((c0 0) 16) / (2 : Int32) * (2 : Int32)))) y2) (ix ((6 : Int32) + ((upd (c0 0) (ix ((12 : Int32) + (((c0 0) 16) - ((c0 0) 16) / (2 : Int32) * (2 : Int32)))) y2) 17))) y6) (c0 1) (c0 2) (c0 3) (w0 4 0) (w0 5 0) (c0 6) (c0 7) (c0 8) (c0 9) (c0 10) (c0 11) (c0 12) (c0 13) (c0 14 0) (c0 15 0) (c0 16 0) (c0 17 0) (c0 18) (c0 19) (c0 20) (c0 21 0) (c0 22 0) (c0 23 0) (c0 24 0) (c0 25 0) (c0 26) (c0 27) []) H locs := hW
  refine lv_aload_n S.1 S.2.1 dX9_goObjects_40 rfl (lv_at hl 0 rfl) ?_
  refine gf (C := RX9) (T := TX9) (N := 28) (ci := 5) (k := 0) S hK hW wu_X9 rfl (by decide) wf_X9_7 0 rfl rfl dX9_goObjects_41 ?_
  refine lv_bipush (v := (14 : Int32)) S.1 S.2.1 dX9_goObjects_44 kb_14 ?_
  refine lv_iconst (v := (1 : Int32)) S.1 S.2.1 dX9_goObjects_46 ki_1 ?_
  refine lv_aload_n S.1 S.2.1 dX9_goObjects_47 rfl (lv_at hl 0 rfl) ?_
  refine gf (C := RX9) (T := TX9) (N := 28) (ci := 5) (k := 0) S hK hW wu_X9 rfl (by decide) wf_X9_7 0 rfl rfl dX9_goObjects_48 ?_
  refine lv_bipush (v := (14 : Int32)) S.1 S.2.1 dX9_goObjects_51 kb_14 ?_
  refine iaK S hK hW rfl 1 rfl b_14_194 x_14 dX9_goObjects_53 ?_
  refine lv_isub S.1 S.2.1 dX9_goObjects_54 ?_
  obtain ⟨y9, e10, h⟩ := lt1_e h
  refine nmi e10 ?_
  refine istK S hK hW rfl 1 rfl b_14_194 x_14 dX9_goObjects_55 (fun H locs hW => ?_)
  have hW : wd (dC, dI) A s.heap (clX9 cI cJ cZ cB h0 a0 (upd (upd (upd (c0 0) (ix ((12 : Int32) + (((c0 0) 16) - ((c0 0) 16) / (2 : Int32) * (2 : Int32)))) y2) (ix ((6 : Int32) + ((upd (c0 0) (ix ((12 : Int32) + (((c0 0) 16) - ((c0 0) 16) / (2 : Int32) * (2 : Int32)))) y2) 17))) y6) 14 y9) (c0 1) (c0 2) (c0 3) (w0 4 0) (w0 5 0) (c0 6) (c0 7) (c0 8) (c0 9) (c0 10) (c0 11) (c0 12) (c0 13) (c0 14 0) (c0 15 0) (c0 16 0) (c0 17 0) (c0 18) (c0 19) (c0 20) (c0 21 0) (c0 22 0) (c0 23 0) (c0 24 0) (c0 25 0) (c0 26) (c0 27) []) H locs := hW
  refine lv_aload_n S.1 S.2.1 dX9_goObjects_56 rfl (lv_at hl 0 rfl) ?_
  refine gf (C := RX9) (T := TX9) (N := 28) (ci := 5) (k := 0) S hK hW wu_X9 rfl (by decide) wf_X9_7 0 rfl rfl dX9_goObjects_57 ?_
  refine lv_bipush (v := (17 : Int32)) S.1 S.2.1 dX9_goObjects_60 kb_17 ?_
  refine lv_iconst (v := (-1 : Int32)) S.1 S.2.1 dX9_goObjects_62 ki_m1 ?_
  refine istK S hK hW rfl 1 rfl b_17_194 x_17 dX9_goObjects_63 (fun H locs hW => ?_)
  have hW : wd (dC, dI) A s.heap (clX9 cI cJ cZ cB h0 a0 (upd (upd (upd (upd (c0 0) (ix ((12 : Int32) + (((c0 0) 16) - ((c0 0) 16) / (2 : Int32) * (2 : Int32)))) y2) (ix ((6 : Int32) + ((upd (c0 0) (ix ((12 : Int32) + (((c0 0) 16) - ((c0 0) 16) / (2 : Int32) * (2 : Int32)))) y2) 17))) y6) 14 y9) 17 (-1 : Int32)) (c0 1) (c0 2) (c0 3) (w0 4 0) (w0 5 0) (c0 6) (c0 7) (c0 8) (c0 9) (c0 10) (c0 11) (c0 12) (c0 13) (c0 14 0) (c0 15 0) (c0 16 0) (c0 17 0) (c0 18) (c0 19) (c0 20) (c0 21 0) (c0 22 0) (c0 23 0) (c0 24 0) (c0 25 0) (c0 26) (c0 27) []) H locs := hW
  have f11 := Option.some.inj h
  subst f11
  exact rv S hr hlocks hW dX9_goObjects_64
abbrev rmX9_takesSaying : Room := { frames := 4, cells := 0, slots := 0, locals := 99 }
set_option maxHeartbeats 4000000 in
set_option maxRecDepth 100000 in
theorem t_X9_takesSaying (l : Launch) (dC : Nat → ClassId) (dI : Nat → Nat → Nat) (cI cJ cZ cB : ClassId) (zz : ZT)  (h0 : Nat) (a0 : Nat → Nat) (F : Nat) (c0 : Nat → Nat → Int32) (w0 : Nat → Nat → Int64) (r : Int32) (c0' : Nat → Nat → Int32) (hm : md_X9_takesSaying F c0 w0 = some (r, c0')) : ct l (dC, dI) zz (ty4 cI cJ cZ cB) yX9_takesSaying cX9_takesSaying 1 (some .boolean) rmX9_takesSaying [.ref h0] (cwX9 cI cJ cZ cB h0 a0 c0 w0 []) (cwX9 cI cJ cZ cB h0 a0 c0' w0 []) (some (.int r)) := by
  refine ct_of (cc := cX9_takesSaying) (maxL := 1) (ret := (some .boolean)) (by decide) (Nat.le_of_ble_eq_true rfl) ?_
  intro p e s m below meth c A S hr hlocks hK hN hZ hA H locs hW ls hl
  have S : CallFix p m c cX9_takesSaying 1 s (List.toArray [.ref h0]) G RX9 := S
  have hl : lv_has ls 1 [(0, .ref h0)] := hl
  have h := hm
  rw [md_X9_takesSaying] at h
  have hW : wd (dC, dI) A s.heap (clX9 cI cJ cZ cB h0 a0 (c0 0) (c0 1) (c0 2) (c0 3) (w0 4 0) (w0 5 0) (c0 6) (c0 7) (c0 8) (c0 9) (c0 10) (c0 11) (c0 12) (c0 13) (c0 14 0) (c0 15 0) (c0 16 0) (c0 17 0) (c0 18) (c0 19) (c0 20) (c0 21 0) (c0 22 0) (c0 23 0) (c0 24 0) (c0 25 0) (c0 26) (c0 27) []) H locs := hW
  refine lv_aload_n S.1 S.2.1 dX9_takesSaying_0 rfl (lv_at hl 0 rfl) ?_
  obtain ⟨cv1, hy2, h⟩ := bd1_e h
  refine kv (clX9 cI cJ cZ cB h0 a0 (cv1 0) (cv1 1) (cv1 2) (cv1 3) (w0 4 0) (w0 5 0) (cv1 6) (cv1 7) (cv1 8) (cv1 9) (cv1 10) (cv1 11) (cv1 12) (cv1 13) (cv1 14 0) (cv1 15 0) (cv1 16 0) (cv1 17 0) (cv1 18) (cv1 19) (cv1 20) (cv1 21 0) (cv1 22 0) (cv1 23 0) (cv1 24 0) (cv1 25 0) (cv1 26) (cv1 27) []) S hK hN hZ hA hW (rest := []) (t_X9_goBehind l dC dI cI cJ cZ cB zz h0 a0 F c0 w0 _  hy2) wl_X9_299 wv_X9_goBehind rfl rfl ⟨Nat.le_of_ble_eq_true rfl, Nat.le_of_ble_eq_true rfl⟩ [] [] rfl rfl rfl 0 rfl rfl rfl rfl hl.1 rfl (Nat.le_of_ble_eq_true rfl) dX9_takesSaying_1 [] rfl (fun H locs hW => ?_)
  refine lv_aload_n S.1 S.2.1 dX9_takesSaying_4 rfl (lv_at hl 0 rfl) ?_
  refine gf (C := RX9) (T := TX9) (N := 28) (ci := 5) (k := 24) S hK hW wu_X9 rfl (by decide) wf_X9_284 0 rfl rfl dX9_takesSaying_5 ?_
  refine lv_iconst (v := (2 : Int32)) S.1 S.2.1 dX9_takesSaying_8 ki_2 ?_
  refine lv_icmp_ne (tgt := 39) S.1 S.2.1 dX9_takesSaying_9 (by decide) (fun u3 => ?_) (fun u3 => ?_)
  · have h := of_n u3 h
    refine lv_iconst (v := (0 : Int32)) S.1 S.2.1 dX9_takesSaying_39 ki_0 ?_
    have f4 := Option.some.inj h
    obtain ⟨f5, f6⟩ := Prod.mk.inj f4
    subst f5
    subst f6
    exact rz S hr hlocks hW (nz (Or.inl rfl)) dX9_takesSaying_40
  · have h := of_p u3 h
    refine lv_aload_n S.1 S.2.1 dX9_takesSaying_12 rfl (lv_at hl 0 rfl) ?_
    refine lv_aload_n S.1 S.2.1 dX9_takesSaying_13 rfl (lv_at hl 0 rfl) ?_
    refine gf (C := RX9) (T := TX9) (N := 28) (ci := 5) (k := 25) S hK hW wu_X9 rfl (by decide) wf_X9_287 0 rfl rfl dX9_takesSaying_14 ?_
    obtain ⟨r7, hy8, h⟩ := bd1_e h
    refine kv0 S hK hN hZ hA hW (rest := []) (t_X9_isPoint l dC dI cI cJ cZ cB zz h0 a0 cv1 w0 (cv1 25 0) _  hy8) wl_X9_117 wv_X9_isPoint rfl rfl ⟨Nat.le_of_ble_eq_true rfl, Nat.le_of_ble_eq_true rfl⟩ [] [] rfl 0 rfl rfl rfl rfl hl.1 rfl (Nat.le_of_ble_eq_true rfl) dX9_takesSaying_17 [.int r7] rfl (fun H locs hW => ?_)
    refine lv_if_eq (tgt := 39) S.1 S.2.1 dX9_takesSaying_20 (by decide) (fun u9 => ?_) (fun u9 => ?_)
    · have h := of_p u9 h
      refine lv_iconst (v := (0 : Int32)) S.1 S.2.1 dX9_takesSaying_39 ki_0 ?_
      have f10 := Option.some.inj h
      obtain ⟨f11, f12⟩ := Prod.mk.inj f10
      subst f11
      subst f12
      exact rz S hr hlocks hW (nz (Or.inl rfl)) dX9_takesSaying_40
    · have h := of_n u9 h
      refine lv_aload_n S.1 S.2.1 dX9_takesSaying_23 rfl (lv_at hl 0 rfl) ?_
      refine gf (C := RX9) (T := TX9) (N := 28) (ci := 5) (k := 0) S hK hW wu_X9 rfl (by decide) wf_X9_7 0 rfl rfl dX9_takesSaying_24 ?_
      refine lv_iconst (v := (5 : Int32)) S.1 S.2.1 dX9_takesSaying_27 ki_5 ?_
      refine iaK S hK hW rfl 1 rfl b_5_194 x_5 dX9_takesSaying_28 ?_
      refine lv_aload_n S.1 S.2.1 dX9_takesSaying_29 rfl (lv_at hl 0 rfl) ?_
      refine gf (C := RX9) (T := TX9) (N := 28) (ci := 5) (k := 25) S hK hW wu_X9 rfl (by decide) wf_X9_287 0 rfl rfl dX9_takesSaying_30 ?_
      obtain ⟨r13, hy14, h⟩ := bd1_e h
      refine ks0 S hK hN hZ hA hW (rest := []) (t_X9_has l dC dI cI cJ cZ cB zz ((cv1 0) 5) (cv1 25 0) _  hy14) wl_X9_120 wv_X9_has rfl rfl ⟨Nat.le_of_ble_eq_true rfl, Nat.le_of_ble_eq_true rfl⟩ [] (clX9 cI cJ cZ cB h0 a0 (cv1 0) (cv1 1) (cv1 2) (cv1 3) (w0 4 0) (w0 5 0) (cv1 6) (cv1 7) (cv1 8) (cv1 9) (cv1 10) (cv1 11) (cv1 12) (cv1 13) (cv1 14 0) (cv1 15 0) (cv1 16 0) (cv1 17 0) (cv1 18) (cv1 19) (cv1 20) (cv1 21 0) (cv1 22 0) (cv1 23 0) (cv1 24 0) (cv1 25 0) (cv1 26) (cv1 27) []) rfl rfl hl.1 rfl (Nat.le_of_ble_eq_true rfl) dX9_takesSaying_33 [.int r13] rfl (fun H locs hW => ?_)
      refine lv_if_eq (tgt := 41) S.1 S.2.1 dX9_takesSaying_36 (by decide) (fun u15 => ?_) (fun u15 => ?_)
      · have h := of_p u15 h
        refine lv_aload_n S.1 S.2.1 dX9_takesSaying_41 rfl (lv_at hl 0 rfl) ?_
        refine lv_aload_n S.1 S.2.1 dX9_takesSaying_42 rfl (lv_at hl 0 rfl) ?_
        refine gf (C := RX9) (T := TX9) (N := 28) (ci := 5) (k := 25) S hK hW wu_X9 rfl (by decide) wf_X9_287 0 rfl rfl dX9_takesSaying_43 ?_
        obtain ⟨cv16, hy17, h⟩ := bd1_e h
        refine kv (clX9 cI cJ cZ cB h0 a0 (cv16 0) (cv16 1) (cv16 2) (cv16 3) (w0 4 0) (w0 5 0) (cv16 6) (cv16 7) (cv16 8) (cv16 9) (cv16 10) (cv16 11) (cv16 12) (cv16 13) (cv16 14 0) (cv16 15 0) (cv16 16 0) (cv16 17 0) (cv16 18) (cv16 19) (cv16 20) (cv16 21 0) (cv16 22 0) (cv16 23 0) (cv16 24 0) (cv16 25 0) (cv16 26) (cv16 27) []) S hK hN hZ hA hW (rest := []) (t_X9_goSays l dC dI cI cJ cZ cB zz h0 a0 cv1 w0 (cv1 25 0) _  hy17) wl_X9_305 wv_X9_goSays rfl rfl ⟨Nat.le_of_ble_eq_true rfl, Nat.le_of_ble_eq_true rfl⟩ [] [] rfl rfl rfl 0 rfl rfl rfl rfl hl.1 rfl (Nat.le_of_ble_eq_true rfl) dX9_takesSaying_46 [] rfl (fun H locs hW => ?_)
        refine lv_aload_n S.1 S.2.1 dX9_takesSaying_49 rfl (lv_at hl 0 rfl) ?_
        obtain ⟨cv18, hy19, h⟩ := bd1_e h
        refine kv (clX9 cI cJ cZ cB h0 a0 (cv18 0) (cv18 1) (cv18 2) (cv18 3) (w0 4 0) (w0 5 0) (cv18 6) (cv18 7) (cv18 8) (cv18 9) (cv18 10) (cv18 11) (cv18 12) (cv18 13) (cv18 14 0) (cv18 15 0) (cv18 16 0) (cv18 17 0) (cv18 18) (cv18 19) (cv18 20) (cv18 21 0) (cv18 22 0) (cv18 23 0) (cv18 24 0) (cv18 25 0) (cv18 26) (cv18 27) []) S hK hN hZ hA hW (rest := []) (t_X9_goBehind l dC dI cI cJ cZ cB zz h0 a0 F cv16 w0 _  hy19) wl_X9_299 wv_X9_goBehind rfl rfl ⟨Nat.le_of_ble_eq_true rfl, Nat.le_of_ble_eq_true rfl⟩ [] [] rfl rfl rfl 0 rfl rfl rfl rfl hl.1 rfl (Nat.le_of_ble_eq_true rfl) dX9_takesSaying_50 [] rfl (fun H locs hW => ?_)
        refine lv_iconst (v := (1 : Int32)) S.1 S.2.1 dX9_takesSaying_53 ki_1 ?_
        have f20 := Option.some.inj h
        obtain ⟨f21, f22⟩ := Prod.mk.inj f20
        subst f21
        subst f22
        exact rz S hr hlocks hW (nz (Or.inr rfl)) dX9_takesSaying_54
      · have h := of_n u15 h
        refine lv_iconst (v := (0 : Int32)) S.1 S.2.1 dX9_takesSaying_39 ki_0 ?_
        have f23 := Option.some.inj h
        obtain ⟨f24, f25⟩ := Prod.mk.inj f23
        subst f24
        subst f25
        exact rz S hr hlocks hW (nz (Or.inl rfl)) dX9_takesSaying_40
abbrev rmX9_takesObjecting : Room := { frames := 4, cells := 0, slots := 0, locals := 89 }
set_option maxHeartbeats 4000000 in
set_option maxRecDepth 100000 in
theorem t_X9_takesObjecting (l : Launch) (dC : Nat → ClassId) (dI : Nat → Nat → Nat) (cI cJ cZ cB : ClassId) (zz : ZT)  (h0 : Nat) (a0 : Nat → Nat) (F : Nat) (c0 : Nat → Nat → Int32) (w0 : Nat → Nat → Int64) (r : Int32) (c0' : Nat → Nat → Int32) (hm : md_X9_takesObjecting F c0 w0 = some (r, c0')) : ct l (dC, dI) zz (ty4 cI cJ cZ cB) yX9_takesObjecting cX9_takesObjecting 1 (some .boolean) rmX9_takesObjecting [.ref h0] (cwX9 cI cJ cZ cB h0 a0 c0 w0 []) (cwX9 cI cJ cZ cB h0 a0 c0' w0 []) (some (.int r)) := by
  refine ct_of (cc := cX9_takesObjecting) (maxL := 1) (ret := (some .boolean)) (by decide) (Nat.le_of_ble_eq_true rfl) ?_
  intro p e s m below meth c A S hr hlocks hK hN hZ hA H locs hW ls hl
  have S : CallFix p m c cX9_takesObjecting 1 s (List.toArray [.ref h0]) G RX9 := S
  have hl : lv_has ls 1 [(0, .ref h0)] := hl
  have h := hm
  rw [md_X9_takesObjecting] at h
  have hW : wd (dC, dI) A s.heap (clX9 cI cJ cZ cB h0 a0 (c0 0) (c0 1) (c0 2) (c0 3) (w0 4 0) (w0 5 0) (c0 6) (c0 7) (c0 8) (c0 9) (c0 10) (c0 11) (c0 12) (c0 13) (c0 14 0) (c0 15 0) (c0 16 0) (c0 17 0) (c0 18) (c0 19) (c0 20) (c0 21 0) (c0 22 0) (c0 23 0) (c0 24 0) (c0 25 0) (c0 26) (c0 27) []) H locs := hW
  refine lv_aload_n S.1 S.2.1 dX9_takesObjecting_0 rfl (lv_at hl 0 rfl) ?_
  obtain ⟨r1, hy2, h⟩ := bd1_e h
  refine kv0 S hK hN hZ hA hW (rest := []) (t_X9_may l dC dI cI cJ cZ cB zz h0 a0 c0 w0 _  hy2) wl_X9_133 wv_X9_may rfl rfl ⟨Nat.le_of_ble_eq_true rfl, Nat.le_of_ble_eq_true rfl⟩ [] [] rfl 0 rfl rfl rfl rfl hl.1 rfl (Nat.le_of_ble_eq_true rfl) dX9_takesObjecting_1 [.int r1] rfl (fun H locs hW => ?_)
  refine lv_if_ne (tgt := 9) S.1 S.2.1 dX9_takesObjecting_4 (by decide) (fun u3 => ?_) (fun u3 => ?_)
  · have h := of_n u3 h
    refine lv_aload_n S.1 S.2.1 dX9_takesObjecting_9 rfl (lv_at hl 0 rfl) ?_
    obtain ⟨cv4, hy5, h⟩ := bd1_e h
    refine kv (clX9 cI cJ cZ cB h0 a0 (cv4 0) (cv4 1) (cv4 2) (cv4 3) (w0 4 0) (w0 5 0) (cv4 6) (cv4 7) (cv4 8) (cv4 9) (cv4 10) (cv4 11) (cv4 12) (cv4 13) (cv4 14 0) (cv4 15 0) (cv4 16 0) (cv4 17 0) (cv4 18) (cv4 19) (cv4 20) (cv4 21 0) (cv4 22 0) (cv4 23 0) (cv4 24 0) (cv4 25 0) (cv4 26) (cv4 27) []) S hK hN hZ hA hW (rest := []) (t_X9_goObjects l dC dI cI cJ cZ cB zz h0 a0 c0 w0 _  hy5) wl_X9_308 wv_X9_goObjects rfl rfl ⟨Nat.le_of_ble_eq_true rfl, Nat.le_of_ble_eq_true rfl⟩ [] [] rfl rfl rfl 0 rfl rfl rfl rfl hl.1 rfl (Nat.le_of_ble_eq_true rfl) dX9_takesObjecting_10 [] rfl (fun H locs hW => ?_)
    refine lv_aload_n S.1 S.2.1 dX9_takesObjecting_13 rfl (lv_at hl 0 rfl) ?_
    obtain ⟨cv6, hy7, h⟩ := bd1_e h
    refine kv (clX9 cI cJ cZ cB h0 a0 (cv6 0) (cv6 1) (cv6 2) (cv6 3) (w0 4 0) (w0 5 0) (cv6 6) (cv6 7) (cv6 8) (cv6 9) (cv6 10) (cv6 11) (cv6 12) (cv6 13) (cv6 14 0) (cv6 15 0) (cv6 16 0) (cv6 17 0) (cv6 18) (cv6 19) (cv6 20) (cv6 21 0) (cv6 22 0) (cv6 23 0) (cv6 24 0) (cv6 25 0) (cv6 26) (cv6 27) []) S hK hN hZ hA hW (rest := []) (t_X9_goBehind l dC dI cI cJ cZ cB zz h0 a0 F cv4 w0 _  hy7) wl_X9_299 wv_X9_goBehind rfl rfl ⟨Nat.le_of_ble_eq_true rfl, Nat.le_of_ble_eq_true rfl⟩ [] [] rfl rfl rfl 0 rfl rfl rfl rfl hl.1 rfl (Nat.le_of_ble_eq_true rfl) dX9_takesObjecting_14 [] rfl (fun H locs hW => ?_)
    refine lv_iconst (v := (1 : Int32)) S.1 S.2.1 dX9_takesObjecting_17 ki_1 ?_
    have f8 := Option.some.inj h
    obtain ⟨f9, f10⟩ := Prod.mk.inj f8
    subst f9
    subst f10
    exact rz S hr hlocks hW (nz (Or.inr rfl)) dX9_takesObjecting_18
  · have h := of_p u3 h
    refine lv_iconst (v := (0 : Int32)) S.1 S.2.1 dX9_takesObjecting_7 ki_0 ?_
    have f11 := Option.some.inj h
    obtain ⟨f12, f13⟩ := Prod.mk.inj f11
    subst f12
    subst f13
    exact rz S hr hlocks hW (nz (Or.inl rfl)) dX9_takesObjecting_8
abbrev rmX9_takesItem : Room := { frames := 6, cells := 0, slots := 0, locals := 132 }
set_option maxHeartbeats 4000000 in
set_option maxRecDepth 100000 in
theorem t_X9_takesItem (l : Launch) (dC : Nat → ClassId) (dI : Nat → Nat → Nat) (cI cJ cZ cB : ClassId) (zz : ZT)  (h0 : Nat) (a0 : Nat → Nat) (F : Nat) (c0 : Nat → Nat → Int32) (w0 : Nat → Nat → Int64) (r : Int32) (c0' : Nat → Nat → Int32) (hm : md_X9_takesItem F c0 w0 = some (r, c0')) : ct l (dC, dI) zz (ty4 cI cJ cZ cB) yX9_takesItem cX9_takesItem 1 (some .boolean) rmX9_takesItem [.ref h0] (cwX9 cI cJ cZ cB h0 a0 c0 w0 []) (cwX9 cI cJ cZ cB h0 a0 c0' w0 []) (some (.int r)) := by
  refine ct_of (cc := cX9_takesItem) (maxL := 1) (ret := (some .boolean)) (by decide) (Nat.le_of_ble_eq_true rfl) ?_
  intro p e s m below meth c A S hr hlocks hK hN hZ hA H locs hW ls hl
  have S : CallFix p m c cX9_takesItem 1 s (List.toArray [.ref h0]) G RX9 := S
  have hl : lv_has ls 1 [(0, .ref h0)] := hl
  have h := hm
  rw [md_X9_takesItem] at h
  have hW : wd (dC, dI) A s.heap (clX9 cI cJ cZ cB h0 a0 (c0 0) (c0 1) (c0 2) (c0 3) (w0 4 0) (w0 5 0) (c0 6) (c0 7) (c0 8) (c0 9) (c0 10) (c0 11) (c0 12) (c0 13) (c0 14 0) (c0 15 0) (c0 16 0) (c0 17 0) (c0 18) (c0 19) (c0 20) (c0 21 0) (c0 22 0) (c0 23 0) (c0 24 0) (c0 25 0) (c0 26) (c0 27) []) H locs := hW
  refine lv_aload_n S.1 S.2.1 dX9_takesItem_0 rfl (lv_at hl 0 rfl) ?_
  refine lv_iconst (v := (4 : Int32)) S.1 S.2.1 dX9_takesItem_1 ki_4 ?_
  refine lv_bipush (v := (98 : Int32)) S.1 S.2.1 dX9_takesItem_2 kb_98 ?_
  refine lv_bipush (v := (111 : Int32)) S.1 S.2.1 dX9_takesItem_4 kb_111 ?_
  refine lv_bipush (v := (119 : Int32)) S.1 S.2.1 dX9_takesItem_6 kb_119 ?_
  refine lv_bipush (v := (115 : Int32)) S.1 S.2.1 dX9_takesItem_8 kb_115 ?_
  refine lv_iconst (v := (0 : Int32)) S.1 S.2.1 dX9_takesItem_10 ki_0 ?_
  refine lv_iconst (v := (0 : Int32)) S.1 S.2.1 dX9_takesItem_11 ki_0 ?_
  obtain ⟨r1, hy2, h⟩ := bd1_e h
  refine kv0 S hK hN hZ hA hW (rest := []) (t_X9_spells l dC dI cI cJ cZ cB zz h0 a0 F c0 w0 (4 : Int32) (98 : Int32) (111 : Int32) (119 : Int32) (115 : Int32) (0 : Int32) (0 : Int32) _  hy2) wl_X9_311 wv_X9_spells rfl rfl ⟨Nat.le_of_ble_eq_true rfl, Nat.le_of_ble_eq_true rfl⟩ [] [] rfl 0 rfl rfl rfl rfl hl.1 rfl (Nat.le_of_ble_eq_true rfl) dX9_takesItem_12 [.int r1] rfl (fun H locs hW => ?_)
  refine lv_if_eq (tgt := 23) S.1 S.2.1 dX9_takesItem_15 (by decide) (fun u3 => ?_) (fun u3 => ?_)
  · have h := of_p u3 h
    refine lv_aload_n S.1 S.2.1 dX9_takesItem_23 rfl (lv_at hl 0 rfl) ?_
    refine lv_iconst (v := (5 : Int32)) S.1 S.2.1 dX9_takesItem_24 ki_5 ?_
    refine lv_bipush (v := (112 : Int32)) S.1 S.2.1 dX9_takesItem_25 kb_112 ?_
    refine lv_bipush (v := (111 : Int32)) S.1 S.2.1 dX9_takesItem_27 kb_111 ?_
    refine lv_bipush (v := (105 : Int32)) S.1 S.2.1 dX9_takesItem_29 kb_105 ?_
    refine lv_bipush (v := (110 : Int32)) S.1 S.2.1 dX9_takesItem_31 kb_110 ?_
    refine lv_bipush (v := (116 : Int32)) S.1 S.2.1 dX9_takesItem_33 kb_116 ?_
    refine lv_iconst (v := (0 : Int32)) S.1 S.2.1 dX9_takesItem_35 ki_0 ?_
    obtain ⟨r4, hy5, h⟩ := bd1_e h
    refine kv0 S hK hN hZ hA hW (rest := []) (t_X9_spells l dC dI cI cJ cZ cB zz h0 a0 F c0 w0 (5 : Int32) (112 : Int32) (111 : Int32) (105 : Int32) (110 : Int32) (116 : Int32) (0 : Int32) _  hy5) wl_X9_311 wv_X9_spells rfl rfl ⟨Nat.le_of_ble_eq_true rfl, Nat.le_of_ble_eq_true rfl⟩ [] [] rfl 0 rfl rfl rfl rfl hl.1 rfl (Nat.le_of_ble_eq_true rfl) dX9_takesItem_36 [.int r4] rfl (fun H locs hW => ?_)
    refine lv_if_eq (tgt := 47) S.1 S.2.1 dX9_takesItem_39 (by decide) (fun u6 => ?_) (fun u6 => ?_)
    · have h := of_p u6 h
      refine lv_aload_n S.1 S.2.1 dX9_takesItem_47 rfl (lv_at hl 0 rfl) ?_
      refine lv_iconst (v := (3 : Int32)) S.1 S.2.1 dX9_takesItem_48 ki_3 ?_
      refine lv_bipush (v := (115 : Int32)) S.1 S.2.1 dX9_takesItem_49 kb_115 ?_
      refine lv_bipush (v := (97 : Int32)) S.1 S.2.1 dX9_takesItem_51 kb_97 ?_
      refine lv_bipush (v := (121 : Int32)) S.1 S.2.1 dX9_takesItem_53 kb_121 ?_
      refine lv_iconst (v := (0 : Int32)) S.1 S.2.1 dX9_takesItem_55 ki_0 ?_
      refine lv_iconst (v := (0 : Int32)) S.1 S.2.1 dX9_takesItem_56 ki_0 ?_
      refine lv_iconst (v := (0 : Int32)) S.1 S.2.1 dX9_takesItem_57 ki_0 ?_
      obtain ⟨r7, hy8, h⟩ := bd1_e h
      refine kv0 S hK hN hZ hA hW (rest := []) (t_X9_spells l dC dI cI cJ cZ cB zz h0 a0 F c0 w0 (3 : Int32) (115 : Int32) (97 : Int32) (121 : Int32) (0 : Int32) (0 : Int32) (0 : Int32) _  hy8) wl_X9_311 wv_X9_spells rfl rfl ⟨Nat.le_of_ble_eq_true rfl, Nat.le_of_ble_eq_true rfl⟩ [] [] rfl 0 rfl rfl rfl rfl hl.1 rfl (Nat.le_of_ble_eq_true rfl) dX9_takesItem_58 [.int r7] rfl (fun H locs hW => ?_)
      refine lv_if_eq (tgt := 69) S.1 S.2.1 dX9_takesItem_61 (by decide) (fun u9 => ?_) (fun u9 => ?_)
      · have h := of_p u9 h
        refine lv_aload_n S.1 S.2.1 dX9_takesItem_69 rfl (lv_at hl 0 rfl) ?_
        refine lv_bipush (v := (6 : Int32)) S.1 S.2.1 dX9_takesItem_70 kb_6 ?_
        refine lv_bipush (v := (111 : Int32)) S.1 S.2.1 dX9_takesItem_72 kb_111 ?_
        refine lv_bipush (v := (98 : Int32)) S.1 S.2.1 dX9_takesItem_74 kb_98 ?_
        refine lv_bipush (v := (106 : Int32)) S.1 S.2.1 dX9_takesItem_76 kb_106 ?_
        refine lv_bipush (v := (101 : Int32)) S.1 S.2.1 dX9_takesItem_78 kb_101 ?_
        refine lv_bipush (v := (99 : Int32)) S.1 S.2.1 dX9_takesItem_80 kb_99 ?_
        refine lv_bipush (v := (116 : Int32)) S.1 S.2.1 dX9_takesItem_82 kb_116 ?_
        obtain ⟨r10, hy11, h⟩ := bd1_e h
        refine kv0 S hK hN hZ hA hW (rest := []) (t_X9_spells l dC dI cI cJ cZ cB zz h0 a0 F c0 w0 (6 : Int32) (111 : Int32) (98 : Int32) (106 : Int32) (101 : Int32) (99 : Int32) (116 : Int32) _  hy11) wl_X9_311 wv_X9_spells rfl rfl ⟨Nat.le_of_ble_eq_true rfl, Nat.le_of_ble_eq_true rfl⟩ [] [] rfl 0 rfl rfl rfl rfl hl.1 rfl (Nat.le_of_ble_eq_true rfl) dX9_takesItem_84 [.int r10] rfl (fun H locs hW => ?_)
        refine lv_if_eq (tgt := 101) S.1 S.2.1 dX9_takesItem_87 (by decide) (fun u12 => ?_) (fun u12 => ?_)
        · have h := of_p u12 h
          refine lv_iconst (v := (0 : Int32)) S.1 S.2.1 dX9_takesItem_101 ki_0 ?_
          have f13 := Option.some.inj h
          obtain ⟨f14, f15⟩ := Prod.mk.inj f13
          subst f14
          subst f15
          exact rz S hr hlocks hW (nz (Or.inl rfl)) dX9_takesItem_102
        · have h := of_n u12 h
          refine lv_aload_n S.1 S.2.1 dX9_takesItem_90 rfl (lv_at hl 0 rfl) ?_
          obtain ⟨r16, cv17, hy18, h⟩ := bd2_e h
          refine kv (clX9 cI cJ cZ cB h0 a0 (cv17 0) (cv17 1) (cv17 2) (cv17 3) (w0 4 0) (w0 5 0) (cv17 6) (cv17 7) (cv17 8) (cv17 9) (cv17 10) (cv17 11) (cv17 12) (cv17 13) (cv17 14 0) (cv17 15 0) (cv17 16 0) (cv17 17 0) (cv17 18) (cv17 19) (cv17 20) (cv17 21 0) (cv17 22 0) (cv17 23 0) (cv17 24 0) (cv17 25 0) (cv17 26) (cv17 27) []) S hK hN hZ hA hW (rest := []) (t_X9_takesObjecting l dC dI cI cJ cZ cB zz h0 a0 F c0 w0 _ _  hy18) wl_X9_324 wv_X9_takesObjecting rfl rfl ⟨Nat.le_of_ble_eq_true rfl, Nat.le_of_ble_eq_true rfl⟩ [] [] rfl rfl rfl 0 rfl rfl rfl rfl hl.1 rfl (Nat.le_of_ble_eq_true rfl) dX9_takesItem_91 [.int r16] rfl (fun H locs hW => ?_)
          refine lv_if_eq (tgt := 101) S.1 S.2.1 dX9_takesItem_94 (by decide) (fun u19 => ?_) (fun u19 => ?_)
          · have h := of_p u19 h
            refine lv_iconst (v := (0 : Int32)) S.1 S.2.1 dX9_takesItem_101 ki_0 ?_
            have f20 := Option.some.inj h
            obtain ⟨f21, f22⟩ := Prod.mk.inj f20
            subst f21
            subst f22
            exact rz S hr hlocks hW (nz (Or.inl rfl)) dX9_takesItem_102
          · have h := of_n u19 h
            refine lv_iconst (v := (1 : Int32)) S.1 S.2.1 dX9_takesItem_97 ki_1 ?_
            refine lv_goto (tgt := 102) S.1 S.2.1 dX9_takesItem_98 (by decide) ?_
            have f23 := Option.some.inj h
            obtain ⟨f24, f25⟩ := Prod.mk.inj f23
            subst f24
            subst f25
            exact rz S hr hlocks hW (nz (Or.inr rfl)) dX9_takesItem_102
      · have h := of_n u9 h
        refine lv_aload_n S.1 S.2.1 dX9_takesItem_64 rfl (lv_at hl 0 rfl) ?_
        obtain ⟨r26, cv27, hy28, h⟩ := bd2_e h
        refine kv (clX9 cI cJ cZ cB h0 a0 (cv27 0) (cv27 1) (cv27 2) (cv27 3) (w0 4 0) (w0 5 0) (cv27 6) (cv27 7) (cv27 8) (cv27 9) (cv27 10) (cv27 11) (cv27 12) (cv27 13) (cv27 14 0) (cv27 15 0) (cv27 16 0) (cv27 17 0) (cv27 18) (cv27 19) (cv27 20) (cv27 21 0) (cv27 22 0) (cv27 23 0) (cv27 24 0) (cv27 25 0) (cv27 26) (cv27 27) []) S hK hN hZ hA hW (rest := []) (t_X9_takesSaying l dC dI cI cJ cZ cB zz h0 a0 F c0 w0 _ _  hy28) wl_X9_321 wv_X9_takesSaying rfl rfl ⟨Nat.le_of_ble_eq_true rfl, Nat.le_of_ble_eq_true rfl⟩ [] [] rfl rfl rfl 0 rfl rfl rfl rfl hl.1 rfl (Nat.le_of_ble_eq_true rfl) dX9_takesItem_65 [.int r26] rfl (fun H locs hW => ?_)
        obtain ⟨z29, h⟩ := of_g h
        have f30 := Option.some.inj h
        obtain ⟨f31, f32⟩ := Prod.mk.inj f30
        subst f31
        subst f32
        exact rz S hr hlocks hW (nz z29) dX9_takesItem_68
    · have h := of_n u6 h
      refine lv_aload_n S.1 S.2.1 dX9_takesItem_42 rfl (lv_at hl 0 rfl) ?_
      obtain ⟨r33, cv34, hy35, h⟩ := bd2_e h
      refine kv (clX9 cI cJ cZ cB h0 a0 (cv34 0) (cv34 1) (cv34 2) (cv34 3) (w0 4 0) (w0 5 0) (cv34 6) (cv34 7) (cv34 8) (cv34 9) (cv34 10) (cv34 11) (cv34 12) (cv34 13) (cv34 14 0) (cv34 15 0) (cv34 16 0) (cv34 17 0) (cv34 18) (cv34 19) (cv34 20) (cv34 21 0) (cv34 22 0) (cv34 23 0) (cv34 24 0) (cv34 25 0) (cv34 26) (cv34 27) []) S hK hN hZ hA hW (rest := []) (t_X9_takesPoint l dC dI cI cJ cZ cB zz h0 a0 F c0 w0 _ _  hy35) wl_X9_318 wv_X9_takesPoint rfl rfl ⟨Nat.le_of_ble_eq_true rfl, Nat.le_of_ble_eq_true rfl⟩ [] [] rfl rfl rfl 0 rfl rfl rfl rfl hl.1 rfl (Nat.le_of_ble_eq_true rfl) dX9_takesItem_43 [.int r33] rfl (fun H locs hW => ?_)
      obtain ⟨z36, h⟩ := of_g h
      have f37 := Option.some.inj h
      obtain ⟨f38, f39⟩ := Prod.mk.inj f37
      subst f38
      subst f39
      exact rz S hr hlocks hW (nz z36) dX9_takesItem_46
  · have h := of_n u3 h
    refine lv_aload_n S.1 S.2.1 dX9_takesItem_18 rfl (lv_at hl 0 rfl) ?_
    obtain ⟨r40, cv41, hy42, h⟩ := bd2_e h
    refine kv (clX9 cI cJ cZ cB h0 a0 (cv41 0) (cv41 1) (cv41 2) (cv41 3) (w0 4 0) (w0 5 0) (cv41 6) (cv41 7) (cv41 8) (cv41 9) (cv41 10) (cv41 11) (cv41 12) (cv41 13) (cv41 14 0) (cv41 15 0) (cv41 16 0) (cv41 17 0) (cv41 18) (cv41 19) (cv41 20) (cv41 21 0) (cv41 22 0) (cv41 23 0) (cv41 24 0) (cv41 25 0) (cv41 26) (cv41 27) []) S hK hN hZ hA hW (rest := []) (t_X9_takesBows l dC dI cI cJ cZ cB zz h0 a0 F c0 w0 _ _  hy42) wl_X9_315 wv_X9_takesBows rfl rfl ⟨Nat.le_of_ble_eq_true rfl, Nat.le_of_ble_eq_true rfl⟩ [] [] rfl rfl rfl 0 rfl rfl rfl rfl hl.1 rfl (Nat.le_of_ble_eq_true rfl) dX9_takesItem_19 [.int r40] rfl (fun H locs hW => ?_)
    obtain ⟨z43, h⟩ := of_g h
    have f44 := Option.some.inj h
    obtain ⟨f45, f46⟩ := Prod.mk.inj f44
    subst f45
    subst f46
    exact rz S hr hlocks hW (nz z43) dX9_takesItem_22
abbrev rmX9_readInto : Room := { frames := 7, cells := 0, slots := 0, locals := 152 }
set_option maxHeartbeats 4000000 in
set_option maxRecDepth 100000 in
theorem t_X9_readInto (l : Launch) (dC : Nat → ClassId) (dI : Nat → Nat → Nat) (cI cJ cZ cB : ClassId) (zz : ZT)  (h0 : Nat) (a0 : Nat → Nat) (F : Nat) (c0 : Nat → Nat → Int32) (w0 : Nat → Nat → Int64) (r : Int32) (c0' : Nat → Nat → Int32) (hm : md_X9_readInto F c0 w0 = some (r, c0')) : ct l (dC, dI) zz (ty4 cI cJ cZ cB) yX9_readInto cX9_readInto 2 (some .int) rmX9_readInto [.ref h0] (cwX9 cI cJ cZ cB h0 a0 c0 w0 []) (cwX9 cI cJ cZ cB h0 a0 c0' w0 []) (some (.int r)) := by
  refine ct_of (cc := cX9_readInto) (maxL := 2) (ret := (some .int)) (by decide) (Nat.le_of_ble_eq_true rfl) ?_
  intro p e s m below meth c A S hr hlocks hK hN hZ hA H locs hW ls hl
  have S : CallFix p m c cX9_readInto 2 s (List.toArray [.ref h0]) G RX9 := S
  have hl : lv_has ls 2 [(0, .ref h0)] := hl
  have h := hm
  rw [md_X9_readInto] at h
  have hW : wd (dC, dI) A s.heap (clX9 cI cJ cZ cB h0 a0 (c0 0) (c0 1) (c0 2) (c0 3) (w0 4 0) (w0 5 0) (c0 6) (c0 7) (c0 8) (c0 9) (c0 10) (c0 11) (c0 12) (c0 13) (c0 14 0) (c0 15 0) (c0 16 0) (c0 17 0) (c0 18) (c0 19) (c0 20) (c0 21 0) (c0 22 0) (c0 23 0) (c0 24 0) (c0 25 0) (c0 26) (c0 27) []) H locs := hW
  have hJ87 : ∀ (c0 : Nat → Nat → Int32), jd_X9_readInto_87 F w0 c0 = some (r, c0') → ∀ (H : Heap) (locs : List Loc), wd (dC, dI) A s.heap (clX9 cI cJ cZ cB h0 a0 (c0 0) (c0 1) (c0 2) (c0 3) (w0 4 0) (w0 5 0) (c0 6) (c0 7) (c0 8) (c0 9) (c0 10) (c0 11) (c0 12) (c0 13) (c0 14 0) (c0 15 0) (c0 16 0) (c0 17 0) (c0 18) (c0 19) (c0 20) (c0 21 0) (c0 22 0) (c0 23 0) (c0 24 0) (c0 25 0) (c0 26) (c0 27) []) H locs → ∀ ls : Array Slot, lv_has ls 2 [(0, .ref h0)] → W p l e rmX9_readInto s m (List.toArray [.ref h0]) below meth c H locs 0 0 (MQ below (kQ (dC, dI) (cwX9 cI cJ cZ cB h0 a0 c0' w0 []) (some (.int r)) A) (List.toArray [.ref h0]) s 0 0 A) (F0 m 87 ls []) := by
    intro c0 h H locs hW ls hl
    rw [jd_X9_readInto_87] at h
    refine lv_bipush (v := (-10 : Int32)) S.1 S.2.1 dX9_readInto_87 kb_m10 ?_
    refine lv_aload_n S.1 S.2.1 dX9_readInto_89 rfl (lv_at hl 0 rfl) ?_
    refine gf (C := RX9) (T := TX9) (N := 28) (ci := 5) (k := 22) S hK hW wu_X9 rfl (by decide) wf_X9_278 0 rfl rfl dX9_readInto_90 ?_
    refine lv_isub S.1 S.2.1 dX9_readInto_93 ?_
    have f1 := Option.some.inj h
    obtain ⟨f2, f3⟩ := Prod.mk.inj f1
    subst f2
    subst f3
    exact ri S hr hlocks hW dX9_readInto_94
  have hL65 : ∀ (n65 : Nat) (c0 : Nat → Nat → Int32) (x1 : Int32), ld_X9_readInto_65 F w0 n65 c0 x1 = some (r, c0') → ∀ (H : Heap) (locs : List Loc), wd (dC, dI) A s.heap (clX9 cI cJ cZ cB h0 a0 (c0 0) (c0 1) (c0 2) (c0 3) (w0 4 0) (w0 5 0) (c0 6) (c0 7) (c0 8) (c0 9) (c0 10) (c0 11) (c0 12) (c0 13) (c0 14 0) (c0 15 0) (c0 16 0) (c0 17 0) (c0 18) (c0 19) (c0 20) (c0 21 0) (c0 22 0) (c0 23 0) (c0 24 0) (c0 25 0) (c0 26) (c0 27) []) H locs → ∀ ls : Array Slot, lv_has ls 2 [(0, .ref h0), (1, .int x1)] → W p l e rmX9_readInto s m (List.toArray [.ref h0]) below meth c H locs 0 0 (MQ below (kQ (dC, dI) (cwX9 cI cJ cZ cB h0 a0 c0' w0 []) (some (.int r)) A) (List.toArray [.ref h0]) s 0 0 A) (F0 m 65 ls []) := by
    intro n65
    induction n65 with
    | zero => intro c0 x1 h; rw [ld_X9_readInto_65] at h; cases h
    | succ n65 ih65 =>
      intro c0 x1 h H locs hW ls hl
      rw [ld_X9_readInto_65] at h
      refine lv_aload_n S.1 S.2.1 dX9_readInto_65 rfl (lv_at hl 0 rfl) ?_
      refine gf (C := RX9) (T := TX9) (N := 28) (ci := 5) (k := 24) S hK hW wu_X9 rfl (by decide) wf_X9_284 0 rfl rfl dX9_readInto_66 ?_
      refine lv_if_eq (tgt := 105) S.1 S.2.1 dX9_readInto_69 (by decide) (fun u4 => ?_) (fun u4 => ?_)
      · have h := of_p u4 h
        refine lv_iload_n S.1 S.2.1 dX9_readInto_105 rfl (lv_at hl 1 rfl) ?_
        have f5 := Option.some.inj h
        obtain ⟨f6, f7⟩ := Prod.mk.inj f5
        subst f6
        subst f7
        exact ri S hr hlocks hW dX9_readInto_106
      · have h := of_n u4 h
        refine lv_aload_n S.1 S.2.1 dX9_readInto_72 rfl (lv_at hl 0 rfl) ?_
        obtain ⟨r8, cv9, hy10, h⟩ := bd2_e h
        refine kv (clX9 cI cJ cZ cB h0 a0 (cv9 0) (cv9 1) (cv9 2) (cv9 3) (w0 4 0) (w0 5 0) (cv9 6) (cv9 7) (cv9 8) (cv9 9) (cv9 10) (cv9 11) (cv9 12) (cv9 13) (cv9 14 0) (cv9 15 0) (cv9 16 0) (cv9 17 0) (cv9 18) (cv9 19) (cv9 20) (cv9 21 0) (cv9 22 0) (cv9 23 0) (cv9 24 0) (cv9 25 0) (cv9 26) (cv9 27) []) S hK hN hZ hA hW (rest := []) (t_X9_takesItem l dC dI cI cJ cZ cB zz h0 a0 F c0 w0 _ _  hy10) wl_X9_327 wv_X9_takesItem rfl rfl ⟨Nat.le_of_ble_eq_true rfl, Nat.le_of_ble_eq_true rfl⟩ [] [] rfl rfl rfl 0 rfl rfl rfl rfl hl.1 rfl (Nat.le_of_ble_eq_true rfl) dX9_readInto_73 [.int r8] rfl (fun H locs hW => ?_)
        refine lv_if_eq (tgt := 87) S.1 S.2.1 dX9_readInto_76 (by decide) (fun u11 => ?_) (fun u11 => ?_)
        · have h := of_p u11 h
          exact hJ87 _ h H locs hW ls (lv_sub hl [0] rfl)
        · have h := of_n u11 h
          refine lv_aload_n S.1 S.2.1 dX9_readInto_79 rfl (lv_at hl 0 rfl) ?_
          refine gf (C := RX9) (T := TX9) (N := 28) (ci := 5) (k := 24) S hK hW wu_X9 rfl (by decide) wf_X9_284 0 rfl rfl dX9_readInto_80 ?_
          refine lv_iconst (v := (3 : Int32)) S.1 S.2.1 dX9_readInto_83 ki_3 ?_
          refine lv_icmp_eq (tgt := 95) S.1 S.2.1 dX9_readInto_84 (by decide) (fun u12 => ?_) (fun u12 => ?_)
          · have h := of_p u12 h
            refine lv_aload_n S.1 S.2.1 dX9_readInto_95 rfl (lv_at hl 0 rfl) ?_
            obtain ⟨cv13, hy14, h⟩ := bd1_e h
            refine kv (clX9 cI cJ cZ cB h0 a0 (cv13 0) (cv13 1) (cv13 2) (cv13 3) (w0 4 0) (w0 5 0) (cv13 6) (cv13 7) (cv13 8) (cv13 9) (cv13 10) (cv13 11) (cv13 12) (cv13 13) (cv13 14 0) (cv13 15 0) (cv13 16 0) (cv13 17 0) (cv13 18) (cv13 19) (cv13 20) (cv13 21 0) (cv13 22 0) (cv13 23 0) (cv13 24 0) (cv13 25 0) (cv13 26) (cv13 27) []) S hK hN hZ hA hW (rest := []) (t_X9_goBehind l dC dI cI cJ cZ cB zz h0 a0 F cv9 w0 _  hy14) wl_X9_299 wv_X9_goBehind rfl rfl ⟨Nat.le_of_ble_eq_true rfl, Nat.le_of_ble_eq_true rfl⟩ [] [] rfl rfl rfl 0 rfl rfl rfl rfl hl.1 rfl (Nat.le_of_ble_eq_true rfl) dX9_readInto_96 [] rfl (fun H locs hW => ?_)
            refine lv_iinc (v := (x1 + (1 : Int32))) (lv' := [(1, .int (x1 + (1 : Int32))), (0, .ref h0)]) S.1 S.2.1 dX9_readInto_99 hl (k := 1) rfl (congrArg (fun z => x1 + z) ki_1) (by decide) rfl (fun ls hl => ?_)
            refine lv_goto (tgt := 65) S.1 S.2.1 dX9_readInto_102 (by decide) ?_
            exact ih65 _ _ h H locs hW ls (lv_sub hl [1, 0] rfl)
          · have h := of_n u12 h
            exact hJ87 _ h H locs hW ls (lv_sub hl [0] rfl)
  have hJ32 : ∀ (c0 : Nat → Nat → Int32), jd_X9_readInto_32 F w0 c0 = some (r, c0') → ∀ (H : Heap) (locs : List Loc), wd (dC, dI) A s.heap (clX9 cI cJ cZ cB h0 a0 (c0 0) (c0 1) (c0 2) (c0 3) (w0 4 0) (w0 5 0) (c0 6) (c0 7) (c0 8) (c0 9) (c0 10) (c0 11) (c0 12) (c0 13) (c0 14 0) (c0 15 0) (c0 16 0) (c0 17 0) (c0 18) (c0 19) (c0 20) (c0 21 0) (c0 22 0) (c0 23 0) (c0 24 0) (c0 25 0) (c0 26) (c0 27) []) H locs → ∀ ls : Array Slot, lv_has ls 2 [(0, .ref h0)] → W p l e rmX9_readInto s m (List.toArray [.ref h0]) below meth c H locs 0 0 (MQ below (kQ (dC, dI) (cwX9 cI cJ cZ cB h0 a0 c0' w0 []) (some (.int r)) A) (List.toArray [.ref h0]) s 0 0 A) (F0 m 32 ls []) := by
    intro c0 h H locs hW ls hl
    rw [jd_X9_readInto_32] at h
    refine lv_bipush (v := (-10 : Int32)) S.1 S.2.1 dX9_readInto_32 kb_m10 ?_
    refine lv_aload_n S.1 S.2.1 dX9_readInto_34 rfl (lv_at hl 0 rfl) ?_
    refine gf (C := RX9) (T := TX9) (N := 28) (ci := 5) (k := 22) S hK hW wu_X9 rfl (by decide) wf_X9_278 0 rfl rfl dX9_readInto_35 ?_
    refine lv_isub S.1 S.2.1 dX9_readInto_38 ?_
    have f15 := Option.some.inj h
    obtain ⟨f16, f17⟩ := Prod.mk.inj f15
    subst f16
    subst f17
    exact ri S hr hlocks hW dX9_readInto_39
  refine lv_aload_n S.1 S.2.1 dX9_readInto_0 rfl (lv_at hl 0 rfl) ?_
  obtain ⟨cv18, hy19, h⟩ := bd1_e h
  refine kv (clX9 cI cJ cZ cB h0 a0 (cv18 0) (cv18 1) (cv18 2) (cv18 3) (w0 4 0) (w0 5 0) (cv18 6) (cv18 7) (cv18 8) (cv18 9) (cv18 10) (cv18 11) (cv18 12) (cv18 13) (cv18 14 0) (cv18 15 0) (cv18 16 0) (cv18 17 0) (cv18 18) (cv18 19) (cv18 20) (cv18 21 0) (cv18 22 0) (cv18 23 0) (cv18 24 0) (cv18 25 0) (cv18 26) (cv18 27) []) S hK hN hZ hA hW (rest := []) (t_X9_goBehind l dC dI cI cJ cZ cB zz h0 a0 F c0 w0 _  hy19) wl_X9_299 wv_X9_goBehind rfl rfl ⟨Nat.le_of_ble_eq_true rfl, Nat.le_of_ble_eq_true rfl⟩ [] [] rfl rfl rfl 0 rfl rfl rfl rfl hl.1 rfl (Nat.le_of_ble_eq_true rfl) dX9_readInto_1 [] rfl (fun H locs hW => ?_)
  refine lv_aload_n S.1 S.2.1 dX9_readInto_4 rfl (lv_at hl 0 rfl) ?_
  refine lv_iconst (v := (0 : Int32)) S.1 S.2.1 dX9_readInto_5 ki_0 ?_
  refine lv_iconst (v := (0 : Int32)) S.1 S.2.1 dX9_readInto_6 ki_0 ?_
  refine lv_iconst (v := (5 : Int32)) S.1 S.2.1 dX9_readInto_7 ki_5 ?_
  obtain ⟨r20, cv21, hy22, h⟩ := bd2_e h
  refine kv (clX9 cI cJ cZ cB h0 a0 (cv21 0) (cv21 1) (cv21 2) (cv21 3) (w0 4 0) (w0 5 0) (cv21 6) (cv21 7) (cv21 8) (cv21 9) (cv21 10) (cv21 11) (cv21 12) (cv21 13) (cv21 14 0) (cv21 15 0) (cv21 16 0) (cv21 17 0) (cv21 18) (cv21 19) (cv21 20) (cv21 21 0) (cv21 22 0) (cv21 23 0) (cv21 24 0) (cv21 25 0) (cv21 26) (cv21 27) []) S hK hN hZ hA hW (rest := []) (t_X9_takes l dC dI cI cJ cZ cB zz h0 a0 F cv18 w0 (0 : Int32) (0 : Int32) (5 : Int32) _ _  hy22) wl_X9_302 wv_X9_takes rfl rfl ⟨Nat.le_of_ble_eq_true rfl, Nat.le_of_ble_eq_true rfl⟩ [] [] rfl rfl rfl 0 rfl rfl rfl rfl hl.1 rfl (Nat.le_of_ble_eq_true rfl) dX9_readInto_8 [.int r20] rfl (fun H locs hW => ?_)
  refine lv_if_eq (tgt := 32) S.1 S.2.1 dX9_readInto_11 (by decide) (fun u23 => ?_) (fun u23 => ?_)
  · have h := of_p u23 h
    exact hJ32 _ h H locs hW ls (lv_sub hl [0] rfl)
  · have h := of_n u23 h
    refine lv_aload_n S.1 S.2.1 dX9_readInto_14 rfl (lv_at hl 0 rfl) ?_
    refine lv_iconst (v := (1 : Int32)) S.1 S.2.1 dX9_readInto_15 ki_1 ?_
    refine lv_iconst (v := (0 : Int32)) S.1 S.2.1 dX9_readInto_16 ki_0 ?_
    refine lv_iconst (v := (5 : Int32)) S.1 S.2.1 dX9_readInto_17 ki_5 ?_
    obtain ⟨r24, cv25, hy26, h⟩ := bd2_e h
    refine kv (clX9 cI cJ cZ cB h0 a0 (cv25 0) (cv25 1) (cv25 2) (cv25 3) (w0 4 0) (w0 5 0) (cv25 6) (cv25 7) (cv25 8) (cv25 9) (cv25 10) (cv25 11) (cv25 12) (cv25 13) (cv25 14 0) (cv25 15 0) (cv25 16 0) (cv25 17 0) (cv25 18) (cv25 19) (cv25 20) (cv25 21 0) (cv25 22 0) (cv25 23 0) (cv25 24 0) (cv25 25 0) (cv25 26) (cv25 27) []) S hK hN hZ hA hW (rest := []) (t_X9_takes l dC dI cI cJ cZ cB zz h0 a0 F cv21 w0 (1 : Int32) (0 : Int32) (5 : Int32) _ _  hy26) wl_X9_302 wv_X9_takes rfl rfl ⟨Nat.le_of_ble_eq_true rfl, Nat.le_of_ble_eq_true rfl⟩ [] [] rfl rfl rfl 0 rfl rfl rfl rfl hl.1 rfl (Nat.le_of_ble_eq_true rfl) dX9_readInto_18 [.int r24] rfl (fun H locs hW => ?_)
    refine lv_if_eq (tgt := 32) S.1 S.2.1 dX9_readInto_21 (by decide) (fun u27 => ?_) (fun u27 => ?_)
    · have h := of_p u27 h
      exact hJ32 _ h H locs hW ls (lv_sub hl [0] rfl)
    · have h := of_n u27 h
      refine lv_aload_n S.1 S.2.1 dX9_readInto_24 rfl (lv_at hl 0 rfl) ?_
      refine gf (C := RX9) (T := TX9) (N := 28) (ci := 5) (k := 24) S hK hW wu_X9 rfl (by decide) wf_X9_284 0 rfl rfl dX9_readInto_25 ?_
      refine lv_iconst (v := (3 : Int32)) S.1 S.2.1 dX9_readInto_28 ki_3 ?_
      refine lv_icmp_eq (tgt := 40) S.1 S.2.1 dX9_readInto_29 (by decide) (fun u28 => ?_) (fun u28 => ?_)
      · have h := of_p u28 h
        refine lv_aload_n S.1 S.2.1 dX9_readInto_40 rfl (lv_at hl 0 rfl) ?_
        obtain ⟨cv29, hy30, h⟩ := bd1_e h
        refine kv (clX9 cI cJ cZ cB h0 a0 (cv29 0) (cv29 1) (cv29 2) (cv29 3) (w0 4 0) (w0 5 0) (cv29 6) (cv29 7) (cv29 8) (cv29 9) (cv29 10) (cv29 11) (cv29 12) (cv29 13) (cv29 14 0) (cv29 15 0) (cv29 16 0) (cv29 17 0) (cv29 18) (cv29 19) (cv29 20) (cv29 21 0) (cv29 22 0) (cv29 23 0) (cv29 24 0) (cv29 25 0) (cv29 26) (cv29 27) []) S hK hN hZ hA hW (rest := []) (t_X9_goBehind l dC dI cI cJ cZ cB zz h0 a0 F cv25 w0 _  hy30) wl_X9_299 wv_X9_goBehind rfl rfl ⟨Nat.le_of_ble_eq_true rfl, Nat.le_of_ble_eq_true rfl⟩ [] [] rfl rfl rfl 0 rfl rfl rfl rfl hl.1 rfl (Nat.le_of_ble_eq_true rfl) dX9_readInto_41 [] rfl (fun H locs hW => ?_)
        refine lv_aload_n S.1 S.2.1 dX9_readInto_44 rfl (lv_at hl 0 rfl) ?_
        refine gf (C := RX9) (T := TX9) (N := 28) (ci := 5) (k := 0) S hK hW wu_X9 rfl (by decide) wf_X9_7 0 rfl rfl dX9_readInto_45 ?_
        refine lv_aload_n S.1 S.2.1 dX9_readInto_48 rfl (lv_at hl 0 rfl) ?_
        refine gf (C := RX9) (T := TX9) (N := 28) (ci := 5) (k := 27) S hK hW wu_X9 rfl (by decide) wf_X9_63 0 rfl rfl dX9_readInto_49 ?_
        refine lv_iconst (v := (0 : Int32)) S.1 S.2.1 dX9_readInto_52 ki_0 ?_
        refine iaK S hK hW rfl 17 rfl b_0_3 x_0 dX9_readInto_53 ?_
        refine lv_aload_n S.1 S.2.1 dX9_readInto_54 rfl (lv_at hl 0 rfl) ?_
        refine gf (C := RX9) (T := TX9) (N := 28) (ci := 5) (k := 27) S hK hW wu_X9 rfl (by decide) wf_X9_63 0 rfl rfl dX9_readInto_55 ?_
        refine lv_iconst (v := (1 : Int32)) S.1 S.2.1 dX9_readInto_58 ki_1 ?_
        refine iaK S hK hW rfl 17 rfl b_1_3 x_1 dX9_readInto_59 ?_
        obtain ⟨cv31, hy32, h⟩ := bd1_e h
        refine ks (clX9 cI cJ cZ cB h0 a0 (cv31 0) (cv29 1) (cv29 2) (cv29 3) (w0 4 0) (w0 5 0) (cv29 6) (cv29 7) (cv29 8) (cv29 9) (cv29 10) (cv29 11) (cv29 12) (cv29 13) (cv29 14 0) (cv29 15 0) (cv29 16 0) (cv29 17 0) (cv29 18) (cv29 19) (cv29 20) (cv29 21 0) (cv29 22 0) (cv29 23 0) (cv29 24 0) (cv29 25 0) (cv29 26) (cv29 27) []) S hK hN hZ hA hW (rest := []) (t_X9_begin l dC dI cI cJ cZ cB zz (fun _ => a0 0) F (fun _ => (cv29 0)) ((cv29 27) 0) ((cv29 27) 1) _  hy32) wl_X9_66 wv_X9_begin rfl rfl ⟨Nat.le_of_ble_eq_true rfl, Nat.le_of_ble_eq_true rfl⟩ [(h0, .inr (5, [.ref (a0 0), .ref (a0 1), .ref (a0 2), .ref (a0 3), .long (w0 4 0), .long (w0 5 0), .ref (a0 6), .ref (a0 7), .ref (a0 8), .ref (a0 9), .ref (a0 10), .ref (a0 11), .ref (a0 12), .ref (a0 13), .int (cv29 14 0), .int (cv29 15 0), .int (cv29 16 0), .int (cv29 17 0), .ref (a0 18), .ref (a0 19), .ref (a0 20), .int (cv29 21 0), .int (cv29 22 0), .int (cv29 23 0), .int (cv29 24 0), .int (cv29 25 0), .ref (a0 26), .ref (a0 27)]))] [(a0 1, .inl (cI, 388, .inl (cv29 1))), (a0 2, .inl (cZ, 2, .inl (cv29 2))), (a0 3, .inl (cI, 3, .inl (cv29 3))), (a0 6, .inl (cI, 14, .inl (cv29 6))), (a0 7, .inl (cI, 14, .inl (cv29 7))), (a0 8, .inl (cI, 14, .inl (cv29 8))), (a0 9, .inl (cI, 14, .inl (cv29 9))), (a0 10, .inl (cI, 28, .inl (cv29 10))), (a0 11, .inl (cI, 14, .inl (cv29 11))), (a0 12, .inl (cI, 14, .inl (cv29 12))), (a0 13, .inl (cI, 14, .inl (cv29 13))), (a0 18, .inl (cI, 2, .inl (cv29 18))), (a0 19, .inl (cI, 6, .inl (cv29 19))), (a0 20, .inl (cI, 150, .inl (cv29 20))), (a0 26, .inl (cI, 90, .inl (cv29 26))), (a0 27, .inl (cI, 3, .inl (cv29 27)))] rfl rfl rfl rfl hl.1 rfl (Nat.le_of_ble_eq_true rfl) dX9_readInto_60 [] rfl (fun H locs hW => ?_)
        refine lv_iconst (v := (1 : Int32)) S.1 S.2.1 dX9_readInto_63 ki_1 ?_
        refine lv_istore_n (lv' := [(1, .int (1 : Int32)), (0, .ref h0)]) S.1 S.2.1 dX9_readInto_64 rfl hl (by decide) rfl (fun ls hl => ?_)
        exact hL65 F _ _ h H locs hW ls (lv_sub hl [1, 0] rfl)
      · have h := of_n u28 h
        exact hJ32 _ h H locs hW ls (lv_sub hl [0] rfl)
abbrev rmX9_read : Room := { frames := 8, cells := 0, slots := 0, locals := 173 }
set_option maxHeartbeats 4000000 in
set_option maxRecDepth 100000 in
theorem t_X9_read (l : Launch) (dC : Nat → ClassId) (dI : Nat → Nat → Nat) (cI cJ cZ cB : ClassId) (zz : ZT)  (h0 : Nat) (a0 : Nat → Nat) (F : Nat) (c0 : Nat → Nat → Int32) (w0 : Nat → Nat → Int64) (r : Int32) (c0' : Nat → Nat → Int32) (hm : md_X9_read F c0 w0 = some (r, c0')) : ct l (dC, dI) zz (ty4 cI cJ cZ cB) yX9_read cX9_read 3 (some .int) rmX9_read [.ref h0] (cwX9 cI cJ cZ cB h0 a0 c0 w0 []) (cwX9 cI cJ cZ cB h0 a0 c0' w0 []) (some (.int r)) := by
  refine ct_of (cc := cX9_read) (maxL := 3) (ret := (some .int)) (by decide) (Nat.le_of_ble_eq_true rfl) ?_
  intro p e s m below meth c A S hr hlocks hK hN hZ hA H locs hW ls hl
  have S : CallFix p m c cX9_read 3 s (List.toArray [.ref h0]) G RX9 := S
  have hl : lv_has ls 3 [(0, .ref h0)] := hl
  have h := hm
  rw [md_X9_read] at h
  have hW : wd (dC, dI) A s.heap (clX9 cI cJ cZ cB h0 a0 (c0 0) (c0 1) (c0 2) (c0 3) (w0 4 0) (w0 5 0) (c0 6) (c0 7) (c0 8) (c0 9) (c0 10) (c0 11) (c0 12) (c0 13) (c0 14 0) (c0 15 0) (c0 16 0) (c0 17 0) (c0 18) (c0 19) (c0 20) (c0 21 0) (c0 22 0) (c0 23 0) (c0 24 0) (c0 25 0) (c0 26) (c0 27) []) H locs := hW
  have hL64 : ∀ (n64 : Nat) (c0 : Nat → Nat → Int32) (x1 : Int32) (x2 : Int32), ld_X9_read_64 F w0 n64 c0 x1 x2 = some (r, c0') → ∀ (H : Heap) (locs : List Loc), wd (dC, dI) A s.heap (clX9 cI cJ cZ cB h0 a0 (c0 0) (c0 1) (c0 2) (c0 3) (w0 4 0) (w0 5 0) (c0 6) (c0 7) (c0 8) (c0 9) (c0 10) (c0 11) (c0 12) (c0 13) (c0 14 0) (c0 15 0) (c0 16 0) (c0 17 0) (c0 18) (c0 19) (c0 20) (c0 21 0) (c0 22 0) (c0 23 0) (c0 24 0) (c0 25 0) (c0 26) (c0 27) []) H locs → ∀ ls : Array Slot, lv_has ls 3 [(0, .ref h0), (1, .int x1), (2, .int x2)] → W p l e rmX9_read s m (List.toArray [.ref h0]) below meth c H locs 0 0 (MQ below (kQ (dC, dI) (cwX9 cI cJ cZ cB h0 a0 c0' w0 []) (some (.int r)) A) (List.toArray [.ref h0]) s 0 0 A) (F0 m 64 ls []) := by
    intro n64
    induction n64 with
    | zero => intro c0 x1 x2 h; rw [ld_X9_read_64] at h; cases h
    | succ n64 ih64 =>
      intro c0 x1 x2 h H locs hW ls hl
      rw [ld_X9_read_64] at h
      refine lv_iload_n S.1 S.2.1 dX9_read_64 rfl (lv_at hl 2 rfl) ?_
      refine lv_bipush (v := (90 : Int32)) S.1 S.2.1 dX9_read_65 kb_90 ?_
      refine lv_icmp_ge (tgt := 92) S.1 S.2.1 dX9_read_67 (by decide) (fun u1 => ?_) (fun u1 => ?_)
      · have h := of_p u1 h
        refine lv_iload_n S.1 S.2.1 dX9_read_92 rfl (lv_at hl 1 rfl) ?_
        have f2 := Option.some.inj h
        obtain ⟨f3, f4⟩ := Prod.mk.inj f2
        subst f3
        subst f4
        exact ri S hr hlocks hW dX9_read_93
      · have h := of_n u1 h
        refine lv_iload_n S.1 S.2.1 dX9_read_70 rfl (lv_at hl 1 rfl) ?_
        refine lv_if_ge (tgt := 92) S.1 S.2.1 dX9_read_71 (by decide) (fun u5 => ?_) (fun u5 => ?_)
        · have h := of_p u5 h
          refine lv_iload_n S.1 S.2.1 dX9_read_92 rfl (lv_at hl 1 rfl) ?_
          have f6 := Option.some.inj h
          obtain ⟨f7, f8⟩ := Prod.mk.inj f6
          subst f7
          subst f8
          exact ri S hr hlocks hW dX9_read_93
        · have h := of_n u5 h
          refine lv_aload_n S.1 S.2.1 dX9_read_74 rfl (lv_at hl 0 rfl) ?_
          refine gf (C := RX9) (T := TX9) (N := 28) (ci := 5) (k := 0) S hK hW wu_X9 rfl (by decide) wf_X9_7 0 rfl rfl dX9_read_75 ?_
          refine lv_iload_n S.1 S.2.1 dX9_read_78 rfl (lv_at hl 2 rfl) ?_
          refine lv_aload_n S.1 S.2.1 dX9_read_79 rfl (lv_at hl 0 rfl) ?_
          refine gf (C := RX9) (T := TX9) (N := 28) (ci := 5) (k := 26) S hK hW wu_X9 rfl (by decide) wf_X9_60 0 rfl rfl dX9_read_80 ?_
          refine lv_iload_n S.1 S.2.1 dX9_read_83 rfl (lv_at hl 2 rfl) ?_
          obtain ⟨z9, h⟩ := of_g h
          refine ia S hK hW rfl 16 rfl z9 dX9_read_84 ?_
          obtain ⟨z10, h⟩ := of_g h
          refine ist S hK hW rfl 1 rfl z10 dX9_read_85 (fun H locs hW => ?_)
          have hW : wd (dC, dI) A s.heap (clX9 cI cJ cZ cB h0 a0 (upd (c0 0) (ix x2) ((c0 26) (ix x2))) (c0 1) (c0 2) (c0 3) (w0 4 0) (w0 5 0) (c0 6) (c0 7) (c0 8) (c0 9) (c0 10) (c0 11) (c0 12) (c0 13) (c0 14 0) (c0 15 0) (c0 16 0) (c0 17 0) (c0 18) (c0 19) (c0 20) (c0 21 0) (c0 22 0) (c0 23 0) (c0 24 0) (c0 25 0) (c0 26) (c0 27) []) H locs := hW
          refine lv_iinc (v := (x2 + (1 : Int32))) (lv' := [(2, .int (x2 + (1 : Int32))), (0, .ref h0), (1, .int x1)]) S.1 S.2.1 dX9_read_86 hl (k := 2) rfl (congrArg (fun z => x2 + z) ki_1) (by decide) rfl (fun ls hl => ?_)
          refine lv_goto (tgt := 64) S.1 S.2.1 dX9_read_89 (by decide) ?_
          exact ih64 _ _ _ h H locs hW ls (lv_sub hl [1, 2, 0] rfl)
  have hL33 : ∀ (n33 : Nat) (c0 : Nat → Nat → Int32) (x1 : Int32), ld_X9_read_33 F w0 n33 c0 x1 = some (r, c0') → ∀ (H : Heap) (locs : List Loc), wd (dC, dI) A s.heap (clX9 cI cJ cZ cB h0 a0 (c0 0) (c0 1) (c0 2) (c0 3) (w0 4 0) (w0 5 0) (c0 6) (c0 7) (c0 8) (c0 9) (c0 10) (c0 11) (c0 12) (c0 13) (c0 14 0) (c0 15 0) (c0 16 0) (c0 17 0) (c0 18) (c0 19) (c0 20) (c0 21 0) (c0 22 0) (c0 23 0) (c0 24 0) (c0 25 0) (c0 26) (c0 27) []) H locs → ∀ ls : Array Slot, lv_has ls 3 [(0, .ref h0), (1, .int x1)] → W p l e rmX9_read s m (List.toArray [.ref h0]) below meth c H locs 0 0 (MQ below (kQ (dC, dI) (cwX9 cI cJ cZ cB h0 a0 c0' w0 []) (some (.int r)) A) (List.toArray [.ref h0]) s 0 0 A) (F0 m 33 ls []) := by
    intro n33
    induction n33 with
    | zero => intro c0 x1 h; rw [ld_X9_read_33] at h; cases h
    | succ n33 ih33 =>
      intro c0 x1 h H locs hW ls hl
      rw [ld_X9_read_33] at h
      refine lv_iload_n S.1 S.2.1 dX9_read_33 rfl (lv_at hl 1 rfl) ?_
      refine lv_bipush (v := (90 : Int32)) S.1 S.2.1 dX9_read_34 kb_90 ?_
      refine lv_icmp_ge (tgt := 57) S.1 S.2.1 dX9_read_36 (by decide) (fun u11 => ?_) (fun u11 => ?_)
      · have h := of_p u11 h
        refine lv_aload_n S.1 S.2.1 dX9_read_57 rfl (lv_at hl 0 rfl) ?_
        obtain ⟨r12, cv13, hy14, h⟩ := bd2_e h
        refine kv (clX9 cI cJ cZ cB h0 a0 (cv13 0) (cv13 1) (cv13 2) (cv13 3) (w0 4 0) (w0 5 0) (cv13 6) (cv13 7) (cv13 8) (cv13 9) (cv13 10) (cv13 11) (cv13 12) (cv13 13) (cv13 14 0) (cv13 15 0) (cv13 16 0) (cv13 17 0) (cv13 18) (cv13 19) (cv13 20) (cv13 21 0) (cv13 22 0) (cv13 23 0) (cv13 24 0) (cv13 25 0) (cv13 26) (cv13 27) []) S hK hN hZ hA hW (rest := []) (t_X9_readInto l dC dI cI cJ cZ cB zz h0 a0 F c0 w0 _ _  hy14) wl_X9_330 wv_X9_readInto rfl rfl ⟨Nat.le_of_ble_eq_true rfl, Nat.le_of_ble_eq_true rfl⟩ [] [] rfl rfl rfl 0 rfl rfl rfl rfl hl.1 rfl (Nat.le_of_ble_eq_true rfl) dX9_read_58 [.int r12] rfl (fun H locs hW => ?_)
        refine lv_istore_n (lv' := [(1, .int r12), (0, .ref h0)]) S.1 S.2.1 dX9_read_61 rfl hl (by decide) rfl (fun ls hl => ?_)
        refine lv_iconst (v := (0 : Int32)) S.1 S.2.1 dX9_read_62 ki_0 ?_
        refine lv_istore_n (lv' := [(2, .int (0 : Int32)), (1, .int r12), (0, .ref h0)]) S.1 S.2.1 dX9_read_63 rfl hl (by decide) rfl (fun ls hl => ?_)
        exact hL64 F _ _ _ h H locs hW ls (lv_sub hl [2, 1, 0] rfl)
      · have h := of_n u11 h
        refine lv_aload_n S.1 S.2.1 dX9_read_39 rfl (lv_at hl 0 rfl) ?_
        refine gf (C := RX9) (T := TX9) (N := 28) (ci := 5) (k := 26) S hK hW wu_X9 rfl (by decide) wf_X9_60 0 rfl rfl dX9_read_40 ?_
        refine lv_iload_n S.1 S.2.1 dX9_read_43 rfl (lv_at hl 1 rfl) ?_
        refine lv_aload_n S.1 S.2.1 dX9_read_44 rfl (lv_at hl 0 rfl) ?_
        refine gf (C := RX9) (T := TX9) (N := 28) (ci := 5) (k := 0) S hK hW wu_X9 rfl (by decide) wf_X9_7 0 rfl rfl dX9_read_45 ?_
        refine lv_iload_n S.1 S.2.1 dX9_read_48 rfl (lv_at hl 1 rfl) ?_
        obtain ⟨z15, h⟩ := of_g h
        refine ia S hK hW rfl 1 rfl z15 dX9_read_49 ?_
        obtain ⟨z16, h⟩ := of_g h
        refine ist S hK hW rfl 16 rfl z16 dX9_read_50 (fun H locs hW => ?_)
        have hW : wd (dC, dI) A s.heap (clX9 cI cJ cZ cB h0 a0 (c0 0) (c0 1) (c0 2) (c0 3) (w0 4 0) (w0 5 0) (c0 6) (c0 7) (c0 8) (c0 9) (c0 10) (c0 11) (c0 12) (c0 13) (c0 14 0) (c0 15 0) (c0 16 0) (c0 17 0) (c0 18) (c0 19) (c0 20) (c0 21 0) (c0 22 0) (c0 23 0) (c0 24 0) (c0 25 0) (upd (c0 26) (ix x1) ((c0 0) (ix x1))) (c0 27) []) H locs := hW
        refine lv_iinc (v := (x1 + (1 : Int32))) (lv' := [(1, .int (x1 + (1 : Int32))), (0, .ref h0)]) S.1 S.2.1 dX9_read_51 hl (k := 1) rfl (congrArg (fun z => x1 + z) ki_1) (by decide) rfl (fun ls hl => ?_)
        refine lv_goto (tgt := 33) S.1 S.2.1 dX9_read_54 (by decide) ?_
        exact ih33 _ _ h H locs hW ls (lv_sub hl [1, 0] rfl)
  refine lv_aload_n S.1 S.2.1 dX9_read_0 rfl (lv_at hl 0 rfl) ?_
  refine lv_iconst (v := (0 : Int32)) S.1 S.2.1 dX9_read_1 ki_0 ?_
  obtain ⟨cv17, hy18, h⟩ := bd1_e h
  refine kv (clX9 cI cJ cZ cB h0 a0 (cv17 0) (cv17 1) (cv17 2) (cv17 3) (w0 4 0) (w0 5 0) (cv17 6) (cv17 7) (cv17 8) (cv17 9) (cv17 10) (cv17 11) (cv17 12) (cv17 13) (cv17 14 0) (cv17 15 0) (cv17 16 0) (cv17 17 0) (cv17 18) (cv17 19) (cv17 20) (cv17 21 0) (cv17 22 0) (cv17 23 0) (cv17 24 0) (cv17 25 0) (cv17 26) (cv17 27) []) S hK hN hZ hA hW (rest := []) (t_X9_lookAt l dC dI cI cJ cZ cB zz h0 a0 F c0 w0 (0 : Int32) _  hy18) wl_X9_296 wv_X9_lookAt rfl rfl ⟨Nat.le_of_ble_eq_true rfl, Nat.le_of_ble_eq_true rfl⟩ [] [] rfl rfl rfl 0 rfl rfl rfl rfl hl.1 rfl (Nat.le_of_ble_eq_true rfl) dX9_read_2 [] rfl (fun H locs hW => ?_)
  refine lv_aload_n S.1 S.2.1 dX9_read_5 rfl (lv_at hl 0 rfl) ?_
  refine lv_iconst (v := (4 : Int32)) S.1 S.2.1 dX9_read_6 ki_4 ?_
  refine lv_bipush (v := (99 : Int32)) S.1 S.2.1 dX9_read_7 kb_99 ?_
  refine lv_bipush (v := (97 : Int32)) S.1 S.2.1 dX9_read_9 kb_97 ?_
  refine lv_bipush (v := (115 : Int32)) S.1 S.2.1 dX9_read_11 kb_115 ?_
  refine lv_bipush (v := (101 : Int32)) S.1 S.2.1 dX9_read_13 kb_101 ?_
  refine lv_iconst (v := (0 : Int32)) S.1 S.2.1 dX9_read_15 ki_0 ?_
  refine lv_iconst (v := (0 : Int32)) S.1 S.2.1 dX9_read_16 ki_0 ?_
  obtain ⟨r19, hy20, h⟩ := bd1_e h
  refine kv0 S hK hN hZ hA hW (rest := []) (t_X9_spells l dC dI cI cJ cZ cB zz h0 a0 F cv17 w0 (4 : Int32) (99 : Int32) (97 : Int32) (115 : Int32) (101 : Int32) (0 : Int32) (0 : Int32) _  hy20) wl_X9_311 wv_X9_spells rfl rfl ⟨Nat.le_of_ble_eq_true rfl, Nat.le_of_ble_eq_true rfl⟩ [] [] rfl 0 rfl rfl rfl rfl hl.1 rfl (Nat.le_of_ble_eq_true rfl) dX9_read_17 [.int r19] rfl (fun H locs hW => ?_)
  refine lv_if_ne (tgt := 31) S.1 S.2.1 dX9_read_20 (by decide) (fun u21 => ?_) (fun u21 => ?_)
  · have h := of_n u21 h
    refine lv_iconst (v := (0 : Int32)) S.1 S.2.1 dX9_read_31 ki_0 ?_
    refine lv_istore_n (lv' := [(1, .int (0 : Int32)), (0, .ref h0)]) S.1 S.2.1 dX9_read_32 rfl hl (by decide) rfl (fun ls hl => ?_)
    exact hL33 F _ _ h H locs hW ls (lv_sub hl [1, 0] rfl)
  · have h := of_p u21 h
    refine lv_bipush (v := (-10 : Int32)) S.1 S.2.1 dX9_read_23 kb_m10 ?_
    refine lv_aload_n S.1 S.2.1 dX9_read_25 rfl (lv_at hl 0 rfl) ?_
    refine gf (C := RX9) (T := TX9) (N := 28) (ci := 5) (k := 22) S hK hW wu_X9 rfl (by decide) wf_X9_278 0 rfl rfl dX9_read_26 ?_
    refine lv_isub S.1 S.2.1 dX9_read_29 ?_
    have f22 := Option.some.inj h
    obtain ⟨f23, f24⟩ := Prod.mk.inj f22
    subst f23
    subst f24
    exact ri S hr hlocks hW dX9_read_30
abbrev rmX9_part : Room := { frames := 1, cells := 0, slots := 0, locals := 21 }
set_option maxHeartbeats 4000000 in
set_option maxRecDepth 100000 in
theorem t_X9_part (l : Launch) (dC : Nat → ClassId) (dI : Nat → Nat → Nat) (cI cJ cZ cB : ClassId) (zz : ZT)  (h0 : Nat) (a0 : Nat → Nat) (c0 : Nat → Nat → Int32) (w0 : Nat → Nat → Int64) (p1 : Int32) (r : Int64) (c0' : Nat → Nat → Int32) (hm : md_X9_part c0 w0 p1 = some (r, c0')) : ct l (dC, dI) zz (ty4 cI cJ cZ cB) yX9_part cX9_part 2 (some .long) rmX9_part [.ref h0, .int p1] (cwX9 cI cJ cZ cB h0 a0 c0 w0 []) (cwX9 cI cJ cZ cB h0 a0 c0' w0 []) (some (.long r)) := by
  refine ct_of (cc := cX9_part) (maxL := 2) (ret := (some .long)) (by decide) (Nat.le_of_ble_eq_true rfl) ?_
  intro p e s m below meth c A S hr hlocks hK hN hZ hA H locs hW ls hl
  have S : CallFix p m c cX9_part 2 s (List.toArray [.ref h0, .int p1]) G RX9 := S
  have hl : lv_has ls 2 [(0, .ref h0), (1, .int p1)] := hl
  have h := hm
  rw [md_X9_part] at h
  have hW : wd (dC, dI) A s.heap (clX9 cI cJ cZ cB h0 a0 (c0 0) (c0 1) (c0 2) (c0 3) (w0 4 0) (w0 5 0) (c0 6) (c0 7) (c0 8) (c0 9) (c0 10) (c0 11) (c0 12) (c0 13) (c0 14 0) (c0 15 0) (c0 16 0) (c0 17 0) (c0 18) (c0 19) (c0 20) (c0 21 0) (c0 22 0) (c0 23 0) (c0 24 0) (c0 25 0) (c0 26) (c0 27) []) H locs := hW
  refine lv_iload_n S.1 S.2.1 dX9_part_0 rfl (lv_at hl 1 rfl) ?_
  refine lv_if_ne (tgt := 11) S.1 S.2.1 dX9_part_1 (by decide) (fun u1 => ?_) (fun u1 => ?_)
  · have h := of_n u1 h
    refine lv_iload_n S.1 S.2.1 dX9_part_11 rfl (lv_at hl 1 rfl) ?_
    refine lv_iconst (v := (1 : Int32)) S.1 S.2.1 dX9_part_12 ki_1 ?_
    refine lv_icmp_ne (tgt := 23) S.1 S.2.1 dX9_part_13 (by decide) (fun u2 => ?_) (fun u2 => ?_)
    · have h := of_n u2 h
      refine lv_aload_n S.1 S.2.1 dX9_part_23 rfl (lv_at hl 0 rfl) ?_
      refine lv_bipush (v := (-2 : Int32)) S.1 S.2.1 dX9_part_24 kb_m2 ?_
      obtain ⟨r3, cv4, hy5, h⟩ := bd2_e h
      refine kv (clX9 cI cJ cZ cB h0 a0 (cv4 0) (cv4 1) (cv4 2) (cv4 3) (w0 4 0) (w0 5 0) (cv4 6) (cv4 7) (cv4 8) (cv4 9) (cv4 10) (cv4 11) (cv4 12) (cv4 13) (cv4 14 0) (cv4 15 0) (cv4 16 0) (cv4 17 0) (cv4 18) (cv4 19) (cv4 20) (cv4 21 0) (cv4 22 0) (cv4 23 0) (cv4 24 0) (cv4 25 0) (cv4 26) (cv4 27) []) S hK hN hZ hA hW (rest := []) (t_X9_bad l dC dI cI cJ cZ cB zz h0 a0 c0 w0 (-2 : Int32) _ _  hy5) wl_X9_84 wv_X9_bad rfl rfl ⟨Nat.le_of_ble_eq_true rfl, Nat.le_of_ble_eq_true rfl⟩ [] [] rfl rfl rfl 0 rfl rfl rfl rfl hl.1 rfl (Nat.le_of_ble_eq_true rfl) dX9_part_26 [.int r3] rfl (fun H locs hW => ?_)
      refine lv_i2l S.1 S.2.1 dX9_part_29 rfl ?_
      have f6 := Option.some.inj h
      obtain ⟨f7, f8⟩ := Prod.mk.inj f6
      subst f7
      subst f8
      exact rl S hr hlocks hW dX9_part_30
    · have h := of_p u2 h
      refine lv_aload_n S.1 S.2.1 dX9_part_16 rfl (lv_at hl 0 rfl) ?_
      refine gf (C := RX9) (T := TX9) (N := 28) (ci := 5) (k := 5) S hK hW wu_X9 rfl (by decide) wf_X9_23 0 rfl rfl dX9_part_17 ?_
      refine lv_goto (tgt := 30) S.1 S.2.1 dX9_part_20 (by decide) ?_
      have f9 := Option.some.inj h
      obtain ⟨f10, f11⟩ := Prod.mk.inj f9
      subst f10
      subst f11
      exact rl S hr hlocks hW dX9_part_30
  · have h := of_p u1 h
    refine lv_aload_n S.1 S.2.1 dX9_part_4 rfl (lv_at hl 0 rfl) ?_
    refine gf (C := RX9) (T := TX9) (N := 28) (ci := 5) (k := 4) S hK hW wu_X9 rfl (by decide) wf_X9_241 0 rfl rfl dX9_part_5 ?_
    refine lv_goto (tgt := 30) S.1 S.2.1 dX9_part_8 (by decide) ?_
    have f12 := Option.some.inj h
    obtain ⟨f13, f14⟩ := Prod.mk.inj f12
    subst f13
    subst f14
    exact rl S hr hlocks hW dX9_part_30
abbrev rmX9_image : Room := { frames := 1, cells := 0, slots := 0, locals := 25 }
set_option maxHeartbeats 4000000 in
set_option maxRecDepth 100000 in
theorem t_X9_image (l : Launch) (dC : Nat → ClassId) (dI : Nat → Nat → Nat) (cI cJ cZ cB : ClassId) (zz : ZT)  (h0 : Nat) (a0 : Nat → Nat) (F : Nat) (c0 : Nat → Nat → Int32) (w0 : Nat → Nat → Int64) (p1 : Int32) (r : Int32) (c0' : Nat → Nat → Int32) (hm : md_X9_image F c0 w0 p1 = some (r, c0')) : ct l (dC, dI) zz (ty4 cI cJ cZ cB) yX9_image cX9_image 3 (some .int) rmX9_image [.ref h0, .int p1] (cwX9 cI cJ cZ cB h0 a0 c0 w0 []) (cwX9 cI cJ cZ cB h0 a0 c0' w0 []) (some (.int r)) := by
  refine ct_of (cc := cX9_image) (maxL := 3) (ret := (some .int)) (by decide) (Nat.le_of_ble_eq_true rfl) ?_
  intro p e s m below meth c A S hr hlocks hK hN hZ hA H locs hW ls hl
  have S : CallFix p m c cX9_image 3 s (List.toArray [.ref h0, .int p1]) G RX9 := S
  have hl : lv_has ls 3 [(0, .ref h0), (1, .int p1)] := hl
  have h := hm
  rw [md_X9_image] at h
  have hW : wd (dC, dI) A s.heap (clX9 cI cJ cZ cB h0 a0 (c0 0) (c0 1) (c0 2) (c0 3) (w0 4 0) (w0 5 0) (c0 6) (c0 7) (c0 8) (c0 9) (c0 10) (c0 11) (c0 12) (c0 13) (c0 14 0) (c0 15 0) (c0 16 0) (c0 17 0) (c0 18) (c0 19) (c0 20) (c0 21 0) (c0 22 0) (c0 23 0) (c0 24 0) (c0 25 0) (c0 26) (c0 27) []) H locs := hW
  have hL19 : ∀ (n19 : Nat) (c0 : Nat → Nat → Int32) (x1 : Int32) (x2 : Int32), ld_X9_image_19 F w0 n19 c0 x1 x2 = some (r, c0') → ∀ (H : Heap) (locs : List Loc), wd (dC, dI) A s.heap (clX9 cI cJ cZ cB h0 a0 (c0 0) (c0 1) (c0 2) (c0 3) (w0 4 0) (w0 5 0) (c0 6) (c0 7) (c0 8) (c0 9) (c0 10) (c0 11) (c0 12) (c0 13) (c0 14 0) (c0 15 0) (c0 16 0) (c0 17 0) (c0 18) (c0 19) (c0 20) (c0 21 0) (c0 22 0) (c0 23 0) (c0 24 0) (c0 25 0) (c0 26) (c0 27) []) H locs → ∀ ls : Array Slot, lv_has ls 3 [(0, .ref h0), (1, .int x1), (2, .int x2)] → W p l e rmX9_image s m (List.toArray [.ref h0, .int p1]) below meth c H locs 0 0 (MQ below (kQ (dC, dI) (cwX9 cI cJ cZ cB h0 a0 c0' w0 []) (some (.int r)) A) (List.toArray [.ref h0, .int p1]) s 0 0 A) (F0 m 19 ls []) := by
    intro n19
    induction n19 with
    | zero => intro c0 x1 x2 h; rw [ld_X9_image_19] at h; cases h
    | succ n19 ih19 =>
      intro c0 x1 x2 h H locs hW ls hl
      rw [ld_X9_image_19] at h
      refine lv_iload_n S.1 S.2.1 dX9_image_19 rfl (lv_at hl 2 rfl) ?_
      refine lv_sipush (v := (194 : Int32)) S.1 S.2.1 dX9_image_20 ks_194 ?_
      refine lv_icmp_ge (tgt := 50) S.1 S.2.1 dX9_image_23 (by decide) (fun u1 => ?_) (fun u1 => ?_)
      · have h := of_p u1 h
        refine lv_aload_n S.1 S.2.1 dX9_image_50 rfl (lv_at hl 0 rfl) ?_
        refine gf (C := RX9) (T := TX9) (N := 28) (ci := 5) (k := 2) S hK hW wu_X9 rfl (by decide) wf_X9_16 0 rfl rfl dX9_image_51 ?_
        refine lv_iload_n S.1 S.2.1 dX9_image_54 rfl (lv_at hl 1 rfl) ?_
        refine lv_iconst (v := (1 : Int32)) S.1 S.2.1 dX9_image_55 ki_1 ?_
        obtain ⟨z2, h⟩ := of_g h
        refine zst S hK hW rfl 3 rfl z2 rfl dX9_image_56 (fun H locs hW => ?_)
        have hW : wd (dC, dI) A s.heap (clX9 cI cJ cZ cB h0 a0 (c0 0) (c0 1) (upd (c0 2) (ix x1) (1 : Int32)) (c0 3) (w0 4 0) (w0 5 0) (c0 6) (c0 7) (c0 8) (c0 9) (c0 10) (c0 11) (c0 12) (c0 13) (c0 14 0) (c0 15 0) (c0 16 0) (c0 17 0) (c0 18) (c0 19) (c0 20) (c0 21 0) (c0 22 0) (c0 23 0) (c0 24 0) (c0 25 0) (c0 26) (c0 27) []) H locs := hW
        refine lv_iconst (v := (1 : Int32)) S.1 S.2.1 dX9_image_57 ki_1 ?_
        have f3 := Option.some.inj h
        obtain ⟨f4, f5⟩ := Prod.mk.inj f3
        subst f4
        subst f5
        exact ri S hr hlocks hW dX9_image_58
      · have h := of_n u1 h
        refine lv_aload_n S.1 S.2.1 dX9_image_26 rfl (lv_at hl 0 rfl) ?_
        refine gf (C := RX9) (T := TX9) (N := 28) (ci := 5) (k := 1) S hK hW wu_X9 rfl (by decide) wf_X9_13 0 rfl rfl dX9_image_27 ?_
        refine lv_sipush (v := (194 : Int32)) S.1 S.2.1 dX9_image_30 ks_194 ?_
        refine lv_iload_n S.1 S.2.1 dX9_image_33 rfl (lv_at hl 1 rfl) ?_
        refine lv_imul S.1 S.2.1 dX9_image_34 ?_
        refine lv_iload_n S.1 S.2.1 dX9_image_35 rfl (lv_at hl 2 rfl) ?_
        refine lv_iadd S.1 S.2.1 dX9_image_36 ?_
        refine lv_aload_n S.1 S.2.1 dX9_image_37 rfl (lv_at hl 0 rfl) ?_
        refine gf (C := RX9) (T := TX9) (N := 28) (ci := 5) (k := 0) S hK hW wu_X9 rfl (by decide) wf_X9_7 0 rfl rfl dX9_image_38 ?_
        refine lv_iload_n S.1 S.2.1 dX9_image_41 rfl (lv_at hl 2 rfl) ?_
        obtain ⟨z6, h⟩ := of_g h
        refine ia S hK hW rfl 1 rfl z6 dX9_image_42 ?_
        obtain ⟨z7, h⟩ := of_g h
        refine ist S hK hW rfl 2 rfl z7 dX9_image_43 (fun H locs hW => ?_)
        have hW : wd (dC, dI) A s.heap (clX9 cI cJ cZ cB h0 a0 (c0 0) (upd (c0 1) (ix (((194 : Int32) * x1) + x2)) ((c0 0) (ix x2))) (c0 2) (c0 3) (w0 4 0) (w0 5 0) (c0 6) (c0 7) (c0 8) (c0 9) (c0 10) (c0 11) (c0 12) (c0 13) (c0 14 0) (c0 15 0) (c0 16 0) (c0 17 0) (c0 18) (c0 19) (c0 20) (c0 21 0) (c0 22 0) (c0 23 0) (c0 24 0) (c0 25 0) (c0 26) (c0 27) []) H locs := hW
        refine lv_iinc (v := (x2 + (1 : Int32))) (lv' := [(2, .int (x2 + (1 : Int32))), (0, .ref h0), (1, .int x1)]) S.1 S.2.1 dX9_image_44 hl (k := 2) rfl (congrArg (fun z => x2 + z) ki_1) (by decide) rfl (fun ls hl => ?_)
        refine lv_goto (tgt := 19) S.1 S.2.1 dX9_image_47 (by decide) ?_
        exact ih19 _ _ _ h H locs hW ls (lv_sub hl [1, 2, 0] rfl)
  refine lv_iload_n S.1 S.2.1 dX9_image_0 rfl (lv_at hl 1 rfl) ?_
  refine lv_i2l S.1 S.2.1 dX9_image_1 rfl ?_
  refine lv_lconst (v := (0 : Int64)) S.1 S.2.1 dX9_image_2 rfl ?_
  refine lv_lconst (v := (1 : Int64)) S.1 S.2.1 dX9_image_3 rfl ?_
  obtain ⟨r8, hy9, h⟩ := bd1_e h
  refine ks0 S hK hN hZ hA hW (rest := []) (t_X9_in l dC dI cI cJ cZ cB zz p1.toInt64 (0 : Int64) (1 : Int64) _  hy9) wl_X9_74 wv_X9_in rfl rfl ⟨Nat.le_of_ble_eq_true rfl, Nat.le_of_ble_eq_true rfl⟩ [] (clX9 cI cJ cZ cB h0 a0 (c0 0) (c0 1) (c0 2) (c0 3) (w0 4 0) (w0 5 0) (c0 6) (c0 7) (c0 8) (c0 9) (c0 10) (c0 11) (c0 12) (c0 13) (c0 14 0) (c0 15 0) (c0 16 0) (c0 17 0) (c0 18) (c0 19) (c0 20) (c0 21 0) (c0 22 0) (c0 23 0) (c0 24 0) (c0 25 0) (c0 26) (c0 27) []) rfl rfl hl.1 rfl (Nat.le_of_ble_eq_true rfl) dX9_image_4 [.int r8] rfl (fun H locs hW => ?_)
  refine lv_if_ne (tgt := 17) S.1 S.2.1 dX9_image_7 (by decide) (fun u10 => ?_) (fun u10 => ?_)
  · have h := of_n u10 h
    refine lv_iconst (v := (0 : Int32)) S.1 S.2.1 dX9_image_17 ki_0 ?_
    refine lv_istore_n (lv' := [(2, .int (0 : Int32)), (0, .ref h0), (1, .int p1)]) S.1 S.2.1 dX9_image_18 rfl hl (by decide) rfl (fun ls hl => ?_)
    exact hL19 F _ _ _ h H locs hW ls (lv_sub hl [1, 2, 0] rfl)
  · have h := of_p u10 h
    refine lv_aload_n S.1 S.2.1 dX9_image_10 rfl (lv_at hl 0 rfl) ?_
    refine lv_bipush (v := (-2 : Int32)) S.1 S.2.1 dX9_image_11 kb_m2 ?_
    obtain ⟨r11, cv12, hy13, h⟩ := bd2_e h
    refine kv (clX9 cI cJ cZ cB h0 a0 (cv12 0) (cv12 1) (cv12 2) (cv12 3) (w0 4 0) (w0 5 0) (cv12 6) (cv12 7) (cv12 8) (cv12 9) (cv12 10) (cv12 11) (cv12 12) (cv12 13) (cv12 14 0) (cv12 15 0) (cv12 16 0) (cv12 17 0) (cv12 18) (cv12 19) (cv12 20) (cv12 21 0) (cv12 22 0) (cv12 23 0) (cv12 24 0) (cv12 25 0) (cv12 26) (cv12 27) []) S hK hN hZ hA hW (rest := []) (t_X9_bad l dC dI cI cJ cZ cB zz h0 a0 c0 w0 (-2 : Int32) _ _  hy13) wl_X9_84 wv_X9_bad rfl rfl ⟨Nat.le_of_ble_eq_true rfl, Nat.le_of_ble_eq_true rfl⟩ [] [] rfl rfl rfl 0 rfl rfl rfl rfl hl.1 rfl (Nat.le_of_ble_eq_true rfl) dX9_image_13 [.int r11] rfl (fun H locs hW => ?_)
    have f14 := Option.some.inj h
    obtain ⟨f15, f16⟩ := Prod.mk.inj f14
    subst f15
    subst f16
    exact ri S hr hlocks hW dX9_image_16
abbrev rmX9_from : Room := { frames := 1, cells := 0, slots := 0, locals := 25 }
set_option maxHeartbeats 4000000 in
set_option maxRecDepth 100000 in
theorem t_X9_from (l : Launch) (dC : Nat → ClassId) (dI : Nat → Nat → Nat) (cI cJ cZ cB : ClassId) (zz : ZT)  (h0 : Nat) (a0 : Nat → Nat) (F : Nat) (c0 : Nat → Nat → Int32) (w0 : Nat → Nat → Int64) (p1 : Int32) (r : Int32) (c0' : Nat → Nat → Int32) (hm : md_X9_from F c0 w0 p1 = some (r, c0')) : ct l (dC, dI) zz (ty4 cI cJ cZ cB) yX9_from cX9_from 3 (some .int) rmX9_from [.ref h0, .int p1] (cwX9 cI cJ cZ cB h0 a0 c0 w0 []) (cwX9 cI cJ cZ cB h0 a0 c0' w0 []) (some (.int r)) := by
  refine ct_of (cc := cX9_from) (maxL := 3) (ret := (some .int)) (by decide) (Nat.le_of_ble_eq_true rfl) ?_
  intro p e s m below meth c A S hr hlocks hK hN hZ hA H locs hW ls hl
  have S : CallFix p m c cX9_from 3 s (List.toArray [.ref h0, .int p1]) G RX9 := S
  have hl : lv_has ls 3 [(0, .ref h0), (1, .int p1)] := hl
  have h := hm
  rw [md_X9_from] at h
  have hW : wd (dC, dI) A s.heap (clX9 cI cJ cZ cB h0 a0 (c0 0) (c0 1) (c0 2) (c0 3) (w0 4 0) (w0 5 0) (c0 6) (c0 7) (c0 8) (c0 9) (c0 10) (c0 11) (c0 12) (c0 13) (c0 14 0) (c0 15 0) (c0 16 0) (c0 17 0) (c0 18) (c0 19) (c0 20) (c0 21 0) (c0 22 0) (c0 23 0) (c0 24 0) (c0 25 0) (c0 26) (c0 27) []) H locs := hW
  have hL35 : ∀ (n35 : Nat) (c0 : Nat → Nat → Int32) (x1 : Int32) (x2 : Int32), ld_X9_from_35 F w0 n35 c0 x1 x2 = some (r, c0') → ∀ (H : Heap) (locs : List Loc), wd (dC, dI) A s.heap (clX9 cI cJ cZ cB h0 a0 (c0 0) (c0 1) (c0 2) (c0 3) (w0 4 0) (w0 5 0) (c0 6) (c0 7) (c0 8) (c0 9) (c0 10) (c0 11) (c0 12) (c0 13) (c0 14 0) (c0 15 0) (c0 16 0) (c0 17 0) (c0 18) (c0 19) (c0 20) (c0 21 0) (c0 22 0) (c0 23 0) (c0 24 0) (c0 25 0) (c0 26) (c0 27) []) H locs → ∀ ls : Array Slot, lv_has ls 3 [(0, .ref h0), (1, .int x1), (2, .int x2)] → W p l e rmX9_from s m (List.toArray [.ref h0, .int p1]) below meth c H locs 0 0 (MQ below (kQ (dC, dI) (cwX9 cI cJ cZ cB h0 a0 c0' w0 []) (some (.int r)) A) (List.toArray [.ref h0, .int p1]) s 0 0 A) (F0 m 35 ls []) := by
    intro n35
    induction n35 with
    | zero => intro c0 x1 x2 h; rw [ld_X9_from_35] at h; cases h
    | succ n35 ih35 =>
      intro c0 x1 x2 h H locs hW ls hl
      rw [ld_X9_from_35] at h
      refine lv_iload_n S.1 S.2.1 dX9_from_35 rfl (lv_at hl 2 rfl) ?_
      refine lv_sipush (v := (194 : Int32)) S.1 S.2.1 dX9_from_36 ks_194 ?_
      refine lv_icmp_ge (tgt := 66) S.1 S.2.1 dX9_from_39 (by decide) (fun u1 => ?_) (fun u1 => ?_)
      · have h := of_p u1 h
        refine lv_iconst (v := (1 : Int32)) S.1 S.2.1 dX9_from_66 ki_1 ?_
        have f2 := Option.some.inj h
        obtain ⟨f3, f4⟩ := Prod.mk.inj f2
        subst f3
        subst f4
        exact ri S hr hlocks hW dX9_from_67
      · have h := of_n u1 h
        refine lv_aload_n S.1 S.2.1 dX9_from_42 rfl (lv_at hl 0 rfl) ?_
        refine gf (C := RX9) (T := TX9) (N := 28) (ci := 5) (k := 0) S hK hW wu_X9 rfl (by decide) wf_X9_7 0 rfl rfl dX9_from_43 ?_
        refine lv_iload_n S.1 S.2.1 dX9_from_46 rfl (lv_at hl 2 rfl) ?_
        refine lv_aload_n S.1 S.2.1 dX9_from_47 rfl (lv_at hl 0 rfl) ?_
        refine gf (C := RX9) (T := TX9) (N := 28) (ci := 5) (k := 1) S hK hW wu_X9 rfl (by decide) wf_X9_13 0 rfl rfl dX9_from_48 ?_
        refine lv_sipush (v := (194 : Int32)) S.1 S.2.1 dX9_from_51 ks_194 ?_
        refine lv_iload_n S.1 S.2.1 dX9_from_54 rfl (lv_at hl 1 rfl) ?_
        refine lv_imul S.1 S.2.1 dX9_from_55 ?_
        refine lv_iload_n S.1 S.2.1 dX9_from_56 rfl (lv_at hl 2 rfl) ?_
        refine lv_iadd S.1 S.2.1 dX9_from_57 ?_
        obtain ⟨z5, h⟩ := of_g h
        refine ia S hK hW rfl 2 rfl z5 dX9_from_58 ?_
        obtain ⟨z6, h⟩ := of_g h
        refine ist S hK hW rfl 1 rfl z6 dX9_from_59 (fun H locs hW => ?_)
        have hW : wd (dC, dI) A s.heap (clX9 cI cJ cZ cB h0 a0 (upd (c0 0) (ix x2) ((c0 1) (ix (((194 : Int32) * x1) + x2)))) (c0 1) (c0 2) (c0 3) (w0 4 0) (w0 5 0) (c0 6) (c0 7) (c0 8) (c0 9) (c0 10) (c0 11) (c0 12) (c0 13) (c0 14 0) (c0 15 0) (c0 16 0) (c0 17 0) (c0 18) (c0 19) (c0 20) (c0 21 0) (c0 22 0) (c0 23 0) (c0 24 0) (c0 25 0) (c0 26) (c0 27) []) H locs := hW
        refine lv_iinc (v := (x2 + (1 : Int32))) (lv' := [(2, .int (x2 + (1 : Int32))), (0, .ref h0), (1, .int x1)]) S.1 S.2.1 dX9_from_60 hl (k := 2) rfl (congrArg (fun z => x2 + z) ki_1) (by decide) rfl (fun ls hl => ?_)
        refine lv_goto (tgt := 35) S.1 S.2.1 dX9_from_63 (by decide) ?_
        exact ih35 _ _ _ h H locs hW ls (lv_sub hl [1, 2, 0] rfl)
  refine lv_iload_n S.1 S.2.1 dX9_from_0 rfl (lv_at hl 1 rfl) ?_
  refine lv_i2l S.1 S.2.1 dX9_from_1 rfl ?_
  refine lv_lconst (v := (0 : Int64)) S.1 S.2.1 dX9_from_2 rfl ?_
  refine lv_lconst (v := (1 : Int64)) S.1 S.2.1 dX9_from_3 rfl ?_
  obtain ⟨r7, hy8, h⟩ := bd1_e h
  refine ks0 S hK hN hZ hA hW (rest := []) (t_X9_in l dC dI cI cJ cZ cB zz p1.toInt64 (0 : Int64) (1 : Int64) _  hy8) wl_X9_74 wv_X9_in rfl rfl ⟨Nat.le_of_ble_eq_true rfl, Nat.le_of_ble_eq_true rfl⟩ [] (clX9 cI cJ cZ cB h0 a0 (c0 0) (c0 1) (c0 2) (c0 3) (w0 4 0) (w0 5 0) (c0 6) (c0 7) (c0 8) (c0 9) (c0 10) (c0 11) (c0 12) (c0 13) (c0 14 0) (c0 15 0) (c0 16 0) (c0 17 0) (c0 18) (c0 19) (c0 20) (c0 21 0) (c0 22 0) (c0 23 0) (c0 24 0) (c0 25 0) (c0 26) (c0 27) []) rfl rfl hl.1 rfl (Nat.le_of_ble_eq_true rfl) dX9_from_4 [.int r7] rfl (fun H locs hW => ?_)
  refine lv_if_ne (tgt := 17) S.1 S.2.1 dX9_from_7 (by decide) (fun u9 => ?_) (fun u9 => ?_)
  · have h := of_n u9 h
    refine lv_aload_n S.1 S.2.1 dX9_from_17 rfl (lv_at hl 0 rfl) ?_
    refine gf (C := RX9) (T := TX9) (N := 28) (ci := 5) (k := 2) S hK hW wu_X9 rfl (by decide) wf_X9_16 0 rfl rfl dX9_from_18 ?_
    refine lv_iload_n S.1 S.2.1 dX9_from_21 rfl (lv_at hl 1 rfl) ?_
    obtain ⟨z10, h⟩ := of_g h
    refine za S hK hW rfl 3 rfl z10 dX9_from_22 ?_
    refine lv_if_ne (tgt := 33) S.1 S.2.1 dX9_from_23 (by decide) (fun u11 => ?_) (fun u11 => ?_)
    · have h := of_n u11 h
      refine lv_iconst (v := (0 : Int32)) S.1 S.2.1 dX9_from_33 ki_0 ?_
      refine lv_istore_n (lv' := [(2, .int (0 : Int32)), (0, .ref h0), (1, .int p1)]) S.1 S.2.1 dX9_from_34 rfl hl (by decide) rfl (fun ls hl => ?_)
      exact hL35 F _ _ _ h H locs hW ls (lv_sub hl [1, 2, 0] rfl)
    · have h := of_p u11 h
      refine lv_aload_n S.1 S.2.1 dX9_from_26 rfl (lv_at hl 0 rfl) ?_
      refine lv_bipush (v := (-3 : Int32)) S.1 S.2.1 dX9_from_27 kb_m3 ?_
      obtain ⟨r12, cv13, hy14, h⟩ := bd2_e h
      refine kv (clX9 cI cJ cZ cB h0 a0 (cv13 0) (cv13 1) (cv13 2) (cv13 3) (w0 4 0) (w0 5 0) (cv13 6) (cv13 7) (cv13 8) (cv13 9) (cv13 10) (cv13 11) (cv13 12) (cv13 13) (cv13 14 0) (cv13 15 0) (cv13 16 0) (cv13 17 0) (cv13 18) (cv13 19) (cv13 20) (cv13 21 0) (cv13 22 0) (cv13 23 0) (cv13 24 0) (cv13 25 0) (cv13 26) (cv13 27) []) S hK hN hZ hA hW (rest := []) (t_X9_no l dC dI cI cJ cZ cB zz h0 a0 c0 w0 (-3 : Int32) _ _  hy14) wl_X9_124 wv_X9_no rfl rfl ⟨Nat.le_of_ble_eq_true rfl, Nat.le_of_ble_eq_true rfl⟩ [] [] rfl rfl rfl 0 rfl rfl rfl rfl hl.1 rfl (Nat.le_of_ble_eq_true rfl) dX9_from_29 [.int r12] rfl (fun H locs hW => ?_)
      have f15 := Option.some.inj h
      obtain ⟨f16, f17⟩ := Prod.mk.inj f15
      subst f16
      subst f17
      exact ri S hr hlocks hW dX9_from_32
  · have h := of_p u9 h
    refine lv_aload_n S.1 S.2.1 dX9_from_10 rfl (lv_at hl 0 rfl) ?_
    refine lv_bipush (v := (-2 : Int32)) S.1 S.2.1 dX9_from_11 kb_m2 ?_
    obtain ⟨r18, cv19, hy20, h⟩ := bd2_e h
    refine kv (clX9 cI cJ cZ cB h0 a0 (cv19 0) (cv19 1) (cv19 2) (cv19 3) (w0 4 0) (w0 5 0) (cv19 6) (cv19 7) (cv19 8) (cv19 9) (cv19 10) (cv19 11) (cv19 12) (cv19 13) (cv19 14 0) (cv19 15 0) (cv19 16 0) (cv19 17 0) (cv19 18) (cv19 19) (cv19 20) (cv19 21 0) (cv19 22 0) (cv19 23 0) (cv19 24 0) (cv19 25 0) (cv19 26) (cv19 27) []) S hK hN hZ hA hW (rest := []) (t_X9_bad l dC dI cI cJ cZ cB zz h0 a0 c0 w0 (-2 : Int32) _ _  hy20) wl_X9_84 wv_X9_bad rfl rfl ⟨Nat.le_of_ble_eq_true rfl, Nat.le_of_ble_eq_true rfl⟩ [] [] rfl rfl rfl 0 rfl rfl rfl rfl hl.1 rfl (Nat.le_of_ble_eq_true rfl) dX9_from_13 [.int r18] rfl (fun H locs hW => ?_)
    have f21 := Option.some.inj h
    obtain ⟨f22, f23⟩ := Prod.mk.inj f21
    subst f22
    subst f23
    exact ri S hr hlocks hW dX9_from_16
abbrev rmX9_status : Room := { frames := 1, cells := 0, slots := 0, locals := 25 }
set_option maxHeartbeats 4000000 in
set_option maxRecDepth 100000 in
theorem t_X9_status (l : Launch) (dC : Nat → ClassId) (dI : Nat → Nat → Nat) (cI cJ cZ cB : ClassId) (zz : ZT)  (h0 : Nat) (a0 : Nat → Nat) (c0 : Nat → Nat → Int32) (w0 : Nat → Nat → Int64) (p1 : Int32) (r : Int32) (c0' : Nat → Nat → Int32) (hm : md_X9_status c0 w0 p1 = some (r, c0')) : ct l (dC, dI) zz (ty4 cI cJ cZ cB) yX9_status cX9_status 2 (some .int) rmX9_status [.ref h0, .int p1] (cwX9 cI cJ cZ cB h0 a0 c0 w0 []) (cwX9 cI cJ cZ cB h0 a0 c0' w0 []) (some (.int r)) := by
  refine ct_of (cc := cX9_status) (maxL := 2) (ret := (some .int)) (by decide) (Nat.le_of_ble_eq_true rfl) ?_
  intro p e s m below meth c A S hr hlocks hK hN hZ hA H locs hW ls hl
  have S : CallFix p m c cX9_status 2 s (List.toArray [.ref h0, .int p1]) G RX9 := S
  have hl : lv_has ls 2 [(0, .ref h0), (1, .int p1)] := hl
  have h := hm
  rw [md_X9_status] at h
  have hW : wd (dC, dI) A s.heap (clX9 cI cJ cZ cB h0 a0 (c0 0) (c0 1) (c0 2) (c0 3) (w0 4 0) (w0 5 0) (c0 6) (c0 7) (c0 8) (c0 9) (c0 10) (c0 11) (c0 12) (c0 13) (c0 14 0) (c0 15 0) (c0 16 0) (c0 17 0) (c0 18) (c0 19) (c0 20) (c0 21 0) (c0 22 0) (c0 23 0) (c0 24 0) (c0 25 0) (c0 26) (c0 27) []) H locs := hW
  refine lv_iload_n S.1 S.2.1 dX9_status_0 rfl (lv_at hl 1 rfl) ?_
  refine lv_i2l S.1 S.2.1 dX9_status_1 rfl ?_
  refine lv_lconst (v := (0 : Int64)) S.1 S.2.1 dX9_status_2 rfl ?_
  refine lv_ldc2 (v := (2 : Int64)) S.1 S.2.1 S.2.2.2.1 (S.2.2.2.2 _ wk_X9_143) dX9_status_3 ?_
  obtain ⟨r1, hy2, h⟩ := bd1_e h
  refine ks0 S hK hN hZ hA hW (rest := []) (t_X9_in l dC dI cI cJ cZ cB zz p1.toInt64 (0 : Int64) (2 : Int64) _  hy2) wl_X9_74 wv_X9_in rfl rfl ⟨Nat.le_of_ble_eq_true rfl, Nat.le_of_ble_eq_true rfl⟩ [] (clX9 cI cJ cZ cB h0 a0 (c0 0) (c0 1) (c0 2) (c0 3) (w0 4 0) (w0 5 0) (c0 6) (c0 7) (c0 8) (c0 9) (c0 10) (c0 11) (c0 12) (c0 13) (c0 14 0) (c0 15 0) (c0 16 0) (c0 17 0) (c0 18) (c0 19) (c0 20) (c0 21 0) (c0 22 0) (c0 23 0) (c0 24 0) (c0 25 0) (c0 26) (c0 27) []) rfl rfl hl.1 rfl (Nat.le_of_ble_eq_true rfl) dX9_status_6 [.int r1] rfl (fun H locs hW => ?_)
  refine lv_if_eq (tgt := 21) S.1 S.2.1 dX9_status_9 (by decide) (fun u3 => ?_) (fun u3 => ?_)
  · have h := of_p u3 h
    refine lv_aload_n S.1 S.2.1 dX9_status_21 rfl (lv_at hl 0 rfl) ?_
    refine lv_iconst (v := (-1 : Int32)) S.1 S.2.1 dX9_status_22 ki_m1 ?_
    obtain ⟨r4, cv5, hy6, h⟩ := bd2_e h
    refine kv (clX9 cI cJ cZ cB h0 a0 (cv5 0) (cv5 1) (cv5 2) (cv5 3) (w0 4 0) (w0 5 0) (cv5 6) (cv5 7) (cv5 8) (cv5 9) (cv5 10) (cv5 11) (cv5 12) (cv5 13) (cv5 14 0) (cv5 15 0) (cv5 16 0) (cv5 17 0) (cv5 18) (cv5 19) (cv5 20) (cv5 21 0) (cv5 22 0) (cv5 23 0) (cv5 24 0) (cv5 25 0) (cv5 26) (cv5 27) []) S hK hN hZ hA hW (rest := []) (t_X9_bad l dC dI cI cJ cZ cB zz h0 a0 c0 w0 (-1 : Int32) _ _  hy6) wl_X9_84 wv_X9_bad rfl rfl ⟨Nat.le_of_ble_eq_true rfl, Nat.le_of_ble_eq_true rfl⟩ [] [] rfl rfl rfl 0 rfl rfl rfl rfl hl.1 rfl (Nat.le_of_ble_eq_true rfl) dX9_status_23 [.int r4] rfl (fun H locs hW => ?_)
    have f7 := Option.some.inj h
    obtain ⟨f8, f9⟩ := Prod.mk.inj f7
    subst f8
    subst f9
    exact ri S hr hlocks hW dX9_status_26
  · have h := of_n u3 h
    refine lv_aload_n S.1 S.2.1 dX9_status_12 rfl (lv_at hl 0 rfl) ?_
    refine gf (C := RX9) (T := TX9) (N := 28) (ci := 5) (k := 3) S hK hW wu_X9 rfl (by decide) wf_X9_20 0 rfl rfl dX9_status_13 ?_
    refine lv_iload_n S.1 S.2.1 dX9_status_16 rfl (lv_at hl 1 rfl) ?_
    obtain ⟨z10, h⟩ := of_g h
    refine ia S hK hW rfl 4 rfl z10 dX9_status_17 ?_
    refine lv_goto (tgt := 26) S.1 S.2.1 dX9_status_18 (by decide) ?_
    have f11 := Option.some.inj h
    obtain ⟨f12, f13⟩ := Prod.mk.inj f11
    subst f12
    subst f13
    exact ri S hr hlocks hW dX9_status_26
abbrev rmX9_counted : Room := { frames := 1, cells := 0, slots := 0, locals := 22 }
set_option maxHeartbeats 4000000 in
set_option maxRecDepth 100000 in
theorem t_X9_counted (l : Launch) (dC : Nat → ClassId) (dI : Nat → Nat → Nat) (cI cJ cZ cB : ClassId) (zz : ZT)  (h0 : Nat) (a0 : Nat → Nat) (F : Nat) (c0 : Nat → Nat → Int32) (w0 : Nat → Nat → Int64) (p1 : Int32) (r : Int32) (hm : md_X9_counted F c0 w0 p1 = some (r)) : ct l (dC, dI) zz (ty4 cI cJ cZ cB) yX9_counted cX9_counted 4 (some .int) rmX9_counted [.ref h0, .int p1] (cwX9 cI cJ cZ cB h0 a0 c0 w0 []) (cwX9 cI cJ cZ cB h0 a0 c0 w0 []) (some (.int r)) := by
  refine ct_of (cc := cX9_counted) (maxL := 4) (ret := (some .int)) (by decide) (Nat.le_of_ble_eq_true rfl) ?_
  intro p e s m below meth c A S hr hlocks hK hN hZ hA H locs hW ls hl
  have S : CallFix p m c cX9_counted 4 s (List.toArray [.ref h0, .int p1]) G RX9 := S
  have hl : lv_has ls 4 [(0, .ref h0), (1, .int p1)] := hl
  have h := hm
  rw [md_X9_counted] at h
  have hW : wd (dC, dI) A s.heap (clX9 cI cJ cZ cB h0 a0 (c0 0) (c0 1) (c0 2) (c0 3) (w0 4 0) (w0 5 0) (c0 6) (c0 7) (c0 8) (c0 9) (c0 10) (c0 11) (c0 12) (c0 13) (c0 14 0) (c0 15 0) (c0 16 0) (c0 17 0) (c0 18) (c0 19) (c0 20) (c0 21 0) (c0 22 0) (c0 23 0) (c0 24 0) (c0 25 0) (c0 26) (c0 27) []) H locs := hW
  have hJ105 : ∀ (x1 : Int32), jd_X9_counted_105 F c0 w0 x1 = some (r) → ∀ (H : Heap) (locs : List Loc), wd (dC, dI) A s.heap (clX9 cI cJ cZ cB h0 a0 (c0 0) (c0 1) (c0 2) (c0 3) (w0 4 0) (w0 5 0) (c0 6) (c0 7) (c0 8) (c0 9) (c0 10) (c0 11) (c0 12) (c0 13) (c0 14 0) (c0 15 0) (c0 16 0) (c0 17 0) (c0 18) (c0 19) (c0 20) (c0 21 0) (c0 22 0) (c0 23 0) (c0 24 0) (c0 25 0) (c0 26) (c0 27) []) H locs → ∀ ls : Array Slot, lv_has ls 4 [(0, .ref h0), (1, .int x1)] → W p l e rmX9_counted s m (List.toArray [.ref h0, .int p1]) below meth c H locs 0 0 (MQ below (kQ (dC, dI) (cwX9 cI cJ cZ cB h0 a0 c0 w0 []) (some (.int r)) A) (List.toArray [.ref h0, .int p1]) s 0 0 A) (F0 m 105 ls []) := by
    intro x1 h H locs hW ls hl
    rw [jd_X9_counted_105] at h
    refine lv_aload_n S.1 S.2.1 dX9_counted_105 rfl (lv_at hl 0 rfl) ?_
    refine gf (C := RX9) (T := TX9) (N := 28) (ci := 5) (k := 0) S hK hW wu_X9 rfl (by decide) wf_X9_7 0 rfl rfl dX9_counted_106 ?_
    refine lv_iconst (v := (1 : Int32)) S.1 S.2.1 dX9_counted_109 ki_1 ?_
    refine lv_iload_n S.1 S.2.1 dX9_counted_110 rfl (lv_at hl 1 rfl) ?_
    refine lv_iadd S.1 S.2.1 dX9_counted_111 ?_
    refine lv_iconst (v := (3 : Int32)) S.1 S.2.1 dX9_counted_112 ki_3 ?_
    refine lv_isub S.1 S.2.1 dX9_counted_113 ?_
    obtain ⟨z1, h⟩ := of_g h
    refine ia S hK hW rfl 1 rfl z1 dX9_counted_114 ?_
    have f2 := Option.some.inj h
    subst f2
    exact ri S hr hlocks hW dX9_counted_115
  have hL4 : ∀ (n4 : Nat) (x1 : Int32) (x2 : Int32) (x3 : Int32), ld_X9_counted_4 F c0 w0 n4 x1 x2 x3 = some (r) → ∀ (H : Heap) (locs : List Loc), wd (dC, dI) A s.heap (clX9 cI cJ cZ cB h0 a0 (c0 0) (c0 1) (c0 2) (c0 3) (w0 4 0) (w0 5 0) (c0 6) (c0 7) (c0 8) (c0 9) (c0 10) (c0 11) (c0 12) (c0 13) (c0 14 0) (c0 15 0) (c0 16 0) (c0 17 0) (c0 18) (c0 19) (c0 20) (c0 21 0) (c0 22 0) (c0 23 0) (c0 24 0) (c0 25 0) (c0 26) (c0 27) []) H locs → ∀ ls : Array Slot, lv_has ls 4 [(0, .ref h0), (1, .int x1), (2, .int x2), (3, .int x3)] → W p l e rmX9_counted s m (List.toArray [.ref h0, .int p1]) below meth c H locs 0 0 (MQ below (kQ (dC, dI) (cwX9 cI cJ cZ cB h0 a0 c0 w0 []) (some (.int r)) A) (List.toArray [.ref h0, .int p1]) s 0 0 A) (F0 m 4 ls []) := by
    intro n4
    induction n4 with
    | zero => intro x1 x2 x3 h; rw [ld_X9_counted_4] at h; cases h
    | succ n4 ih4 =>
      intro x1 x2 x3 h H locs hW ls hl
      rw [ld_X9_counted_4] at h
      refine lv_iload_n S.1 S.2.1 dX9_counted_4 rfl (lv_at hl 3 rfl) ?_
      refine lv_aload_n S.1 S.2.1 dX9_counted_5 rfl (lv_at hl 0 rfl) ?_
      obtain ⟨r3, hy4, h⟩ := bd1_e h
      refine kv0 S hK hN hZ hA hW (rest := [.int x3]) (t_X9_many l dC dI cI cJ cZ cB zz h0 a0 c0 w0 _  hy4) wl_X9_70 wv_X9_many rfl rfl ⟨Nat.le_of_ble_eq_true rfl, Nat.le_of_ble_eq_true rfl⟩ [] [] rfl 0 rfl rfl rfl rfl hl.1 rfl (Nat.le_of_ble_eq_true rfl) dX9_counted_6 [.int r3, .int x3] rfl (fun H locs hW => ?_)
      refine lv_icmp_ge (tgt := 30) S.1 S.2.1 dX9_counted_9 (by decide) (fun u5 => ?_) (fun u5 => ?_)
      · have h := of_p u5 h
        refine lv_iload_n S.1 S.2.1 dX9_counted_30 rfl (lv_at hl 1 rfl) ?_
        by_cases u6 : x1 = (0 : Int32)
        · have h := of_p u6 h
          refine lv_tableIn (off := 45) (tgt := 76) S.1 S.2.1 dX9_counted_31 (by rw [u6]; decide) (by rw [u6]; decide) (by rw [u6]; decide +kernel) (by decide) ?_
          refine lv_aload_n S.1 S.2.1 dX9_counted_76 rfl (lv_at hl 0 rfl) ?_
          obtain ⟨r7, hy8, h⟩ := bd1_e h
          refine kv0 S hK hN hZ hA hW (rest := []) (t_X9_many l dC dI cI cJ cZ cB zz h0 a0 c0 w0 _  hy8) wl_X9_70 wv_X9_many rfl rfl ⟨Nat.le_of_ble_eq_true rfl, Nat.le_of_ble_eq_true rfl⟩ [] [] rfl 0 rfl rfl rfl rfl hl.1 rfl (Nat.le_of_ble_eq_true rfl) dX9_counted_77 [.int r7] rfl (fun H locs hW => ?_)
          have f9 := Option.some.inj h
          subst f9
          exact ri S hr hlocks hW dX9_counted_80
        · have h := of_n u6 h
          by_cases u10 : x1 = (1 : Int32)
          · have h := of_p u10 h
            refine lv_tableIn (off := 50) (tgt := 81) S.1 S.2.1 dX9_counted_31 (by rw [u10]; decide) (by rw [u10]; decide) (by rw [u10]; decide +kernel) (by decide) ?_
            refine lv_aload_n S.1 S.2.1 dX9_counted_81 rfl (lv_at hl 0 rfl) ?_
            refine gf (C := RX9) (T := TX9) (N := 28) (ci := 5) (k := 0) S hK hW wu_X9 rfl (by decide) wf_X9_7 0 rfl rfl dX9_counted_82 ?_
            refine lv_iconst (v := (5 : Int32)) S.1 S.2.1 dX9_counted_85 ki_5 ?_
            refine iaK S hK hW rfl 1 rfl b_5_194 x_5 dX9_counted_86 ?_
            obtain ⟨r11, hy12, h⟩ := bd1_e h
            refine ks0 S hK hN hZ hA hW (rest := []) (t_X9_bits l dC dI cI cJ cZ cB zz F ((c0 0) 5) _  hy12) wl_X9_197 wv_X9_bits rfl rfl ⟨Nat.le_of_ble_eq_true rfl, Nat.le_of_ble_eq_true rfl⟩ [] (clX9 cI cJ cZ cB h0 a0 (c0 0) (c0 1) (c0 2) (c0 3) (w0 4 0) (w0 5 0) (c0 6) (c0 7) (c0 8) (c0 9) (c0 10) (c0 11) (c0 12) (c0 13) (c0 14 0) (c0 15 0) (c0 16 0) (c0 17 0) (c0 18) (c0 19) (c0 20) (c0 21 0) (c0 22 0) (c0 23 0) (c0 24 0) (c0 25 0) (c0 26) (c0 27) []) rfl rfl hl.1 rfl (Nat.le_of_ble_eq_true rfl) dX9_counted_87 [.int r11] rfl (fun H locs hW => ?_)
            have f13 := Option.some.inj h
            subst f13
            exact ri S hr hlocks hW dX9_counted_90
          · have h := of_n u10 h
            by_cases u14 : x1 = (2 : Int32)
            · have h := of_p u14 h
              refine lv_tableIn (off := 60) (tgt := 91) S.1 S.2.1 dX9_counted_31 (by rw [u14]; decide) (by rw [u14]; decide) (by rw [u14]; decide +kernel) (by decide) ?_
              refine lv_iload_n S.1 S.2.1 dX9_counted_91 rfl (lv_at hl 2 rfl) ?_
              have f15 := Option.some.inj h
              subst f15
              exact ri S hr hlocks hW dX9_counted_92
            · have h := of_n u14 h
              by_cases u16 : x1 = (3 : Int32)
              · have h := of_p u16 h
                refine lv_tableIn (off := 74) (tgt := 105) S.1 S.2.1 dX9_counted_31 (by rw [u16]; decide) (by rw [u16]; decide) (by rw [u16]; decide +kernel) (by decide) ?_
                exact hJ105 _ h H locs hW ls (lv_sub hl [0, 1] rfl)
              · have h := of_n u16 h
                by_cases u17 : x1 = (4 : Int32)
                · have h := of_p u17 h
                  refine lv_tableIn (off := 74) (tgt := 105) S.1 S.2.1 dX9_counted_31 (by rw [u17]; decide) (by rw [u17]; decide) (by rw [u17]; decide +kernel) (by decide) ?_
                  exact hJ105 _ h H locs hW ls (lv_sub hl [0, 1] rfl)
                · have h := of_n u17 h
                  by_cases u18 : x1 = (5 : Int32)
                  · have h := of_p u18 h
                    refine lv_tableIn (off := 74) (tgt := 105) S.1 S.2.1 dX9_counted_31 (by rw [u18]; decide) (by rw [u18]; decide) (by rw [u18]; decide +kernel) (by decide) ?_
                    exact hJ105 _ h H locs hW ls (lv_sub hl [0, 1] rfl)
                  · have h := of_n u18 h
                    by_cases u19 : x1 = (6 : Int32)
                    · have h := of_p u19 h
                      refine lv_tableIn (off := 62) (tgt := 93) S.1 S.2.1 dX9_counted_31 (by rw [u19]; decide) (by rw [u19]; decide) (by rw [u19]; decide +kernel) (by decide) ?_
                      refine lv_aload_n S.1 S.2.1 dX9_counted_93 rfl (lv_at hl 0 rfl) ?_
                      refine gf (C := RX9) (T := TX9) (N := 28) (ci := 5) (k := 0) S hK hW wu_X9 rfl (by decide) wf_X9_7 0 rfl rfl dX9_counted_94 ?_
                      refine lv_iconst (v := (4 : Int32)) S.1 S.2.1 dX9_counted_97 ki_4 ?_
                      refine iaK S hK hW rfl 1 rfl b_4_194 x_4 dX9_counted_98 ?_
                      have f20 := Option.some.inj h
                      subst f20
                      exact ri S hr hlocks hW dX9_counted_99
                    · have h := of_n u19 h
                      by_cases u21 : x1 = (7 : Int32)
                      · have h := of_p u21 h
                        refine lv_tableIn (off := 69) (tgt := 100) S.1 S.2.1 dX9_counted_31 (by rw [u21]; decide) (by rw [u21]; decide) (by rw [u21]; decide +kernel) (by decide) ?_
                        refine lv_aload_n S.1 S.2.1 dX9_counted_100 rfl (lv_at hl 0 rfl) ?_
                        refine gf (C := RX9) (T := TX9) (N := 28) (ci := 5) (k := 21) S hK hW wu_X9 rfl (by decide) wf_X9_267 0 rfl rfl dX9_counted_101 ?_
                        have f22 := Option.some.inj h
                        subst f22
                        exact ri S hr hlocks hW dX9_counted_104
                      · have h := of_n u21 h
                        refine lv_tableOut (tgt := 105) S.1 S.2.1 dX9_counted_31 (by have z0 := lv_neT u6 (a := 0) (by decide); have z1 := lv_neT u10 (a := 1) (by decide); have z2 := lv_neT u14 (a := 2) (by decide); have z3 := lv_neT u16 (a := 3) (by decide); have z4 := lv_neT u17 (a := 4) (by decide); have z5 := lv_neT u18 (a := 5) (by decide); have z6 := lv_neT u19 (a := 6) (by decide); have z7 := lv_neT u21 (a := 7) (by decide); omega) (by decide) ?_
                        exact hJ105 _ h H locs hW ls (lv_sub hl [0, 1] rfl)
      · have h := of_n u5 h
        refine lv_iload_n S.1 S.2.1 dX9_counted_12 rfl (lv_at hl 2 rfl) ?_
        refine lv_aload_n S.1 S.2.1 dX9_counted_13 rfl (lv_at hl 0 rfl) ?_
        refine gf (C := RX9) (T := TX9) (N := 28) (ci := 5) (k := 0) S hK hW wu_X9 rfl (by decide) wf_X9_7 0 rfl rfl dX9_counted_14 ?_
        refine lv_bipush (v := (6 : Int32)) S.1 S.2.1 dX9_counted_17 kb_6 ?_
        refine lv_iload_n S.1 S.2.1 dX9_counted_19 rfl (lv_at hl 3 rfl) ?_
        refine lv_iadd S.1 S.2.1 dX9_counted_20 ?_
        obtain ⟨z23, h⟩ := of_g h
        refine ia S hK hW rfl 1 rfl z23 dX9_counted_21 ?_
        refine lv_iadd S.1 S.2.1 dX9_counted_22 ?_
        obtain ⟨y24, e25, h⟩ := lt1_e h
        refine nmi e25 ?_
        refine lv_istore_n (lv' := [(2, .int y24), (0, .ref h0), (1, .int x1), (3, .int x3)]) S.1 S.2.1 dX9_counted_23 rfl hl (by decide) rfl (fun ls hl => ?_)
        refine lv_iinc (v := (x3 + (1 : Int32))) (lv' := [(3, .int (x3 + (1 : Int32))), (2, .int y24), (0, .ref h0), (1, .int x1)]) S.1 S.2.1 dX9_counted_24 hl (k := 3) rfl (congrArg (fun z => x3 + z) ki_1) (by decide) rfl (fun ls hl => ?_)
        refine lv_goto (tgt := 4) S.1 S.2.1 dX9_counted_27 (by decide) ?_
        exact ih4 _ _ _ h H locs hW ls (lv_sub hl [2, 3, 1, 0] rfl)
  refine lv_iconst (v := (0 : Int32)) S.1 S.2.1 dX9_counted_0 ki_0 ?_
  refine lv_istore_n (lv' := [(2, .int (0 : Int32)), (0, .ref h0), (1, .int p1)]) S.1 S.2.1 dX9_counted_1 rfl hl (by decide) rfl (fun ls hl => ?_)
  refine lv_iconst (v := (0 : Int32)) S.1 S.2.1 dX9_counted_2 ki_0 ?_
  refine lv_istore_n (lv' := [(3, .int (0 : Int32)), (2, .int (0 : Int32)), (0, .ref h0), (1, .int p1)]) S.1 S.2.1 dX9_counted_3 rfl hl (by decide) rfl (fun ls hl => ?_)
  exact hL4 F _ _ _ h H locs hW ls (lv_sub hl [2, 3, 1, 0] rfl)
abbrev rmX9_count : Room := { frames := 2, cells := 0, slots := 0, locals := 45 }
set_option maxHeartbeats 4000000 in
set_option maxRecDepth 100000 in
theorem t_X9_count (l : Launch) (dC : Nat → ClassId) (dI : Nat → Nat → Nat) (cI cJ cZ cB : ClassId) (zz : ZT)  (h0 : Nat) (a0 : Nat → Nat) (F : Nat) (c0 : Nat → Nat → Int32) (w0 : Nat → Nat → Int64) (p1 : Int32) (r : Int32) (c0' : Nat → Nat → Int32) (hm : md_X9_count F c0 w0 p1 = some (r, c0')) : ct l (dC, dI) zz (ty4 cI cJ cZ cB) yX9_count cX9_count 2 (some .int) rmX9_count [.ref h0, .int p1] (cwX9 cI cJ cZ cB h0 a0 c0 w0 []) (cwX9 cI cJ cZ cB h0 a0 c0' w0 []) (some (.int r)) := by
  refine ct_of (cc := cX9_count) (maxL := 2) (ret := (some .int)) (by decide) (Nat.le_of_ble_eq_true rfl) ?_
  intro p e s m below meth c A S hr hlocks hK hN hZ hA H locs hW ls hl
  have S : CallFix p m c cX9_count 2 s (List.toArray [.ref h0, .int p1]) G RX9 := S
  have hl : lv_has ls 2 [(0, .ref h0), (1, .int p1)] := hl
  have h := hm
  rw [md_X9_count] at h
  have hW : wd (dC, dI) A s.heap (clX9 cI cJ cZ cB h0 a0 (c0 0) (c0 1) (c0 2) (c0 3) (w0 4 0) (w0 5 0) (c0 6) (c0 7) (c0 8) (c0 9) (c0 10) (c0 11) (c0 12) (c0 13) (c0 14 0) (c0 15 0) (c0 16 0) (c0 17 0) (c0 18) (c0 19) (c0 20) (c0 21 0) (c0 22 0) (c0 23 0) (c0 24 0) (c0 25 0) (c0 26) (c0 27) []) H locs := hW
  refine lv_iload_n S.1 S.2.1 dX9_count_0 rfl (lv_at hl 1 rfl) ?_
  refine lv_i2l S.1 S.2.1 dX9_count_1 rfl ?_
  refine lv_lconst (v := (0 : Int64)) S.1 S.2.1 dX9_count_2 rfl ?_
  refine lv_ldc2 (v := (7 : Int64)) S.1 S.2.1 S.2.2.2.1 (S.2.2.2.2 _ wk_X9_333) dX9_count_3 ?_
  obtain ⟨r1, hy2, h⟩ := bd1_e h
  refine ks0 S hK hN hZ hA hW (rest := []) (t_X9_in l dC dI cI cJ cZ cB zz p1.toInt64 (0 : Int64) (7 : Int64) _  hy2) wl_X9_74 wv_X9_in rfl rfl ⟨Nat.le_of_ble_eq_true rfl, Nat.le_of_ble_eq_true rfl⟩ [] (clX9 cI cJ cZ cB h0 a0 (c0 0) (c0 1) (c0 2) (c0 3) (w0 4 0) (w0 5 0) (c0 6) (c0 7) (c0 8) (c0 9) (c0 10) (c0 11) (c0 12) (c0 13) (c0 14 0) (c0 15 0) (c0 16 0) (c0 17 0) (c0 18) (c0 19) (c0 20) (c0 21 0) (c0 22 0) (c0 23 0) (c0 24 0) (c0 25 0) (c0 26) (c0 27) []) rfl rfl hl.1 rfl (Nat.le_of_ble_eq_true rfl) dX9_count_6 [.int r1] rfl (fun H locs hW => ?_)
  refine lv_if_eq (tgt := 20) S.1 S.2.1 dX9_count_9 (by decide) (fun u3 => ?_) (fun u3 => ?_)
  · have h := of_p u3 h
    refine lv_aload_n S.1 S.2.1 dX9_count_20 rfl (lv_at hl 0 rfl) ?_
    refine lv_bipush (v := (-2 : Int32)) S.1 S.2.1 dX9_count_21 kb_m2 ?_
    obtain ⟨r4, cv5, hy6, h⟩ := bd2_e h
    refine kv (clX9 cI cJ cZ cB h0 a0 (cv5 0) (cv5 1) (cv5 2) (cv5 3) (w0 4 0) (w0 5 0) (cv5 6) (cv5 7) (cv5 8) (cv5 9) (cv5 10) (cv5 11) (cv5 12) (cv5 13) (cv5 14 0) (cv5 15 0) (cv5 16 0) (cv5 17 0) (cv5 18) (cv5 19) (cv5 20) (cv5 21 0) (cv5 22 0) (cv5 23 0) (cv5 24 0) (cv5 25 0) (cv5 26) (cv5 27) []) S hK hN hZ hA hW (rest := []) (t_X9_bad l dC dI cI cJ cZ cB zz h0 a0 c0 w0 (-2 : Int32) _ _  hy6) wl_X9_84 wv_X9_bad rfl rfl ⟨Nat.le_of_ble_eq_true rfl, Nat.le_of_ble_eq_true rfl⟩ [] [] rfl rfl rfl 0 rfl rfl rfl rfl hl.1 rfl (Nat.le_of_ble_eq_true rfl) dX9_count_23 [.int r4] rfl (fun H locs hW => ?_)
    have f7 := Option.some.inj h
    obtain ⟨f8, f9⟩ := Prod.mk.inj f7
    subst f8
    subst f9
    exact ri S hr hlocks hW dX9_count_26
  · have h := of_n u3 h
    refine lv_aload_n S.1 S.2.1 dX9_count_12 rfl (lv_at hl 0 rfl) ?_
    refine lv_iload_n S.1 S.2.1 dX9_count_13 rfl (lv_at hl 1 rfl) ?_
    obtain ⟨r10, hy11, h⟩ := bd1_e h
    refine kv0 S hK hN hZ hA hW (rest := []) (t_X9_counted l dC dI cI cJ cZ cB zz h0 a0 F c0 w0 p1 _  hy11) wl_X9_335 wv_X9_counted rfl rfl ⟨Nat.le_of_ble_eq_true rfl, Nat.le_of_ble_eq_true rfl⟩ [] [] rfl 0 rfl rfl rfl rfl hl.1 rfl (Nat.le_of_ble_eq_true rfl) dX9_count_14 [.int r10] rfl (fun H locs hW => ?_)
    refine lv_goto (tgt := 26) S.1 S.2.1 dX9_count_17 (by decide) ?_
    have f12 := Option.some.inj h
    obtain ⟨f13, f14⟩ := Prod.mk.inj f12
    subst f13
    subst f14
    exact ri S hr hlocks hW dX9_count_26
abbrev rmX9_sums : Room := { frames := 0, cells := 0, slots := 0, locals := 0 }
set_option maxHeartbeats 4000000 in
set_option maxRecDepth 100000 in
theorem t_X9_sums (l : Launch) (dC : Nat → ClassId) (dI : Nat → Nat → Nat) (cI cJ cZ cB : ClassId) (zz : ZT)  (h0 : Nat) (a0 : Nat → Nat) (F : Nat) (c0 : Nat → Nat → Int32) (w0 : Nat → Nat → Int64) (p1 : Int64) (p3 : Int32) (p4 : Int32) (r : Int64) (hm : md_X9_sums F c0 w0 p1 p3 p4 = some (r)) : ct l (dC, dI) zz (ty4 cI cJ cZ cB) yX9_sums cX9_sums 8 (some .long) rmX9_sums [.ref h0, .long p1, .int p3, .int p4] (cwX9 cI cJ cZ cB h0 a0 c0 w0 []) (cwX9 cI cJ cZ cB h0 a0 c0 w0 []) (some (.long r)) := by
  refine ct_of (cc := cX9_sums) (maxL := 8) (ret := (some .long)) (by decide) (Nat.le_of_ble_eq_true rfl) ?_
  intro p e s m below meth c A S hr hlocks hK hN hZ hA H locs hW ls hl
  have S : CallFix p m c cX9_sums 8 s (List.toArray [.ref h0, .long p1, .int p3, .int p4]) G RX9 := S
  have hl : lv_has ls 8 [(0, .ref h0), (1, .long p1), (3, .int p3), (4, .int p4)] := hl
  have h := hm
  rw [md_X9_sums] at h
  have hW : wd (dC, dI) A s.heap (clX9 cI cJ cZ cB h0 a0 (c0 0) (c0 1) (c0 2) (c0 3) (w0 4 0) (w0 5 0) (c0 6) (c0 7) (c0 8) (c0 9) (c0 10) (c0 11) (c0 12) (c0 13) (c0 14 0) (c0 15 0) (c0 16 0) (c0 17 0) (c0 18) (c0 19) (c0 20) (c0 21 0) (c0 22 0) (c0 23 0) (c0 24 0) (c0 25 0) (c0 26) (c0 27) []) H locs := hW
  have hL6 : ∀ (n6 : Nat) (x3 : Int32) (x4 : Int32) (x5 : Int64) (x7 : Int32), ld_X9_sums_6 F c0 w0 n6 x3 x4 x5 x7 = some (r) → ∀ (H : Heap) (locs : List Loc), wd (dC, dI) A s.heap (clX9 cI cJ cZ cB h0 a0 (c0 0) (c0 1) (c0 2) (c0 3) (w0 4 0) (w0 5 0) (c0 6) (c0 7) (c0 8) (c0 9) (c0 10) (c0 11) (c0 12) (c0 13) (c0 14 0) (c0 15 0) (c0 16 0) (c0 17 0) (c0 18) (c0 19) (c0 20) (c0 21 0) (c0 22 0) (c0 23 0) (c0 24 0) (c0 25 0) (c0 26) (c0 27) []) H locs → ∀ ls : Array Slot, lv_has ls 8 [(0, .ref h0), (3, .int x3), (4, .int x4), (5, .long x5), (7, .int x7)] → W p l e rmX9_sums s m (List.toArray [.ref h0, .long p1, .int p3, .int p4]) below meth c H locs 0 0 (MQ below (kQ (dC, dI) (cwX9 cI cJ cZ cB h0 a0 c0 w0 []) (some (.long r)) A) (List.toArray [.ref h0, .long p1, .int p3, .int p4]) s 0 0 A) (F0 m 6 ls []) := by
    intro n6
    induction n6 with
    | zero => intro x3 x4 x5 x7 h; rw [ld_X9_sums_6] at h; cases h
    | succ n6 ih6 =>
      intro x3 x4 x5 x7 h H locs hW ls hl
      rw [ld_X9_sums_6] at h
      refine lv_iload S.1 S.2.1 dX9_sums_6 (lv_at hl 4 rfl) ?_
      refine lv_iload S.1 S.2.1 dX9_sums_8 (lv_at hl 2 rfl) ?_
      refine lv_icmp_ge (tgt := 38) S.1 S.2.1 dX9_sums_10 (by decide) (fun u1 => ?_) (fun u1 => ?_)
      · have h := of_p u1 h
        refine lv_lload S.1 S.2.1 dX9_sums_38 (lv_at hl 3 rfl) ?_
        have f2 := Option.some.inj h
        subst f2
        exact rl S hr hlocks hW dX9_sums_40
      · have h := of_n u1 h
        refine lv_ldc2 (v := (31 : Int64)) S.1 S.2.1 S.2.2.2.1 (S.2.2.2.2 _ wk_X9_338) dX9_sums_13 ?_
        refine lv_lload S.1 S.2.1 dX9_sums_16 (lv_at hl 3 rfl) ?_
        refine lv_lmul S.1 S.2.1 dX9_sums_18 ?_
        refine lv_aload_n S.1 S.2.1 dX9_sums_19 rfl (lv_at hl 0 rfl) ?_
        refine gf (C := RX9) (T := TX9) (N := 28) (ci := 5) (k := 0) S hK hW wu_X9 rfl (by decide) wf_X9_7 0 rfl rfl dX9_sums_20 ?_
        refine lv_iload_n S.1 S.2.1 dX9_sums_23 rfl (lv_at hl 1 rfl) ?_
        refine lv_iload S.1 S.2.1 dX9_sums_24 (lv_at hl 4 rfl) ?_
        refine lv_iadd S.1 S.2.1 dX9_sums_26 ?_
        obtain ⟨z3, h⟩ := of_g h
        refine ia S hK hW rfl 1 rfl z3 dX9_sums_27 ?_
        refine lv_i2l S.1 S.2.1 dX9_sums_28 rfl ?_
        refine lv_ladd S.1 S.2.1 dX9_sums_29 ?_
        obtain ⟨y4, e5, h⟩ := lt1_e h
        refine nml e5 ?_
        refine lv_lstore (lv' := [(5, .long y4), (0, .ref h0), (3, .int x3), (4, .int x4), (7, .int x7)]) S.1 S.2.1 dX9_sums_30 hl (by decide) rfl (fun ls hl => ?_)
        refine lv_iinc (v := (x7 + (1 : Int32))) (lv' := [(7, .int (x7 + (1 : Int32))), (5, .long y4), (0, .ref h0), (3, .int x3), (4, .int x4)]) S.1 S.2.1 dX9_sums_32 hl (k := 4) rfl (congrArg (fun z => x7 + z) ki_1) (by decide) rfl (fun ls hl => ?_)
        refine lv_goto (tgt := 6) S.1 S.2.1 dX9_sums_35 (by decide) ?_
        exact ih6 _ _ _ _ h H locs hW ls (lv_sub hl [2, 3, 4, 1, 0] rfl)
  refine lv_lload_n S.1 S.2.1 dX9_sums_0 rfl (lv_at hl 1 rfl) ?_
  refine lv_lstore (lv' := [(5, .long p1), (0, .ref h0), (1, .long p1), (3, .int p3), (4, .int p4)]) S.1 S.2.1 dX9_sums_1 hl (by decide) rfl (fun ls hl => ?_)
  refine lv_iconst (v := (0 : Int32)) S.1 S.2.1 dX9_sums_3 ki_0 ?_
  refine lv_istore (lv' := [(7, .int (0 : Int32)), (5, .long p1), (0, .ref h0), (1, .long p1), (3, .int p3), (4, .int p4)]) S.1 S.2.1 dX9_sums_4 hl (by decide) rfl (fun ls hl => ?_)
  exact hL6 F _ _ _ _ h H locs hW ls (lv_sub hl [2, 4, 5, 1, 0] rfl)
abbrev rmX9_digest : Room := { frames := 3, cells := 0, slots := 0, locals := 61 }
set_option maxHeartbeats 4000000 in
set_option maxRecDepth 100000 in
theorem t_X9_digest (l : Launch) (dC : Nat → ClassId) (dI : Nat → Nat → Nat) (cI cJ cZ cB : ClassId) (zz : ZT)  (h0 : Nat) (a0 : Nat → Nat) (F : Nat) (c0 : Nat → Nat → Int32) (w0 : Nat → Nat → Int64) (r : Int64) (hm : md_X9_digest F c0 w0 = some (r)) : ct l (dC, dI) zz (ty4 cI cJ cZ cB) yX9_digest cX9_digest 4 (some .long) rmX9_digest [.ref h0] (cwX9 cI cJ cZ cB h0 a0 c0 w0 []) (cwX9 cI cJ cZ cB h0 a0 c0 w0 []) (some (.long r)) := by
  refine ct_of (cc := cX9_digest) (maxL := 4) (ret := (some .long)) (by decide) (Nat.le_of_ble_eq_true rfl) ?_
  intro p e s m below meth c A S hr hlocks hK hN hZ hA H locs hW ls hl
  have S : CallFix p m c cX9_digest 4 s (List.toArray [.ref h0]) G RX9 := S
  have hl : lv_has ls 4 [(0, .ref h0)] := hl
  have h := hm
  rw [md_X9_digest] at h
  have hW : wd (dC, dI) A s.heap (clX9 cI cJ cZ cB h0 a0 (c0 0) (c0 1) (c0 2) (c0 3) (w0 4 0) (w0 5 0) (c0 6) (c0 7) (c0 8) (c0 9) (c0 10) (c0 11) (c0 12) (c0 13) (c0 14 0) (c0 15 0) (c0 16 0) (c0 17 0) (c0 18) (c0 19) (c0 20) (c0 21 0) (c0 22 0) (c0 23 0) (c0 24 0) (c0 25 0) (c0 26) (c0 27) []) H locs := hW
  have hL104 : ∀ (n104 : Nat) (x1 : Int64) (x3 : Int32), ld_X9_digest_104 F c0 w0 n104 x1 x3 = some (r) → ∀ (H : Heap) (locs : List Loc), wd (dC, dI) A s.heap (clX9 cI cJ cZ cB h0 a0 (c0 0) (c0 1) (c0 2) (c0 3) (w0 4 0) (w0 5 0) (c0 6) (c0 7) (c0 8) (c0 9) (c0 10) (c0 11) (c0 12) (c0 13) (c0 14 0) (c0 15 0) (c0 16 0) (c0 17 0) (c0 18) (c0 19) (c0 20) (c0 21 0) (c0 22 0) (c0 23 0) (c0 24 0) (c0 25 0) (c0 26) (c0 27) []) H locs → ∀ ls : Array Slot, lv_has ls 4 [(0, .ref h0), (1, .long x1), (3, .int x3)] → W p l e rmX9_digest s m (List.toArray [.ref h0]) below meth c H locs 0 0 (MQ below (kQ (dC, dI) (cwX9 cI cJ cZ cB h0 a0 c0 w0 []) (some (.long r)) A) (List.toArray [.ref h0]) s 0 0 A) (F0 m 104 ls []) := by
    intro n104
    induction n104 with
    | zero => intro x1 x3 h; rw [ld_X9_digest_104] at h; cases h
    | succ n104 ih104 =>
      intro x1 x3 h H locs hW ls hl
      rw [ld_X9_digest_104] at h
      refine lv_iload_n S.1 S.2.1 dX9_digest_104 rfl (lv_at hl 2 rfl) ?_
      refine lv_aload_n S.1 S.2.1 dX9_digest_105 rfl (lv_at hl 0 rfl) ?_
      obtain ⟨r1, hy2, h⟩ := bd1_e h
      refine kv0 S hK hN hZ hA hW (rest := [.int x3]) (t_X9_many l dC dI cI cJ cZ cB zz h0 a0 c0 w0 _  hy2) wl_X9_70 wv_X9_many rfl rfl ⟨Nat.le_of_ble_eq_true rfl, Nat.le_of_ble_eq_true rfl⟩ [] [] rfl 0 rfl rfl rfl rfl hl.1 rfl (Nat.le_of_ble_eq_true rfl) dX9_digest_106 [.int r1, .int x3] rfl (fun H locs hW => ?_)
      refine lv_icmp_ge (tgt := 183) S.1 S.2.1 dX9_digest_109 (by decide) (fun u3 => ?_) (fun u3 => ?_)
      · have h := of_p u3 h
        refine lv_aload_n S.1 S.2.1 dX9_digest_183 rfl (lv_at hl 0 rfl) ?_
        refine lv_lload_n S.1 S.2.1 dX9_digest_184 rfl (lv_at hl 1 rfl) ?_
        refine lv_bipush (v := (32 : Int32)) S.1 S.2.1 dX9_digest_185 kb_32 ?_
        refine lv_aload_n S.1 S.2.1 dX9_digest_187 rfl (lv_at hl 0 rfl) ?_
        refine gf (C := RX9) (T := TX9) (N := 28) (ci := 5) (k := 0) S hK hW wu_X9 rfl (by decide) wf_X9_7 0 rfl rfl dX9_digest_188 ?_
        refine lv_iconst (v := (1 : Int32)) S.1 S.2.1 dX9_digest_191 ki_1 ?_
        refine iaK S hK hW rfl 1 rfl b_1_194 x_1 dX9_digest_192 ?_
        obtain ⟨r4, hy5, h⟩ := bd1_e h
        refine kv0 S hK hN hZ hA hW (rest := []) (t_X9_sums l dC dI cI cJ cZ cB zz h0 a0 F c0 w0 x1 (32 : Int32) ((c0 0) 1) _  hy5) wl_X9_342 wv_X9_sums rfl rfl ⟨Nat.le_of_ble_eq_true rfl, Nat.le_of_ble_eq_true rfl⟩ [] [] rfl 0 rfl rfl rfl rfl hl.1 rfl (Nat.le_of_ble_eq_true rfl) dX9_digest_193 [.long r4] rfl (fun H locs hW => ?_)
        refine lv_lstore_n (lv' := [(1, .long r4), (0, .ref h0), (3, .int x3)]) S.1 S.2.1 dX9_digest_196 rfl hl (by decide) rfl (fun ls hl => ?_)
        refine lv_aload_n S.1 S.2.1 dX9_digest_197 rfl (lv_at hl 1 rfl) ?_
        refine lv_lload_n S.1 S.2.1 dX9_digest_198 rfl (lv_at hl 0 rfl) ?_
        refine lv_bipush (v := (36 : Int32)) S.1 S.2.1 dX9_digest_199 kb_36 ?_
        refine lv_iconst (v := (5 : Int32)) S.1 S.2.1 dX9_digest_201 ki_5 ?_
        refine lv_aload_n S.1 S.2.1 dX9_digest_202 rfl (lv_at hl 1 rfl) ?_
        refine gf (C := RX9) (T := TX9) (N := 28) (ci := 5) (k := 0) S hK hW wu_X9 rfl (by decide) wf_X9_7 0 rfl rfl dX9_digest_203 ?_
        refine lv_iconst (v := (2 : Int32)) S.1 S.2.1 dX9_digest_206 ki_2 ?_
        refine iaK S hK hW rfl 1 rfl b_2_194 x_2 dX9_digest_207 ?_
        refine lv_imul S.1 S.2.1 dX9_digest_208 ?_
        obtain ⟨r6, hy7, h⟩ := bd1_e h
        refine kv0 S hK hN hZ hA hW (rest := []) (t_X9_sums l dC dI cI cJ cZ cB zz h0 a0 F c0 w0 r4 (36 : Int32) ((5 : Int32) * ((c0 0) 2)) _  hy7) wl_X9_342 wv_X9_sums rfl rfl ⟨Nat.le_of_ble_eq_true rfl, Nat.le_of_ble_eq_true rfl⟩ [] [] rfl 0 rfl rfl rfl rfl hl.1 rfl (Nat.le_of_ble_eq_true rfl) dX9_digest_209 [.long r6] rfl (fun H locs hW => ?_)
        refine lv_lstore_n (lv' := [(1, .long r6), (0, .ref h0), (3, .int x3)]) S.1 S.2.1 dX9_digest_212 rfl hl (by decide) rfl (fun ls hl => ?_)
        refine lv_aload_n S.1 S.2.1 dX9_digest_213 rfl (lv_at hl 1 rfl) ?_
        refine lv_lload_n S.1 S.2.1 dX9_digest_214 rfl (lv_at hl 0 rfl) ?_
        refine lv_bipush (v := (66 : Int32)) S.1 S.2.1 dX9_digest_215 kb_66 ?_
        refine lv_iconst (v := (4 : Int32)) S.1 S.2.1 dX9_digest_217 ki_4 ?_
        refine lv_aload_n S.1 S.2.1 dX9_digest_218 rfl (lv_at hl 1 rfl) ?_
        refine gf (C := RX9) (T := TX9) (N := 28) (ci := 5) (k := 0) S hK hW wu_X9 rfl (by decide) wf_X9_7 0 rfl rfl dX9_digest_219 ?_
        refine lv_iconst (v := (3 : Int32)) S.1 S.2.1 dX9_digest_222 ki_3 ?_
        refine iaK S hK hW rfl 1 rfl b_3_194 x_3 dX9_digest_223 ?_
        refine lv_imul S.1 S.2.1 dX9_digest_224 ?_
        obtain ⟨r8, hy9, h⟩ := bd1_e h
        refine kv0 S hK hN hZ hA hW (rest := []) (t_X9_sums l dC dI cI cJ cZ cB zz h0 a0 F c0 w0 r6 (66 : Int32) ((4 : Int32) * ((c0 0) 3)) _  hy9) wl_X9_342 wv_X9_sums rfl rfl ⟨Nat.le_of_ble_eq_true rfl, Nat.le_of_ble_eq_true rfl⟩ [] [] rfl 0 rfl rfl rfl rfl hl.1 rfl (Nat.le_of_ble_eq_true rfl) dX9_digest_225 [.long r8] rfl (fun H locs hW => ?_)
        refine lv_lstore_n (lv' := [(1, .long r8), (0, .ref h0), (3, .int x3)]) S.1 S.2.1 dX9_digest_228 rfl hl (by decide) rfl (fun ls hl => ?_)
        refine lv_ldc2 (v := (31 : Int64)) S.1 S.2.1 S.2.2.2.1 (S.2.2.2.2 _ wk_X9_338) dX9_digest_229 ?_
        refine lv_ldc2 (v := (31 : Int64)) S.1 S.2.1 S.2.2.2.1 (S.2.2.2.2 _ wk_X9_338) dX9_digest_232 ?_
        refine lv_lload_n S.1 S.2.1 dX9_digest_235 rfl (lv_at hl 0 rfl) ?_
        refine lv_lmul S.1 S.2.1 dX9_digest_236 ?_
        refine lv_aload_n S.1 S.2.1 dX9_digest_237 rfl (lv_at hl 1 rfl) ?_
        refine gf (C := RX9) (T := TX9) (N := 28) (ci := 5) (k := 4) S hK hW wu_X9 rfl (by decide) wf_X9_241 0 rfl rfl dX9_digest_238 ?_
        refine lv_ladd S.1 S.2.1 dX9_digest_241 ?_
        refine lv_lmul S.1 S.2.1 dX9_digest_242 ?_
        refine lv_aload_n S.1 S.2.1 dX9_digest_243 rfl (lv_at hl 1 rfl) ?_
        refine gf (C := RX9) (T := TX9) (N := 28) (ci := 5) (k := 5) S hK hW wu_X9 rfl (by decide) wf_X9_23 0 rfl rfl dX9_digest_244 ?_
        refine lv_ladd S.1 S.2.1 dX9_digest_247 ?_
        have f10 := Option.some.inj h
        subst f10
        exact rl S hr hlocks hW dX9_digest_248
      · have h := of_n u3 h
        refine lv_ldc2 (v := (31 : Int64)) S.1 S.2.1 S.2.2.2.1 (S.2.2.2.2 _ wk_X9_338) dX9_digest_112 ?_
        refine lv_ldc2 (v := (31 : Int64)) S.1 S.2.1 S.2.2.2.1 (S.2.2.2.2 _ wk_X9_338) dX9_digest_115 ?_
        refine lv_lload_n S.1 S.2.1 dX9_digest_118 rfl (lv_at hl 1 rfl) ?_
        refine lv_lmul S.1 S.2.1 dX9_digest_119 ?_
        refine lv_aload_n S.1 S.2.1 dX9_digest_120 rfl (lv_at hl 0 rfl) ?_
        refine gf (C := RX9) (T := TX9) (N := 28) (ci := 5) (k := 0) S hK hW wu_X9 rfl (by decide) wf_X9_7 0 rfl rfl dX9_digest_121 ?_
        refine lv_bipush (v := (18 : Int32)) S.1 S.2.1 dX9_digest_124 kb_18 ?_
        refine lv_iload_n S.1 S.2.1 dX9_digest_126 rfl (lv_at hl 2 rfl) ?_
        refine lv_iadd S.1 S.2.1 dX9_digest_127 ?_
        obtain ⟨z11, h⟩ := of_g h
        refine ia S hK hW rfl 1 rfl z11 dX9_digest_128 ?_
        refine lv_i2l S.1 S.2.1 dX9_digest_129 rfl ?_
        refine lv_ladd S.1 S.2.1 dX9_digest_130 ?_
        refine lv_lmul S.1 S.2.1 dX9_digest_131 ?_
        refine lv_aload_n S.1 S.2.1 dX9_digest_132 rfl (lv_at hl 0 rfl) ?_
        refine gf (C := RX9) (T := TX9) (N := 28) (ci := 5) (k := 0) S hK hW wu_X9 rfl (by decide) wf_X9_7 0 rfl rfl dX9_digest_133 ?_
        refine lv_bipush (v := (24 : Int32)) S.1 S.2.1 dX9_digest_136 kb_24 ?_
        refine lv_iload_n S.1 S.2.1 dX9_digest_138 rfl (lv_at hl 2 rfl) ?_
        refine lv_iadd S.1 S.2.1 dX9_digest_139 ?_
        obtain ⟨z12, h⟩ := of_g h
        refine ia S hK hW rfl 1 rfl z12 dX9_digest_140 ?_
        refine lv_i2l S.1 S.2.1 dX9_digest_141 rfl ?_
        refine lv_ladd S.1 S.2.1 dX9_digest_142 ?_
        obtain ⟨y13, e14, h⟩ := lt1_e h
        refine nml e14 ?_
        refine lv_lstore_n (lv' := [(1, .long y13), (0, .ref h0), (3, .int x3)]) S.1 S.2.1 dX9_digest_143 rfl hl (by decide) rfl (fun ls hl => ?_)
        refine lv_ldc2 (v := (31 : Int64)) S.1 S.2.1 S.2.2.2.1 (S.2.2.2.2 _ wk_X9_338) dX9_digest_144 ?_
        refine lv_ldc2 (v := (31 : Int64)) S.1 S.2.1 S.2.2.2.1 (S.2.2.2.2 _ wk_X9_338) dX9_digest_147 ?_
        refine lv_lload_n S.1 S.2.1 dX9_digest_150 rfl (lv_at hl 0 rfl) ?_
        refine lv_lmul S.1 S.2.1 dX9_digest_151 ?_
        refine lv_aload_n S.1 S.2.1 dX9_digest_152 rfl (lv_at hl 1 rfl) ?_
        refine gf (C := RX9) (T := TX9) (N := 28) (ci := 5) (k := 0) S hK hW wu_X9 rfl (by decide) wf_X9_7 0 rfl rfl dX9_digest_153 ?_
        refine lv_bipush (v := (6 : Int32)) S.1 S.2.1 dX9_digest_156 kb_6 ?_
        refine lv_iload_n S.1 S.2.1 dX9_digest_158 rfl (lv_at hl 2 rfl) ?_
        refine lv_iadd S.1 S.2.1 dX9_digest_159 ?_
        obtain ⟨z15, h⟩ := of_g h
        refine ia S hK hW rfl 1 rfl z15 dX9_digest_160 ?_
        refine lv_i2l S.1 S.2.1 dX9_digest_161 rfl ?_
        refine lv_ladd S.1 S.2.1 dX9_digest_162 ?_
        refine lv_lmul S.1 S.2.1 dX9_digest_163 ?_
        refine lv_aload_n S.1 S.2.1 dX9_digest_164 rfl (lv_at hl 1 rfl) ?_
        refine gf (C := RX9) (T := TX9) (N := 28) (ci := 5) (k := 0) S hK hW wu_X9 rfl (by decide) wf_X9_7 0 rfl rfl dX9_digest_165 ?_
        refine lv_iconst (v := (5 : Int32)) S.1 S.2.1 dX9_digest_168 ki_5 ?_
        refine iaK S hK hW rfl 1 rfl b_5_194 x_5 dX9_digest_169 ?_
        refine lv_iload_n S.1 S.2.1 dX9_digest_170 rfl (lv_at hl 2 rfl) ?_
        refine lv_ishr S.1 S.2.1 dX9_digest_171 ?_
        refine lv_iconst (v := (1 : Int32)) S.1 S.2.1 dX9_digest_172 ki_1 ?_
        refine lv_iand S.1 S.2.1 dX9_digest_173 ?_
        refine lv_i2l S.1 S.2.1 dX9_digest_174 rfl ?_
        refine lv_ladd S.1 S.2.1 dX9_digest_175 ?_
        obtain ⟨y16, e17, h⟩ := lt1_e h
        refine nml e17 ?_
        refine lv_lstore_n (lv' := [(1, .long y16), (0, .ref h0), (3, .int x3)]) S.1 S.2.1 dX9_digest_176 rfl hl (by decide) rfl (fun ls hl => ?_)
        refine lv_iinc (v := (x3 + (1 : Int32))) (lv' := [(3, .int (x3 + (1 : Int32))), (1, .long y16), (0, .ref h0)]) S.1 S.2.1 dX9_digest_177 hl (k := 2) rfl (congrArg (fun z => x3 + z) ki_1) (by decide) rfl (fun ls hl => ?_)
        refine lv_goto (tgt := 104) S.1 S.2.1 dX9_digest_180 (by decide) ?_
        exact ih104 _ _ h H locs hW ls (lv_sub hl [2, 1, 0] rfl)
  have hL59 : ∀ (n59 : Nat) (x1 : Int64) (x3 : Int32), ld_X9_digest_59 F c0 w0 n59 x1 x3 = some (r) → ∀ (H : Heap) (locs : List Loc), wd (dC, dI) A s.heap (clX9 cI cJ cZ cB h0 a0 (c0 0) (c0 1) (c0 2) (c0 3) (w0 4 0) (w0 5 0) (c0 6) (c0 7) (c0 8) (c0 9) (c0 10) (c0 11) (c0 12) (c0 13) (c0 14 0) (c0 15 0) (c0 16 0) (c0 17 0) (c0 18) (c0 19) (c0 20) (c0 21 0) (c0 22 0) (c0 23 0) (c0 24 0) (c0 25 0) (c0 26) (c0 27) []) H locs → ∀ ls : Array Slot, lv_has ls 4 [(0, .ref h0), (1, .long x1), (3, .int x3)] → W p l e rmX9_digest s m (List.toArray [.ref h0]) below meth c H locs 0 0 (MQ below (kQ (dC, dI) (cwX9 cI cJ cZ cB h0 a0 c0 w0 []) (some (.long r)) A) (List.toArray [.ref h0]) s 0 0 A) (F0 m 59 ls []) := by
    intro n59
    induction n59 with
    | zero => intro x1 x3 h; rw [ld_X9_digest_59] at h; cases h
    | succ n59 ih59 =>
      intro x1 x3 h H locs hW ls hl
      rw [ld_X9_digest_59] at h
      refine lv_iload_n S.1 S.2.1 dX9_digest_59 rfl (lv_at hl 2 rfl) ?_
      refine lv_iconst (v := (2 : Int32)) S.1 S.2.1 dX9_digest_60 ki_2 ?_
      refine lv_icmp_ge (tgt := 102) S.1 S.2.1 dX9_digest_61 (by decide) (fun u18 => ?_) (fun u18 => ?_)
      · have h := of_p u18 h
        refine lv_iconst (v := (0 : Int32)) S.1 S.2.1 dX9_digest_102 ki_0 ?_
        refine lv_istore_n (lv' := [(3, .int (0 : Int32)), (0, .ref h0), (1, .long x1)]) S.1 S.2.1 dX9_digest_103 rfl hl (by decide) rfl (fun ls hl => ?_)
        exact hL104 F _ _ h H locs hW ls (lv_sub hl [1, 2, 0] rfl)
      · have h := of_n u18 h
        refine lv_ldc2 (v := (31 : Int64)) S.1 S.2.1 S.2.2.2.1 (S.2.2.2.2 _ wk_X9_338) dX9_digest_64 ?_
        refine lv_ldc2 (v := (31 : Int64)) S.1 S.2.1 S.2.2.2.1 (S.2.2.2.2 _ wk_X9_338) dX9_digest_67 ?_
        refine lv_lload_n S.1 S.2.1 dX9_digest_70 rfl (lv_at hl 1 rfl) ?_
        refine lv_lmul S.1 S.2.1 dX9_digest_71 ?_
        refine lv_aload_n S.1 S.2.1 dX9_digest_72 rfl (lv_at hl 0 rfl) ?_
        refine gf (C := RX9) (T := TX9) (N := 28) (ci := 5) (k := 0) S hK hW wu_X9 rfl (by decide) wf_X9_7 0 rfl rfl dX9_digest_73 ?_
        refine lv_bipush (v := (30 : Int32)) S.1 S.2.1 dX9_digest_76 kb_30 ?_
        refine lv_iload_n S.1 S.2.1 dX9_digest_78 rfl (lv_at hl 2 rfl) ?_
        refine lv_iadd S.1 S.2.1 dX9_digest_79 ?_
        obtain ⟨z19, h⟩ := of_g h
        refine ia S hK hW rfl 1 rfl z19 dX9_digest_80 ?_
        refine lv_i2l S.1 S.2.1 dX9_digest_81 rfl ?_
        refine lv_ladd S.1 S.2.1 dX9_digest_82 ?_
        refine lv_lmul S.1 S.2.1 dX9_digest_83 ?_
        refine lv_aload_n S.1 S.2.1 dX9_digest_84 rfl (lv_at hl 0 rfl) ?_
        refine gf (C := RX9) (T := TX9) (N := 28) (ci := 5) (k := 0) S hK hW wu_X9 rfl (by decide) wf_X9_7 0 rfl rfl dX9_digest_85 ?_
        refine lv_bipush (v := (12 : Int32)) S.1 S.2.1 dX9_digest_88 kb_12 ?_
        refine lv_iload_n S.1 S.2.1 dX9_digest_90 rfl (lv_at hl 2 rfl) ?_
        refine lv_iadd S.1 S.2.1 dX9_digest_91 ?_
        obtain ⟨z20, h⟩ := of_g h
        refine ia S hK hW rfl 1 rfl z20 dX9_digest_92 ?_
        refine lv_i2l S.1 S.2.1 dX9_digest_93 rfl ?_
        refine lv_ladd S.1 S.2.1 dX9_digest_94 ?_
        obtain ⟨y21, e22, h⟩ := lt1_e h
        refine nml e22 ?_
        refine lv_lstore_n (lv' := [(1, .long y21), (0, .ref h0), (3, .int x3)]) S.1 S.2.1 dX9_digest_95 rfl hl (by decide) rfl (fun ls hl => ?_)
        refine lv_iinc (v := (x3 + (1 : Int32))) (lv' := [(3, .int (x3 + (1 : Int32))), (1, .long y21), (0, .ref h0)]) S.1 S.2.1 dX9_digest_96 hl (k := 2) rfl (congrArg (fun z => x3 + z) ki_1) (by decide) rfl (fun ls hl => ?_)
        refine lv_goto (tgt := 59) S.1 S.2.1 dX9_digest_99 (by decide) ?_
        exact ih59 _ _ h H locs hW ls (lv_sub hl [2, 1, 0] rfl)
  have hL33 : ∀ (n33 : Nat) (x1 : Int64) (x3 : Int32), ld_X9_digest_33 F c0 w0 n33 x1 x3 = some (r) → ∀ (H : Heap) (locs : List Loc), wd (dC, dI) A s.heap (clX9 cI cJ cZ cB h0 a0 (c0 0) (c0 1) (c0 2) (c0 3) (w0 4 0) (w0 5 0) (c0 6) (c0 7) (c0 8) (c0 9) (c0 10) (c0 11) (c0 12) (c0 13) (c0 14 0) (c0 15 0) (c0 16 0) (c0 17 0) (c0 18) (c0 19) (c0 20) (c0 21 0) (c0 22 0) (c0 23 0) (c0 24 0) (c0 25 0) (c0 26) (c0 27) []) H locs → ∀ ls : Array Slot, lv_has ls 4 [(0, .ref h0), (1, .long x1), (3, .int x3)] → W p l e rmX9_digest s m (List.toArray [.ref h0]) below meth c H locs 0 0 (MQ below (kQ (dC, dI) (cwX9 cI cJ cZ cB h0 a0 c0 w0 []) (some (.long r)) A) (List.toArray [.ref h0]) s 0 0 A) (F0 m 33 ls []) := by
    intro n33
    induction n33 with
    | zero => intro x1 x3 h; rw [ld_X9_digest_33] at h; cases h
    | succ n33 ih33 =>
      intro x1 x3 h H locs hW ls hl
      rw [ld_X9_digest_33] at h
      refine lv_iload_n S.1 S.2.1 dX9_digest_33 rfl (lv_at hl 2 rfl) ?_
      refine lv_iconst (v := (5 : Int32)) S.1 S.2.1 dX9_digest_34 ki_5 ?_
      refine lv_icmp_ge (tgt := 57) S.1 S.2.1 dX9_digest_35 (by decide) (fun u23 => ?_) (fun u23 => ?_)
      · have h := of_p u23 h
        refine lv_iconst (v := (0 : Int32)) S.1 S.2.1 dX9_digest_57 ki_0 ?_
        refine lv_istore_n (lv' := [(3, .int (0 : Int32)), (0, .ref h0), (1, .long x1)]) S.1 S.2.1 dX9_digest_58 rfl hl (by decide) rfl (fun ls hl => ?_)
        exact hL59 F _ _ h H locs hW ls (lv_sub hl [1, 2, 0] rfl)
      · have h := of_n u23 h
        refine lv_ldc2 (v := (31 : Int64)) S.1 S.2.1 S.2.2.2.1 (S.2.2.2.2 _ wk_X9_338) dX9_digest_38 ?_
        refine lv_lload_n S.1 S.2.1 dX9_digest_41 rfl (lv_at hl 1 rfl) ?_
        refine lv_lmul S.1 S.2.1 dX9_digest_42 ?_
        refine lv_aload_n S.1 S.2.1 dX9_digest_43 rfl (lv_at hl 0 rfl) ?_
        refine lv_iload_n S.1 S.2.1 dX9_digest_44 rfl (lv_at hl 2 rfl) ?_
        obtain ⟨r24, hy25, h⟩ := bd1_e h
        refine kv0 S hK hN hZ hA hW (rest := [.long ((31 : Int64) * x1)]) (t_X9_toldNow l dC dI cI cJ cZ cB zz h0 a0 c0 w0 x3 _  hy25) wl_X9_140 wv_X9_toldNow rfl rfl ⟨Nat.le_of_ble_eq_true rfl, Nat.le_of_ble_eq_true rfl⟩ [] [] rfl 0 rfl rfl rfl rfl hl.1 rfl (Nat.le_of_ble_eq_true rfl) dX9_digest_45 [.int r24, .long ((31 : Int64) * x1)] rfl (fun H locs hW => ?_)
        refine lv_i2l S.1 S.2.1 dX9_digest_48 rfl ?_
        refine lv_ladd S.1 S.2.1 dX9_digest_49 ?_
        obtain ⟨y26, e27, h⟩ := lt1_e h
        refine nml e27 ?_
        refine lv_lstore_n (lv' := [(1, .long y26), (0, .ref h0), (3, .int x3)]) S.1 S.2.1 dX9_digest_50 rfl hl (by decide) rfl (fun ls hl => ?_)
        refine lv_iinc (v := (x3 + (1 : Int32))) (lv' := [(3, .int (x3 + (1 : Int32))), (1, .long y26), (0, .ref h0)]) S.1 S.2.1 dX9_digest_51 hl (k := 2) rfl (congrArg (fun z => x3 + z) ki_1) (by decide) rfl (fun ls hl => ?_)
        refine lv_goto (tgt := 33) S.1 S.2.1 dX9_digest_54 (by decide) ?_
        exact ih33 _ _ h H locs hW ls (lv_sub hl [2, 1, 0] rfl)
  have hL6 : ∀ (n6 : Nat) (x1 : Int64) (x3 : Int32), ld_X9_digest_6 F c0 w0 n6 x1 x3 = some (r) → ∀ (H : Heap) (locs : List Loc), wd (dC, dI) A s.heap (clX9 cI cJ cZ cB h0 a0 (c0 0) (c0 1) (c0 2) (c0 3) (w0 4 0) (w0 5 0) (c0 6) (c0 7) (c0 8) (c0 9) (c0 10) (c0 11) (c0 12) (c0 13) (c0 14 0) (c0 15 0) (c0 16 0) (c0 17 0) (c0 18) (c0 19) (c0 20) (c0 21 0) (c0 22 0) (c0 23 0) (c0 24 0) (c0 25 0) (c0 26) (c0 27) []) H locs → ∀ ls : Array Slot, lv_has ls 4 [(0, .ref h0), (1, .long x1), (3, .int x3)] → W p l e rmX9_digest s m (List.toArray [.ref h0]) below meth c H locs 0 0 (MQ below (kQ (dC, dI) (cwX9 cI cJ cZ cB h0 a0 c0 w0 []) (some (.long r)) A) (List.toArray [.ref h0]) s 0 0 A) (F0 m 6 ls []) := by
    intro n6
    induction n6 with
    | zero => intro x1 x3 h; rw [ld_X9_digest_6] at h; cases h
    | succ n6 ih6 =>
      intro x1 x3 h H locs hW ls hl
      rw [ld_X9_digest_6] at h
      refine lv_iload_n S.1 S.2.1 dX9_digest_6 rfl (lv_at hl 2 rfl) ?_
      refine lv_bipush (v := (8 : Int32)) S.1 S.2.1 dX9_digest_7 kb_8 ?_
      refine lv_icmp_ge (tgt := 31) S.1 S.2.1 dX9_digest_9 (by decide) (fun u28 => ?_) (fun u28 => ?_)
      · have h := of_p u28 h
        refine lv_iconst (v := (0 : Int32)) S.1 S.2.1 dX9_digest_31 ki_0 ?_
        refine lv_istore_n (lv' := [(3, .int (0 : Int32)), (0, .ref h0), (1, .long x1)]) S.1 S.2.1 dX9_digest_32 rfl hl (by decide) rfl (fun ls hl => ?_)
        exact hL33 F _ _ h H locs hW ls (lv_sub hl [1, 2, 0] rfl)
      · have h := of_n u28 h
        refine lv_ldc2 (v := (31 : Int64)) S.1 S.2.1 S.2.2.2.1 (S.2.2.2.2 _ wk_X9_338) dX9_digest_12 ?_
        refine lv_lload_n S.1 S.2.1 dX9_digest_15 rfl (lv_at hl 1 rfl) ?_
        refine lv_lmul S.1 S.2.1 dX9_digest_16 ?_
        refine lv_aload_n S.1 S.2.1 dX9_digest_17 rfl (lv_at hl 0 rfl) ?_
        refine lv_iload_n S.1 S.2.1 dX9_digest_18 rfl (lv_at hl 2 rfl) ?_
        obtain ⟨r29, hy30, h⟩ := bd1_e h
        refine kv0 S hK hN hZ hA hW (rest := [.long ((31 : Int64) * x1)]) (t_X9_counted l dC dI cI cJ cZ cB zz h0 a0 F c0 w0 x3 _  hy30) wl_X9_335 wv_X9_counted rfl rfl ⟨Nat.le_of_ble_eq_true rfl, Nat.le_of_ble_eq_true rfl⟩ [] [] rfl 0 rfl rfl rfl rfl hl.1 rfl (Nat.le_of_ble_eq_true rfl) dX9_digest_19 [.int r29, .long ((31 : Int64) * x1)] rfl (fun H locs hW => ?_)
        refine lv_i2l S.1 S.2.1 dX9_digest_22 rfl ?_
        refine lv_ladd S.1 S.2.1 dX9_digest_23 ?_
        obtain ⟨y31, e32, h⟩ := lt1_e h
        refine nml e32 ?_
        refine lv_lstore_n (lv' := [(1, .long y31), (0, .ref h0), (3, .int x3)]) S.1 S.2.1 dX9_digest_24 rfl hl (by decide) rfl (fun ls hl => ?_)
        refine lv_iinc (v := (x3 + (1 : Int32))) (lv' := [(3, .int (x3 + (1 : Int32))), (1, .long y31), (0, .ref h0)]) S.1 S.2.1 dX9_digest_25 hl (k := 2) rfl (congrArg (fun z => x3 + z) ki_1) (by decide) rfl (fun ls hl => ?_)
        refine lv_goto (tgt := 6) S.1 S.2.1 dX9_digest_28 (by decide) ?_
        exact ih6 _ _ h H locs hW ls (lv_sub hl [2, 1, 0] rfl)
  refine lv_ldc2 (v := (1597 : Int64)) S.1 S.2.1 S.2.2.2.1 (S.2.2.2.2 _ wk_X9_340) dX9_digest_0 ?_
  refine lv_lstore_n (lv' := [(1, .long (1597 : Int64)), (0, .ref h0)]) S.1 S.2.1 dX9_digest_3 rfl hl (by decide) rfl (fun ls hl => ?_)
  refine lv_iconst (v := (0 : Int32)) S.1 S.2.1 dX9_digest_4 ki_0 ?_
  refine lv_istore_n (lv' := [(3, .int (0 : Int32)), (1, .long (1597 : Int64)), (0, .ref h0)]) S.1 S.2.1 dX9_digest_5 rfl hl (by decide) rfl (fun ls hl => ?_)
  exact hL6 F _ _ h H locs hW ls (lv_sub hl [2, 1, 0] rfl)
