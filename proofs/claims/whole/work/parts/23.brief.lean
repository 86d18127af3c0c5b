abbrev rmX1_begin : Room := { frames := 1, cells := 0, slots := 0, locals := 22 }
set_option maxHeartbeats 4000000 in
set_option maxRecDepth 100000 in
theorem t_X1_begin (l : Launch) (dC : Nat → ClassId) (dI : Nat → Nat → Nat) (cI cJ cZ cB : ClassId) (zz : ZT)  (h0 : Nat) (a0 : Nat → Nat) (a1 : Nat → Nat) (c0 : Nat → Nat → Int32) (w0 : Nat → Nat → Int64) (c1 : Nat → Nat → Int32) (p1 : Int32) (p2 : Int32) (c0' : Nat → Nat → Int32) (c1' : Nat → Nat → Int32) (hm : md_X1_begin c0 w0 c1 p1 p2 = some (c0', c1')) : ct l (dC, dI) zz (ty4 cI cJ cZ cB) yX1_begin cX1_begin 3 none rmX1_begin [.ref h0, .int p1, .int p2] (cwX1 cI cJ cZ cB h0 a0 c0 w0 (cwX3 cI cJ cZ cB (a0 0) a1 c1 [])) (cwX1 cI cJ cZ cB h0 a0 c0' w0 (cwX3 cI cJ cZ cB (a0 0) a1 c1' [])) none := by
  refine ct_of (cc := cX1_begin) (maxL := 3) (ret := none) (by decide) (Nat.le_of_ble_eq_true rfl) ?_
  intro p e s m below meth c A S hr hlocks hK hN hZ hA H locs hW ls hl
  have S : CallFix p m c cX1_begin 3 s (List.toArray [.ref h0, .int p1, .int p2]) G RX1 := S
  have hl : lv_has ls 3 [(0, .ref h0), (1, .int p1), (2, .int p2)] := hl
  have h := hm
  rw [md_X1_begin] at h
  have hW : wd (dC, dI) A s.heap (clX1 cI cJ cZ cB h0 a0 (c0 1) (c0 2 0) (c0 3) (c0 4 0) (c0 5) (c0 6 0) (w0 7) (c0 8 0) (clX3 cI cJ cZ cB (a0 0) a1 (c1 0) (c1 1) (c1 2) (c1 3) (c1 4) (c1 5 0) (c1 6 0) (c1 7 0) (c1 8 0) (c1 9 0) [])) H locs := hW
  refine lv_aload_n S.1 S.2.1 dX1_begin_0 rfl (lv_at hl 0 rfl) ?_
  refine gf (C := RX1) (T := TX1) (N := 9) (ci := 0) (k := 0) S hK hW wu_X1 rfl (by decide) wf_X1_12 0 rfl rfl dX1_begin_1 ?_
  refine lv_iload_n S.1 S.2.1 dX1_begin_4 rfl (lv_at hl 1 rfl) ?_
  refine lv_iload_n S.1 S.2.1 dX1_begin_5 rfl (lv_at hl 2 rfl) ?_
  obtain ⟨cv1, hy2, h⟩ := bd1_e h
  refine kv (clX1 cI cJ cZ cB h0 a0 (c0 1) (c0 2 0) (c0 3) (c0 4 0) (c0 5) (c0 6 0) (w0 7) (c0 8 0) (clX3 cI cJ cZ cB (a0 0) a1 (cv1 0) (cv1 1) (cv1 2) (cv1 3) (cv1 4) (cv1 5 0) (cv1 6 0) (cv1 7 0) (cv1 8 0) (cv1 9 0) [])) S hK hN hZ hA hW (rest := []) (t_X3_begin l dC dI cI cJ cZ cB zz (a0 0) a1 c1 p1 p2 _  hy2) wl_X1_32 wv_X3_begin rfl rfl ⟨Nat.le_of_ble_eq_true rfl, Nat.le_of_ble_eq_true rfl⟩ (clX1 cI cJ cZ cB h0 a0 (c0 1) (c0 2 0) (c0 3) (c0 4 0) (c0 5) (c0 6 0) (w0 7) (c0 8 0) []) [] rfl rfl rfl 5 rfl rfl rfl rfl hl.1 rfl (Nat.le_of_ble_eq_true rfl) dX1_begin_6 [] rfl (fun H locs hW => ?_)
  refine lv_aload_n S.1 S.2.1 dX1_begin_9 rfl (lv_at hl 0 rfl) ?_
  refine lv_iconst (v := (0 : Int32)) S.1 S.2.1 dX1_begin_10 ki_0 ?_
  refine pf (C := RX1) (T := TX1) (N := 9) (ci := 0) (k := 2) (ty := .int) S hK hW wu_X1 rfl (by decide) tyX1 tyX1_ok nmX1 wf_X1_36 0 rfl rfl rfl rfl rfl (Nat.le_of_ble_eq_true rfl) dX1_begin_11 (fun H locs hW => ?_)
  have hW : wd (dC, dI) A s.heap (clX1 cI cJ cZ cB h0 a0 (c0 1) (0 : Int32) (c0 3) (c0 4 0) (c0 5) (c0 6 0) (w0 7) (c0 8 0) (clX3 cI cJ cZ cB (a0 0) a1 (cv1 0) (cv1 1) (cv1 2) (cv1 3) (cv1 4) (cv1 5 0) (cv1 6 0) (cv1 7 0) (cv1 8 0) (cv1 9 0) [])) H locs := hW
  refine lv_aload_n S.1 S.2.1 dX1_begin_14 rfl (lv_at hl 0 rfl) ?_
  refine lv_iconst (v := (0 : Int32)) S.1 S.2.1 dX1_begin_15 ki_0 ?_
  refine pf (C := RX1) (T := TX1) (N := 9) (ci := 0) (k := 4) (ty := .int) S hK hW wu_X1 rfl (by decide) tyX1 tyX1_ok nmX1 wf_X1_40 0 rfl rfl rfl rfl rfl (Nat.le_of_ble_eq_true rfl) dX1_begin_16 (fun H locs hW => ?_)
  have hW : wd (dC, dI) A s.heap (clX1 cI cJ cZ cB h0 a0 (c0 1) (0 : Int32) (c0 3) (0 : Int32) (c0 5) (c0 6 0) (w0 7) (c0 8 0) (clX3 cI cJ cZ cB (a0 0) a1 (cv1 0) (cv1 1) (cv1 2) (cv1 3) (cv1 4) (cv1 5 0) (cv1 6 0) (cv1 7 0) (cv1 8 0) (cv1 9 0) [])) H locs := hW
  refine lv_aload_n S.1 S.2.1 dX1_begin_19 rfl (lv_at hl 0 rfl) ?_
  refine lv_iconst (v := (0 : Int32)) S.1 S.2.1 dX1_begin_20 ki_0 ?_
  refine pf (C := RX1) (T := TX1) (N := 9) (ci := 0) (k := 6) (ty := .int) S hK hW wu_X1 rfl (by decide) tyX1 tyX1_ok nmX1 wf_X1_43 0 rfl rfl rfl rfl rfl (Nat.le_of_ble_eq_true rfl) dX1_begin_21 (fun H locs hW => ?_)
  have hW : wd (dC, dI) A s.heap (clX1 cI cJ cZ cB h0 a0 (c0 1) (0 : Int32) (c0 3) (0 : Int32) (c0 5) (0 : Int32) (w0 7) (c0 8 0) (clX3 cI cJ cZ cB (a0 0) a1 (cv1 0) (cv1 1) (cv1 2) (cv1 3) (cv1 4) (cv1 5 0) (cv1 6 0) (cv1 7 0) (cv1 8 0) (cv1 9 0) [])) H locs := hW
  refine lv_aload_n S.1 S.2.1 dX1_begin_24 rfl (lv_at hl 0 rfl) ?_
  refine lv_iconst (v := (0 : Int32)) S.1 S.2.1 dX1_begin_25 ki_0 ?_
  refine pf (C := RX1) (T := TX1) (N := 9) (ci := 0) (k := 8) (ty := .int) S hK hW wu_X1 rfl (by decide) tyX1 tyX1_ok nmX1 wf_X1_46 0 rfl rfl rfl rfl rfl (Nat.le_of_ble_eq_true rfl) dX1_begin_26 (fun H locs hW => ?_)
  have hW : wd (dC, dI) A s.heap (clX1 cI cJ cZ cB h0 a0 (c0 1) (0 : Int32) (c0 3) (0 : Int32) (c0 5) (0 : Int32) (w0 7) (0 : Int32) (clX3 cI cJ cZ cB (a0 0) a1 (cv1 0) (cv1 1) (cv1 2) (cv1 3) (cv1 4) (cv1 5 0) (cv1 6 0) (cv1 7 0) (cv1 8 0) (cv1 9 0) [])) H locs := hW
  have f3 := Option.some.inj h
  obtain ⟨f4, f5⟩ := Prod.mk.inj f3
  subst f4
  subst f5
  exact rv S hr hlocks hW dX1_begin_29
abbrev rmX1_copyAll : Room := { frames := 1, cells := 0, slots := 0, locals := 40 }
set_option maxHeartbeats 4000000 in
set_option maxRecDepth 100000 in
theorem t_X1_copyAll (l : Launch) (dC : Nat → ClassId) (dI : Nat → Nat → Nat) (cI cJ cZ cB : ClassId) (zz : ZT)  (h0 : Nat) (a0 : Nat → Nat) (a1 : Nat → Nat) (h2 : Nat) (a2 : Nat → Nat) (a3 : Nat → Nat) (F : Nat) (c0 : Nat → Nat → Int32) (w0 : Nat → Nat → Int64) (c1 : Nat → Nat → Int32) (c2 : Nat → Nat → Int32) (w2 : Nat → Nat → Int64) (c3 : Nat → Nat → Int32) (c2' : Nat → Nat → Int32) (w2' : Nat → Nat → Int64) (c3' : Nat → Nat → Int32) (hm : md_X1_copyAll F c0 w0 c1 c2 w2 c3 = some (c2', w2', c3')) : ct l (dC, dI) zz (ty4 cI cJ cZ cB) yX1_copyAll cX1_copyAll 2 none rmX1_copyAll [.ref h2, .ref h0] (cwX1 cI cJ cZ cB h0 a0 c0 w0 (cwX3 cI cJ cZ cB (a0 0) a1 c1 (cwX1 cI cJ cZ cB h2 a2 c2 w2 (cwX3 cI cJ cZ cB (a2 0) a3 c3 [])))) (cwX1 cI cJ cZ cB h0 a0 c0 w0 (cwX3 cI cJ cZ cB (a0 0) a1 c1 (cwX1 cI cJ cZ cB h2 a2 c2' w2' (cwX3 cI cJ cZ cB (a2 0) a3 c3' [])))) none := by
  refine ct_of (cc := cX1_copyAll) (maxL := 2) (ret := none) (by decide) (Nat.le_of_ble_eq_true rfl) ?_
  intro p e s m below meth c A S hr hlocks hK hN hZ hA H locs hW ls hl
  have S : CallFix p m c cX1_copyAll 2 s (List.toArray [.ref h2, .ref h0]) G RX1 := S
  have hl : lv_has ls 2 [(0, .ref h2), (1, .ref h0)] := hl
  have h := hm
  rw [md_X1_copyAll] at h
  have hW : wd (dC, dI) A s.heap (clX1 cI cJ cZ cB h0 a0 (c0 1) (c0 2 0) (c0 3) (c0 4 0) (c0 5) (c0 6 0) (w0 7) (c0 8 0) (clX3 cI cJ cZ cB (a0 0) a1 (c1 0) (c1 1) (c1 2) (c1 3) (c1 4) (c1 5 0) (c1 6 0) (c1 7 0) (c1 8 0) (c1 9 0) (clX1 cI cJ cZ cB h2 a2 (c2 1) (c2 2 0) (c2 3) (c2 4 0) (c2 5) (c2 6 0) (w2 7) (c2 8 0) (clX3 cI cJ cZ cB (a2 0) a3 (c3 0) (c3 1) (c3 2) (c3 3) (c3 4) (c3 5 0) (c3 6 0) (c3 7 0) (c3 8 0) (c3 9 0) [])))) H locs := hW
  refine lv_aload_n S.1 S.2.1 dX1_copyAll_0 rfl (lv_at hl 0 rfl) ?_
  refine gf (C := RX1) (T := TX1) (N := 9) (ci := 0) (k := 0) S hK hW wu_X1 rfl (by decide) wf_X1_12 11 rfl rfl dX1_copyAll_1 ?_
  refine lv_aload_n S.1 S.2.1 dX1_copyAll_4 rfl (lv_at hl 1 rfl) ?_
  refine gf (C := RX1) (T := TX1) (N := 9) (ci := 0) (k := 0) S hK hW wu_X1 rfl (by decide) wf_X1_12 0 rfl rfl dX1_copyAll_5 ?_
  obtain ⟨cv1, hy2, h⟩ := bd1_e h
  have hW : wd (dC, dI) A s.heap (clX3 cI cJ cZ cB (a0 0) a1 (c1 0) (c1 1) (c1 2) (c1 3) (c1 4) (c1 5 0) (c1 6 0) (c1 7 0) (c1 8 0) (c1 9 0) (clX3 cI cJ cZ cB (a2 0) a3 (c3 0) (c3 1) (c3 2) (c3 3) (c3 4) (c3 5 0) (c3 6 0) (c3 7 0) (c3 8 0) (c3 9 0) (clX1 cI cJ cZ cB h0 a0 (c0 1) (c0 2 0) (c0 3) (c0 4 0) (c0 5) (c0 6 0) (w0 7) (c0 8 0) (clX1 cI cJ cZ cB h2 a2 (c2 1) (c2 2 0) (c2 3) (c2 4 0) (c2 5) (c2 6 0) (w2 7) (c2 8 0) [])))) H locs := wd_sub hW [5, 6, 7, 8, 9, 10, 16, 17, 18, 19, 20, 21, 0, 1, 2, 3, 4, 11, 12, 13, 14, 15] rfl rfl
  refine kv (clX3 cI cJ cZ cB (a0 0) a1 (c1 0) (c1 1) (c1 2) (c1 3) (c1 4) (c1 5 0) (c1 6 0) (c1 7 0) (c1 8 0) (c1 9 0) (clX3 cI cJ cZ cB (a2 0) a3 (cv1 0) (cv1 1) (cv1 2) (cv1 3) (cv1 4) (cv1 5 0) (cv1 6 0) (cv1 7 0) (cv1 8 0) (cv1 9 0) (clX1 cI cJ cZ cB h0 a0 (c0 1) (c0 2 0) (c0 3) (c0 4 0) (c0 5) (c0 6 0) (w0 7) (c0 8 0) (clX1 cI cJ cZ cB h2 a2 (c2 1) (c2 2 0) (c2 3) (c2 4 0) (c2 5) (c2 6 0) (w2 7) (c2 8 0) [])))) S hK hN hZ hA hW (rest := []) (t_X3_copy l dC dI cI cJ cZ cB zz (a0 0) a1 (a2 0) a3 F c1 c3 _  hy2) wl_X1_49 wv_X3_copy rfl rfl ⟨Nat.le_of_ble_eq_true rfl, Nat.le_of_ble_eq_true rfl⟩ [] (clX1 cI cJ cZ cB h0 a0 (c0 1) (c0 2 0) (c0 3) (c0 4 0) (c0 5) (c0 6 0) (w0 7) (c0 8 0) (clX1 cI cJ cZ cB h2 a2 (c2 1) (c2 2 0) (c2 3) (c2 4 0) (c2 5) (c2 6 0) (w2 7) (c2 8 0) [])) rfl rfl rfl 6 rfl rfl rfl rfl hl.1 rfl (Nat.le_of_ble_eq_true rfl) dX1_copyAll_8 [] rfl (fun H locs hW => ?_)
  have hW : wd (dC, dI) A s.heap (clX1 cI cJ cZ cB h0 a0 (c0 1) (c0 2 0) (c0 3) (c0 4 0) (c0 5) (c0 6 0) (w0 7) (c0 8 0) (clX3 cI cJ cZ cB (a0 0) a1 (c1 0) (c1 1) (c1 2) (c1 3) (c1 4) (c1 5 0) (c1 6 0) (c1 7 0) (c1 8 0) (c1 9 0) (clX1 cI cJ cZ cB h2 a2 (c2 1) (c2 2 0) (c2 3) (c2 4 0) (c2 5) (c2 6 0) (w2 7) (c2 8 0) (clX3 cI cJ cZ cB (a2 0) a3 (cv1 0) (cv1 1) (cv1 2) (cv1 3) (cv1 4) (cv1 5 0) (cv1 6 0) (cv1 7 0) (cv1 8 0) (cv1 9 0) [])))) H locs := wd_sub hW [12, 13, 14, 15, 16, 0, 1, 2, 3, 4, 5, 17, 18, 19, 20, 21, 6, 7, 8, 9, 10, 11] rfl rfl
  refine lv_aload_n S.1 S.2.1 dX1_copyAll_11 rfl (lv_at hl 1 rfl) ?_
  refine gf (C := RX1) (T := TX1) (N := 9) (ci := 0) (k := 1) S hK hW wu_X1 rfl (by decide) wf_X1_18 0 rfl rfl dX1_copyAll_12 ?_
  refine lv_iconst (v := (0 : Int32)) S.1 S.2.1 dX1_copyAll_15 ki_0 ?_
  refine lv_aload_n S.1 S.2.1 dX1_copyAll_16 rfl (lv_at hl 0 rfl) ?_
  refine gf (C := RX1) (T := TX1) (N := 9) (ci := 0) (k := 1) S hK hW wu_X1 rfl (by decide) wf_X1_18 11 rfl rfl dX1_copyAll_17 ?_
  refine lv_iconst (v := (0 : Int32)) S.1 S.2.1 dX1_copyAll_20 ki_0 ?_
  refine lv_iconst (v := (4 : Int32)) S.1 S.2.1 dX1_copyAll_21 ki_4 ?_
  refine cpi S hK hW (S.2.2.1.trans hl.1.symm) rfl (S.2.2.2.2 _ wl_X1_53) (S.2.2.2.2 _ wnat_copy) (S.2.2.2.2 _ ws_copy) (S.2.2.2.2 _ wi_J10) 1 12 rfl rfl (sN := 0) (dN := 0) (nN := 4) (by decide) (by decide) (by decide) (by decide) (by decide) (by decide) (by decide) (by decide) (Nat.le_of_ble_eq_true rfl) (Nat.le_of_ble_eq_true rfl) dX1_copyAll_22 (fun H locs hW => ?_)
  have hW : wd (dC, dI) A s.heap (clX1 cI cJ cZ cB h0 a0 (c0 1) (c0 2 0) (c0 3) (c0 4 0) (c0 5) (c0 6 0) (w0 7) (c0 8 0) (clX3 cI cJ cZ cB (a0 0) a1 (c1 0) (c1 1) (c1 2) (c1 3) (c1 4) (c1 5 0) (c1 6 0) (c1 7 0) (c1 8 0) (c1 9 0) (clX1 cI cJ cZ cB h2 a2 (va_cpy (c0 1) (c2 1) 0 0 4) (c2 2 0) (c2 3) (c2 4 0) (c2 5) (c2 6 0) (w2 7) (c2 8 0) (clX3 cI cJ cZ cB (a2 0) a3 (cv1 0) (cv1 1) (cv1 2) (cv1 3) (cv1 4) (cv1 5 0) (cv1 6 0) (cv1 7 0) (cv1 8 0) (cv1 9 0) [])))) H locs := hW
  refine lv_aload_n S.1 S.2.1 dX1_copyAll_25 rfl (lv_at hl 1 rfl) ?_
  refine gf (C := RX1) (T := TX1) (N := 9) (ci := 0) (k := 3) S hK hW wu_X1 rfl (by decide) wf_X1_22 0 rfl rfl dX1_copyAll_26 ?_
  refine lv_iconst (v := (0 : Int32)) S.1 S.2.1 dX1_copyAll_29 ki_0 ?_
  refine lv_aload_n S.1 S.2.1 dX1_copyAll_30 rfl (lv_at hl 0 rfl) ?_
  refine gf (C := RX1) (T := TX1) (N := 9) (ci := 0) (k := 3) S hK hW wu_X1 rfl (by decide) wf_X1_22 11 rfl rfl dX1_copyAll_31 ?_
  refine lv_iconst (v := (0 : Int32)) S.1 S.2.1 dX1_copyAll_34 ki_0 ?_
  refine lv_bipush (v := (30 : Int32)) S.1 S.2.1 dX1_copyAll_35 kb_30 ?_
  refine cpi S hK hW (S.2.2.1.trans hl.1.symm) rfl (S.2.2.2.2 _ wl_X1_53) (S.2.2.2.2 _ wnat_copy) (S.2.2.2.2 _ ws_copy) (S.2.2.2.2 _ wi_J10) 2 13 rfl rfl (sN := 0) (dN := 0) (nN := 30) (by decide) (by decide) (by decide) (by decide) (by decide) (by decide) (by decide) (by decide) (Nat.le_of_ble_eq_true rfl) (Nat.le_of_ble_eq_true rfl) dX1_copyAll_37 (fun H locs hW => ?_)
  have hW : wd (dC, dI) A s.heap (clX1 cI cJ cZ cB h0 a0 (c0 1) (c0 2 0) (c0 3) (c0 4 0) (c0 5) (c0 6 0) (w0 7) (c0 8 0) (clX3 cI cJ cZ cB (a0 0) a1 (c1 0) (c1 1) (c1 2) (c1 3) (c1 4) (c1 5 0) (c1 6 0) (c1 7 0) (c1 8 0) (c1 9 0) (clX1 cI cJ cZ cB h2 a2 (va_cpy (c0 1) (c2 1) 0 0 4) (c2 2 0) (va_cpy (c0 3) (c2 3) 0 0 30) (c2 4 0) (c2 5) (c2 6 0) (w2 7) (c2 8 0) (clX3 cI cJ cZ cB (a2 0) a3 (cv1 0) (cv1 1) (cv1 2) (cv1 3) (cv1 4) (cv1 5 0) (cv1 6 0) (cv1 7 0) (cv1 8 0) (cv1 9 0) [])))) H locs := hW
  refine lv_aload_n S.1 S.2.1 dX1_copyAll_40 rfl (lv_at hl 1 rfl) ?_
  refine gf (C := RX1) (T := TX1) (N := 9) (ci := 0) (k := 5) S hK hW wu_X1 rfl (by decide) wf_X1_25 0 rfl rfl dX1_copyAll_41 ?_
  refine lv_iconst (v := (0 : Int32)) S.1 S.2.1 dX1_copyAll_44 ki_0 ?_
  refine lv_aload_n S.1 S.2.1 dX1_copyAll_45 rfl (lv_at hl 0 rfl) ?_
  refine gf (C := RX1) (T := TX1) (N := 9) (ci := 0) (k := 5) S hK hW wu_X1 rfl (by decide) wf_X1_25 11 rfl rfl dX1_copyAll_46 ?_
  refine lv_iconst (v := (0 : Int32)) S.1 S.2.1 dX1_copyAll_49 ki_0 ?_
  refine lv_bipush (v := (24 : Int32)) S.1 S.2.1 dX1_copyAll_50 kb_24 ?_
  refine cpi S hK hW (S.2.2.1.trans hl.1.symm) rfl (S.2.2.2.2 _ wl_X1_53) (S.2.2.2.2 _ wnat_copy) (S.2.2.2.2 _ ws_copy) (S.2.2.2.2 _ wi_J10) 3 14 rfl rfl (sN := 0) (dN := 0) (nN := 24) (by decide) (by decide) (by decide) (by decide) (by decide) (by decide) (by decide) (by decide) (Nat.le_of_ble_eq_true rfl) (Nat.le_of_ble_eq_true rfl) dX1_copyAll_52 (fun H locs hW => ?_)
  have hW : wd (dC, dI) A s.heap (clX1 cI cJ cZ cB h0 a0 (c0 1) (c0 2 0) (c0 3) (c0 4 0) (c0 5) (c0 6 0) (w0 7) (c0 8 0) (clX3 cI cJ cZ cB (a0 0) a1 (c1 0) (c1 1) (c1 2) (c1 3) (c1 4) (c1 5 0) (c1 6 0) (c1 7 0) (c1 8 0) (c1 9 0) (clX1 cI cJ cZ cB h2 a2 (va_cpy (c0 1) (c2 1) 0 0 4) (c2 2 0) (va_cpy (c0 3) (c2 3) 0 0 30) (c2 4 0) (va_cpy (c0 5) (c2 5) 0 0 24) (c2 6 0) (w2 7) (c2 8 0) (clX3 cI cJ cZ cB (a2 0) a3 (cv1 0) (cv1 1) (cv1 2) (cv1 3) (cv1 4) (cv1 5 0) (cv1 6 0) (cv1 7 0) (cv1 8 0) (cv1 9 0) [])))) H locs := hW
  refine lv_aload_n S.1 S.2.1 dX1_copyAll_55 rfl (lv_at hl 1 rfl) ?_
  refine gf (C := RX1) (T := TX1) (N := 9) (ci := 0) (k := 7) S hK hW wu_X1 rfl (by decide) wf_X1_28 0 rfl rfl dX1_copyAll_56 ?_
  refine lv_iconst (v := (0 : Int32)) S.1 S.2.1 dX1_copyAll_59 ki_0 ?_
  refine lv_aload_n S.1 S.2.1 dX1_copyAll_60 rfl (lv_at hl 0 rfl) ?_
  refine gf (C := RX1) (T := TX1) (N := 9) (ci := 0) (k := 7) S hK hW wu_X1 rfl (by decide) wf_X1_28 11 rfl rfl dX1_copyAll_61 ?_
  refine lv_iconst (v := (0 : Int32)) S.1 S.2.1 dX1_copyAll_64 ki_0 ?_
  refine lv_bipush (v := (8 : Int32)) S.1 S.2.1 dX1_copyAll_65 kb_8 ?_
  refine cpl S hK hW (S.2.2.1.trans hl.1.symm) rfl (S.2.2.2.2 _ wl_X1_53) (S.2.2.2.2 _ wnat_copy) (S.2.2.2.2 _ ws_copy) (S.2.2.2.2 _ wi_J10) 4 15 rfl rfl (sN := 0) (dN := 0) (nN := 8) (by decide) (by decide) (by decide) (by decide) (by decide) (by decide) (by decide) (by decide) (Nat.le_of_ble_eq_true rfl) (Nat.le_of_ble_eq_true rfl) dX1_copyAll_67 (fun H locs hW => ?_)
  have hW : wd (dC, dI) A s.heap (clX1 cI cJ cZ cB h0 a0 (c0 1) (c0 2 0) (c0 3) (c0 4 0) (c0 5) (c0 6 0) (w0 7) (c0 8 0) (clX3 cI cJ cZ cB (a0 0) a1 (c1 0) (c1 1) (c1 2) (c1 3) (c1 4) (c1 5 0) (c1 6 0) (c1 7 0) (c1 8 0) (c1 9 0) (clX1 cI cJ cZ cB h2 a2 (va_cpy (c0 1) (c2 1) 0 0 4) (c2 2 0) (va_cpy (c0 3) (c2 3) 0 0 30) (c2 4 0) (va_cpy (c0 5) (c2 5) 0 0 24) (c2 6 0) (va_cpy (w0 7) (w2 7) 0 0 8) (c2 8 0) (clX3 cI cJ cZ cB (a2 0) a3 (cv1 0) (cv1 1) (cv1 2) (cv1 3) (cv1 4) (cv1 5 0) (cv1 6 0) (cv1 7 0) (cv1 8 0) (cv1 9 0) [])))) H locs := hW
  refine lv_aload_n S.1 S.2.1 dX1_copyAll_70 rfl (lv_at hl 0 rfl) ?_
  refine lv_aload_n S.1 S.2.1 dX1_copyAll_71 rfl (lv_at hl 1 rfl) ?_
  refine gf (C := RX1) (T := TX1) (N := 9) (ci := 0) (k := 2) S hK hW wu_X1 rfl (by decide) wf_X1_36 0 rfl rfl dX1_copyAll_72 ?_
  refine pf (C := RX1) (T := TX1) (N := 9) (ci := 0) (k := 2) (ty := .int) S hK hW wu_X1 rfl (by decide) tyX1 tyX1_ok nmX1 wf_X1_36 11 rfl rfl rfl rfl rfl (Nat.le_of_ble_eq_true rfl) dX1_copyAll_75 (fun H locs hW => ?_)
  have hW : wd (dC, dI) A s.heap (clX1 cI cJ cZ cB h0 a0 (c0 1) (c0 2 0) (c0 3) (c0 4 0) (c0 5) (c0 6 0) (w0 7) (c0 8 0) (clX3 cI cJ cZ cB (a0 0) a1 (c1 0) (c1 1) (c1 2) (c1 3) (c1 4) (c1 5 0) (c1 6 0) (c1 7 0) (c1 8 0) (c1 9 0) (clX1 cI cJ cZ cB h2 a2 (va_cpy (c0 1) (c2 1) 0 0 4) (c0 2 0) (va_cpy (c0 3) (c2 3) 0 0 30) (c2 4 0) (va_cpy (c0 5) (c2 5) 0 0 24) (c2 6 0) (va_cpy (w0 7) (w2 7) 0 0 8) (c2 8 0) (clX3 cI cJ cZ cB (a2 0) a3 (cv1 0) (cv1 1) (cv1 2) (cv1 3) (cv1 4) (cv1 5 0) (cv1 6 0) (cv1 7 0) (cv1 8 0) (cv1 9 0) [])))) H locs := hW
  refine lv_aload_n S.1 S.2.1 dX1_copyAll_78 rfl (lv_at hl 0 rfl) ?_
  refine lv_aload_n S.1 S.2.1 dX1_copyAll_79 rfl (lv_at hl 1 rfl) ?_
  refine gf (C := RX1) (T := TX1) (N := 9) (ci := 0) (k := 4) S hK hW wu_X1 rfl (by decide) wf_X1_40 0 rfl rfl dX1_copyAll_80 ?_
  refine pf (C := RX1) (T := TX1) (N := 9) (ci := 0) (k := 4) (ty := .int) S hK hW wu_X1 rfl (by decide) tyX1 tyX1_ok nmX1 wf_X1_40 11 rfl rfl rfl rfl rfl (Nat.le_of_ble_eq_true rfl) dX1_copyAll_83 (fun H locs hW => ?_)
  have hW : wd (dC, dI) A s.heap (clX1 cI cJ cZ cB h0 a0 (c0 1) (c0 2 0) (c0 3) (c0 4 0) (c0 5) (c0 6 0) (w0 7) (c0 8 0) (clX3 cI cJ cZ cB (a0 0) a1 (c1 0) (c1 1) (c1 2) (c1 3) (c1 4) (c1 5 0) (c1 6 0) (c1 7 0) (c1 8 0) (c1 9 0) (clX1 cI cJ cZ cB h2 a2 (va_cpy (c0 1) (c2 1) 0 0 4) (c0 2 0) (va_cpy (c0 3) (c2 3) 0 0 30) (c0 4 0) (va_cpy (c0 5) (c2 5) 0 0 24) (c2 6 0) (va_cpy (w0 7) (w2 7) 0 0 8) (c2 8 0) (clX3 cI cJ cZ cB (a2 0) a3 (cv1 0) (cv1 1) (cv1 2) (cv1 3) (cv1 4) (cv1 5 0) (cv1 6 0) (cv1 7 0) (cv1 8 0) (cv1 9 0) [])))) H locs := hW
  refine lv_aload_n S.1 S.2.1 dX1_copyAll_86 rfl (lv_at hl 0 rfl) ?_
  refine lv_aload_n S.1 S.2.1 dX1_copyAll_87 rfl (lv_at hl 1 rfl) ?_
  refine gf (C := RX1) (T := TX1) (N := 9) (ci := 0) (k := 6) S hK hW wu_X1 rfl (by decide) wf_X1_43 0 rfl rfl dX1_copyAll_88 ?_
  refine pf (C := RX1) (T := TX1) (N := 9) (ci := 0) (k := 6) (ty := .int) S hK hW wu_X1 rfl (by decide) tyX1 tyX1_ok nmX1 wf_X1_43 11 rfl rfl rfl rfl rfl (Nat.le_of_ble_eq_true rfl) dX1_copyAll_91 (fun H locs hW => ?_)
  have hW : wd (dC, dI) A s.heap (clX1 cI cJ cZ cB h0 a0 (c0 1) (c0 2 0) (c0 3) (c0 4 0) (c0 5) (c0 6 0) (w0 7) (c0 8 0) (clX3 cI cJ cZ cB (a0 0) a1 (c1 0) (c1 1) (c1 2) (c1 3) (c1 4) (c1 5 0) (c1 6 0) (c1 7 0) (c1 8 0) (c1 9 0) (clX1 cI cJ cZ cB h2 a2 (va_cpy (c0 1) (c2 1) 0 0 4) (c0 2 0) (va_cpy (c0 3) (c2 3) 0 0 30) (c0 4 0) (va_cpy (c0 5) (c2 5) 0 0 24) (c0 6 0) (va_cpy (w0 7) (w2 7) 0 0 8) (c2 8 0) (clX3 cI cJ cZ cB (a2 0) a3 (cv1 0) (cv1 1) (cv1 2) (cv1 3) (cv1 4) (cv1 5 0) (cv1 6 0) (cv1 7 0) (cv1 8 0) (cv1 9 0) [])))) H locs := hW
  refine lv_aload_n S.1 S.2.1 dX1_copyAll_94 rfl (lv_at hl 0 rfl) ?_
  refine lv_aload_n S.1 S.2.1 dX1_copyAll_95 rfl (lv_at hl 1 rfl) ?_
  refine gf (C := RX1) (T := TX1) (N := 9) (ci := 0) (k := 8) S hK hW wu_X1 rfl (by decide) wf_X1_46 0 rfl rfl dX1_copyAll_96 ?_
  refine pf (C := RX1) (T := TX1) (N := 9) (ci := 0) (k := 8) (ty := .int) S hK hW wu_X1 rfl (by decide) tyX1 tyX1_ok nmX1 wf_X1_46 11 rfl rfl rfl rfl rfl (Nat.le_of_ble_eq_true rfl) dX1_copyAll_99 (fun H locs hW => ?_)
  have hW : wd (dC, dI) A s.heap (clX1 cI cJ cZ cB h0 a0 (c0 1) (c0 2 0) (c0 3) (c0 4 0) (c0 5) (c0 6 0) (w0 7) (c0 8 0) (clX3 cI cJ cZ cB (a0 0) a1 (c1 0) (c1 1) (c1 2) (c1 3) (c1 4) (c1 5 0) (c1 6 0) (c1 7 0) (c1 8 0) (c1 9 0) (clX1 cI cJ cZ cB h2 a2 (va_cpy (c0 1) (c2 1) 0 0 4) (c0 2 0) (va_cpy (c0 3) (c2 3) 0 0 30) (c0 4 0) (va_cpy (c0 5) (c2 5) 0 0 24) (c0 6 0) (va_cpy (w0 7) (w2 7) 0 0 8) (c0 8 0) (clX3 cI cJ cZ cB (a2 0) a3 (cv1 0) (cv1 1) (cv1 2) (cv1 3) (cv1 4) (cv1 5 0) (cv1 6 0) (cv1 7 0) (cv1 8 0) (cv1 9 0) [])))) H locs := hW
  have f3 := Option.some.inj h
  obtain ⟨f4, f5⟩ := Prod.mk.inj f3
  obtain ⟨f6, f7⟩ := Prod.mk.inj f5
  subst f4
  subst f6
  subst f7
  exact rv S hr hlocks hW dX1_copyAll_102
abbrev rmX1_dropPast : Room := { frames := 0, cells := 0, slots := 0, locals := 0 }
set_option maxHeartbeats 4000000 in
set_option maxRecDepth 100000 in
theorem t_X1_dropPast (l : Launch) (dC : Nat → ClassId) (dI : Nat → Nat → Nat) (cI cJ cZ cB : ClassId) (zz : ZT)  (h0 : Nat) (a0 : Nat → Nat) (c0 : Nat → Nat → Int32) (w0 : Nat → Nat → Int64) (c0' : Nat → Nat → Int32) (hm : md_X1_dropPast c0 w0 = some (c0')) : ct l (dC, dI) zz (ty4 cI cJ cZ cB) yX1_dropPast cX1_dropPast 1 none rmX1_dropPast [.ref h0] (cwX1 cI cJ cZ cB h0 a0 c0 w0 []) (cwX1 cI cJ cZ cB h0 a0 c0' w0 []) none := by
  refine ct_of (cc := cX1_dropPast) (maxL := 1) (ret := none) (by decide) (Nat.le_of_ble_eq_true rfl) ?_
  intro p e s m below meth c A S hr hlocks hK hN hZ hA H locs hW ls hl
  have S : CallFix p m c cX1_dropPast 1 s (List.toArray [.ref h0]) G RX1 := S
  have hl : lv_has ls 1 [(0, .ref h0)] := hl
  have h := hm
  rw [md_X1_dropPast] at h
  have hW : wd (dC, dI) A s.heap (clX1 cI cJ cZ cB h0 a0 (c0 1) (c0 2 0) (c0 3) (c0 4 0) (c0 5) (c0 6 0) (w0 7) (c0 8 0) []) H locs := hW
  refine lv_aload_n S.1 S.2.1 dX1_dropPast_0 rfl (lv_at hl 0 rfl) ?_
  refine lv_iconst (v := (0 : Int32)) S.1 S.2.1 dX1_dropPast_1 ki_0 ?_
  refine pf (C := RX1) (T := TX1) (N := 9) (ci := 0) (k := 8) (ty := .int) S hK hW wu_X1 rfl (by decide) tyX1 tyX1_ok nmX1 wf_X1_46 0 rfl rfl rfl rfl rfl (Nat.le_of_ble_eq_true rfl) dX1_dropPast_2 (fun H locs hW => ?_)
  have hW : wd (dC, dI) A s.heap (clX1 cI cJ cZ cB h0 a0 (c0 1) (c0 2 0) (c0 3) (c0 4 0) (c0 5) (c0 6 0) (w0 7) (0 : Int32) []) H locs := hW
  have f1 := Option.some.inj h
  subst f1
  exact rv S hr hlocks hW dX1_dropPast_5
abbrev rmX1_remember : Room := { frames := 1, cells := 0, slots := 0, locals := 40 }
set_option maxHeartbeats 4000000 in
set_option maxRecDepth 100000 in
theorem t_X1_remember (l : Launch) (dC : Nat → ClassId) (dI : Nat → Nat → Nat) (cI cJ cZ cB : ClassId) (zz : ZT)  (h0 : Nat) (a0 : Nat → Nat) (a1 : Nat → Nat) (F : Nat) (c0 : Nat → Nat → Int32) (w0 : Nat → Nat → Int64) (c1 : Nat → Nat → Int32) (c0' : Nat → Nat → Int32) (w0' : Nat → Nat → Int64) (hm : md_X1_remember F c0 w0 c1 = some (c0', w0')) : ct l (dC, dI) zz (ty4 cI cJ cZ cB) yX1_remember cX1_remember 1 none rmX1_remember [.ref h0] (cwX1 cI cJ cZ cB h0 a0 c0 w0 (cwX3 cI cJ cZ cB (a0 0) a1 c1 [])) (cwX1 cI cJ cZ cB h0 a0 c0' w0' (cwX3 cI cJ cZ cB (a0 0) a1 c1 [])) none := by
  refine ct_of (cc := cX1_remember) (maxL := 1) (ret := none) (by decide) (Nat.le_of_ble_eq_true rfl) ?_
  intro p e s m below meth c A S hr hlocks hK hN hZ hA H locs hW ls hl
  have S : CallFix p m c cX1_remember 1 s (List.toArray [.ref h0]) G RX1 := S
  have hl : lv_has ls 1 [(0, .ref h0)] := hl
  have h := hm
  rw [md_X1_remember] at h
  have hW : wd (dC, dI) A s.heap (clX1 cI cJ cZ cB h0 a0 (c0 1) (c0 2 0) (c0 3) (c0 4 0) (c0 5) (c0 6 0) (w0 7) (c0 8 0) (clX3 cI cJ cZ cB (a0 0) a1 (c1 0) (c1 1) (c1 2) (c1 3) (c1 4) (c1 5 0) (c1 6 0) (c1 7 0) (c1 8 0) (c1 9 0) [])) H locs := hW
  have hJ30 : ∀ (c0 : Nat → Nat → Int32) (w0 : Nat → Nat → Int64), jd_X1_remember_30 F c1 c0 w0 = some (c0', w0') → ∀ (H : Heap) (locs : List Loc), wd (dC, dI) A s.heap (clX1 cI cJ cZ cB h0 a0 (c0 1) (c0 2 0) (c0 3) (c0 4 0) (c0 5) (c0 6 0) (w0 7) (c0 8 0) (clX3 cI cJ cZ cB (a0 0) a1 (c1 0) (c1 1) (c1 2) (c1 3) (c1 4) (c1 5 0) (c1 6 0) (c1 7 0) (c1 8 0) (c1 9 0) [])) H locs → ∀ ls : Array Slot, lv_has ls 1 [(0, .ref h0)] → W p l e rmX1_remember s m (List.toArray [.ref h0]) below meth c H locs 0 0 (MQ below (kQ (dC, dI) (cwX1 cI cJ cZ cB h0 a0 c0' w0' (cwX3 cI cJ cZ cB (a0 0) a1 c1 [])) none A) (List.toArray [.ref h0]) s 0 0 A) (F0 m 30 ls []) := by
    intro c0 w0 h H locs hW ls hl
    rw [jd_X1_remember_30] at h
    refine lv_aload_n S.1 S.2.1 dX1_remember_30 rfl (lv_at hl 0 rfl) ?_
    refine gf (C := RX1) (T := TX1) (N := 9) (ci := 0) (k := 7) S hK hW wu_X1 rfl (by decide) wf_X1_28 0 rfl rfl dX1_remember_31 ?_
    refine lv_aload_n S.1 S.2.1 dX1_remember_34 rfl (lv_at hl 0 rfl) ?_
    refine gf (C := RX1) (T := TX1) (N := 9) (ci := 0) (k := 8) S hK hW wu_X1 rfl (by decide) wf_X1_46 0 rfl rfl dX1_remember_35 ?_
    refine lv_aload_n S.1 S.2.1 dX1_remember_38 rfl (lv_at hl 0 rfl) ?_
    refine gf (C := RX1) (T := TX1) (N := 9) (ci := 0) (k := 0) S hK hW wu_X1 rfl (by decide) wf_X1_12 0 rfl rfl dX1_remember_39 ?_
    obtain ⟨r1, hy2, h⟩ := bd1_e h
    refine kv0 S hK hN hZ hA hW (rest := [.int (c0 8 0), .ref (a0 7)]) (t_X3_keep l dC dI cI cJ cZ cB zz (a0 0) a1 F c1 _  hy2) wl_X1_59 wv_X3_keep rfl rfl ⟨Nat.le_of_ble_eq_true rfl, Nat.le_of_ble_eq_true rfl⟩ (clX1 cI cJ cZ cB h0 a0 (c0 1) (c0 2 0) (c0 3) (c0 4 0) (c0 5) (c0 6 0) (w0 7) (c0 8 0) []) [] rfl 5 rfl rfl rfl rfl hl.1 rfl (Nat.le_of_ble_eq_true rfl) dX1_remember_42 [.long r1, .int (c0 8 0), .ref (a0 7)] rfl (fun H locs hW => ?_)
    obtain ⟨z3, h⟩ := of_g h
    refine lst S hK hW rfl 4 rfl z3 dX1_remember_45 (fun H locs hW => ?_)
    have hW : wd (dC, dI) A s.heap (clX1 cI cJ cZ cB h0 a0 (c0 1) (c0 2 0) (c0 3) (c0 4 0) (c0 5) (c0 6 0) (vp_updL (w0 7) (ix (c0 8 0)) r1) (c0 8 0) (clX3 cI cJ cZ cB (a0 0) a1 (c1 0) (c1 1) (c1 2) (c1 3) (c1 4) (c1 5 0) (c1 6 0) (c1 7 0) (c1 8 0) (c1 9 0) [])) H locs := hW
    refine lv_aload_n S.1 S.2.1 dX1_remember_46 rfl (lv_at hl 0 rfl) ?_
    refine lv_dup S.1 S.2.1 dX1_remember_47 rfl ?_
    refine gf (C := RX1) (T := TX1) (N := 9) (ci := 0) (k := 8) S hK hW wu_X1 rfl (by decide) wf_X1_46 0 rfl rfl dX1_remember_48 ?_
    refine lv_iconst (v := (1 : Int32)) S.1 S.2.1 dX1_remember_51 ki_1 ?_
    refine lv_iadd S.1 S.2.1 dX1_remember_52 ?_
    refine pf (C := RX1) (T := TX1) (N := 9) (ci := 0) (k := 8) (ty := .int) S hK hW wu_X1 rfl (by decide) tyX1 tyX1_ok nmX1 wf_X1_46 0 rfl rfl rfl rfl rfl (Nat.le_of_ble_eq_true rfl) dX1_remember_53 (fun H locs hW => ?_)
    have hW : wd (dC, dI) A s.heap (clX1 cI cJ cZ cB h0 a0 (c0 1) (c0 2 0) (c0 3) (c0 4 0) (c0 5) (c0 6 0) (vp_updL (w0 7) (ix (c0 8 0)) r1) ((c0 8 0) + (1 : Int32)) (clX3 cI cJ cZ cB (a0 0) a1 (c1 0) (c1 1) (c1 2) (c1 3) (c1 4) (c1 5 0) (c1 6 0) (c1 7 0) (c1 8 0) (c1 9 0) [])) H locs := hW
    have f4 := Option.some.inj h
    obtain ⟨f5, f6⟩ := Prod.mk.inj f4
    subst f5
    subst f6
    exact rv S hr hlocks hW dX1_remember_56
  refine lv_aload_n S.1 S.2.1 dX1_remember_0 rfl (lv_at hl 0 rfl) ?_
  refine gf (C := RX1) (T := TX1) (N := 9) (ci := 0) (k := 8) S hK hW wu_X1 rfl (by decide) wf_X1_46 0 rfl rfl dX1_remember_1 ?_
  refine lv_bipush (v := (8 : Int32)) S.1 S.2.1 dX1_remember_4 kb_8 ?_
  refine lv_icmp_lt (tgt := 30) S.1 S.2.1 dX1_remember_6 (by decide) (fun u7 => ?_) (fun u7 => ?_)
  · have h := of_p u7 h
    exact hJ30 _ _ h H locs hW ls (lv_sub hl [0] rfl)
  · have h := of_n u7 h
    refine lv_aload_n S.1 S.2.1 dX1_remember_9 rfl (lv_at hl 0 rfl) ?_
    refine gf (C := RX1) (T := TX1) (N := 9) (ci := 0) (k := 7) S hK hW wu_X1 rfl (by decide) wf_X1_28 0 rfl rfl dX1_remember_10 ?_
    refine lv_iconst (v := (1 : Int32)) S.1 S.2.1 dX1_remember_13 ki_1 ?_
    refine lv_aload_n S.1 S.2.1 dX1_remember_14 rfl (lv_at hl 0 rfl) ?_
    refine gf (C := RX1) (T := TX1) (N := 9) (ci := 0) (k := 7) S hK hW wu_X1 rfl (by decide) wf_X1_28 0 rfl rfl dX1_remember_15 ?_
    refine lv_iconst (v := (0 : Int32)) S.1 S.2.1 dX1_remember_18 ki_0 ?_
    refine lv_bipush (v := (7 : Int32)) S.1 S.2.1 dX1_remember_19 kb_7 ?_
    refine cpl S hK hW (S.2.2.1.trans hl.1.symm) rfl (S.2.2.2.2 _ wl_X1_53) (S.2.2.2.2 _ wnat_copy) (S.2.2.2.2 _ ws_copy) (S.2.2.2.2 _ wi_J10) 4 4 rfl rfl (sN := 1) (dN := 0) (nN := 7) (by decide) (by decide) (by decide) (by decide) (by decide) (by decide) (by decide) (by decide) (Nat.le_of_ble_eq_true rfl) (Nat.le_of_ble_eq_true rfl) dX1_remember_21 (fun H locs hW => ?_)
    have hW : wd (dC, dI) A s.heap (clX1 cI cJ cZ cB h0 a0 (c0 1) (c0 2 0) (c0 3) (c0 4 0) (c0 5) (c0 6 0) (va_cpy (w0 7) (w0 7) 1 0 7) (c0 8 0) (clX3 cI cJ cZ cB (a0 0) a1 (c1 0) (c1 1) (c1 2) (c1 3) (c1 4) (c1 5 0) (c1 6 0) (c1 7 0) (c1 8 0) (c1 9 0) [])) H locs := hW
    refine lv_aload_n S.1 S.2.1 dX1_remember_24 rfl (lv_at hl 0 rfl) ?_
    refine lv_bipush (v := (7 : Int32)) S.1 S.2.1 dX1_remember_25 kb_7 ?_
    refine pf (C := RX1) (T := TX1) (N := 9) (ci := 0) (k := 8) (ty := .int) S hK hW wu_X1 rfl (by decide) tyX1 tyX1_ok nmX1 wf_X1_46 0 rfl rfl rfl rfl rfl (Nat.le_of_ble_eq_true rfl) dX1_remember_27 (fun H locs hW => ?_)
    have hW : wd (dC, dI) A s.heap (clX1 cI cJ cZ cB h0 a0 (c0 1) (c0 2 0) (c0 3) (c0 4 0) (c0 5) (c0 6 0) (va_cpy (w0 7) (w0 7) 1 0 7) (7 : Int32) (clX3 cI cJ cZ cB (a0 0) a1 (c1 0) (c1 1) (c1 2) (c1 3) (c1 4) (c1 5 0) (c1 6 0) (c1 7 0) (c1 8 0) (c1 9 0) [])) H locs := hW
    exact hJ30 _ _ h H locs hW ls (lv_sub hl [0] rfl)
abbrev rmX1_goBack : Room := { frames := 1, cells := 0, slots := 0, locals := 25 }
set_option maxHeartbeats 4000000 in
set_option maxRecDepth 100000 in
theorem t_X1_goBack (l : Launch) (dC : Nat → ClassId) (dI : Nat → Nat → Nat) (cI cJ cZ cB : ClassId) (zz : ZT)  (h0 : Nat) (a0 : Nat → Nat) (a1 : Nat → Nat) (F : Nat) (c0 : Nat → Nat → Int32) (w0 : Nat → Nat → Int64) (c1 : Nat → Nat → Int32) (c0' : Nat → Nat → Int32) (c1' : Nat → Nat → Int32) (hm : md_X1_goBack F c0 w0 c1 = some (c0', c1')) : ct l (dC, dI) zz (ty4 cI cJ cZ cB) yX1_goBack cX1_goBack 1 none rmX1_goBack [.ref h0] (cwX1 cI cJ cZ cB h0 a0 c0 w0 (cwX3 cI cJ cZ cB (a0 0) a1 c1 [])) (cwX1 cI cJ cZ cB h0 a0 c0' w0 (cwX3 cI cJ cZ cB (a0 0) a1 c1' [])) none := by
  refine ct_of (cc := cX1_goBack) (maxL := 1) (ret := none) (by decide) (Nat.le_of_ble_eq_true rfl) ?_
  intro p e s m below meth c A S hr hlocks hK hN hZ hA H locs hW ls hl
  have S : CallFix p m c cX1_goBack 1 s (List.toArray [.ref h0]) G RX1 := S
  have hl : lv_has ls 1 [(0, .ref h0)] := hl
  have h := hm
  rw [md_X1_goBack] at h
  have hW : wd (dC, dI) A s.heap (clX1 cI cJ cZ cB h0 a0 (c0 1) (c0 2 0) (c0 3) (c0 4 0) (c0 5) (c0 6 0) (w0 7) (c0 8 0) (clX3 cI cJ cZ cB (a0 0) a1 (c1 0) (c1 1) (c1 2) (c1 3) (c1 4) (c1 5 0) (c1 6 0) (c1 7 0) (c1 8 0) (c1 9 0) [])) H locs := hW
  refine lv_aload_n S.1 S.2.1 dX1_goBack_0 rfl (lv_at hl 0 rfl) ?_
  refine gf (C := RX1) (T := TX1) (N := 9) (ci := 0) (k := 8) S hK hW wu_X1 rfl (by decide) wf_X1_46 0 rfl rfl dX1_goBack_1 ?_
  refine lv_if_le (tgt := 33) S.1 S.2.1 dX1_goBack_4 (by decide) (fun u1 => ?_) (fun u1 => ?_)
  · have h := of_p u1 h
    have f2 := Option.some.inj h
    obtain ⟨f3, f4⟩ := Prod.mk.inj f2
    subst f3
    subst f4
    exact rv S hr hlocks hW dX1_goBack_33
  · have h := of_n u1 h
    refine lv_aload_n S.1 S.2.1 dX1_goBack_7 rfl (lv_at hl 0 rfl) ?_
    refine lv_dup S.1 S.2.1 dX1_goBack_8 rfl ?_
    refine gf (C := RX1) (T := TX1) (N := 9) (ci := 0) (k := 8) S hK hW wu_X1 rfl (by decide) wf_X1_46 0 rfl rfl dX1_goBack_9 ?_
    refine lv_iconst (v := (1 : Int32)) S.1 S.2.1 dX1_goBack_12 ki_1 ?_
    refine lv_isub S.1 S.2.1 dX1_goBack_13 ?_
    refine pf (C := RX1) (T := TX1) (N := 9) (ci := 0) (k := 8) (ty := .int) S hK hW wu_X1 rfl (by decide) tyX1 tyX1_ok nmX1 wf_X1_46 0 rfl rfl rfl rfl rfl (Nat.le_of_ble_eq_true rfl) dX1_goBack_14 (fun H locs hW => ?_)
    have hW : wd (dC, dI) A s.heap (clX1 cI cJ cZ cB h0 a0 (c0 1) (c0 2 0) (c0 3) (c0 4 0) (c0 5) (c0 6 0) (w0 7) ((c0 8 0) - (1 : Int32)) (clX3 cI cJ cZ cB (a0 0) a1 (c1 0) (c1 1) (c1 2) (c1 3) (c1 4) (c1 5 0) (c1 6 0) (c1 7 0) (c1 8 0) (c1 9 0) [])) H locs := hW
    refine lv_aload_n S.1 S.2.1 dX1_goBack_17 rfl (lv_at hl 0 rfl) ?_
    refine gf (C := RX1) (T := TX1) (N := 9) (ci := 0) (k := 0) S hK hW wu_X1 rfl (by decide) wf_X1_12 0 rfl rfl dX1_goBack_18 ?_
    refine lv_aload_n S.1 S.2.1 dX1_goBack_21 rfl (lv_at hl 0 rfl) ?_
    refine gf (C := RX1) (T := TX1) (N := 9) (ci := 0) (k := 7) S hK hW wu_X1 rfl (by decide) wf_X1_28 0 rfl rfl dX1_goBack_22 ?_
    refine lv_aload_n S.1 S.2.1 dX1_goBack_25 rfl (lv_at hl 0 rfl) ?_
    refine gf (C := RX1) (T := TX1) (N := 9) (ci := 0) (k := 8) S hK hW wu_X1 rfl (by decide) wf_X1_46 0 rfl rfl dX1_goBack_26 ?_
    obtain ⟨z5, h⟩ := of_g h
    refine la S hK hW rfl 4 rfl z5 dX1_goBack_29 ?_
    obtain ⟨cv6, hy7, h⟩ := bd1_e h
    refine kv (clX1 cI cJ cZ cB h0 a0 (c0 1) (c0 2 0) (c0 3) (c0 4 0) (c0 5) (c0 6 0) (w0 7) ((c0 8 0) - (1 : Int32)) (clX3 cI cJ cZ cB (a0 0) a1 (cv6 0) (cv6 1) (cv6 2) (cv6 3) (cv6 4) (cv6 5 0) (cv6 6 0) (cv6 7 0) (cv6 8 0) (cv6 9 0) [])) S hK hN hZ hA hW (rest := []) (t_X3_back l dC dI cI cJ cZ cB zz (a0 0) a1 F c1 ((w0 7) (ix ((c0 8 0) - (1 : Int32)))) _  hy7) wl_X1_63 wv_X3_back rfl rfl ⟨Nat.le_of_ble_eq_true rfl, Nat.le_of_ble_eq_true rfl⟩ (clX1 cI cJ cZ cB h0 a0 (c0 1) (c0 2 0) (c0 3) (c0 4 0) (c0 5) (c0 6 0) (w0 7) ((c0 8 0) - (1 : Int32)) []) [] rfl rfl rfl 5 rfl rfl rfl rfl hl.1 rfl (Nat.le_of_ble_eq_true rfl) dX1_goBack_30 [] rfl (fun H locs hW => ?_)
    have f8 := Option.some.inj h
    obtain ⟨f9, f10⟩ := Prod.mk.inj f8
    subst f9
    subst f10
    exact rv S hr hlocks hW dX1_goBack_33
abbrev rmX1_addNote : Room := { frames := 0, cells := 0, slots := 0, locals := 0 }
set_option maxHeartbeats 4000000 in
set_option maxRecDepth 100000 in
theorem t_X1_addNote (l : Launch) (dC : Nat → ClassId) (dI : Nat → Nat → Nat) (cI cJ cZ cB : ClassId) (zz : ZT)  (h0 : Nat) (a0 : Nat → Nat) (c0 : Nat → Nat → Int32) (w0 : Nat → Nat → Int64) (p1 : Int32) (p2 : Int32) (p3 : Int32) (p4 : Int32) (p5 : Int32) (c0' : Nat → Nat → Int32) (hm : md_X1_addNote c0 w0 p1 p2 p3 p4 p5 = some (c0')) : ct l (dC, dI) zz (ty4 cI cJ cZ cB) yX1_addNote cX1_addNote 7 none rmX1_addNote [.ref h0, .int p1, .int p2, .int p3, .int p4, .int p5] (cwX1 cI cJ cZ cB h0 a0 c0 w0 []) (cwX1 cI cJ cZ cB h0 a0 c0' w0 []) none := by
  refine ct_of (cc := cX1_addNote) (maxL := 7) (ret := none) (by decide) (Nat.le_of_ble_eq_true rfl) ?_
  intro p e s m below meth c A S hr hlocks hK hN hZ hA H locs hW ls hl
  have S : CallFix p m c cX1_addNote 7 s (List.toArray [.ref h0, .int p1, .int p2, .int p3, .int p4, .int p5]) G RX1 := S
  have hl : lv_has ls 7 [(0, .ref h0), (1, .int p1), (2, .int p2), (3, .int p3), (4, .int p4), (5, .int p5)] := hl
  have h := hm
  rw [md_X1_addNote] at h
  have hW : wd (dC, dI) A s.heap (clX1 cI cJ cZ cB h0 a0 (c0 1) (c0 2 0) (c0 3) (c0 4 0) (c0 5) (c0 6 0) (w0 7) (c0 8 0) []) H locs := hW
  refine lv_aload_n S.1 S.2.1 dX1_addNote_0 rfl (lv_at hl 0 rfl) ?_
  refine gf (C := RX1) (T := TX1) (N := 9) (ci := 0) (k := 4) S hK hW wu_X1 rfl (by decide) wf_X1_40 0 rfl rfl dX1_addNote_1 ?_
  refine lv_bipush (v := (6 : Int32)) S.1 S.2.1 dX1_addNote_4 kb_6 ?_
  refine lv_icmp_lt (tgt := 10) S.1 S.2.1 dX1_addNote_6 (by decide) (fun u1 => ?_) (fun u1 => ?_)
  · have h := of_p u1 h
    refine lv_aload_n S.1 S.2.1 dX1_addNote_10 rfl (lv_at hl 0 rfl) ?_
    refine gf (C := RX1) (T := TX1) (N := 9) (ci := 0) (k := 4) S hK hW wu_X1 rfl (by decide) wf_X1_40 0 rfl rfl dX1_addNote_11 ?_
    refine lv_iconst (v := (5 : Int32)) S.1 S.2.1 dX1_addNote_14 ki_5 ?_
    refine lv_imul S.1 S.2.1 dX1_addNote_15 ?_
    refine lv_istore (lv' := [(6, .int ((c0 4 0) * (5 : Int32))), (0, .ref h0), (1, .int p1), (2, .int p2), (3, .int p3), (4, .int p4), (5, .int p5)]) S.1 S.2.1 dX1_addNote_16 hl (by decide) rfl (fun ls hl => ?_)
    refine lv_aload_n S.1 S.2.1 dX1_addNote_18 rfl (lv_at hl 1 rfl) ?_
    refine gf (C := RX1) (T := TX1) (N := 9) (ci := 0) (k := 3) S hK hW wu_X1 rfl (by decide) wf_X1_22 0 rfl rfl dX1_addNote_19 ?_
    refine lv_iload S.1 S.2.1 dX1_addNote_22 (lv_at hl 0 rfl) ?_
    refine lv_iload_n S.1 S.2.1 dX1_addNote_24 rfl (lv_at hl 2 rfl) ?_
    obtain ⟨z2, h⟩ := of_g h
    refine ist S hK hW rfl 2 rfl z2 dX1_addNote_25 (fun H locs hW => ?_)
    have hW : wd (dC, dI) A s.heap (clX1 cI cJ cZ cB h0 a0 (c0 1) (c0 2 0) (upd (c0 3) (ix ((c0 4 0) * (5 : Int32))) p1) (c0 4 0) (c0 5) (c0 6 0) (w0 7) (c0 8 0) []) H locs := hW
    refine lv_aload_n S.1 S.2.1 dX1_addNote_26 rfl (lv_at hl 1 rfl) ?_
    refine gf (C := RX1) (T := TX1) (N := 9) (ci := 0) (k := 3) S hK hW wu_X1 rfl (by decide) wf_X1_22 0 rfl rfl dX1_addNote_27 ?_
    refine lv_iload S.1 S.2.1 dX1_addNote_30 (lv_at hl 0 rfl) ?_
    refine lv_iconst (v := (1 : Int32)) S.1 S.2.1 dX1_addNote_32 ki_1 ?_
    refine lv_iadd S.1 S.2.1 dX1_addNote_33 ?_
    refine lv_iload_n S.1 S.2.1 dX1_addNote_34 rfl (lv_at hl 3 rfl) ?_
    obtain ⟨z3, h⟩ := of_g h
    refine ist S hK hW rfl 2 rfl z3 dX1_addNote_35 (fun H locs hW => ?_)
    have hW : wd (dC, dI) A s.heap (clX1 cI cJ cZ cB h0 a0 (c0 1) (c0 2 0) (upd (upd (c0 3) (ix ((c0 4 0) * (5 : Int32))) p1) (ix (((c0 4 0) * (5 : Int32)) + (1 : Int32))) p2) (c0 4 0) (c0 5) (c0 6 0) (w0 7) (c0 8 0) []) H locs := hW
    refine lv_aload_n S.1 S.2.1 dX1_addNote_36 rfl (lv_at hl 1 rfl) ?_
    refine gf (C := RX1) (T := TX1) (N := 9) (ci := 0) (k := 3) S hK hW wu_X1 rfl (by decide) wf_X1_22 0 rfl rfl dX1_addNote_37 ?_
    refine lv_iload S.1 S.2.1 dX1_addNote_40 (lv_at hl 0 rfl) ?_
    refine lv_iconst (v := (2 : Int32)) S.1 S.2.1 dX1_addNote_42 ki_2 ?_
    refine lv_iadd S.1 S.2.1 dX1_addNote_43 ?_
    refine lv_iload_n S.1 S.2.1 dX1_addNote_44 rfl (lv_at hl 4 rfl) ?_
    obtain ⟨z4, h⟩ := of_g h
    refine ist S hK hW rfl 2 rfl z4 dX1_addNote_45 (fun H locs hW => ?_)
    have hW : wd (dC, dI) A s.heap (clX1 cI cJ cZ cB h0 a0 (c0 1) (c0 2 0) (upd (upd (upd (c0 3) (ix ((c0 4 0) * (5 : Int32))) p1) (ix (((c0 4 0) * (5 : Int32)) + (1 : Int32))) p2) (ix (((c0 4 0) * (5 : Int32)) + (2 : Int32))) p3) (c0 4 0) (c0 5) (c0 6 0) (w0 7) (c0 8 0) []) H locs := hW
    refine lv_aload_n S.1 S.2.1 dX1_addNote_46 rfl (lv_at hl 1 rfl) ?_
    refine gf (C := RX1) (T := TX1) (N := 9) (ci := 0) (k := 3) S hK hW wu_X1 rfl (by decide) wf_X1_22 0 rfl rfl dX1_addNote_47 ?_
    refine lv_iload S.1 S.2.1 dX1_addNote_50 (lv_at hl 0 rfl) ?_
    refine lv_iconst (v := (3 : Int32)) S.1 S.2.1 dX1_addNote_52 ki_3 ?_
    refine lv_iadd S.1 S.2.1 dX1_addNote_53 ?_
    refine lv_iload S.1 S.2.1 dX1_addNote_54 (lv_at hl 5 rfl) ?_
    obtain ⟨z5, h⟩ := of_g h
    refine ist S hK hW rfl 2 rfl z5 dX1_addNote_56 (fun H locs hW => ?_)
    have hW : wd (dC, dI) A s.heap (clX1 cI cJ cZ cB h0 a0 (c0 1) (c0 2 0) (upd (upd (upd (upd (c0 3) (ix ((c0 4 0) * (5 : Int32))) p1) (ix (((c0 4 0) * (5 : Int32)) + (1 : Int32))) p2) (ix (((c0 4 0) * (5 : Int32)) + (2 : Int32))) p3) (ix (((c0 4 0) * (5 : Int32)) + (3 : Int32))) p4) (c0 4 0) (c0 5) (c0 6 0) (w0 7) (c0 8 0) []) H locs := hW
    refine lv_aload_n S.1 S.2.1 dX1_addNote_57 rfl (lv_at hl 1 rfl) ?_
    refine gf (C := RX1) (T := TX1) (N := 9) (ci := 0) (k := 3) S hK hW wu_X1 rfl (by decide) wf_X1_22 0 rfl rfl dX1_addNote_58 ?_
    refine lv_iload S.1 S.2.1 dX1_addNote_61 (lv_at hl 0 rfl) ?_
    refine lv_iconst (v := (4 : Int32)) S.1 S.2.1 dX1_addNote_63 ki_4 ?_
    refine lv_iadd S.1 S.2.1 dX1_addNote_64 ?_
    refine lv_iload S.1 S.2.1 dX1_addNote_65 (lv_at hl 6 rfl) ?_
    obtain ⟨z6, h⟩ := of_g h
    refine ist S hK hW rfl 2 rfl z6 dX1_addNote_67 (fun H locs hW => ?_)
    have hW : wd (dC, dI) A s.heap (clX1 cI cJ cZ cB h0 a0 (c0 1) (c0 2 0) (upd (upd (upd (upd (upd (c0 3) (ix ((c0 4 0) * (5 : Int32))) p1) (ix (((c0 4 0) * (5 : Int32)) + (1 : Int32))) p2) (ix (((c0 4 0) * (5 : Int32)) + (2 : Int32))) p3) (ix (((c0 4 0) * (5 : Int32)) + (3 : Int32))) p4) (ix (((c0 4 0) * (5 : Int32)) + (4 : Int32))) p5) (c0 4 0) (c0 5) (c0 6 0) (w0 7) (c0 8 0) []) H locs := hW
    refine lv_aload_n S.1 S.2.1 dX1_addNote_68 rfl (lv_at hl 1 rfl) ?_
    refine lv_dup S.1 S.2.1 dX1_addNote_69 rfl ?_
    refine gf (C := RX1) (T := TX1) (N := 9) (ci := 0) (k := 4) S hK hW wu_X1 rfl (by decide) wf_X1_40 0 rfl rfl dX1_addNote_70 ?_
    refine lv_iconst (v := (1 : Int32)) S.1 S.2.1 dX1_addNote_73 ki_1 ?_
    refine lv_iadd S.1 S.2.1 dX1_addNote_74 ?_
    refine pf (C := RX1) (T := TX1) (N := 9) (ci := 0) (k := 4) (ty := .int) S hK hW wu_X1 rfl (by decide) tyX1 tyX1_ok nmX1 wf_X1_40 0 rfl rfl rfl rfl rfl (Nat.le_of_ble_eq_true rfl) dX1_addNote_75 (fun H locs hW => ?_)
    have hW : wd (dC, dI) A s.heap (clX1 cI cJ cZ cB h0 a0 (c0 1) (c0 2 0) (upd (upd (upd (upd (upd (c0 3) (ix ((c0 4 0) * (5 : Int32))) p1) (ix (((c0 4 0) * (5 : Int32)) + (1 : Int32))) p2) (ix (((c0 4 0) * (5 : Int32)) + (2 : Int32))) p3) (ix (((c0 4 0) * (5 : Int32)) + (3 : Int32))) p4) (ix (((c0 4 0) * (5 : Int32)) + (4 : Int32))) p5) ((c0 4 0) + (1 : Int32)) (c0 5) (c0 6 0) (w0 7) (c0 8 0) []) H locs := hW
    have f7 := Option.some.inj h
    subst f7
    exact rv S hr hlocks hW dX1_addNote_78
  · have h := of_n u1 h
    have f8 := Option.some.inj h
    subst f8
    exact rv S hr hlocks hW dX1_addNote_9
abbrev rmX1_addMark : Room := { frames := 0, cells := 0, slots := 0, locals := 0 }
set_option maxHeartbeats 4000000 in
set_option maxRecDepth 100000 in
theorem t_X1_addMark (l : Launch) (dC : Nat → ClassId) (dI : Nat → Nat → Nat) (cI cJ cZ cB : ClassId) (zz : ZT)  (h0 : Nat) (a0 : Nat → Nat) (c0 : Nat → Nat → Int32) (w0 : Nat → Nat → Int64) (p1 : Int32) (p2 : Int32) (p3 : Int32) (p4 : Int32) (c0' : Nat → Nat → Int32) (hm : md_X1_addMark c0 w0 p1 p2 p3 p4 = some (c0')) : ct l (dC, dI) zz (ty4 cI cJ cZ cB) yX1_addMark cX1_addMark 6 none rmX1_addMark [.ref h0, .int p1, .int p2, .int p3, .int p4] (cwX1 cI cJ cZ cB h0 a0 c0 w0 []) (cwX1 cI cJ cZ cB h0 a0 c0' w0 []) none := by
  refine ct_of (cc := cX1_addMark) (maxL := 6) (ret := none) (by decide) (Nat.le_of_ble_eq_true rfl) ?_
  intro p e s m below meth c A S hr hlocks hK hN hZ hA H locs hW ls hl
  have S : CallFix p m c cX1_addMark 6 s (List.toArray [.ref h0, .int p1, .int p2, .int p3, .int p4]) G RX1 := S
  have hl : lv_has ls 6 [(0, .ref h0), (1, .int p1), (2, .int p2), (3, .int p3), (4, .int p4)] := hl
  have h := hm
  rw [md_X1_addMark] at h
  have hW : wd (dC, dI) A s.heap (clX1 cI cJ cZ cB h0 a0 (c0 1) (c0 2 0) (c0 3) (c0 4 0) (c0 5) (c0 6 0) (w0 7) (c0 8 0) []) H locs := hW
  refine lv_aload_n S.1 S.2.1 dX1_addMark_0 rfl (lv_at hl 0 rfl) ?_
  refine gf (C := RX1) (T := TX1) (N := 9) (ci := 0) (k := 6) S hK hW wu_X1 rfl (by decide) wf_X1_43 0 rfl rfl dX1_addMark_1 ?_
  refine lv_bipush (v := (6 : Int32)) S.1 S.2.1 dX1_addMark_4 kb_6 ?_
  refine lv_icmp_lt (tgt := 10) S.1 S.2.1 dX1_addMark_6 (by decide) (fun u1 => ?_) (fun u1 => ?_)
  · have h := of_p u1 h
    refine lv_aload_n S.1 S.2.1 dX1_addMark_10 rfl (lv_at hl 0 rfl) ?_
    refine gf (C := RX1) (T := TX1) (N := 9) (ci := 0) (k := 6) S hK hW wu_X1 rfl (by decide) wf_X1_43 0 rfl rfl dX1_addMark_11 ?_
    refine lv_iconst (v := (4 : Int32)) S.1 S.2.1 dX1_addMark_14 ki_4 ?_
    refine lv_imul S.1 S.2.1 dX1_addMark_15 ?_
    refine lv_istore (lv' := [(5, .int ((c0 6 0) * (4 : Int32))), (0, .ref h0), (1, .int p1), (2, .int p2), (3, .int p3), (4, .int p4)]) S.1 S.2.1 dX1_addMark_16 hl (by decide) rfl (fun ls hl => ?_)
    refine lv_aload_n S.1 S.2.1 dX1_addMark_18 rfl (lv_at hl 1 rfl) ?_
    refine gf (C := RX1) (T := TX1) (N := 9) (ci := 0) (k := 5) S hK hW wu_X1 rfl (by decide) wf_X1_25 0 rfl rfl dX1_addMark_19 ?_
    refine lv_iload S.1 S.2.1 dX1_addMark_22 (lv_at hl 0 rfl) ?_
    refine lv_iload_n S.1 S.2.1 dX1_addMark_24 rfl (lv_at hl 2 rfl) ?_
    obtain ⟨z2, h⟩ := of_g h
    refine ist S hK hW rfl 3 rfl z2 dX1_addMark_25 (fun H locs hW => ?_)
    have hW : wd (dC, dI) A s.heap (clX1 cI cJ cZ cB h0 a0 (c0 1) (c0 2 0) (c0 3) (c0 4 0) (upd (c0 5) (ix ((c0 6 0) * (4 : Int32))) p1) (c0 6 0) (w0 7) (c0 8 0) []) H locs := hW
    refine lv_aload_n S.1 S.2.1 dX1_addMark_26 rfl (lv_at hl 1 rfl) ?_
    refine gf (C := RX1) (T := TX1) (N := 9) (ci := 0) (k := 5) S hK hW wu_X1 rfl (by decide) wf_X1_25 0 rfl rfl dX1_addMark_27 ?_
    refine lv_iload S.1 S.2.1 dX1_addMark_30 (lv_at hl 0 rfl) ?_
    refine lv_iconst (v := (1 : Int32)) S.1 S.2.1 dX1_addMark_32 ki_1 ?_
    refine lv_iadd S.1 S.2.1 dX1_addMark_33 ?_
    refine lv_iload_n S.1 S.2.1 dX1_addMark_34 rfl (lv_at hl 3 rfl) ?_
    obtain ⟨z3, h⟩ := of_g h
    refine ist S hK hW rfl 3 rfl z3 dX1_addMark_35 (fun H locs hW => ?_)
    have hW : wd (dC, dI) A s.heap (clX1 cI cJ cZ cB h0 a0 (c0 1) (c0 2 0) (c0 3) (c0 4 0) (upd (upd (c0 5) (ix ((c0 6 0) * (4 : Int32))) p1) (ix (((c0 6 0) * (4 : Int32)) + (1 : Int32))) p2) (c0 6 0) (w0 7) (c0 8 0) []) H locs := hW
    refine lv_aload_n S.1 S.2.1 dX1_addMark_36 rfl (lv_at hl 1 rfl) ?_
    refine gf (C := RX1) (T := TX1) (N := 9) (ci := 0) (k := 5) S hK hW wu_X1 rfl (by decide) wf_X1_25 0 rfl rfl dX1_addMark_37 ?_
    refine lv_iload S.1 S.2.1 dX1_addMark_40 (lv_at hl 0 rfl) ?_
    refine lv_iconst (v := (2 : Int32)) S.1 S.2.1 dX1_addMark_42 ki_2 ?_
    refine lv_iadd S.1 S.2.1 dX1_addMark_43 ?_
    refine lv_iload_n S.1 S.2.1 dX1_addMark_44 rfl (lv_at hl 4 rfl) ?_
    obtain ⟨z4, h⟩ := of_g h
    refine ist S hK hW rfl 3 rfl z4 dX1_addMark_45 (fun H locs hW => ?_)
    have hW : wd (dC, dI) A s.heap (clX1 cI cJ cZ cB h0 a0 (c0 1) (c0 2 0) (c0 3) (c0 4 0) (upd (upd (upd (c0 5) (ix ((c0 6 0) * (4 : Int32))) p1) (ix (((c0 6 0) * (4 : Int32)) + (1 : Int32))) p2) (ix (((c0 6 0) * (4 : Int32)) + (2 : Int32))) p3) (c0 6 0) (w0 7) (c0 8 0) []) H locs := hW
    refine lv_aload_n S.1 S.2.1 dX1_addMark_46 rfl (lv_at hl 1 rfl) ?_
    refine gf (C := RX1) (T := TX1) (N := 9) (ci := 0) (k := 5) S hK hW wu_X1 rfl (by decide) wf_X1_25 0 rfl rfl dX1_addMark_47 ?_
    refine lv_iload S.1 S.2.1 dX1_addMark_50 (lv_at hl 0 rfl) ?_
    refine lv_iconst (v := (3 : Int32)) S.1 S.2.1 dX1_addMark_52 ki_3 ?_
    refine lv_iadd S.1 S.2.1 dX1_addMark_53 ?_
    refine lv_iload S.1 S.2.1 dX1_addMark_54 (lv_at hl 5 rfl) ?_
    obtain ⟨z5, h⟩ := of_g h
    refine ist S hK hW rfl 3 rfl z5 dX1_addMark_56 (fun H locs hW => ?_)
    have hW : wd (dC, dI) A s.heap (clX1 cI cJ cZ cB h0 a0 (c0 1) (c0 2 0) (c0 3) (c0 4 0) (upd (upd (upd (upd (c0 5) (ix ((c0 6 0) * (4 : Int32))) p1) (ix (((c0 6 0) * (4 : Int32)) + (1 : Int32))) p2) (ix (((c0 6 0) * (4 : Int32)) + (2 : Int32))) p3) (ix (((c0 6 0) * (4 : Int32)) + (3 : Int32))) p4) (c0 6 0) (w0 7) (c0 8 0) []) H locs := hW
    refine lv_aload_n S.1 S.2.1 dX1_addMark_57 rfl (lv_at hl 1 rfl) ?_
    refine lv_dup S.1 S.2.1 dX1_addMark_58 rfl ?_
    refine gf (C := RX1) (T := TX1) (N := 9) (ci := 0) (k := 6) S hK hW wu_X1 rfl (by decide) wf_X1_43 0 rfl rfl dX1_addMark_59 ?_
    refine lv_iconst (v := (1 : Int32)) S.1 S.2.1 dX1_addMark_62 ki_1 ?_
    refine lv_iadd S.1 S.2.1 dX1_addMark_63 ?_
    refine pf (C := RX1) (T := TX1) (N := 9) (ci := 0) (k := 6) (ty := .int) S hK hW wu_X1 rfl (by decide) tyX1 tyX1_ok nmX1 wf_X1_43 0 rfl rfl rfl rfl rfl (Nat.le_of_ble_eq_true rfl) dX1_addMark_64 (fun H locs hW => ?_)
    have hW : wd (dC, dI) A s.heap (clX1 cI cJ cZ cB h0 a0 (c0 1) (c0 2 0) (c0 3) (c0 4 0) (upd (upd (upd (upd (c0 5) (ix ((c0 6 0) * (4 : Int32))) p1) (ix (((c0 6 0) * (4 : Int32)) + (1 : Int32))) p2) (ix (((c0 6 0) * (4 : Int32)) + (2 : Int32))) p3) (ix (((c0 6 0) * (4 : Int32)) + (3 : Int32))) p4) ((c0 6 0) + (1 : Int32)) (w0 7) (c0 8 0) []) H locs := hW
    have f6 := Option.some.inj h
    subst f6
    exact rv S hr hlocks hW dX1_addMark_67
  · have h := of_n u1 h
    have f7 := Option.some.inj h
    subst f7
    exact rv S hr hlocks hW dX1_addMark_9
abbrev rmX1_allEndsAre : Room := { frames := 0, cells := 0, slots := 0, locals := 0 }
set_option maxHeartbeats 4000000 in
set_option maxRecDepth 100000 in
theorem t_X1_allEndsAre (l : Launch) (dC : Nat → ClassId) (dI : Nat → Nat → Nat) (cI cJ cZ cB : ClassId) (zz : ZT)  (h0 : Nat) (a0 : Nat → Nat) (F : Nat) (c0 : Nat → Nat → Int32) (w0 : Nat → Nat → Int64) (p1 : Int32) (r : Int32) (hm : md_X1_allEndsAre F c0 w0 p1 = some (r)) : ct l (dC, dI) zz (ty4 cI cJ cZ cB) yX1_allEndsAre cX1_allEndsAre 3 (some .boolean) rmX1_allEndsAre [.ref h0, .int p1] (cwX1 cI cJ cZ cB h0 a0 c0 w0 []) (cwX1 cI cJ cZ cB h0 a0 c0 w0 []) (some (.int r)) := by
  refine ct_of (cc := cX1_allEndsAre) (maxL := 3) (ret := (some .boolean)) (by decide) (Nat.le_of_ble_eq_true rfl) ?_
  intro p e s m below meth c A S hr hlocks hK hN hZ hA H locs hW ls hl
  have S : CallFix p m c cX1_allEndsAre 3 s (List.toArray [.ref h0, .int p1]) G RX1 := S
  have hl : lv_has ls 3 [(0, .ref h0), (1, .int p1)] := hl
  have h := hm
  rw [md_X1_allEndsAre] at h
  have hW : wd (dC, dI) A s.heap (clX1 cI cJ cZ cB h0 a0 (c0 1) (c0 2 0) (c0 3) (c0 4 0) (c0 5) (c0 6 0) (w0 7) (c0 8 0) []) H locs := hW
  have hL2 : ∀ (n2 : Nat) (x1 : Int32) (x2 : Int32), ld_X1_allEndsAre_2 F c0 w0 n2 x1 x2 = some (r) → ∀ (H : Heap) (locs : List Loc), wd (dC, dI) A s.heap (clX1 cI cJ cZ cB h0 a0 (c0 1) (c0 2 0) (c0 3) (c0 4 0) (c0 5) (c0 6 0) (w0 7) (c0 8 0) []) H locs → ∀ ls : Array Slot, lv_has ls 3 [(0, .ref h0), (1, .int x1), (2, .int x2)] → W p l e rmX1_allEndsAre s m (List.toArray [.ref h0, .int p1]) below meth c H locs 0 0 (MQ below (kQ (dC, dI) (cwX1 cI cJ cZ cB h0 a0 c0 w0 []) (some (.int r)) A) (List.toArray [.ref h0, .int p1]) s 0 0 A) (F0 m 2 ls []) := by
    intro n2
    induction n2 with
    | zero => intro x1 x2 h; rw [ld_X1_allEndsAre_2] at h; cases h
    | succ n2 ih2 =>
      intro x1 x2 h H locs hW ls hl
      rw [ld_X1_allEndsAre_2] at h
      refine lv_iload_n S.1 S.2.1 dX1_allEndsAre_2 rfl (lv_at hl 2 rfl) ?_
      refine lv_aload_n S.1 S.2.1 dX1_allEndsAre_3 rfl (lv_at hl 0 rfl) ?_
      refine gf (C := RX1) (T := TX1) (N := 9) (ci := 0) (k := 2) S hK hW wu_X1 rfl (by decide) wf_X1_36 0 rfl rfl dX1_allEndsAre_4 ?_
      refine lv_icmp_ge (tgt := 33) S.1 S.2.1 dX1_allEndsAre_7 (by decide) (fun u1 => ?_) (fun u1 => ?_)
      · have h := of_p u1 h
        refine lv_iconst (v := (1 : Int32)) S.1 S.2.1 dX1_allEndsAre_33 ki_1 ?_
        have f2 := Option.some.inj h
        subst f2
        exact rz S hr hlocks hW (nz (Or.inr rfl)) dX1_allEndsAre_34
      · have h := of_n u1 h
        refine lv_iload_n S.1 S.2.1 dX1_allEndsAre_10 rfl (lv_at hl 2 rfl) ?_
        refine lv_iconst (v := (4 : Int32)) S.1 S.2.1 dX1_allEndsAre_11 ki_4 ?_
        refine lv_icmp_ge (tgt := 33) S.1 S.2.1 dX1_allEndsAre_12 (by decide) (fun u3 => ?_) (fun u3 => ?_)
        · have h := of_p u3 h
          refine lv_iconst (v := (1 : Int32)) S.1 S.2.1 dX1_allEndsAre_33 ki_1 ?_
          have f4 := Option.some.inj h
          subst f4
          exact rz S hr hlocks hW (nz (Or.inr rfl)) dX1_allEndsAre_34
        · have h := of_n u3 h
          refine lv_aload_n S.1 S.2.1 dX1_allEndsAre_15 rfl (lv_at hl 0 rfl) ?_
          refine gf (C := RX1) (T := TX1) (N := 9) (ci := 0) (k := 1) S hK hW wu_X1 rfl (by decide) wf_X1_18 0 rfl rfl dX1_allEndsAre_16 ?_
          refine lv_iload_n S.1 S.2.1 dX1_allEndsAre_19 rfl (lv_at hl 2 rfl) ?_
          obtain ⟨z5, h⟩ := of_g h
          refine ia S hK hW rfl 1 rfl z5 dX1_allEndsAre_20 ?_
          refine lv_iload_n S.1 S.2.1 dX1_allEndsAre_21 rfl (lv_at hl 1 rfl) ?_
          refine lv_icmp_eq (tgt := 27) S.1 S.2.1 dX1_allEndsAre_22 (by decide) (fun u6 => ?_) (fun u6 => ?_)
          · have h := of_p u6 h
            refine lv_iinc (v := (x2 + (1 : Int32))) (lv' := [(2, .int (x2 + (1 : Int32))), (0, .ref h0), (1, .int x1)]) S.1 S.2.1 dX1_allEndsAre_27 hl (k := 2) rfl (congrArg (fun z => x2 + z) ki_1) (by decide) rfl (fun ls hl => ?_)
            refine lv_goto (tgt := 2) S.1 S.2.1 dX1_allEndsAre_30 (by decide) ?_
            exact ih2 _ _ h H locs hW ls (lv_sub hl [1, 2, 0] rfl)
          · have h := of_n u6 h
            refine lv_iconst (v := (0 : Int32)) S.1 S.2.1 dX1_allEndsAre_25 ki_0 ?_
            have f7 := Option.some.inj h
            subst f7
            exact rz S hr hlocks hW (nz (Or.inl rfl)) dX1_allEndsAre_26
  refine lv_iconst (v := (0 : Int32)) S.1 S.2.1 dX1_allEndsAre_0 ki_0 ?_
  refine lv_istore_n (lv' := [(2, .int (0 : Int32)), (0, .ref h0), (1, .int p1)]) S.1 S.2.1 dX1_allEndsAre_1 rfl hl (by decide) rfl (fun ls hl => ?_)
  exact hL2 F _ _ h H locs hW ls (lv_sub hl [1, 2, 0] rfl)
abbrev rmX1_notesFit : Room := { frames := 2, cells := 0, slots := 0, locals := 44 }
set_option maxHeartbeats 4000000 in
set_option maxRecDepth 100000 in
theorem t_X1_notesFit (l : Launch) (dC : Nat → ClassId) (dI : Nat → Nat → Nat) (cI cJ cZ cB : ClassId) (zz : ZT)  (h0 : Nat) (a0 : Nat → Nat) (F : Nat) (c0 : Nat → Nat → Int32) (w0 : Nat → Nat → Int64) (p1 : Int32) (p2 : Int32) (r : Int32) (hm : md_X1_notesFit F c0 w0 p1 p2 = some (r)) : ct l (dC, dI) zz (ty4 cI cJ cZ cB) yX1_notesFit cX1_notesFit 5 (some .boolean) rmX1_notesFit [.ref h0, .int p1, .int p2] (cwX1 cI cJ cZ cB h0 a0 c0 w0 []) (cwX1 cI cJ cZ cB h0 a0 c0 w0 []) (some (.int r)) := by
  refine ct_of (cc := cX1_notesFit) (maxL := 5) (ret := (some .boolean)) (by decide) (Nat.le_of_ble_eq_true rfl) ?_
  intro p e s m below meth c A S hr hlocks hK hN hZ hA H locs hW ls hl
  have S : CallFix p m c cX1_notesFit 5 s (List.toArray [.ref h0, .int p1, .int p2]) G RX1 := S
  have hl : lv_has ls 5 [(0, .ref h0), (1, .int p1), (2, .int p2)] := hl
  have h := hm
  rw [md_X1_notesFit] at h
  have hW : wd (dC, dI) A s.heap (clX1 cI cJ cZ cB h0 a0 (c0 1) (c0 2 0) (c0 3) (c0 4 0) (c0 5) (c0 6 0) (w0 7) (c0 8 0) []) H locs := hW
  have hL2 : ∀ (n2 : Nat) (x1 : Int32) (x2 : Int32) (x3 : Int32), ld_X1_notesFit_2 F c0 w0 n2 x1 x2 x3 = some (r) → ∀ (H : Heap) (locs : List Loc), wd (dC, dI) A s.heap (clX1 cI cJ cZ cB h0 a0 (c0 1) (c0 2 0) (c0 3) (c0 4 0) (c0 5) (c0 6 0) (w0 7) (c0 8 0) []) H locs → ∀ ls : Array Slot, lv_has ls 5 [(0, .ref h0), (1, .int x1), (2, .int x2), (3, .int x3)] → W p l e rmX1_notesFit s m (List.toArray [.ref h0, .int p1, .int p2]) below meth c H locs 0 0 (MQ below (kQ (dC, dI) (cwX1 cI cJ cZ cB h0 a0 c0 w0 []) (some (.int r)) A) (List.toArray [.ref h0, .int p1, .int p2]) s 0 0 A) (F0 m 2 ls []) := by
    intro n2
    induction n2 with
    | zero => intro x1 x2 x3 h; rw [ld_X1_notesFit_2] at h; cases h
    | succ n2 ih2 =>
      intro x1 x2 x3 h H locs hW ls hl
      rw [ld_X1_notesFit_2] at h
      refine lv_iload_n S.1 S.2.1 dX1_notesFit_2 rfl (lv_at hl 3 rfl) ?_
      refine lv_aload_n S.1 S.2.1 dX1_notesFit_3 rfl (lv_at hl 0 rfl) ?_
      refine gf (C := RX1) (T := TX1) (N := 9) (ci := 0) (k := 4) S hK hW wu_X1 rfl (by decide) wf_X1_40 0 rfl rfl dX1_notesFit_4 ?_
      refine lv_icmp_ge (tgt := 83) S.1 S.2.1 dX1_notesFit_7 (by decide) (fun u1 => ?_) (fun u1 => ?_)
      · have h := of_p u1 h
        refine lv_iconst (v := (1 : Int32)) S.1 S.2.1 dX1_notesFit_83 ki_1 ?_
        have f2 := Option.some.inj h
        subst f2
        exact rz S hr hlocks hW (nz (Or.inr rfl)) dX1_notesFit_84
      · have h := of_n u1 h
        refine lv_iload_n S.1 S.2.1 dX1_notesFit_10 rfl (lv_at hl 3 rfl) ?_
        refine lv_bipush (v := (6 : Int32)) S.1 S.2.1 dX1_notesFit_11 kb_6 ?_
        refine lv_icmp_ge (tgt := 83) S.1 S.2.1 dX1_notesFit_13 (by decide) (fun u3 => ?_) (fun u3 => ?_)
        · have h := of_p u3 h
          refine lv_iconst (v := (1 : Int32)) S.1 S.2.1 dX1_notesFit_83 ki_1 ?_
          have f4 := Option.some.inj h
          subst f4
          exact rz S hr hlocks hW (nz (Or.inr rfl)) dX1_notesFit_84
        · have h := of_n u3 h
          refine lv_iload_n S.1 S.2.1 dX1_notesFit_16 rfl (lv_at hl 3 rfl) ?_
          refine lv_iconst (v := (5 : Int32)) S.1 S.2.1 dX1_notesFit_17 ki_5 ?_
          refine lv_imul S.1 S.2.1 dX1_notesFit_18 ?_
          refine lv_istore (lv' := [(4, .int (x3 * (5 : Int32))), (0, .ref h0), (1, .int x1), (2, .int x2), (3, .int x3)]) S.1 S.2.1 dX1_notesFit_19 hl (by decide) rfl (fun ls hl => ?_)
          refine lv_aload_n S.1 S.2.1 dX1_notesFit_21 rfl (lv_at hl 1 rfl) ?_
          refine gf (C := RX1) (T := TX1) (N := 9) (ci := 0) (k := 3) S hK hW wu_X1 rfl (by decide) wf_X1_22 0 rfl rfl dX1_notesFit_22 ?_
          refine lv_iload S.1 S.2.1 dX1_notesFit_25 (lv_at hl 0 rfl) ?_
          obtain ⟨z5, h⟩ := of_g h
          refine ia S hK hW rfl 2 rfl z5 dX1_notesFit_27 ?_
          refine lv_iload_n S.1 S.2.1 dX1_notesFit_28 rfl (lv_at hl 2 rfl) ?_
          refine lv_icmp_ne (tgt := 77) S.1 S.2.1 dX1_notesFit_29 (by decide) (fun u6 => ?_) (fun u6 => ?_)
          · have h := of_n u6 h
            refine lv_iinc (v := (x3 + (1 : Int32))) (lv' := [(3, .int (x3 + (1 : Int32))), (4, .int (x3 * (5 : Int32))), (0, .ref h0), (1, .int x1), (2, .int x2)]) S.1 S.2.1 dX1_notesFit_77 hl (k := 4) rfl (congrArg (fun z => x3 + z) ki_1) (by decide) rfl (fun ls hl => ?_)
            refine lv_goto (tgt := 2) S.1 S.2.1 dX1_notesFit_80 (by decide) ?_
            exact ih2 _ _ _ h H locs hW ls (lv_sub hl [2, 3, 4, 0] rfl)
          · have h := of_p u6 h
            refine lv_iload_n S.1 S.2.1 dX1_notesFit_32 rfl (lv_at hl 3 rfl) ?_
            refine lv_aload_n S.1 S.2.1 dX1_notesFit_33 rfl (lv_at hl 1 rfl) ?_
            refine gf (C := RX1) (T := TX1) (N := 9) (ci := 0) (k := 3) S hK hW wu_X1 rfl (by decide) wf_X1_22 0 rfl rfl dX1_notesFit_34 ?_
            refine lv_iload S.1 S.2.1 dX1_notesFit_37 (lv_at hl 0 rfl) ?_
            refine lv_iconst (v := (1 : Int32)) S.1 S.2.1 dX1_notesFit_39 ki_1 ?_
            refine lv_iadd S.1 S.2.1 dX1_notesFit_40 ?_
            obtain ⟨z7, h⟩ := of_g h
            refine ia S hK hW rfl 2 rfl z7 dX1_notesFit_41 ?_
            refine lv_aload_n S.1 S.2.1 dX1_notesFit_42 rfl (lv_at hl 1 rfl) ?_
            refine gf (C := RX1) (T := TX1) (N := 9) (ci := 0) (k := 3) S hK hW wu_X1 rfl (by decide) wf_X1_22 0 rfl rfl dX1_notesFit_43 ?_
            refine lv_iload S.1 S.2.1 dX1_notesFit_46 (lv_at hl 0 rfl) ?_
            refine lv_iconst (v := (2 : Int32)) S.1 S.2.1 dX1_notesFit_48 ki_2 ?_
            refine lv_iadd S.1 S.2.1 dX1_notesFit_49 ?_
            obtain ⟨z8, h⟩ := of_g h
            refine ia S hK hW rfl 2 rfl z8 dX1_notesFit_50 ?_
            refine lv_aload_n S.1 S.2.1 dX1_notesFit_51 rfl (lv_at hl 1 rfl) ?_
            refine gf (C := RX1) (T := TX1) (N := 9) (ci := 0) (k := 3) S hK hW wu_X1 rfl (by decide) wf_X1_22 0 rfl rfl dX1_notesFit_52 ?_
            refine lv_iload S.1 S.2.1 dX1_notesFit_55 (lv_at hl 0 rfl) ?_
            refine lv_iconst (v := (3 : Int32)) S.1 S.2.1 dX1_notesFit_57 ki_3 ?_
            refine lv_iadd S.1 S.2.1 dX1_notesFit_58 ?_
            obtain ⟨z9, h⟩ := of_g h
            refine ia S hK hW rfl 2 rfl z9 dX1_notesFit_59 ?_
            obtain ⟨r10, hy11, h⟩ := bd1_e h
            refine ks0 S hK hN hZ hA hW (rest := []) (t_X5_moved l dC dI cI cJ cZ cB zz x2 ((c0 3) (ix ((x3 * (5 : Int32)) + (1 : Int32)))) ((c0 3) (ix ((x3 * (5 : Int32)) + (2 : Int32)))) ((c0 3) (ix ((x3 * (5 : Int32)) + (3 : Int32)))) _  hy11) wl_X1_71 wv_X5_moved rfl rfl ⟨Nat.le_of_ble_eq_true rfl, Nat.le_of_ble_eq_true rfl⟩ [] (clX1 cI cJ cZ cB h0 a0 (c0 1) (c0 2 0) (c0 3) (c0 4 0) (c0 5) (c0 6 0) (w0 7) (c0 8 0) []) rfl rfl hl.1 rfl (Nat.le_of_ble_eq_true rfl) dX1_notesFit_60 [.int r10] rfl (fun H locs hW => ?_)
            refine lv_aload_n S.1 S.2.1 dX1_notesFit_63 rfl (lv_at hl 1 rfl) ?_
            refine gf (C := RX1) (T := TX1) (N := 9) (ci := 0) (k := 3) S hK hW wu_X1 rfl (by decide) wf_X1_22 0 rfl rfl dX1_notesFit_64 ?_
            refine lv_iload S.1 S.2.1 dX1_notesFit_67 (lv_at hl 0 rfl) ?_
            refine lv_iconst (v := (4 : Int32)) S.1 S.2.1 dX1_notesFit_69 ki_4 ?_
            refine lv_iadd S.1 S.2.1 dX1_notesFit_70 ?_
            obtain ⟨z12, h⟩ := of_g h
            refine ia S hK hW rfl 2 rfl z12 dX1_notesFit_71 ?_
            refine lv_icmp_eq (tgt := 77) S.1 S.2.1 dX1_notesFit_72 (by decide) (fun u13 => ?_) (fun u13 => ?_)
            · have h := of_p u13 h
              refine lv_iinc (v := (x3 + (1 : Int32))) (lv' := [(3, .int (x3 + (1 : Int32))), (4, .int (x3 * (5 : Int32))), (0, .ref h0), (1, .int x1), (2, .int x2)]) S.1 S.2.1 dX1_notesFit_77 hl (k := 4) rfl (congrArg (fun z => x3 + z) ki_1) (by decide) rfl (fun ls hl => ?_)
              refine lv_goto (tgt := 2) S.1 S.2.1 dX1_notesFit_80 (by decide) ?_
              exact ih2 _ _ _ h H locs hW ls (lv_sub hl [2, 3, 4, 0] rfl)
            · have h := of_n u13 h
              refine lv_iconst (v := (0 : Int32)) S.1 S.2.1 dX1_notesFit_75 ki_0 ?_
              have f14 := Option.some.inj h
              subst f14
              exact rz S hr hlocks hW (nz (Or.inl rfl)) dX1_notesFit_76
  refine lv_iconst (v := (0 : Int32)) S.1 S.2.1 dX1_notesFit_0 ki_0 ?_
  refine lv_istore_n (lv' := [(3, .int (0 : Int32)), (0, .ref h0), (1, .int p1), (2, .int p2)]) S.1 S.2.1 dX1_notesFit_1 rfl hl (by decide) rfl (fun ls hl => ?_)
  exact hL2 F _ _ _ h H locs hW ls (lv_sub hl [1, 2, 3, 0] rfl)
abbrev rmX1_pointKindsThatFit : Room := { frames := 3, cells := 0, slots := 0, locals := 68 }
set_option maxHeartbeats 4000000 in
set_option maxRecDepth 100000 in
theorem t_X1_pointKindsThatFit (l : Launch) (dC : Nat → ClassId) (dI : Nat → Nat → Nat) (cI cJ cZ cB : ClassId) (zz : ZT)  (h0 : Nat) (a0 : Nat → Nat) (F : Nat) (c0 : Nat → Nat → Int32) (w0 : Nat → Nat → Int64) (p1 : Int32) (r : Int32) (hm : md_X1_pointKindsThatFit F c0 w0 p1 = some (r)) : ct l (dC, dI) zz (ty4 cI cJ cZ cB) yX1_pointKindsThatFit cX1_pointKindsThatFit 4 (some .int) rmX1_pointKindsThatFit [.ref h0, .int p1] (cwX1 cI cJ cZ cB h0 a0 c0 w0 []) (cwX1 cI cJ cZ cB h0 a0 c0 w0 []) (some (.int r)) := by
  refine ct_of (cc := cX1_pointKindsThatFit) (maxL := 4) (ret := (some .int)) (by decide) (Nat.le_of_ble_eq_true rfl) ?_
  intro p e s m below meth c A S hr hlocks hK hN hZ hA H locs hW ls hl
  have S : CallFix p m c cX1_pointKindsThatFit 4 s (List.toArray [.ref h0, .int p1]) G RX1 := S
  have hl : lv_has ls 4 [(0, .ref h0), (1, .int p1)] := hl
  have h := hm
  rw [md_X1_pointKindsThatFit] at h
  have hW : wd (dC, dI) A s.heap (clX1 cI cJ cZ cB h0 a0 (c0 1) (c0 2 0) (c0 3) (c0 4 0) (c0 5) (c0 6 0) (w0 7) (c0 8 0) []) H locs := hW
  have hL4 : ∀ (n4 : Nat) (x1 : Int32) (x2 : Int32) (x3 : Int32), ld_X1_pointKindsThatFit_4 F c0 w0 n4 x1 x2 x3 = some (r) → ∀ (H : Heap) (locs : List Loc), wd (dC, dI) A s.heap (clX1 cI cJ cZ cB h0 a0 (c0 1) (c0 2 0) (c0 3) (c0 4 0) (c0 5) (c0 6 0) (w0 7) (c0 8 0) []) H locs → ∀ ls : Array Slot, lv_has ls 4 [(0, .ref h0), (1, .int x1), (2, .int x2), (3, .int x3)] → W p l e rmX1_pointKindsThatFit s m (List.toArray [.ref h0, .int p1]) below meth c H locs 0 0 (MQ below (kQ (dC, dI) (cwX1 cI cJ cZ cB h0 a0 c0 w0 []) (some (.int r)) A) (List.toArray [.ref h0, .int p1]) s 0 0 A) (F0 m 4 ls []) := by
    intro n4
    induction n4 with
    | zero => intro x1 x2 x3 h; rw [ld_X1_pointKindsThatFit_4] at h; cases h
    | succ n4 ih4 =>
      intro x1 x2 x3 h H locs hW ls hl
      rw [ld_X1_pointKindsThatFit_4] at h
      refine lv_iload_n S.1 S.2.1 dX1_pointKindsThatFit_4 rfl (lv_at hl 3 rfl) ?_
      refine lv_iconst (v := (5 : Int32)) S.1 S.2.1 dX1_pointKindsThatFit_5 ki_5 ?_
      refine lv_icmp_gt (tgt := 30) S.1 S.2.1 dX1_pointKindsThatFit_6 (by decide) (fun u1 => ?_) (fun u1 => ?_)
      · have h := of_p u1 h
        refine lv_iload_n S.1 S.2.1 dX1_pointKindsThatFit_30 rfl (lv_at hl 2 rfl) ?_
        have f2 := Option.some.inj h
        subst f2
        exact ri S hr hlocks hW dX1_pointKindsThatFit_31
      · have h := of_n u1 h
        refine lv_aload_n S.1 S.2.1 dX1_pointKindsThatFit_9 rfl (lv_at hl 0 rfl) ?_
        refine lv_iload_n S.1 S.2.1 dX1_pointKindsThatFit_10 rfl (lv_at hl 1 rfl) ?_
        refine lv_iload_n S.1 S.2.1 dX1_pointKindsThatFit_11 rfl (lv_at hl 3 rfl) ?_
        obtain ⟨r3, hy4, h⟩ := bd1_e h
        refine kv0 S hK hN hZ hA hW (rest := []) (t_X1_notesFit l dC dI cI cJ cZ cB zz h0 a0 F c0 w0 x1 x3 _  hy4) wl_X1_67 wv_X1_notesFit rfl rfl ⟨Nat.le_of_ble_eq_true rfl, Nat.le_of_ble_eq_true rfl⟩ [] [] rfl 0 rfl rfl rfl rfl hl.1 rfl (Nat.le_of_ble_eq_true rfl) dX1_pointKindsThatFit_12 [.int r3] rfl (fun H locs hW => ?_)
        obtain ⟨y5, e6, h⟩ := lt1_e h
        suffices hM7 : ∀ ls : Array Slot, lv_has ls 4 [(0, .ref h0), (1, .int x1), (2, .int y5), (3, .int x3)] → W p l e rmX1_pointKindsThatFit s m (List.toArray [.ref h0, .int p1]) below meth c H locs 0 0 (MQ below (kQ (dC, dI) (cwX1 cI cJ cZ cB h0 a0 c0 w0 []) (some (.int r)) A) (List.toArray [.ref h0, .int p1]) s 0 0 A) (F0 m 24 ls []) by
          refine lv_if_eq (tgt := 24) S.1 S.2.1 dX1_pointKindsThatFit_15 (by decide) (fun u8 => ?_) (fun u8 => ?_)
          · have e6 := e6.trans (if_pos u8)
            subst e6
            exact hM7 ls (lv_sub hl [0, 1, 2, 3] rfl)
          · refine lv_iload_n S.1 S.2.1 dX1_pointKindsThatFit_18 rfl (lv_at hl 2 rfl) ?_
            refine lv_iconst (v := (1 : Int32)) S.1 S.2.1 dX1_pointKindsThatFit_19 ki_1 ?_
            refine lv_iload_n S.1 S.2.1 dX1_pointKindsThatFit_20 rfl (lv_at hl 3 rfl) ?_
            refine lv_ishl S.1 S.2.1 dX1_pointKindsThatFit_21 ?_
            refine lv_ior S.1 S.2.1 dX1_pointKindsThatFit_22 ?_
            refine lv_istore_n (lv' := [(2, .int (x2 ||| ((1 : Int32) <<< (x3 &&& 31)))), (0, .ref h0), (1, .int x1), (3, .int x3)]) S.1 S.2.1 dX1_pointKindsThatFit_23 rfl hl (by decide) rfl (fun ls hl => ?_)
            have e6 := e6.trans (if_neg u8)
            subst e6
            exact hM7 ls (lv_sub hl [1, 2, 0, 3] rfl)
        intro ls hl
        refine lv_iinc (v := (x3 + (1 : Int32))) (lv' := [(3, .int (x3 + (1 : Int32))), (0, .ref h0), (1, .int x1), (2, .int y5)]) S.1 S.2.1 dX1_pointKindsThatFit_24 hl (k := 3) rfl (congrArg (fun z => x3 + z) ki_1) (by decide) rfl (fun ls hl => ?_)
        refine lv_goto (tgt := 4) S.1 S.2.1 dX1_pointKindsThatFit_27 (by decide) ?_
        exact ih4 _ _ _ h H locs hW ls (lv_sub hl [1, 2, 3, 0] rfl)
  refine lv_iconst (v := (0 : Int32)) S.1 S.2.1 dX1_pointKindsThatFit_0 ki_0 ?_
  refine lv_istore_n (lv' := [(2, .int (0 : Int32)), (0, .ref h0), (1, .int p1)]) S.1 S.2.1 dX1_pointKindsThatFit_1 rfl hl (by decide) rfl (fun ls hl => ?_)
  refine lv_iconst (v := (0 : Int32)) S.1 S.2.1 dX1_pointKindsThatFit_2 ki_0 ?_
  refine lv_istore_n (lv' := [(3, .int (0 : Int32)), (2, .int (0 : Int32)), (0, .ref h0), (1, .int p1)]) S.1 S.2.1 dX1_pointKindsThatFit_3 rfl hl (by decide) rfl (fun ls hl => ?_)
  exact hL4 F _ _ _ h H locs hW ls (lv_sub hl [2, 3, 1, 0] rfl)
abbrev rmX1_marksFit : Room := { frames := 2, cells := 0, slots := 0, locals := 42 }
set_option maxHeartbeats 4000000 in
set_option maxRecDepth 100000 in
theorem t_X1_marksFit (l : Launch) (dC : Nat → ClassId) (dI : Nat → Nat → Nat) (cI cJ cZ cB : ClassId) (zz : ZT)  (h0 : Nat) (a0 : Nat → Nat) (F : Nat) (c0 : Nat → Nat → Int32) (w0 : Nat → Nat → Int64) (p1 : Int32) (p2 : Int32) (r : Int32) (hm : md_X1_marksFit F c0 w0 p1 p2 = some (r)) : ct l (dC, dI) zz (ty4 cI cJ cZ cB) yX1_marksFit cX1_marksFit 5 (some .boolean) rmX1_marksFit [.ref h0, .int p1, .int p2] (cwX1 cI cJ cZ cB h0 a0 c0 w0 []) (cwX1 cI cJ cZ cB h0 a0 c0 w0 []) (some (.int r)) := by
  refine ct_of (cc := cX1_marksFit) (maxL := 5) (ret := (some .boolean)) (by decide) (Nat.le_of_ble_eq_true rfl) ?_
  intro p e s m below meth c A S hr hlocks hK hN hZ hA H locs hW ls hl
  have S : CallFix p m c cX1_marksFit 5 s (List.toArray [.ref h0, .int p1, .int p2]) G RX1 := S
  have hl : lv_has ls 5 [(0, .ref h0), (1, .int p1), (2, .int p2)] := hl
  have h := hm
  rw [md_X1_marksFit] at h
  have hW : wd (dC, dI) A s.heap (clX1 cI cJ cZ cB h0 a0 (c0 1) (c0 2 0) (c0 3) (c0 4 0) (c0 5) (c0 6 0) (w0 7) (c0 8 0) []) H locs := hW
  have hL2 : ∀ (n2 : Nat) (x1 : Int32) (x2 : Int32) (x3 : Int32), ld_X1_marksFit_2 F c0 w0 n2 x1 x2 x3 = some (r) → ∀ (H : Heap) (locs : List Loc), wd (dC, dI) A s.heap (clX1 cI cJ cZ cB h0 a0 (c0 1) (c0 2 0) (c0 3) (c0 4 0) (c0 5) (c0 6 0) (w0 7) (c0 8 0) []) H locs → ∀ ls : Array Slot, lv_has ls 5 [(0, .ref h0), (1, .int x1), (2, .int x2), (3, .int x3)] → W p l e rmX1_marksFit s m (List.toArray [.ref h0, .int p1, .int p2]) below meth c H locs 0 0 (MQ below (kQ (dC, dI) (cwX1 cI cJ cZ cB h0 a0 c0 w0 []) (some (.int r)) A) (List.toArray [.ref h0, .int p1, .int p2]) s 0 0 A) (F0 m 2 ls []) := by
    intro n2
    induction n2 with
    | zero => intro x1 x2 x3 h; rw [ld_X1_marksFit_2] at h; cases h
    | succ n2 ih2 =>
      intro x1 x2 x3 h H locs hW ls hl
      rw [ld_X1_marksFit_2] at h
      refine lv_iload_n S.1 S.2.1 dX1_marksFit_2 rfl (lv_at hl 3 rfl) ?_
      refine lv_aload_n S.1 S.2.1 dX1_marksFit_3 rfl (lv_at hl 0 rfl) ?_
      refine gf (C := RX1) (T := TX1) (N := 9) (ci := 0) (k := 6) S hK hW wu_X1 rfl (by decide) wf_X1_43 0 rfl rfl dX1_marksFit_4 ?_
      refine lv_icmp_ge (tgt := 74) S.1 S.2.1 dX1_marksFit_7 (by decide) (fun u1 => ?_) (fun u1 => ?_)
      · have h := of_p u1 h
        refine lv_iconst (v := (1 : Int32)) S.1 S.2.1 dX1_marksFit_74 ki_1 ?_
        have f2 := Option.some.inj h
        subst f2
        exact rz S hr hlocks hW (nz (Or.inr rfl)) dX1_marksFit_75
      · have h := of_n u1 h
        refine lv_iload_n S.1 S.2.1 dX1_marksFit_10 rfl (lv_at hl 3 rfl) ?_
        refine lv_bipush (v := (6 : Int32)) S.1 S.2.1 dX1_marksFit_11 kb_6 ?_
        refine lv_icmp_ge (tgt := 74) S.1 S.2.1 dX1_marksFit_13 (by decide) (fun u3 => ?_) (fun u3 => ?_)
        · have h := of_p u3 h
          refine lv_iconst (v := (1 : Int32)) S.1 S.2.1 dX1_marksFit_74 ki_1 ?_
          have f4 := Option.some.inj h
          subst f4
          exact rz S hr hlocks hW (nz (Or.inr rfl)) dX1_marksFit_75
        · have h := of_n u3 h
          refine lv_iload_n S.1 S.2.1 dX1_marksFit_16 rfl (lv_at hl 3 rfl) ?_
          refine lv_iconst (v := (4 : Int32)) S.1 S.2.1 dX1_marksFit_17 ki_4 ?_
          refine lv_imul S.1 S.2.1 dX1_marksFit_18 ?_
          refine lv_istore (lv' := [(4, .int (x3 * (4 : Int32))), (0, .ref h0), (1, .int x1), (2, .int x2), (3, .int x3)]) S.1 S.2.1 dX1_marksFit_19 hl (by decide) rfl (fun ls hl => ?_)
          refine lv_aload_n S.1 S.2.1 dX1_marksFit_21 rfl (lv_at hl 1 rfl) ?_
          refine gf (C := RX1) (T := TX1) (N := 9) (ci := 0) (k := 5) S hK hW wu_X1 rfl (by decide) wf_X1_25 0 rfl rfl dX1_marksFit_22 ?_
          refine lv_iload S.1 S.2.1 dX1_marksFit_25 (lv_at hl 0 rfl) ?_
          obtain ⟨z5, h⟩ := of_g h
          refine ia S hK hW rfl 3 rfl z5 dX1_marksFit_27 ?_
          refine lv_iload_n S.1 S.2.1 dX1_marksFit_28 rfl (lv_at hl 2 rfl) ?_
          refine lv_icmp_ne (tgt := 68) S.1 S.2.1 dX1_marksFit_29 (by decide) (fun u6 => ?_) (fun u6 => ?_)
          · have h := of_n u6 h
            refine lv_iinc (v := (x3 + (1 : Int32))) (lv' := [(3, .int (x3 + (1 : Int32))), (4, .int (x3 * (4 : Int32))), (0, .ref h0), (1, .int x1), (2, .int x2)]) S.1 S.2.1 dX1_marksFit_68 hl (k := 4) rfl (congrArg (fun z => x3 + z) ki_1) (by decide) rfl (fun ls hl => ?_)
            refine lv_goto (tgt := 2) S.1 S.2.1 dX1_marksFit_71 (by decide) ?_
            exact ih2 _ _ _ h H locs hW ls (lv_sub hl [2, 3, 4, 0] rfl)
          · have h := of_p u6 h
            refine lv_iload_n S.1 S.2.1 dX1_marksFit_32 rfl (lv_at hl 3 rfl) ?_
            refine lv_aload_n S.1 S.2.1 dX1_marksFit_33 rfl (lv_at hl 1 rfl) ?_
            refine gf (C := RX1) (T := TX1) (N := 9) (ci := 0) (k := 5) S hK hW wu_X1 rfl (by decide) wf_X1_25 0 rfl rfl dX1_marksFit_34 ?_
            refine lv_iload S.1 S.2.1 dX1_marksFit_37 (lv_at hl 0 rfl) ?_
            refine lv_iconst (v := (1 : Int32)) S.1 S.2.1 dX1_marksFit_39 ki_1 ?_
            refine lv_iadd S.1 S.2.1 dX1_marksFit_40 ?_
            obtain ⟨z7, h⟩ := of_g h
            refine ia S hK hW rfl 3 rfl z7 dX1_marksFit_41 ?_
            refine lv_aload_n S.1 S.2.1 dX1_marksFit_42 rfl (lv_at hl 1 rfl) ?_
            refine gf (C := RX1) (T := TX1) (N := 9) (ci := 0) (k := 5) S hK hW wu_X1 rfl (by decide) wf_X1_25 0 rfl rfl dX1_marksFit_43 ?_
            refine lv_iload S.1 S.2.1 dX1_marksFit_46 (lv_at hl 0 rfl) ?_
            refine lv_iconst (v := (2 : Int32)) S.1 S.2.1 dX1_marksFit_48 ki_2 ?_
            refine lv_iadd S.1 S.2.1 dX1_marksFit_49 ?_
            obtain ⟨z8, h⟩ := of_g h
            refine ia S hK hW rfl 3 rfl z8 dX1_marksFit_50 ?_
            obtain ⟨r9, hy10, h⟩ := bd1_e h
            refine ks0 S hK hN hZ hA hW (rest := []) (t_X5_counted l dC dI cI cJ cZ cB zz x2 ((c0 5) (ix ((x3 * (4 : Int32)) + (1 : Int32)))) ((c0 5) (ix ((x3 * (4 : Int32)) + (2 : Int32)))) _  hy10) wl_X1_80 wv_X5_counted rfl rfl ⟨Nat.le_of_ble_eq_true rfl, Nat.le_of_ble_eq_true rfl⟩ [] (clX1 cI cJ cZ cB h0 a0 (c0 1) (c0 2 0) (c0 3) (c0 4 0) (c0 5) (c0 6 0) (w0 7) (c0 8 0) []) rfl rfl hl.1 rfl (Nat.le_of_ble_eq_true rfl) dX1_marksFit_51 [.int r9] rfl (fun H locs hW => ?_)
            refine lv_aload_n S.1 S.2.1 dX1_marksFit_54 rfl (lv_at hl 1 rfl) ?_
            refine gf (C := RX1) (T := TX1) (N := 9) (ci := 0) (k := 5) S hK hW wu_X1 rfl (by decide) wf_X1_25 0 rfl rfl dX1_marksFit_55 ?_
            refine lv_iload S.1 S.2.1 dX1_marksFit_58 (lv_at hl 0 rfl) ?_
            refine lv_iconst (v := (3 : Int32)) S.1 S.2.1 dX1_marksFit_60 ki_3 ?_
            refine lv_iadd S.1 S.2.1 dX1_marksFit_61 ?_
            obtain ⟨z11, h⟩ := of_g h
            refine ia S hK hW rfl 3 rfl z11 dX1_marksFit_62 ?_
            refine lv_icmp_eq (tgt := 68) S.1 S.2.1 dX1_marksFit_63 (by decide) (fun u12 => ?_) (fun u12 => ?_)
            · have h := of_p u12 h
              refine lv_iinc (v := (x3 + (1 : Int32))) (lv' := [(3, .int (x3 + (1 : Int32))), (4, .int (x3 * (4 : Int32))), (0, .ref h0), (1, .int x1), (2, .int x2)]) S.1 S.2.1 dX1_marksFit_68 hl (k := 4) rfl (congrArg (fun z => x3 + z) ki_1) (by decide) rfl (fun ls hl => ?_)
              refine lv_goto (tgt := 2) S.1 S.2.1 dX1_marksFit_71 (by decide) ?_
              exact ih2 _ _ _ h H locs hW ls (lv_sub hl [2, 3, 4, 0] rfl)
            · have h := of_n u12 h
              refine lv_iconst (v := (0 : Int32)) S.1 S.2.1 dX1_marksFit_66 ki_0 ?_
              have f13 := Option.some.inj h
              subst f13
              exact rz S hr hlocks hW (nz (Or.inl rfl)) dX1_marksFit_67
  refine lv_iconst (v := (0 : Int32)) S.1 S.2.1 dX1_marksFit_0 ki_0 ?_
  refine lv_istore_n (lv' := [(3, .int (0 : Int32)), (0, .ref h0), (1, .int p1), (2, .int p2)]) S.1 S.2.1 dX1_marksFit_1 rfl hl (by decide) rfl (fun ls hl => ?_)
  exact hL2 F _ _ _ h H locs hW ls (lv_sub hl [1, 2, 3, 0] rfl)
abbrev rmX1_counselKindsThatFit : Room := { frames := 3, cells := 0, slots := 0, locals := 66 }
set_option maxHeartbeats 4000000 in
set_option maxRecDepth 100000 in
theorem t_X1_counselKindsThatFit (l : Launch) (dC : Nat → ClassId) (dI : Nat → Nat → Nat) (cI cJ cZ cB : ClassId) (zz : ZT)  (h0 : Nat) (a0 : Nat → Nat) (F : Nat) (c0 : Nat → Nat → Int32) (w0 : Nat → Nat → Int64) (p1 : Int32) (r : Int32) (hm : md_X1_counselKindsThatFit F c0 w0 p1 = some (r)) : ct l (dC, dI) zz (ty4 cI cJ cZ cB) yX1_counselKindsThatFit cX1_counselKindsThatFit 4 (some .int) rmX1_counselKindsThatFit [.ref h0, .int p1] (cwX1 cI cJ cZ cB h0 a0 c0 w0 []) (cwX1 cI cJ cZ cB h0 a0 c0 w0 []) (some (.int r)) := by
  refine ct_of (cc := cX1_counselKindsThatFit) (maxL := 4) (ret := (some .int)) (by decide) (Nat.le_of_ble_eq_true rfl) ?_
  intro p e s m below meth c A S hr hlocks hK hN hZ hA H locs hW ls hl
  have S : CallFix p m c cX1_counselKindsThatFit 4 s (List.toArray [.ref h0, .int p1]) G RX1 := S
  have hl : lv_has ls 4 [(0, .ref h0), (1, .int p1)] := hl
  have h := hm
  rw [md_X1_counselKindsThatFit] at h
  have hW : wd (dC, dI) A s.heap (clX1 cI cJ cZ cB h0 a0 (c0 1) (c0 2 0) (c0 3) (c0 4 0) (c0 5) (c0 6 0) (w0 7) (c0 8 0) []) H locs := hW
  have hL4 : ∀ (n4 : Nat) (x1 : Int32) (x2 : Int32) (x3 : Int32), ld_X1_counselKindsThatFit_4 F c0 w0 n4 x1 x2 x3 = some (r) → ∀ (H : Heap) (locs : List Loc), wd (dC, dI) A s.heap (clX1 cI cJ cZ cB h0 a0 (c0 1) (c0 2 0) (c0 3) (c0 4 0) (c0 5) (c0 6 0) (w0 7) (c0 8 0) []) H locs → ∀ ls : Array Slot, lv_has ls 4 [(0, .ref h0), (1, .int x1), (2, .int x2), (3, .int x3)] → W p l e rmX1_counselKindsThatFit s m (List.toArray [.ref h0, .int p1]) below meth c H locs 0 0 (MQ below (kQ (dC, dI) (cwX1 cI cJ cZ cB h0 a0 c0 w0 []) (some (.int r)) A) (List.toArray [.ref h0, .int p1]) s 0 0 A) (F0 m 4 ls []) := by
    intro n4
    induction n4 with
    | zero => intro x1 x2 x3 h; rw [ld_X1_counselKindsThatFit_4] at h; cases h
    | succ n4 ih4 =>
      intro x1 x2 x3 h H locs hW ls hl
      rw [ld_X1_counselKindsThatFit_4] at h
      refine lv_iload_n S.1 S.2.1 dX1_counselKindsThatFit_4 rfl (lv_at hl 3 rfl) ?_
      refine lv_iconst (v := (5 : Int32)) S.1 S.2.1 dX1_counselKindsThatFit_5 ki_5 ?_
      refine lv_icmp_gt (tgt := 30) S.1 S.2.1 dX1_counselKindsThatFit_6 (by decide) (fun u1 => ?_) (fun u1 => ?_)
      · have h := of_p u1 h
        refine lv_iload_n S.1 S.2.1 dX1_counselKindsThatFit_30 rfl (lv_at hl 2 rfl) ?_
        have f2 := Option.some.inj h
        subst f2
        exact ri S hr hlocks hW dX1_counselKindsThatFit_31
      · have h := of_n u1 h
        refine lv_aload_n S.1 S.2.1 dX1_counselKindsThatFit_9 rfl (lv_at hl 0 rfl) ?_
        refine lv_iload_n S.1 S.2.1 dX1_counselKindsThatFit_10 rfl (lv_at hl 1 rfl) ?_
        refine lv_iload_n S.1 S.2.1 dX1_counselKindsThatFit_11 rfl (lv_at hl 3 rfl) ?_
        obtain ⟨r3, hy4, h⟩ := bd1_e h
        refine kv0 S hK hN hZ hA hW (rest := []) (t_X1_marksFit l dC dI cI cJ cZ cB zz h0 a0 F c0 w0 x1 x3 _  hy4) wl_X1_77 wv_X1_marksFit rfl rfl ⟨Nat.le_of_ble_eq_true rfl, Nat.le_of_ble_eq_true rfl⟩ [] [] rfl 0 rfl rfl rfl rfl hl.1 rfl (Nat.le_of_ble_eq_true rfl) dX1_counselKindsThatFit_12 [.int r3] rfl (fun H locs hW => ?_)
        obtain ⟨y5, e6, h⟩ := lt1_e h
        suffices hM7 : ∀ ls : Array Slot, lv_has ls 4 [(0, .ref h0), (1, .int x1), (2, .int y5), (3, .int x3)] → W p l e rmX1_counselKindsThatFit s m (List.toArray [.ref h0, .int p1]) below meth c H locs 0 0 (MQ below (kQ (dC, dI) (cwX1 cI cJ cZ cB h0 a0 c0 w0 []) (some (.int r)) A) (List.toArray [.ref h0, .int p1]) s 0 0 A) (F0 m 24 ls []) by
          refine lv_if_eq (tgt := 24) S.1 S.2.1 dX1_counselKindsThatFit_15 (by decide) (fun u8 => ?_) (fun u8 => ?_)
          · have e6 := e6.trans (if_pos u8)
            subst e6
            exact hM7 ls (lv_sub hl [0, 1, 2, 3] rfl)
          · refine lv_iload_n S.1 S.2.1 dX1_counselKindsThatFit_18 rfl (lv_at hl 2 rfl) ?_
            refine lv_iconst (v := (1 : Int32)) S.1 S.2.1 dX1_counselKindsThatFit_19 ki_1 ?_
            refine lv_iload_n S.1 S.2.1 dX1_counselKindsThatFit_20 rfl (lv_at hl 3 rfl) ?_
            refine lv_ishl S.1 S.2.1 dX1_counselKindsThatFit_21 ?_
            refine lv_ior S.1 S.2.1 dX1_counselKindsThatFit_22 ?_
            refine lv_istore_n (lv' := [(2, .int (x2 ||| ((1 : Int32) <<< (x3 &&& 31)))), (0, .ref h0), (1, .int x1), (3, .int x3)]) S.1 S.2.1 dX1_counselKindsThatFit_23 rfl hl (by decide) rfl (fun ls hl => ?_)
            have e6 := e6.trans (if_neg u8)
            subst e6
            exact hM7 ls (lv_sub hl [1, 2, 0, 3] rfl)
        intro ls hl
        refine lv_iinc (v := (x3 + (1 : Int32))) (lv' := [(3, .int (x3 + (1 : Int32))), (0, .ref h0), (1, .int x1), (2, .int y5)]) S.1 S.2.1 dX1_counselKindsThatFit_24 hl (k := 3) rfl (congrArg (fun z => x3 + z) ki_1) (by decide) rfl (fun ls hl => ?_)
        refine lv_goto (tgt := 4) S.1 S.2.1 dX1_counselKindsThatFit_27 (by decide) ?_
        exact ih4 _ _ _ h H locs hW ls (lv_sub hl [1, 2, 3, 0] rfl)
  refine lv_iconst (v := (0 : Int32)) S.1 S.2.1 dX1_counselKindsThatFit_0 ki_0 ?_
  refine lv_istore_n (lv' := [(2, .int (0 : Int32)), (0, .ref h0), (1, .int p1)]) S.1 S.2.1 dX1_counselKindsThatFit_1 rfl hl (by decide) rfl (fun ls hl => ?_)
  refine lv_iconst (v := (0 : Int32)) S.1 S.2.1 dX1_counselKindsThatFit_2 ki_0 ?_
  refine lv_istore_n (lv' := [(3, .int (0 : Int32)), (2, .int (0 : Int32)), (0, .ref h0), (1, .int p1)]) S.1 S.2.1 dX1_counselKindsThatFit_3 rfl hl (by decide) rfl (fun ls hl => ?_)
  exact hL4 F _ _ _ h H locs hW ls (lv_sub hl [2, 3, 1, 0] rfl)
abbrev rmX1_digestOn : Room := { frames := 0, cells := 0, slots := 0, locals := 0 }
set_option maxHeartbeats 4000000 in
set_option maxRecDepth 100000 in
theorem t_X1_digestOn (l : Launch) (dC : Nat → ClassId) (dI : Nat → Nat → Nat) (cI cJ cZ cB : ClassId) (zz : ZT)  (h0 : Nat) (a0 : Nat → Nat) (F : Nat) (c0 : Nat → Nat → Int32) (w0 : Nat → Nat → Int64) (p1 : Int64) (r : Int64) (hm : md_X1_digestOn F c0 w0 p1 = some (r)) : ct l (dC, dI) zz (ty4 cI cJ cZ cB) yX1_digestOn cX1_digestOn 6 (some .long) rmX1_digestOn [.ref h0, .long p1] (cwX1 cI cJ cZ cB h0 a0 c0 w0 []) (cwX1 cI cJ cZ cB h0 a0 c0 w0 []) (some (.long r)) := by
  refine ct_of (cc := cX1_digestOn) (maxL := 6) (ret := (some .long)) (by decide) (Nat.le_of_ble_eq_true rfl) ?_
  intro p e s m below meth c A S hr hlocks hK hN hZ hA H locs hW ls hl
  have S : CallFix p m c cX1_digestOn 6 s (List.toArray [.ref h0, .long p1]) G RX1 := S
  have hl : lv_has ls 6 [(0, .ref h0), (1, .long p1)] := hl
  have h := hm
  rw [md_X1_digestOn] at h
  have hW : wd (dC, dI) A s.heap (clX1 cI cJ cZ cB h0 a0 (c0 1) (c0 2 0) (c0 3) (c0 4 0) (c0 5) (c0 6 0) (w0 7) (c0 8 0) []) H locs := hW
  have hL86 : ∀ (n86 : Nat) (x3 : Int64) (x5 : Int32), ld_X1_digestOn_86 F c0 w0 n86 x3 x5 = some (r) → ∀ (H : Heap) (locs : List Loc), wd (dC, dI) A s.heap (clX1 cI cJ cZ cB h0 a0 (c0 1) (c0 2 0) (c0 3) (c0 4 0) (c0 5) (c0 6 0) (w0 7) (c0 8 0) []) H locs → ∀ ls : Array Slot, lv_has ls 6 [(0, .ref h0), (3, .long x3), (5, .int x5)] → W p l e rmX1_digestOn s m (List.toArray [.ref h0, .long p1]) below meth c H locs 0 0 (MQ below (kQ (dC, dI) (cwX1 cI cJ cZ cB h0 a0 c0 w0 []) (some (.long r)) A) (List.toArray [.ref h0, .long p1]) s 0 0 A) (F0 m 86 ls []) := by
    intro n86
    induction n86 with
    | zero => intro x3 x5 h; rw [ld_X1_digestOn_86] at h; cases h
    | succ n86 ih86 =>
      intro x3 x5 h H locs hW ls hl
      rw [ld_X1_digestOn_86] at h
      refine lv_iload S.1 S.2.1 dX1_digestOn_86 (lv_at hl 2 rfl) ?_
      refine lv_aload_n S.1 S.2.1 dX1_digestOn_88 rfl (lv_at hl 0 rfl) ?_
      refine gf (C := RX1) (T := TX1) (N := 9) (ci := 0) (k := 6) S hK hW wu_X1 rfl (by decide) wf_X1_43 0 rfl rfl dX1_digestOn_89 ?_
      refine lv_iconst (v := (4 : Int32)) S.1 S.2.1 dX1_digestOn_92 ki_4 ?_
      refine lv_imul S.1 S.2.1 dX1_digestOn_93 ?_
      refine lv_icmp_ge (tgt := 125) S.1 S.2.1 dX1_digestOn_94 (by decide) (fun u1 => ?_) (fun u1 => ?_)
      · have h := of_p u1 h
        refine lv_lload_n S.1 S.2.1 dX1_digestOn_125 rfl (lv_at hl 1 rfl) ?_
        have f2 := Option.some.inj h
        subst f2
        exact rl S hr hlocks hW dX1_digestOn_126
      · have h := of_n u1 h
        refine lv_iload S.1 S.2.1 dX1_digestOn_97 (lv_at hl 2 rfl) ?_
        refine lv_bipush (v := (24 : Int32)) S.1 S.2.1 dX1_digestOn_99 kb_24 ?_
        refine lv_icmp_ge (tgt := 125) S.1 S.2.1 dX1_digestOn_101 (by decide) (fun u3 => ?_) (fun u3 => ?_)
        · have h := of_p u3 h
          refine lv_lload_n S.1 S.2.1 dX1_digestOn_125 rfl (lv_at hl 1 rfl) ?_
          have f4 := Option.some.inj h
          subst f4
          exact rl S hr hlocks hW dX1_digestOn_126
        · have h := of_n u3 h
          refine lv_ldc2 (v := (31 : Int64)) S.1 S.2.1 S.2.2.2.1 (S.2.2.2.2 _ wk_X1_84) dX1_digestOn_104 ?_
          refine lv_lload_n S.1 S.2.1 dX1_digestOn_107 rfl (lv_at hl 1 rfl) ?_
          refine lv_lmul S.1 S.2.1 dX1_digestOn_108 ?_
          refine lv_aload_n S.1 S.2.1 dX1_digestOn_109 rfl (lv_at hl 0 rfl) ?_
          refine gf (C := RX1) (T := TX1) (N := 9) (ci := 0) (k := 5) S hK hW wu_X1 rfl (by decide) wf_X1_25 0 rfl rfl dX1_digestOn_110 ?_
          refine lv_iload S.1 S.2.1 dX1_digestOn_113 (lv_at hl 2 rfl) ?_
          obtain ⟨z5, h⟩ := of_g h
          refine ia S hK hW rfl 3 rfl z5 dX1_digestOn_115 ?_
          refine lv_i2l S.1 S.2.1 dX1_digestOn_116 rfl ?_
          refine lv_ladd S.1 S.2.1 dX1_digestOn_117 ?_
          obtain ⟨y6, e7, h⟩ := lt1_e h
          refine nml e7 ?_
          refine lv_lstore_n (lv' := [(3, .long y6), (0, .ref h0), (5, .int x5)]) S.1 S.2.1 dX1_digestOn_118 rfl hl (by decide) rfl (fun ls hl => ?_)
          refine lv_iinc (v := (x5 + (1 : Int32))) (lv' := [(5, .int (x5 + (1 : Int32))), (3, .long y6), (0, .ref h0)]) S.1 S.2.1 dX1_digestOn_119 hl (k := 2) rfl (congrArg (fun z => x5 + z) ki_1) (by decide) rfl (fun ls hl => ?_)
          refine lv_goto (tgt := 86) S.1 S.2.1 dX1_digestOn_122 (by decide) ?_
          exact ih86 _ _ h H locs hW ls (lv_sub hl [2, 1, 0] rfl)
  have hL44 : ∀ (n44 : Nat) (x3 : Int64) (x5 : Int32), ld_X1_digestOn_44 F c0 w0 n44 x3 x5 = some (r) → ∀ (H : Heap) (locs : List Loc), wd (dC, dI) A s.heap (clX1 cI cJ cZ cB h0 a0 (c0 1) (c0 2 0) (c0 3) (c0 4 0) (c0 5) (c0 6 0) (w0 7) (c0 8 0) []) H locs → ∀ ls : Array Slot, lv_has ls 6 [(0, .ref h0), (3, .long x3), (5, .int x5)] → W p l e rmX1_digestOn s m (List.toArray [.ref h0, .long p1]) below meth c H locs 0 0 (MQ below (kQ (dC, dI) (cwX1 cI cJ cZ cB h0 a0 c0 w0 []) (some (.long r)) A) (List.toArray [.ref h0, .long p1]) s 0 0 A) (F0 m 44 ls []) := by
    intro n44
    induction n44 with
    | zero => intro x3 x5 h; rw [ld_X1_digestOn_44] at h; cases h
    | succ n44 ih44 =>
      intro x3 x5 h H locs hW ls hl
      rw [ld_X1_digestOn_44] at h
      refine lv_iload S.1 S.2.1 dX1_digestOn_44 (lv_at hl 2 rfl) ?_
      refine lv_aload_n S.1 S.2.1 dX1_digestOn_46 rfl (lv_at hl 0 rfl) ?_
      refine gf (C := RX1) (T := TX1) (N := 9) (ci := 0) (k := 4) S hK hW wu_X1 rfl (by decide) wf_X1_40 0 rfl rfl dX1_digestOn_47 ?_
      refine lv_iconst (v := (5 : Int32)) S.1 S.2.1 dX1_digestOn_50 ki_5 ?_
      refine lv_imul S.1 S.2.1 dX1_digestOn_51 ?_
      refine lv_icmp_ge (tgt := 83) S.1 S.2.1 dX1_digestOn_52 (by decide) (fun u8 => ?_) (fun u8 => ?_)
      · have h := of_p u8 h
        refine lv_iconst (v := (0 : Int32)) S.1 S.2.1 dX1_digestOn_83 ki_0 ?_
        refine lv_istore (lv' := [(5, .int (0 : Int32)), (0, .ref h0), (3, .long x3)]) S.1 S.2.1 dX1_digestOn_84 hl (by decide) rfl (fun ls hl => ?_)
        exact hL86 F _ _ h H locs hW ls (lv_sub hl [1, 2, 0] rfl)
      · have h := of_n u8 h
        refine lv_iload S.1 S.2.1 dX1_digestOn_55 (lv_at hl 2 rfl) ?_
        refine lv_bipush (v := (30 : Int32)) S.1 S.2.1 dX1_digestOn_57 kb_30 ?_
        refine lv_icmp_ge (tgt := 83) S.1 S.2.1 dX1_digestOn_59 (by decide) (fun u9 => ?_) (fun u9 => ?_)
        · have h := of_p u9 h
          refine lv_iconst (v := (0 : Int32)) S.1 S.2.1 dX1_digestOn_83 ki_0 ?_
          refine lv_istore (lv' := [(5, .int (0 : Int32)), (0, .ref h0), (3, .long x3)]) S.1 S.2.1 dX1_digestOn_84 hl (by decide) rfl (fun ls hl => ?_)
          exact hL86 F _ _ h H locs hW ls (lv_sub hl [1, 2, 0] rfl)
        · have h := of_n u9 h
          refine lv_ldc2 (v := (31 : Int64)) S.1 S.2.1 S.2.2.2.1 (S.2.2.2.2 _ wk_X1_84) dX1_digestOn_62 ?_
          refine lv_lload_n S.1 S.2.1 dX1_digestOn_65 rfl (lv_at hl 1 rfl) ?_
          refine lv_lmul S.1 S.2.1 dX1_digestOn_66 ?_
          refine lv_aload_n S.1 S.2.1 dX1_digestOn_67 rfl (lv_at hl 0 rfl) ?_
          refine gf (C := RX1) (T := TX1) (N := 9) (ci := 0) (k := 3) S hK hW wu_X1 rfl (by decide) wf_X1_22 0 rfl rfl dX1_digestOn_68 ?_
          refine lv_iload S.1 S.2.1 dX1_digestOn_71 (lv_at hl 2 rfl) ?_
          obtain ⟨z10, h⟩ := of_g h
          refine ia S hK hW rfl 2 rfl z10 dX1_digestOn_73 ?_
          refine lv_i2l S.1 S.2.1 dX1_digestOn_74 rfl ?_
          refine lv_ladd S.1 S.2.1 dX1_digestOn_75 ?_
          obtain ⟨y11, e12, h⟩ := lt1_e h
          refine nml e12 ?_
          refine lv_lstore_n (lv' := [(3, .long y11), (0, .ref h0), (5, .int x5)]) S.1 S.2.1 dX1_digestOn_76 rfl hl (by decide) rfl (fun ls hl => ?_)
          refine lv_iinc (v := (x5 + (1 : Int32))) (lv' := [(5, .int (x5 + (1 : Int32))), (3, .long y11), (0, .ref h0)]) S.1 S.2.1 dX1_digestOn_77 hl (k := 2) rfl (congrArg (fun z => x5 + z) ki_1) (by decide) rfl (fun ls hl => ?_)
          refine lv_goto (tgt := 44) S.1 S.2.1 dX1_digestOn_80 (by decide) ?_
          exact ih44 _ _ h H locs hW ls (lv_sub hl [2, 1, 0] rfl)
  have hL5 : ∀ (n5 : Nat) (x3 : Int64) (x5 : Int32), ld_X1_digestOn_5 F c0 w0 n5 x3 x5 = some (r) → ∀ (H : Heap) (locs : List Loc), wd (dC, dI) A s.heap (clX1 cI cJ cZ cB h0 a0 (c0 1) (c0 2 0) (c0 3) (c0 4 0) (c0 5) (c0 6 0) (w0 7) (c0 8 0) []) H locs → ∀ ls : Array Slot, lv_has ls 6 [(0, .ref h0), (3, .long x3), (5, .int x5)] → W p l e rmX1_digestOn s m (List.toArray [.ref h0, .long p1]) below meth c H locs 0 0 (MQ below (kQ (dC, dI) (cwX1 cI cJ cZ cB h0 a0 c0 w0 []) (some (.long r)) A) (List.toArray [.ref h0, .long p1]) s 0 0 A) (F0 m 5 ls []) := by
    intro n5
    induction n5 with
    | zero => intro x3 x5 h; rw [ld_X1_digestOn_5] at h; cases h
    | succ n5 ih5 =>
      intro x3 x5 h H locs hW ls hl
      rw [ld_X1_digestOn_5] at h
      refine lv_iload S.1 S.2.1 dX1_digestOn_5 (lv_at hl 2 rfl) ?_
      refine lv_aload_n S.1 S.2.1 dX1_digestOn_7 rfl (lv_at hl 0 rfl) ?_
      refine gf (C := RX1) (T := TX1) (N := 9) (ci := 0) (k := 2) S hK hW wu_X1 rfl (by decide) wf_X1_36 0 rfl rfl dX1_digestOn_8 ?_
      refine lv_icmp_ge (tgt := 41) S.1 S.2.1 dX1_digestOn_11 (by decide) (fun u13 => ?_) (fun u13 => ?_)
      · have h := of_p u13 h
        refine lv_iconst (v := (0 : Int32)) S.1 S.2.1 dX1_digestOn_41 ki_0 ?_
        refine lv_istore (lv' := [(5, .int (0 : Int32)), (0, .ref h0), (3, .long x3)]) S.1 S.2.1 dX1_digestOn_42 hl (by decide) rfl (fun ls hl => ?_)
        exact hL44 F _ _ h H locs hW ls (lv_sub hl [1, 2, 0] rfl)
      · have h := of_n u13 h
        refine lv_iload S.1 S.2.1 dX1_digestOn_14 (lv_at hl 2 rfl) ?_
        refine lv_iconst (v := (4 : Int32)) S.1 S.2.1 dX1_digestOn_16 ki_4 ?_
        refine lv_icmp_ge (tgt := 41) S.1 S.2.1 dX1_digestOn_17 (by decide) (fun u14 => ?_) (fun u14 => ?_)
        · have h := of_p u14 h
          refine lv_iconst (v := (0 : Int32)) S.1 S.2.1 dX1_digestOn_41 ki_0 ?_
          refine lv_istore (lv' := [(5, .int (0 : Int32)), (0, .ref h0), (3, .long x3)]) S.1 S.2.1 dX1_digestOn_42 hl (by decide) rfl (fun ls hl => ?_)
          exact hL44 F _ _ h H locs hW ls (lv_sub hl [1, 2, 0] rfl)
        · have h := of_n u14 h
          refine lv_ldc2 (v := (31 : Int64)) S.1 S.2.1 S.2.2.2.1 (S.2.2.2.2 _ wk_X1_84) dX1_digestOn_20 ?_
          refine lv_lload_n S.1 S.2.1 dX1_digestOn_23 rfl (lv_at hl 1 rfl) ?_
          refine lv_lmul S.1 S.2.1 dX1_digestOn_24 ?_
          refine lv_aload_n S.1 S.2.1 dX1_digestOn_25 rfl (lv_at hl 0 rfl) ?_
          refine gf (C := RX1) (T := TX1) (N := 9) (ci := 0) (k := 1) S hK hW wu_X1 rfl (by decide) wf_X1_18 0 rfl rfl dX1_digestOn_26 ?_
          refine lv_iload S.1 S.2.1 dX1_digestOn_29 (lv_at hl 2 rfl) ?_
          obtain ⟨z15, h⟩ := of_g h
          refine ia S hK hW rfl 1 rfl z15 dX1_digestOn_31 ?_
          refine lv_i2l S.1 S.2.1 dX1_digestOn_32 rfl ?_
          refine lv_ladd S.1 S.2.1 dX1_digestOn_33 ?_
          obtain ⟨y16, e17, h⟩ := lt1_e h
          refine nml e17 ?_
          refine lv_lstore_n (lv' := [(3, .long y16), (0, .ref h0), (5, .int x5)]) S.1 S.2.1 dX1_digestOn_34 rfl hl (by decide) rfl (fun ls hl => ?_)
          refine lv_iinc (v := (x5 + (1 : Int32))) (lv' := [(5, .int (x5 + (1 : Int32))), (3, .long y16), (0, .ref h0)]) S.1 S.2.1 dX1_digestOn_35 hl (k := 2) rfl (congrArg (fun z => x5 + z) ki_1) (by decide) rfl (fun ls hl => ?_)
          refine lv_goto (tgt := 5) S.1 S.2.1 dX1_digestOn_38 (by decide) ?_
          exact ih5 _ _ h H locs hW ls (lv_sub hl [2, 1, 0] rfl)
  refine lv_lload_n S.1 S.2.1 dX1_digestOn_0 rfl (lv_at hl 1 rfl) ?_
  refine lv_lstore_n (lv' := [(3, .long p1), (0, .ref h0), (1, .long p1)]) S.1 S.2.1 dX1_digestOn_1 rfl hl (by decide) rfl (fun ls hl => ?_)
  refine lv_iconst (v := (0 : Int32)) S.1 S.2.1 dX1_digestOn_2 ki_0 ?_
  refine lv_istore (lv' := [(5, .int (0 : Int32)), (3, .long p1), (0, .ref h0), (1, .long p1)]) S.1 S.2.1 dX1_digestOn_3 hl (by decide) rfl (fun ls hl => ?_)
  exact hL5 F _ _ h H locs hW ls (lv_sub hl [2, 1, 0] rfl)
