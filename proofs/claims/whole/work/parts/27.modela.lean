abbrev rmX9_in : Room := { frames := 0, cells := 0, slots := 0, locals := 0 }
set_option maxHeartbeats 4000000 in
set_option maxRecDepth 100000 in
theorem t_X9_in (l : Launch) (dC : Nat → ClassId) (dI : Nat → Nat → Nat) (cI cJ cZ cB : ClassId) (zz : ZT)   (p0 : Int64) (p2 : Int64) (p4 : Int64) (r : Int32) (hm : md_X9_in p0 p2 p4 = some (r)) : ct l (dC, dI) zz (ty4 cI cJ cZ cB) yX9_in cX9_in 6 (some .boolean) rmX9_in [.long p0, .long p2, .long p4] [] [] (some (.int r)) := by
  refine ct_of (cc := cX9_in) (maxL := 6) (ret := (some .boolean)) (by decide) (Nat.le_of_ble_eq_true rfl) ?_
  intro p e s m below meth c A S hr hlocks hK hN hZ hA H locs hW ls hl
  have S : CallFix p m c cX9_in 6 s (List.toArray [.long p0, .long p2, .long p4]) G RX9 := S
  have hl : lv_has ls 6 [(0, .long p0), (2, .long p2), (4, .long p4)] := hl
  have h := hm
  rw [md_X9_in] at h
  have hW : wd (dC, dI) A s.heap [] H locs := hW
  refine lv_lload_n S.1 S.2.1 dX9_in_0 rfl (lv_at hl 0 rfl) ?_
  refine lv_lload_n S.1 S.2.1 dX9_in_1 rfl (lv_at hl 1 rfl) ?_
  refine W.lcmp S.1 S.2.1 dX9_in_2 ?_
  obtain ⟨y1, e2, h⟩ := lt1_e h
  suffices hM3 : ∀ ls : Array Slot, lv_has ls 6 [] → W p l e rmX9_in s m (List.toArray [.long p0, .long p2, .long p4]) below meth c H locs 0 0 (MQ below (kQ (dC, dI) [] (some (.int r)) A) (List.toArray [.long p0, .long p2, .long p4]) s 0 0 A) (F0 m 18 ls [.int y1]) by
    refine lv_if_lt (tgt := 17) S.1 S.2.1 dX9_in_3 (by decide) (fun u4 => ?_) (fun u4 => ?_)
    · refine lv_iconst (v := (0 : Int32)) S.1 S.2.1 dX9_in_17 ki_0 ?_
      have e2 := e2.trans (if_pos u4)
      subst e2
      exact hM3 ls (lv_sub hl [] rfl)
    · refine lv_lload_n S.1 S.2.1 dX9_in_6 rfl (lv_at hl 0 rfl) ?_
      refine lv_lload S.1 S.2.1 dX9_in_7 (lv_at hl 2 rfl) ?_
      refine W.lcmp S.1 S.2.1 dX9_in_9 ?_
      refine lv_if_gt (tgt := 17) S.1 S.2.1 dX9_in_10 (by decide) (fun u5 => ?_) (fun u5 => ?_)
      · refine lv_iconst (v := (0 : Int32)) S.1 S.2.1 dX9_in_17 ki_0 ?_
        have e2 := e2.trans ((if_neg u4).trans (if_pos u5))
        subst e2
        exact hM3 ls (lv_sub hl [] rfl)
      · refine lv_iconst (v := (1 : Int32)) S.1 S.2.1 dX9_in_13 ki_1 ?_
        refine lv_goto (tgt := 18) S.1 S.2.1 dX9_in_14 (by decide) ?_
        have e2 := e2.trans ((if_neg u4).trans (if_neg u5))
        subst e2
        exact hM3 ls (lv_sub hl [] rfl)
  intro ls hl
  obtain ⟨z6, h⟩ := of_g h
  have f7 := Option.some.inj h
  subst f7
  exact rz S hr hlocks hW (nz z6) dX9_in_18
abbrev rmX9_bad : Room := { frames := 0, cells := 0, slots := 0, locals := 0 }
set_option maxHeartbeats 4000000 in
set_option maxRecDepth 100000 in
theorem t_X9_bad (l : Launch) (dC : Nat → ClassId) (dI : Nat → Nat → Nat) (cI cJ cZ cB : ClassId) (zz : ZT)  (h0 : Nat) (a0 : Nat → Nat) (c0 : Nat → Nat → Int32) (w0 : Nat → Nat → Int64) (p1 : Int32) (r : Int32) (c0' : Nat → Nat → Int32) (hm : md_X9_bad c0 w0 p1 = some (r, c0')) : ct l (dC, dI) zz (ty4 cI cJ cZ cB) yX9_bad cX9_bad 2 (some .int) rmX9_bad [.ref h0, .int p1] (cwX9 cI cJ cZ cB h0 a0 c0 w0 []) (cwX9 cI cJ cZ cB h0 a0 c0' w0 []) (some (.int r)) := by
  refine ct_of (cc := cX9_bad) (maxL := 2) (ret := (some .int)) (by decide) (Nat.le_of_ble_eq_true rfl) ?_
  intro p e s m below meth c A S hr hlocks hK hN hZ hA H locs hW ls hl
  have S : CallFix p m c cX9_bad 2 s (List.toArray [.ref h0, .int p1]) G RX9 := S
  have hl : lv_has ls 2 [(0, .ref h0), (1, .int p1)] := hl
  have h := hm
  rw [md_X9_bad] at h
  have hW : wd (dC, dI) A s.heap (clX9 cI cJ cZ cB h0 a0 (c0 0) (c0 1) (c0 2) (c0 3) (w0 4 0) (w0 5 0) (c0 6) (c0 7) (c0 8) (c0 9) (c0 10) (c0 11) (c0 12) (c0 13) (c0 14 0) (c0 15 0) (c0 16 0) (c0 17 0) (c0 18) (c0 19) (c0 20) (c0 21 0) (c0 22 0) (c0 23 0) (c0 24 0) (c0 25 0) (c0 26) (c0 27) []) H locs := hW
  refine lv_aload_n S.1 S.2.1 dX9_bad_0 rfl (lv_at hl 0 rfl) ?_
  refine gf (C := RX9) (T := TX9) (N := 28) (ci := 5) (k := 3) S hK hW wu_X9 rfl (by decide) wf_X9_20 0 rfl rfl dX9_bad_1 ?_
  refine lv_iconst (v := (0 : Int32)) S.1 S.2.1 dX9_bad_4 ki_0 ?_
  refine lv_dup2_11 S.1 S.2.1 dX9_bad_5 rfl rfl ?_
  refine iaK S hK hW rfl 4 rfl b_0_3 x_0 dX9_bad_6 ?_
  refine lv_iconst (v := (1 : Int32)) S.1 S.2.1 dX9_bad_7 ki_1 ?_
  refine lv_iadd S.1 S.2.1 dX9_bad_8 ?_
  refine istK S hK hW rfl 4 rfl b_0_3 x_0 dX9_bad_9 (fun H locs hW => ?_)
  have hW : wd (dC, dI) A s.heap (clX9 cI cJ cZ cB h0 a0 (c0 0) (c0 1) (c0 2) (upd (c0 3) 0 (((c0 3) 0) + (1 : Int32))) (w0 4 0) (w0 5 0) (c0 6) (c0 7) (c0 8) (c0 9) (c0 10) (c0 11) (c0 12) (c0 13) (c0 14 0) (c0 15 0) (c0 16 0) (c0 17 0) (c0 18) (c0 19) (c0 20) (c0 21 0) (c0 22 0) (c0 23 0) (c0 24 0) (c0 25 0) (c0 26) (c0 27) []) H locs := hW
  refine lv_iload_n S.1 S.2.1 dX9_bad_10 rfl (lv_at hl 1 rfl) ?_
  have f1 := Option.some.inj h
  obtain ⟨f2, f3⟩ := Prod.mk.inj f1
  subst f2
  subst f3
  exact ri S hr hlocks hW dX9_bad_11
abbrev rmX9_no : Room := { frames := 0, cells := 0, slots := 0, locals := 0 }
set_option maxHeartbeats 4000000 in
set_option maxRecDepth 100000 in
theorem t_X9_no (l : Launch) (dC : Nat → ClassId) (dI : Nat → Nat → Nat) (cI cJ cZ cB : ClassId) (zz : ZT)  (h0 : Nat) (a0 : Nat → Nat) (c0 : Nat → Nat → Int32) (w0 : Nat → Nat → Int64) (p1 : Int32) (r : Int32) (c0' : Nat → Nat → Int32) (hm : md_X9_no c0 w0 p1 = some (r, c0')) : ct l (dC, dI) zz (ty4 cI cJ cZ cB) yX9_no cX9_no 2 (some .int) rmX9_no [.ref h0, .int p1] (cwX9 cI cJ cZ cB h0 a0 c0 w0 []) (cwX9 cI cJ cZ cB h0 a0 c0' w0 []) (some (.int r)) := by
  refine ct_of (cc := cX9_no) (maxL := 2) (ret := (some .int)) (by decide) (Nat.le_of_ble_eq_true rfl) ?_
  intro p e s m below meth c A S hr hlocks hK hN hZ hA H locs hW ls hl
  have S : CallFix p m c cX9_no 2 s (List.toArray [.ref h0, .int p1]) G RX9 := S
  have hl : lv_has ls 2 [(0, .ref h0), (1, .int p1)] := hl
  have h := hm
  rw [md_X9_no] at h
  have hW : wd (dC, dI) A s.heap (clX9 cI cJ cZ cB h0 a0 (c0 0) (c0 1) (c0 2) (c0 3) (w0 4 0) (w0 5 0) (c0 6) (c0 7) (c0 8) (c0 9) (c0 10) (c0 11) (c0 12) (c0 13) (c0 14 0) (c0 15 0) (c0 16 0) (c0 17 0) (c0 18) (c0 19) (c0 20) (c0 21 0) (c0 22 0) (c0 23 0) (c0 24 0) (c0 25 0) (c0 26) (c0 27) []) H locs := hW
  refine lv_aload_n S.1 S.2.1 dX9_no_0 rfl (lv_at hl 0 rfl) ?_
  refine gf (C := RX9) (T := TX9) (N := 28) (ci := 5) (k := 3) S hK hW wu_X9 rfl (by decide) wf_X9_20 0 rfl rfl dX9_no_1 ?_
  refine lv_iconst (v := (1 : Int32)) S.1 S.2.1 dX9_no_4 ki_1 ?_
  refine lv_dup2_11 S.1 S.2.1 dX9_no_5 rfl rfl ?_
  refine iaK S hK hW rfl 4 rfl b_1_3 x_1 dX9_no_6 ?_
  refine lv_iconst (v := (1 : Int32)) S.1 S.2.1 dX9_no_7 ki_1 ?_
  refine lv_iadd S.1 S.2.1 dX9_no_8 ?_
  refine istK S hK hW rfl 4 rfl b_1_3 x_1 dX9_no_9 (fun H locs hW => ?_)
  have hW : wd (dC, dI) A s.heap (clX9 cI cJ cZ cB h0 a0 (c0 0) (c0 1) (c0 2) (upd (c0 3) 1 (((c0 3) 1) + (1 : Int32))) (w0 4 0) (w0 5 0) (c0 6) (c0 7) (c0 8) (c0 9) (c0 10) (c0 11) (c0 12) (c0 13) (c0 14 0) (c0 15 0) (c0 16 0) (c0 17 0) (c0 18) (c0 19) (c0 20) (c0 21 0) (c0 22 0) (c0 23 0) (c0 24 0) (c0 25 0) (c0 26) (c0 27) []) H locs := hW
  refine lv_iload_n S.1 S.2.1 dX9_no_10 rfl (lv_at hl 1 rfl) ?_
  have f1 := Option.some.inj h
  obtain ⟨f2, f3⟩ := Prod.mk.inj f1
  subst f2
  subst f3
  exact ri S hr hlocks hW dX9_no_11
abbrev rmX9_full : Room := { frames := 0, cells := 0, slots := 0, locals := 0 }
set_option maxHeartbeats 4000000 in
set_option maxRecDepth 100000 in
theorem t_X9_full (l : Launch) (dC : Nat → ClassId) (dI : Nat → Nat → Nat) (cI cJ cZ cB : ClassId) (zz : ZT)  (h0 : Nat) (a0 : Nat → Nat) (c0 : Nat → Nat → Int32) (w0 : Nat → Nat → Int64) (r : Int32) (c0' : Nat → Nat → Int32) (hm : md_X9_full c0 w0 = some (r, c0')) : ct l (dC, dI) zz (ty4 cI cJ cZ cB) yX9_full cX9_full 1 (some .int) rmX9_full [.ref h0] (cwX9 cI cJ cZ cB h0 a0 c0 w0 []) (cwX9 cI cJ cZ cB h0 a0 c0' w0 []) (some (.int r)) := by
  refine ct_of (cc := cX9_full) (maxL := 1) (ret := (some .int)) (by decide) (Nat.le_of_ble_eq_true rfl) ?_
  intro p e s m below meth c A S hr hlocks hK hN hZ hA H locs hW ls hl
  have S : CallFix p m c cX9_full 1 s (List.toArray [.ref h0]) G RX9 := S
  have hl : lv_has ls 1 [(0, .ref h0)] := hl
  have h := hm
  rw [md_X9_full] at h
  have hW : wd (dC, dI) A s.heap (clX9 cI cJ cZ cB h0 a0 (c0 0) (c0 1) (c0 2) (c0 3) (w0 4 0) (w0 5 0) (c0 6) (c0 7) (c0 8) (c0 9) (c0 10) (c0 11) (c0 12) (c0 13) (c0 14 0) (c0 15 0) (c0 16 0) (c0 17 0) (c0 18) (c0 19) (c0 20) (c0 21 0) (c0 22 0) (c0 23 0) (c0 24 0) (c0 25 0) (c0 26) (c0 27) []) H locs := hW
  refine lv_aload_n S.1 S.2.1 dX9_full_0 rfl (lv_at hl 0 rfl) ?_
  refine gf (C := RX9) (T := TX9) (N := 28) (ci := 5) (k := 3) S hK hW wu_X9 rfl (by decide) wf_X9_20 0 rfl rfl dX9_full_1 ?_
  refine lv_iconst (v := (2 : Int32)) S.1 S.2.1 dX9_full_4 ki_2 ?_
  refine lv_dup2_11 S.1 S.2.1 dX9_full_5 rfl rfl ?_
  refine iaK S hK hW rfl 4 rfl b_2_3 x_2 dX9_full_6 ?_
  refine lv_iconst (v := (1 : Int32)) S.1 S.2.1 dX9_full_7 ki_1 ?_
  refine lv_iadd S.1 S.2.1 dX9_full_8 ?_
  refine istK S hK hW rfl 4 rfl b_2_3 x_2 dX9_full_9 (fun H locs hW => ?_)
  have hW : wd (dC, dI) A s.heap (clX9 cI cJ cZ cB h0 a0 (c0 0) (c0 1) (c0 2) (upd (c0 3) 2 (((c0 3) 2) + (1 : Int32))) (w0 4 0) (w0 5 0) (c0 6) (c0 7) (c0 8) (c0 9) (c0 10) (c0 11) (c0 12) (c0 13) (c0 14 0) (c0 15 0) (c0 16 0) (c0 17 0) (c0 18) (c0 19) (c0 20) (c0 21 0) (c0 22 0) (c0 23 0) (c0 24 0) (c0 25 0) (c0 26) (c0 27) []) H locs := hW
  refine lv_bipush (v := (-4 : Int32)) S.1 S.2.1 dX9_full_10 kb_m4 ?_
  have f1 := Option.some.inj h
  obtain ⟨f2, f3⟩ := Prod.mk.inj f1
  subst f2
  subst f3
  exact ri S hr hlocks hW dX9_full_12
abbrev rmX9_bits : Room := { frames := 0, cells := 0, slots := 0, locals := 0 }
set_option maxHeartbeats 4000000 in
set_option maxRecDepth 100000 in
theorem t_X9_bits (l : Launch) (dC : Nat → ClassId) (dI : Nat → Nat → Nat) (cI cJ cZ cB : ClassId) (zz : ZT)   (F : Nat) (p0 : Int32) (r : Int32) (hm : md_X9_bits F p0 = some (r)) : ct l (dC, dI) zz (ty4 cI cJ cZ cB) yX9_bits cX9_bits 3 (some .int) rmX9_bits [.int p0] [] [] (some (.int r)) := by
  refine ct_of (cc := cX9_bits) (maxL := 3) (ret := (some .int)) (by decide) (Nat.le_of_ble_eq_true rfl) ?_
  intro p e s m below meth c A S hr hlocks hK hN hZ hA H locs hW ls hl
  have S : CallFix p m c cX9_bits 3 s (List.toArray [.int p0]) G RX9 := S
  have hl : lv_has ls 3 [(0, .int p0)] := hl
  have h := hm
  rw [md_X9_bits] at h
  have hW : wd (dC, dI) A s.heap [] H locs := hW
  have hL4 : ∀ (n4 : Nat) (x1 : Int32) (x2 : Int32), ld_X9_bits_4 F n4 x1 x2 = some (r) → ∀ (H : Heap) (locs : List Loc), wd (dC, dI) A s.heap [] H locs → ∀ ls : Array Slot, lv_has ls 3 [(1, .int x1), (2, .int x2)] → W p l e rmX9_bits s m (List.toArray [.int p0]) below meth c H locs 0 0 (MQ below (kQ (dC, dI) [] (some (.int r)) A) (List.toArray [.int p0]) s 0 0 A) (F0 m 4 ls []) := by
    intro n4
    induction n4 with
    | zero => intro x1 x2 h; rw [ld_X9_bits_4] at h; cases h
    | succ n4 ih4 =>
      intro x1 x2 h H locs hW ls hl
      rw [ld_X9_bits_4] at h
      refine lv_iload_n S.1 S.2.1 dX9_bits_4 rfl (lv_at hl 1 rfl) ?_
      refine lv_if_le (tgt := 21) S.1 S.2.1 dX9_bits_5 (by decide) (fun u1 => ?_) (fun u1 => ?_)
      · have h := of_p u1 h
        refine lv_iload_n S.1 S.2.1 dX9_bits_21 rfl (lv_at hl 0 rfl) ?_
        have f2 := Option.some.inj h
        subst f2
        exact ri S hr hlocks hW dX9_bits_22
      · have h := of_n u1 h
        refine lv_iload_n S.1 S.2.1 dX9_bits_8 rfl (lv_at hl 0 rfl) ?_
        refine lv_iload_n S.1 S.2.1 dX9_bits_9 rfl (lv_at hl 1 rfl) ?_
        refine lv_iconst (v := (1 : Int32)) S.1 S.2.1 dX9_bits_10 ki_1 ?_
        refine lv_iand S.1 S.2.1 dX9_bits_11 ?_
        refine lv_iadd S.1 S.2.1 dX9_bits_12 ?_
        obtain ⟨y3, e4, h⟩ := lt1_e h
        refine nmi e4 ?_
        refine lv_istore_n (lv' := [(1, .int y3), (2, .int x2)]) S.1 S.2.1 dX9_bits_13 rfl hl (by decide) rfl (fun ls hl => ?_)
        refine lv_iload_n S.1 S.2.1 dX9_bits_14 rfl (lv_at hl 1 rfl) ?_
        refine lv_iconst (v := (1 : Int32)) S.1 S.2.1 dX9_bits_15 ki_1 ?_
        refine lv_ishr S.1 S.2.1 dX9_bits_16 ?_
        obtain ⟨y5, e6, h⟩ := lt1_e h
        refine nmi e6 ?_
        refine lv_istore_n (lv' := [(2, .int y5), (1, .int y3)]) S.1 S.2.1 dX9_bits_17 rfl hl (by decide) rfl (fun ls hl => ?_)
        refine lv_goto (tgt := 4) S.1 S.2.1 dX9_bits_18 (by decide) ?_
        exact ih4 _ _ h H locs hW ls (lv_sub hl [1, 0] rfl)
  refine lv_iconst (v := (0 : Int32)) S.1 S.2.1 dX9_bits_0 ki_0 ?_
  refine lv_istore_n (lv' := [(1, .int (0 : Int32)), (0, .int p0)]) S.1 S.2.1 dX9_bits_1 rfl hl (by decide) rfl (fun ls hl => ?_)
  refine lv_iload_n S.1 S.2.1 dX9_bits_2 rfl (lv_at hl 1 rfl) ?_
  refine lv_istore_n (lv' := [(2, .int p0), (1, .int (0 : Int32)), (0, .int p0)]) S.1 S.2.1 dX9_bits_3 rfl hl (by decide) rfl (fun ls hl => ?_)
  exact hL4 F _ _ h H locs hW ls (lv_sub hl [1, 0] rfl)
abbrev rmX9_has : Room := { frames := 0, cells := 0, slots := 0, locals := 0 }
set_option maxHeartbeats 4000000 in
set_option maxRecDepth 100000 in
theorem t_X9_has (l : Launch) (dC : Nat → ClassId) (dI : Nat → Nat → Nat) (cI cJ cZ cB : ClassId) (zz : ZT)   (p0 : Int32) (p1 : Int32) (r : Int32) (hm : md_X9_has p0 p1 = some (r)) : ct l (dC, dI) zz (ty4 cI cJ cZ cB) yX9_has cX9_has 2 (some .boolean) rmX9_has [.int p0, .int p1] [] [] (some (.int r)) := by
  refine ct_of (cc := cX9_has) (maxL := 2) (ret := (some .boolean)) (by decide) (Nat.le_of_ble_eq_true rfl) ?_
  intro p e s m below meth c A S hr hlocks hK hN hZ hA H locs hW ls hl
  have S : CallFix p m c cX9_has 2 s (List.toArray [.int p0, .int p1]) G RX9 := S
  have hl : lv_has ls 2 [(0, .int p0), (1, .int p1)] := hl
  have h := hm
  rw [md_X9_has] at h
  have hW : wd (dC, dI) A s.heap [] H locs := hW
  refine lv_iload_n S.1 S.2.1 dX9_has_0 rfl (lv_at hl 0 rfl) ?_
  refine lv_iload_n S.1 S.2.1 dX9_has_1 rfl (lv_at hl 1 rfl) ?_
  refine lv_ishr S.1 S.2.1 dX9_has_2 ?_
  refine lv_iconst (v := (1 : Int32)) S.1 S.2.1 dX9_has_3 ki_1 ?_
  refine lv_iand S.1 S.2.1 dX9_has_4 ?_
  refine lv_iconst (v := (1 : Int32)) S.1 S.2.1 dX9_has_5 ki_1 ?_
  obtain ⟨y1, e2, h⟩ := lt1_e h
  suffices hM3 : ∀ ls : Array Slot, lv_has ls 2 [] → W p l e rmX9_has s m (List.toArray [.int p0, .int p1]) below meth c H locs 0 0 (MQ below (kQ (dC, dI) [] (some (.int r)) A) (List.toArray [.int p0, .int p1]) s 0 0 A) (F0 m 14 ls [.int y1]) by
    refine lv_icmp_ne (tgt := 13) S.1 S.2.1 dX9_has_6 (by decide) (fun u4 => ?_) (fun u4 => ?_)
    · refine lv_iconst (v := (0 : Int32)) S.1 S.2.1 dX9_has_13 ki_0 ?_
      have e2 := e2.trans (if_neg u4)
      subst e2
      exact hM3 ls (lv_sub hl [] rfl)
    · refine lv_iconst (v := (1 : Int32)) S.1 S.2.1 dX9_has_9 ki_1 ?_
      refine lv_goto (tgt := 14) S.1 S.2.1 dX9_has_10 (by decide) ?_
      have e2 := e2.trans (if_pos u4)
      subst e2
      exact hM3 ls (lv_sub hl [] rfl)
  intro ls hl
  obtain ⟨z5, h⟩ := of_g h
  have f6 := Option.some.inj h
  subst f6
  exact rz S hr hlocks hW (nz z5) dX9_has_14
abbrev rmX9_begin : Room := { frames := 0, cells := 0, slots := 0, locals := 0 }
set_option maxHeartbeats 4000000 in
set_option maxRecDepth 100000 in
theorem t_X9_begin (l : Launch) (dC : Nat → ClassId) (dI : Nat → Nat → Nat) (cI cJ cZ cB : ClassId) (zz : ZT)  (a0 : Nat → Nat) (F : Nat) (c0 : Nat → Nat → Int32) (p1 : Int32) (p2 : Int32) (c0' : Nat → Nat → Int32) (hm : md_X9_begin F c0 p1 p2 = some (c0')) : ct l (dC, dI) zz (ty4 cI cJ cZ cB) yX9_begin cX9_begin 4 none rmX9_begin [.ref (a0 0), .int p1, .int p2] (cwXA cI cJ cZ cB 0 a0 c0 []) (cwXA cI cJ cZ cB 0 a0 c0' []) none := by
  refine ct_of (cc := cX9_begin) (maxL := 4) (ret := none) (by decide) (Nat.le_of_ble_eq_true rfl) ?_
  intro p e s m below meth c A S hr hlocks hK hN hZ hA H locs hW ls hl
  have S : CallFix p m c cX9_begin 4 s (List.toArray [.ref (a0 0), .int p1, .int p2]) G RX9 := S
  have hl : lv_has ls 4 [(0, .ref (a0 0)), (1, .int p1), (2, .int p2)] := hl
  have h := hm
  rw [md_X9_begin] at h
  have hW : wd (dC, dI) A s.heap (clXA cI cJ cZ cB 0 a0 (c0 0) []) H locs := hW
  have hL2 : ∀ (n2 : Nat) (c0 : Nat → Nat → Int32) (x1 : Int32) (x2 : Int32) (x3 : Int32), ld_X9_begin_2 F n2 c0 x1 x2 x3 = some (c0') → ∀ (H : Heap) (locs : List Loc), wd (dC, dI) A s.heap (clXA cI cJ cZ cB 0 a0 (c0 0) []) H locs → ∀ ls : Array Slot, lv_has ls 4 [(0, .ref (a0 0)), (1, .int x1), (2, .int x2), (3, .int x3)] → W p l e rmX9_begin s m (List.toArray [.ref (a0 0), .int p1, .int p2]) below meth c H locs 0 0 (MQ below (kQ (dC, dI) (cwXA cI cJ cZ cB 0 a0 c0' []) none A) (List.toArray [.ref (a0 0), .int p1, .int p2]) s 0 0 A) (F0 m 2 ls []) := by
    intro n2
    induction n2 with
    | zero => intro c0 x1 x2 x3 h; rw [ld_X9_begin_2] at h; cases h
    | succ n2 ih2 =>
      intro c0 x1 x2 x3 h H locs hW ls hl
      rw [ld_X9_begin_2] at h
      refine lv_iload_n S.1 S.2.1 dX9_begin_2 rfl (lv_at hl 3 rfl) ?_
      refine lv_bipush (v := (90 : Int32)) S.1 S.2.1 dX9_begin_3 kb_90 ?_
      refine lv_icmp_ge (tgt := 18) S.1 S.2.1 dX9_begin_5 (by decide) (fun u1 => ?_) (fun u1 => ?_)
      · have h := of_p u1 h
        refine lv_aload_n S.1 S.2.1 dX9_begin_18 rfl (lv_at hl 0 rfl) ?_
        refine lv_bipush (v := (30 : Int32)) S.1 S.2.1 dX9_begin_19 kb_30 ?_
        refine lv_iload_n S.1 S.2.1 dX9_begin_21 rfl (lv_at hl 1 rfl) ?_
        refine istK S hK hW rfl 0 rfl b_30_194 x_30 dX9_begin_22 (fun H locs hW => ?_)
        have hW : wd (dC, dI) A s.heap (clXA cI cJ cZ cB 0 a0 (upd (c0 0) 30 x1) []) H locs := hW
        refine lv_aload_n S.1 S.2.1 dX9_begin_23 rfl (lv_at hl 0 rfl) ?_
        refine lv_bipush (v := (31 : Int32)) S.1 S.2.1 dX9_begin_24 kb_31 ?_
        refine lv_iload_n S.1 S.2.1 dX9_begin_26 rfl (lv_at hl 2 rfl) ?_
        refine istK S hK hW rfl 0 rfl b_31_194 x_31 dX9_begin_27 (fun H locs hW => ?_)
        have hW : wd (dC, dI) A s.heap (clXA cI cJ cZ cB 0 a0 (upd (upd (c0 0) 30 x1) 31 x2) []) H locs := hW
        refine lv_aload_n S.1 S.2.1 dX9_begin_28 rfl (lv_at hl 0 rfl) ?_
        refine lv_bipush (v := (12 : Int32)) S.1 S.2.1 dX9_begin_29 kb_12 ?_
        refine lv_iconst (v := (1 : Int32)) S.1 S.2.1 dX9_begin_31 ki_1 ?_
        refine istK S hK hW rfl 0 rfl b_12_194 x_12 dX9_begin_32 (fun H locs hW => ?_)
        have hW : wd (dC, dI) A s.heap (clXA cI cJ cZ cB 0 a0 (upd (upd (upd (c0 0) 30 x1) 31 x2) 12 (1 : Int32)) []) H locs := hW
        refine lv_aload_n S.1 S.2.1 dX9_begin_33 rfl (lv_at hl 0 rfl) ?_
        refine lv_bipush (v := (13 : Int32)) S.1 S.2.1 dX9_begin_34 kb_13 ?_
        refine lv_iconst (v := (1 : Int32)) S.1 S.2.1 dX9_begin_36 ki_1 ?_
        refine istK S hK hW rfl 0 rfl b_13_194 x_13 dX9_begin_37 (fun H locs hW => ?_)
        have hW : wd (dC, dI) A s.heap (clXA cI cJ cZ cB 0 a0 (upd (upd (upd (upd (c0 0) 30 x1) 31 x2) 12 (1 : Int32)) 13 (1 : Int32)) []) H locs := hW
        refine lv_aload_n S.1 S.2.1 dX9_begin_38 rfl (lv_at hl 0 rfl) ?_
        refine lv_bipush (v := (17 : Int32)) S.1 S.2.1 dX9_begin_39 kb_17 ?_
        refine lv_iconst (v := (-1 : Int32)) S.1 S.2.1 dX9_begin_41 ki_m1 ?_
        refine istK S hK hW rfl 0 rfl b_17_194 x_17 dX9_begin_42 (fun H locs hW => ?_)
        have hW : wd (dC, dI) A s.heap (clXA cI cJ cZ cB 0 a0 (upd (upd (upd (upd (upd (c0 0) 30 x1) 31 x2) 12 (1 : Int32)) 13 (1 : Int32)) 17 (-1 : Int32)) []) H locs := hW
        have f2 := Option.some.inj h
        subst f2
        exact rv S hr hlocks hW dX9_begin_43
      · have h := of_n u1 h
        refine lv_aload_n S.1 S.2.1 dX9_begin_8 rfl (lv_at hl 0 rfl) ?_
        refine lv_iload_n S.1 S.2.1 dX9_begin_9 rfl (lv_at hl 3 rfl) ?_
        refine lv_iconst (v := (0 : Int32)) S.1 S.2.1 dX9_begin_10 ki_0 ?_
        obtain ⟨z3, h⟩ := of_g h
        refine ist S hK hW rfl 0 rfl z3 dX9_begin_11 (fun H locs hW => ?_)
        have hW : wd (dC, dI) A s.heap (clXA cI cJ cZ cB 0 a0 (upd (c0 0) (ix x3) (0 : Int32)) []) H locs := hW
        refine lv_iinc (v := (x3 + (1 : Int32))) (lv' := [(3, .int (x3 + (1 : Int32))), (0, .ref (a0 0)), (1, .int x1), (2, .int x2)]) S.1 S.2.1 dX9_begin_12 hl (k := 3) rfl (congrArg (fun z => x3 + z) ki_1) (by decide) rfl (fun ls hl => ?_)
        refine lv_goto (tgt := 2) S.1 S.2.1 dX9_begin_15 (by decide) ?_
        exact ih2 _ _ _ _ h H locs hW ls (lv_sub hl [1, 2, 3, 0] rfl)
  refine lv_iconst (v := (0 : Int32)) S.1 S.2.1 dX9_begin_0 ki_0 ?_
  refine lv_istore_n (lv' := [(3, .int (0 : Int32)), (0, .ref (a0 0)), (1, .int p1), (2, .int p2)]) S.1 S.2.1 dX9_begin_1 rfl hl (by decide) rfl (fun ls hl => ?_)
  exact hL2 F _ _ _ _ h H locs hW ls (lv_sub hl [1, 2, 3, 0] rfl)
abbrev rmX9_many : Room := { frames := 0, cells := 0, slots := 0, locals := 0 }
set_option maxHeartbeats 4000000 in
set_option maxRecDepth 100000 in
theorem t_X9_many (l : Launch) (dC : Nat → ClassId) (dI : Nat → Nat → Nat) (cI cJ cZ cB : ClassId) (zz : ZT)  (h0 : Nat) (a0 : Nat → Nat) (c0 : Nat → Nat → Int32) (w0 : Nat → Nat → Int64) (r : Int32) (hm : md_X9_many c0 w0 = some (r)) : ct l (dC, dI) zz (ty4 cI cJ cZ cB) yX9_many cX9_many 1 (some .int) rmX9_many [.ref h0] (cwX9 cI cJ cZ cB h0 a0 c0 w0 []) (cwX9 cI cJ cZ cB h0 a0 c0 w0 []) (some (.int r)) := by
  refine ct_of (cc := cX9_many) (maxL := 1) (ret := (some .int)) (by decide) (Nat.le_of_ble_eq_true rfl) ?_
  intro p e s m below meth c A S hr hlocks hK hN hZ hA H locs hW ls hl
  have S : CallFix p m c cX9_many 1 s (List.toArray [.ref h0]) G RX9 := S
  have hl : lv_has ls 1 [(0, .ref h0)] := hl
  have h := hm
  rw [md_X9_many] at h
  have hW : wd (dC, dI) A s.heap (clX9 cI cJ cZ cB h0 a0 (c0 0) (c0 1) (c0 2) (c0 3) (w0 4 0) (w0 5 0) (c0 6) (c0 7) (c0 8) (c0 9) (c0 10) (c0 11) (c0 12) (c0 13) (c0 14 0) (c0 15 0) (c0 16 0) (c0 17 0) (c0 18) (c0 19) (c0 20) (c0 21 0) (c0 22 0) (c0 23 0) (c0 24 0) (c0 25 0) (c0 26) (c0 27) []) H locs := hW
  refine lv_aload_n S.1 S.2.1 dX9_many_0 rfl (lv_at hl 0 rfl) ?_
  refine gf (C := RX9) (T := TX9) (N := 28) (ci := 5) (k := 0) S hK hW wu_X9 rfl (by decide) wf_X9_7 0 rfl rfl dX9_many_1 ?_
  refine lv_iconst (v := (0 : Int32)) S.1 S.2.1 dX9_many_4 ki_0 ?_
  refine iaK S hK hW rfl 1 rfl b_0_194 x_0 dX9_many_5 ?_
  have f1 := Option.some.inj h
  subst f1
  exact ri S hr hlocks hW dX9_many_6
abbrev rmX9_isPoint : Room := { frames := 1, cells := 0, slots := 0, locals := 25 }
set_option maxHeartbeats 4000000 in
set_option maxRecDepth 100000 in
theorem t_X9_isPoint (l : Launch) (dC : Nat → ClassId) (dI : Nat → Nat → Nat) (cI cJ cZ cB : ClassId) (zz : ZT)  (h0 : Nat) (a0 : Nat → Nat) (c0 : Nat → Nat → Int32) (w0 : Nat → Nat → Int64) (p1 : Int32) (r : Int32) (hm : md_X9_isPoint c0 w0 p1 = some (r)) : ct l (dC, dI) zz (ty4 cI cJ cZ cB) yX9_isPoint cX9_isPoint 2 (some .boolean) rmX9_isPoint [.ref h0, .int p1] (cwX9 cI cJ cZ cB h0 a0 c0 w0 []) (cwX9 cI cJ cZ cB h0 a0 c0 w0 []) (some (.int r)) := by
  refine ct_of (cc := cX9_isPoint) (maxL := 2) (ret := (some .boolean)) (by decide) (Nat.le_of_ble_eq_true rfl) ?_
  intro p e s m below meth c A S hr hlocks hK hN hZ hA H locs hW ls hl
  have S : CallFix p m c cX9_isPoint 2 s (List.toArray [.ref h0, .int p1]) G RX9 := S
  have hl : lv_has ls 2 [(0, .ref h0), (1, .int p1)] := hl
  have h := hm
  rw [md_X9_isPoint] at h
  have hW : wd (dC, dI) A s.heap (clX9 cI cJ cZ cB h0 a0 (c0 0) (c0 1) (c0 2) (c0 3) (w0 4 0) (w0 5 0) (c0 6) (c0 7) (c0 8) (c0 9) (c0 10) (c0 11) (c0 12) (c0 13) (c0 14 0) (c0 15 0) (c0 16 0) (c0 17 0) (c0 18) (c0 19) (c0 20) (c0 21 0) (c0 22 0) (c0 23 0) (c0 24 0) (c0 25 0) (c0 26) (c0 27) []) H locs := hW
  refine lv_iload_n S.1 S.2.1 dX9_isPoint_0 rfl (lv_at hl 1 rfl) ?_
  refine lv_i2l S.1 S.2.1 dX9_isPoint_1 rfl ?_
  refine lv_lconst (v := (0 : Int64)) S.1 S.2.1 dX9_isPoint_2 rfl ?_
  refine lv_aload_n S.1 S.2.1 dX9_isPoint_3 rfl (lv_at hl 0 rfl) ?_
  obtain ⟨r1, hy2, h⟩ := bd1_e h
  refine kv0 S hK hN hZ hA hW (rest := [.long (0 : Int64), .long p1.toInt64]) (t_X9_many l dC dI cI cJ cZ cB zz h0 a0 c0 w0 _  hy2) wl_X9_70 wv_X9_many rfl rfl ⟨Nat.le_of_ble_eq_true rfl, Nat.le_of_ble_eq_true rfl⟩ [] [] rfl 0 rfl rfl rfl rfl hl.1 rfl (Nat.le_of_ble_eq_true rfl) dX9_isPoint_4 [.int r1, .long (0 : Int64), .long p1.toInt64] rfl (fun H locs hW => ?_)
  refine lv_iconst (v := (1 : Int32)) S.1 S.2.1 dX9_isPoint_7 ki_1 ?_
  refine lv_isub S.1 S.2.1 dX9_isPoint_8 ?_
  refine lv_i2l S.1 S.2.1 dX9_isPoint_9 rfl ?_
  obtain ⟨r3, hy4, h⟩ := bd1_e h
  refine ks0 S hK hN hZ hA hW (rest := []) (t_X9_in l dC dI cI cJ cZ cB zz p1.toInt64 (0 : Int64) (r1 - (1 : Int32)).toInt64 _  hy4) wl_X9_74 wv_X9_in rfl rfl ⟨Nat.le_of_ble_eq_true rfl, Nat.le_of_ble_eq_true rfl⟩ [] (clX9 cI cJ cZ cB h0 a0 (c0 0) (c0 1) (c0 2) (c0 3) (w0 4 0) (w0 5 0) (c0 6) (c0 7) (c0 8) (c0 9) (c0 10) (c0 11) (c0 12) (c0 13) (c0 14 0) (c0 15 0) (c0 16 0) (c0 17 0) (c0 18) (c0 19) (c0 20) (c0 21 0) (c0 22 0) (c0 23 0) (c0 24 0) (c0 25 0) (c0 26) (c0 27) []) rfl rfl hl.1 rfl (Nat.le_of_ble_eq_true rfl) dX9_isPoint_10 [.int r3] rfl (fun H locs hW => ?_)
  obtain ⟨z5, h⟩ := of_g h
  have f6 := Option.some.inj h
  subst f6
  exact rz S hr hlocks hW (nz z5) dX9_isPoint_13
abbrev rmX9_isCounsel : Room := { frames := 1, cells := 0, slots := 0, locals := 25 }
set_option maxHeartbeats 4000000 in
set_option maxRecDepth 100000 in
theorem t_X9_isCounsel (l : Launch) (dC : Nat → ClassId) (dI : Nat → Nat → Nat) (cI cJ cZ cB : ClassId) (zz : ZT)   (p0 : Int32) (r : Int32) (hm : md_X9_isCounsel p0 = some (r)) : ct l (dC, dI) zz (ty4 cI cJ cZ cB) yX9_isCounsel cX9_isCounsel 1 (some .boolean) rmX9_isCounsel [.int p0] [] [] (some (.int r)) := by
  refine ct_of (cc := cX9_isCounsel) (maxL := 1) (ret := (some .boolean)) (by decide) (Nat.le_of_ble_eq_true rfl) ?_
  intro p e s m below meth c A S hr hlocks hK hN hZ hA H locs hW ls hl
  have S : CallFix p m c cX9_isCounsel 1 s (List.toArray [.int p0]) G RX9 := S
  have hl : lv_has ls 1 [(0, .int p0)] := hl
  have h := hm
  rw [md_X9_isCounsel] at h
  have hW : wd (dC, dI) A s.heap [] H locs := hW
  refine lv_iload_n S.1 S.2.1 dX9_isCounsel_0 rfl (lv_at hl 0 rfl) ?_
  refine lv_i2l S.1 S.2.1 dX9_isCounsel_1 rfl ?_
  refine lv_lconst (v := (0 : Int64)) S.1 S.2.1 dX9_isCounsel_2 rfl ?_
  refine lv_lconst (v := (1 : Int64)) S.1 S.2.1 dX9_isCounsel_3 rfl ?_
  obtain ⟨r1, hy2, h⟩ := bd1_e h
  refine ks0 S hK hN hZ hA hW (rest := []) (t_X9_in l dC dI cI cJ cZ cB zz p0.toInt64 (0 : Int64) (1 : Int64) _  hy2) wl_X9_74 wv_X9_in rfl rfl ⟨Nat.le_of_ble_eq_true rfl, Nat.le_of_ble_eq_true rfl⟩ [] [] rfl rfl hl.1 rfl (Nat.le_of_ble_eq_true rfl) dX9_isCounsel_4 [.int r1] rfl (fun H locs hW => ?_)
  obtain ⟨z3, h⟩ := of_g h
  have f4 := Option.some.inj h
  subst f4
  exact rz S hr hlocks hW (nz z3) dX9_isCounsel_7
abbrev rmX9_isKind : Room := { frames := 1, cells := 0, slots := 0, locals := 25 }
set_option maxHeartbeats 4000000 in
set_option maxRecDepth 100000 in
theorem t_X9_isKind (l : Launch) (dC : Nat → ClassId) (dI : Nat → Nat → Nat) (cI cJ cZ cB : ClassId) (zz : ZT)   (p0 : Int32) (r : Int32) (hm : md_X9_isKind p0 = some (r)) : ct l (dC, dI) zz (ty4 cI cJ cZ cB) yX9_isKind cX9_isKind 1 (some .boolean) rmX9_isKind [.int p0] [] [] (some (.int r)) := by
  refine ct_of (cc := cX9_isKind) (maxL := 1) (ret := (some .boolean)) (by decide) (Nat.le_of_ble_eq_true rfl) ?_
  intro p e s m below meth c A S hr hlocks hK hN hZ hA H locs hW ls hl
  have S : CallFix p m c cX9_isKind 1 s (List.toArray [.int p0]) G RX9 := S
  have hl : lv_has ls 1 [(0, .int p0)] := hl
  have h := hm
  rw [md_X9_isKind] at h
  have hW : wd (dC, dI) A s.heap [] H locs := hW
  refine lv_iload_n S.1 S.2.1 dX9_isKind_0 rfl (lv_at hl 0 rfl) ?_
  refine lv_i2l S.1 S.2.1 dX9_isKind_1 rfl ?_
  refine lv_lconst (v := (0 : Int64)) S.1 S.2.1 dX9_isKind_2 rfl ?_
  refine lv_ldc2 (v := (5 : Int64)) S.1 S.2.1 S.2.2.2.1 (S.2.2.2.2 _ wk_X9_78) dX9_isKind_3 ?_
  obtain ⟨r1, hy2, h⟩ := bd1_e h
  refine ks0 S hK hN hZ hA hW (rest := []) (t_X9_in l dC dI cI cJ cZ cB zz p0.toInt64 (0 : Int64) (5 : Int64) _  hy2) wl_X9_74 wv_X9_in rfl rfl ⟨Nat.le_of_ble_eq_true rfl, Nat.le_of_ble_eq_true rfl⟩ [] [] rfl rfl hl.1 rfl (Nat.le_of_ble_eq_true rfl) dX9_isKind_6 [.int r1] rfl (fun H locs hW => ?_)
  obtain ⟨z3, h⟩ := of_g h
  have f4 := Option.some.inj h
  subst f4
  exact rz S hr hlocks hW (nz z3) dX9_isKind_9
abbrev rmX9_suit : Room := { frames := 2, cells := 0, slots := 0, locals := 45 }
set_option maxHeartbeats 4000000 in
set_option maxRecDepth 100000 in
theorem t_X9_suit (l : Launch) (dC : Nat → ClassId) (dI : Nat → Nat → Nat) (cI cJ cZ cB : ClassId) (zz : ZT)  (h0 : Nat) (a0 : Nat → Nat) (F : Nat) (c0 : Nat → Nat → Int32) (w0 : Nat → Nat → Int64) (p1 : Int32) (p2 : Int32) (r : Int32) (c0' : Nat → Nat → Int32) (hm : md_X9_suit F c0 w0 p1 p2 = some (r, c0')) : ct l (dC, dI) zz (ty4 cI cJ cZ cB) yX9_suit cX9_suit 4 (some .int) rmX9_suit [.ref h0, .int p1, .int p2] (cwX9 cI cJ cZ cB h0 a0 c0 w0 []) (cwX9 cI cJ cZ cB h0 a0 c0' w0 []) (some (.int r)) := by
  refine ct_of (cc := cX9_suit) (maxL := 4) (ret := (some .int)) (by decide) (Nat.le_of_ble_eq_true rfl) ?_
  intro p e s m below meth c A S hr hlocks hK hN hZ hA H locs hW ls hl
  have S : CallFix p m c cX9_suit 4 s (List.toArray [.ref h0, .int p1, .int p2]) G RX9 := S
  have hl : lv_has ls 4 [(0, .ref h0), (1, .int p1), (2, .int p2)] := hl
  have h := hm
  rw [md_X9_suit] at h
  have hW : wd (dC, dI) A s.heap (clX9 cI cJ cZ cB h0 a0 (c0 0) (c0 1) (c0 2) (c0 3) (w0 4 0) (w0 5 0) (c0 6) (c0 7) (c0 8) (c0 9) (c0 10) (c0 11) (c0 12) (c0 13) (c0 14 0) (c0 15 0) (c0 16 0) (c0 17 0) (c0 18) (c0 19) (c0 20) (c0 21 0) (c0 22 0) (c0 23 0) (c0 24 0) (c0 25 0) (c0 26) (c0 27) []) H locs := hW
  have hJ14 : ∀ (c0 : Nat → Nat → Int32), jd_X9_suit_14 F w0 c0 = some (r, c0') → ∀ (H : Heap) (locs : List Loc), wd (dC, dI) A s.heap (clX9 cI cJ cZ cB h0 a0 (c0 0) (c0 1) (c0 2) (c0 3) (w0 4 0) (w0 5 0) (c0 6) (c0 7) (c0 8) (c0 9) (c0 10) (c0 11) (c0 12) (c0 13) (c0 14 0) (c0 15 0) (c0 16 0) (c0 17 0) (c0 18) (c0 19) (c0 20) (c0 21 0) (c0 22 0) (c0 23 0) (c0 24 0) (c0 25 0) (c0 26) (c0 27) []) H locs → ∀ ls : Array Slot, lv_has ls 4 [(0, .ref h0)] → W p l e rmX9_suit s m (List.toArray [.ref h0, .int p1, .int p2]) below meth c H locs 0 0 (MQ below (kQ (dC, dI) (cwX9 cI cJ cZ cB h0 a0 c0' w0 []) (some (.int r)) A) (List.toArray [.ref h0, .int p1, .int p2]) s 0 0 A) (F0 m 14 ls []) := by
    intro c0 h H locs hW ls hl
    rw [jd_X9_suit_14] at h
    refine lv_aload_n S.1 S.2.1 dX9_suit_14 rfl (lv_at hl 0 rfl) ?_
    refine lv_bipush (v := (-2 : Int32)) S.1 S.2.1 dX9_suit_15 kb_m2 ?_
    obtain ⟨r1, cv2, hy3, h⟩ := bd2_e h
    refine kv (clX9 cI cJ cZ cB h0 a0 (cv2 0) (cv2 1) (cv2 2) (cv2 3) (w0 4 0) (w0 5 0) (cv2 6) (cv2 7) (cv2 8) (cv2 9) (cv2 10) (cv2 11) (cv2 12) (cv2 13) (cv2 14 0) (cv2 15 0) (cv2 16 0) (cv2 17 0) (cv2 18) (cv2 19) (cv2 20) (cv2 21 0) (cv2 22 0) (cv2 23 0) (cv2 24 0) (cv2 25 0) (cv2 26) (cv2 27) []) S hK hN hZ hA hW (rest := []) (t_X9_bad l dC dI cI cJ cZ cB zz h0 a0 c0 w0 (-2 : Int32) _ _  hy3) wl_X9_84 wv_X9_bad rfl rfl ⟨Nat.le_of_ble_eq_true rfl, Nat.le_of_ble_eq_true rfl⟩ [] [] rfl rfl rfl 0 rfl rfl rfl rfl hl.1 rfl (Nat.le_of_ble_eq_true rfl) dX9_suit_17 [.int r1] rfl (fun H locs hW => ?_)
    have f4 := Option.some.inj h
    obtain ⟨f5, f6⟩ := Prod.mk.inj f4
    subst f5
    subst f6
    exact ri S hr hlocks hW dX9_suit_20
  refine lv_iload_n S.1 S.2.1 dX9_suit_0 rfl (lv_at hl 1 rfl) ?_
  obtain ⟨r7, hy8, h⟩ := bd1_e h
  refine ks0 S hK hN hZ hA hW (rest := []) (t_X9_isKind l dC dI cI cJ cZ cB zz p1 _  hy8) wl_X9_80 wv_X9_isKind rfl rfl ⟨Nat.le_of_ble_eq_true rfl, Nat.le_of_ble_eq_true rfl⟩ [] (clX9 cI cJ cZ cB h0 a0 (c0 0) (c0 1) (c0 2) (c0 3) (w0 4 0) (w0 5 0) (c0 6) (c0 7) (c0 8) (c0 9) (c0 10) (c0 11) (c0 12) (c0 13) (c0 14 0) (c0 15 0) (c0 16 0) (c0 17 0) (c0 18) (c0 19) (c0 20) (c0 21 0) (c0 22 0) (c0 23 0) (c0 24 0) (c0 25 0) (c0 26) (c0 27) []) rfl rfl hl.1 rfl (Nat.le_of_ble_eq_true rfl) dX9_suit_1 [.int r7] rfl (fun H locs hW => ?_)
  refine lv_if_eq (tgt := 14) S.1 S.2.1 dX9_suit_4 (by decide) (fun u9 => ?_) (fun u9 => ?_)
  · have h := of_p u9 h
    exact hJ14 _ h H locs hW ls (lv_sub hl [0] rfl)
  · have h := of_n u9 h
    refine lv_iload_n S.1 S.2.1 dX9_suit_7 rfl (lv_at hl 2 rfl) ?_
    obtain ⟨r10, hy11, h⟩ := bd1_e h
    refine ks0 S hK hN hZ hA hW (rest := []) (t_X9_isKind l dC dI cI cJ cZ cB zz p2 _  hy11) wl_X9_80 wv_X9_isKind rfl rfl ⟨Nat.le_of_ble_eq_true rfl, Nat.le_of_ble_eq_true rfl⟩ [] (clX9 cI cJ cZ cB h0 a0 (c0 0) (c0 1) (c0 2) (c0 3) (w0 4 0) (w0 5 0) (c0 6) (c0 7) (c0 8) (c0 9) (c0 10) (c0 11) (c0 12) (c0 13) (c0 14 0) (c0 15 0) (c0 16 0) (c0 17 0) (c0 18) (c0 19) (c0 20) (c0 21 0) (c0 22 0) (c0 23 0) (c0 24 0) (c0 25 0) (c0 26) (c0 27) []) rfl rfl hl.1 rfl (Nat.le_of_ble_eq_true rfl) dX9_suit_8 [.int r10] rfl (fun H locs hW => ?_)
    refine lv_if_ne (tgt := 21) S.1 S.2.1 dX9_suit_11 (by decide) (fun u12 => ?_) (fun u12 => ?_)
    · have h := of_n u12 h
      refine lv_aload_n S.1 S.2.1 dX9_suit_21 rfl (lv_at hl 0 rfl) ?_
      obtain ⟨r13, hy14, h⟩ := bd1_e h
      refine kv0 S hK hN hZ hA hW (rest := []) (t_X9_many l dC dI cI cJ cZ cB zz h0 a0 c0 w0 _  hy14) wl_X9_70 wv_X9_many rfl rfl ⟨Nat.le_of_ble_eq_true rfl, Nat.le_of_ble_eq_true rfl⟩ [] [] rfl 0 rfl rfl rfl rfl hl.1 rfl (Nat.le_of_ble_eq_true rfl) dX9_suit_22 [.int r13] rfl (fun H locs hW => ?_)
      refine lv_istore_n (lv' := [(3, .int r13), (0, .ref h0), (1, .int p1), (2, .int p2)]) S.1 S.2.1 dX9_suit_25 rfl hl (by decide) rfl (fun ls hl => ?_)
      refine lv_aload_n S.1 S.2.1 dX9_suit_26 rfl (lv_at hl 1 rfl) ?_
      refine gf (C := RX9) (T := TX9) (N := 28) (ci := 5) (k := 0) S hK hW wu_X9 rfl (by decide) wf_X9_7 0 rfl rfl dX9_suit_27 ?_
      refine lv_iload_n S.1 S.2.1 dX9_suit_30 rfl (lv_at hl 2 rfl) ?_
      refine lv_iload_n S.1 S.2.1 dX9_suit_31 rfl (lv_at hl 3 rfl) ?_
      obtain ⟨cv15, hy16, h⟩ := bd1_e h
      refine ks (clX9 cI cJ cZ cB h0 a0 (cv15 0) (c0 1) (c0 2) (c0 3) (w0 4 0) (w0 5 0) (c0 6) (c0 7) (c0 8) (c0 9) (c0 10) (c0 11) (c0 12) (c0 13) (c0 14 0) (c0 15 0) (c0 16 0) (c0 17 0) (c0 18) (c0 19) (c0 20) (c0 21 0) (c0 22 0) (c0 23 0) (c0 24 0) (c0 25 0) (c0 26) (c0 27) []) S hK hN hZ hA hW (rest := []) (t_X9_begin l dC dI cI cJ cZ cB zz (fun _ => a0 0) F (fun _ => (c0 0)) p1 p2 _  hy16) wl_X9_66 wv_X9_begin rfl rfl ⟨Nat.le_of_ble_eq_true rfl, Nat.le_of_ble_eq_true rfl⟩ [(h0, .inr (5, [.ref (a0 0), .ref (a0 1), .ref (a0 2), .ref (a0 3), .long (w0 4 0), .long (w0 5 0), .ref (a0 6), .ref (a0 7), .ref (a0 8), .ref (a0 9), .ref (a0 10), .ref (a0 11), .ref (a0 12), .ref (a0 13), .int (c0 14 0), .int (c0 15 0), .int (c0 16 0), .int (c0 17 0), .ref (a0 18), .ref (a0 19), .ref (a0 20), .int (c0 21 0), .int (c0 22 0), .int (c0 23 0), .int (c0 24 0), .int (c0 25 0), .ref (a0 26), .ref (a0 27)]))] [(a0 1, .inl (cI, 388, .inl (c0 1))), (a0 2, .inl (cZ, 2, .inl (c0 2))), (a0 3, .inl (cI, 3, .inl (c0 3))), (a0 6, .inl (cI, 14, .inl (c0 6))), (a0 7, .inl (cI, 14, .inl (c0 7))), (a0 8, .inl (cI, 14, .inl (c0 8))), (a0 9, .inl (cI, 14, .inl (c0 9))), (a0 10, .inl (cI, 28, .inl (c0 10))), (a0 11, .inl (cI, 14, .inl (c0 11))), (a0 12, .inl (cI, 14, .inl (c0 12))), (a0 13, .inl (cI, 14, .inl (c0 13))), (a0 18, .inl (cI, 2, .inl (c0 18))), (a0 19, .inl (cI, 6, .inl (c0 19))), (a0 20, .inl (cI, 150, .inl (c0 20))), (a0 26, .inl (cI, 90, .inl (c0 26))), (a0 27, .inl (cI, 3, .inl (c0 27)))] rfl rfl rfl rfl hl.1 rfl (Nat.le_of_ble_eq_true rfl) dX9_suit_32 [] rfl (fun H locs hW => ?_)
      refine lv_iload_n S.1 S.2.1 dX9_suit_35 rfl (lv_at hl 0 rfl) ?_
      have f17 := Option.some.inj h
      obtain ⟨f18, f19⟩ := Prod.mk.inj f17
      subst f18
      subst f19
      exact ri S hr hlocks hW dX9_suit_36
    · have h := of_p u12 h
      exact hJ14 _ h H locs hW ls (lv_sub hl [0] rfl)
abbrev rmX9_bows : Room := { frames := 2, cells := 0, slots := 0, locals := 45 }
set_option maxHeartbeats 4000000 in
set_option maxRecDepth 100000 in
theorem t_X9_bows (l : Launch) (dC : Nat → ClassId) (dI : Nat → Nat → Nat) (cI cJ cZ cB : ClassId) (zz : ZT)  (h0 : Nat) (a0 : Nat → Nat) (c0 : Nat → Nat → Int32) (w0 : Nat → Nat → Int64) (p1 : Int32) (p2 : Int32) (r : Int32) (c0' : Nat → Nat → Int32) (hm : md_X9_bows c0 w0 p1 p2 = some (r, c0')) : ct l (dC, dI) zz (ty4 cI cJ cZ cB) yX9_bows cX9_bows 4 (some .int) rmX9_bows [.ref h0, .int p1, .int p2] (cwX9 cI cJ cZ cB h0 a0 c0 w0 []) (cwX9 cI cJ cZ cB h0 a0 c0' w0 []) (some (.int r)) := by
  refine ct_of (cc := cX9_bows) (maxL := 4) (ret := (some .int)) (by decide) (Nat.le_of_ble_eq_true rfl) ?_
  intro p e s m below meth c A S hr hlocks hK hN hZ hA H locs hW ls hl
  have S : CallFix p m c cX9_bows 4 s (List.toArray [.ref h0, .int p1, .int p2]) G RX9 := S
  have hl : lv_has ls 4 [(0, .ref h0), (1, .int p1), (2, .int p2)] := hl
  have h := hm
  rw [md_X9_bows] at h
  have hW : wd (dC, dI) A s.heap (clX9 cI cJ cZ cB h0 a0 (c0 0) (c0 1) (c0 2) (c0 3) (w0 4 0) (w0 5 0) (c0 6) (c0 7) (c0 8) (c0 9) (c0 10) (c0 11) (c0 12) (c0 13) (c0 14 0) (c0 15 0) (c0 16 0) (c0 17 0) (c0 18) (c0 19) (c0 20) (c0 21 0) (c0 22 0) (c0 23 0) (c0 24 0) (c0 25 0) (c0 26) (c0 27) []) H locs := hW
  have hJ19 : ∀ (c0 : Nat → Nat → Int32), jd_X9_bows_19 w0 c0 = some (r, c0') → ∀ (H : Heap) (locs : List Loc), wd (dC, dI) A s.heap (clX9 cI cJ cZ cB h0 a0 (c0 0) (c0 1) (c0 2) (c0 3) (w0 4 0) (w0 5 0) (c0 6) (c0 7) (c0 8) (c0 9) (c0 10) (c0 11) (c0 12) (c0 13) (c0 14 0) (c0 15 0) (c0 16 0) (c0 17 0) (c0 18) (c0 19) (c0 20) (c0 21 0) (c0 22 0) (c0 23 0) (c0 24 0) (c0 25 0) (c0 26) (c0 27) []) H locs → ∀ ls : Array Slot, lv_has ls 4 [(0, .ref h0)] → W p l e rmX9_bows s m (List.toArray [.ref h0, .int p1, .int p2]) below meth c H locs 0 0 (MQ below (kQ (dC, dI) (cwX9 cI cJ cZ cB h0 a0 c0' w0 []) (some (.int r)) A) (List.toArray [.ref h0, .int p1, .int p2]) s 0 0 A) (F0 m 19 ls []) := by
    intro c0 h H locs hW ls hl
    rw [jd_X9_bows_19] at h
    refine lv_aload_n S.1 S.2.1 dX9_bows_19 rfl (lv_at hl 0 rfl) ?_
    refine lv_bipush (v := (-2 : Int32)) S.1 S.2.1 dX9_bows_20 kb_m2 ?_
    obtain ⟨r1, cv2, hy3, h⟩ := bd2_e h
    refine kv (clX9 cI cJ cZ cB h0 a0 (cv2 0) (cv2 1) (cv2 2) (cv2 3) (w0 4 0) (w0 5 0) (cv2 6) (cv2 7) (cv2 8) (cv2 9) (cv2 10) (cv2 11) (cv2 12) (cv2 13) (cv2 14 0) (cv2 15 0) (cv2 16 0) (cv2 17 0) (cv2 18) (cv2 19) (cv2 20) (cv2 21 0) (cv2 22 0) (cv2 23 0) (cv2 24 0) (cv2 25 0) (cv2 26) (cv2 27) []) S hK hN hZ hA hW (rest := []) (t_X9_bad l dC dI cI cJ cZ cB zz h0 a0 c0 w0 (-2 : Int32) _ _  hy3) wl_X9_84 wv_X9_bad rfl rfl ⟨Nat.le_of_ble_eq_true rfl, Nat.le_of_ble_eq_true rfl⟩ [] [] rfl rfl rfl 0 rfl rfl rfl rfl hl.1 rfl (Nat.le_of_ble_eq_true rfl) dX9_bows_22 [.int r1] rfl (fun H locs hW => ?_)
    have f4 := Option.some.inj h
    obtain ⟨f5, f6⟩ := Prod.mk.inj f4
    subst f5
    subst f6
    exact ri S hr hlocks hW dX9_bows_25
  refine lv_iload_n S.1 S.2.1 dX9_bows_0 rfl (lv_at hl 1 rfl) ?_
  obtain ⟨r7, hy8, h⟩ := bd1_e h
  refine ks0 S hK hN hZ hA hW (rest := []) (t_X9_isCounsel l dC dI cI cJ cZ cB zz p1 _  hy8) wl_X9_88 wv_X9_isCounsel rfl rfl ⟨Nat.le_of_ble_eq_true rfl, Nat.le_of_ble_eq_true rfl⟩ [] (clX9 cI cJ cZ cB h0 a0 (c0 0) (c0 1) (c0 2) (c0 3) (w0 4 0) (w0 5 0) (c0 6) (c0 7) (c0 8) (c0 9) (c0 10) (c0 11) (c0 12) (c0 13) (c0 14 0) (c0 15 0) (c0 16 0) (c0 17 0) (c0 18) (c0 19) (c0 20) (c0 21 0) (c0 22 0) (c0 23 0) (c0 24 0) (c0 25 0) (c0 26) (c0 27) []) rfl rfl hl.1 rfl (Nat.le_of_ble_eq_true rfl) dX9_bows_1 [.int r7] rfl (fun H locs hW => ?_)
  refine lv_if_eq (tgt := 19) S.1 S.2.1 dX9_bows_4 (by decide) (fun u9 => ?_) (fun u9 => ?_)
  · have h := of_p u9 h
    exact hJ19 _ h H locs hW ls (lv_sub hl [0] rfl)
  · have h := of_n u9 h
    refine lv_iload_n S.1 S.2.1 dX9_bows_7 rfl (lv_at hl 2 rfl) ?_
    refine lv_i2l S.1 S.2.1 dX9_bows_8 rfl ?_
    refine lv_lconst (v := (0 : Int64)) S.1 S.2.1 dX9_bows_9 rfl ?_
    refine lv_ldc2 (v := (3 : Int64)) S.1 S.2.1 S.2.2.2.1 (S.2.2.2.2 _ wk_X9_91) dX9_bows_10 ?_
    obtain ⟨r10, hy11, h⟩ := bd1_e h
    refine ks0 S hK hN hZ hA hW (rest := []) (t_X9_in l dC dI cI cJ cZ cB zz p2.toInt64 (0 : Int64) (3 : Int64) _  hy11) wl_X9_74 wv_X9_in rfl rfl ⟨Nat.le_of_ble_eq_true rfl, Nat.le_of_ble_eq_true rfl⟩ [] (clX9 cI cJ cZ cB h0 a0 (c0 0) (c0 1) (c0 2) (c0 3) (w0 4 0) (w0 5 0) (c0 6) (c0 7) (c0 8) (c0 9) (c0 10) (c0 11) (c0 12) (c0 13) (c0 14 0) (c0 15 0) (c0 16 0) (c0 17 0) (c0 18) (c0 19) (c0 20) (c0 21 0) (c0 22 0) (c0 23 0) (c0 24 0) (c0 25 0) (c0 26) (c0 27) []) rfl rfl hl.1 rfl (Nat.le_of_ble_eq_true rfl) dX9_bows_13 [.int r10] rfl (fun H locs hW => ?_)
    refine lv_if_ne (tgt := 26) S.1 S.2.1 dX9_bows_16 (by decide) (fun u12 => ?_) (fun u12 => ?_)
    · have h := of_n u12 h
      refine lv_aload_n S.1 S.2.1 dX9_bows_26 rfl (lv_at hl 0 rfl) ?_
      refine gf (C := RX9) (T := TX9) (N := 28) (ci := 5) (k := 0) S hK hW wu_X9 rfl (by decide) wf_X9_7 0 rfl rfl dX9_bows_27 ?_
      refine lv_bipush (v := (12 : Int32)) S.1 S.2.1 dX9_bows_30 kb_12 ?_
      refine lv_iload_n S.1 S.2.1 dX9_bows_32 rfl (lv_at hl 1 rfl) ?_
      refine lv_iadd S.1 S.2.1 dX9_bows_33 ?_
      obtain ⟨z13, h⟩ := of_g h
      refine ia S hK hW rfl 1 rfl z13 dX9_bows_34 ?_
      obtain ⟨y14, e15, h⟩ := lt1_e h
      refine nmi e15 ?_
      refine lv_istore_n (lv' := [(3, .int y14), (0, .ref h0), (1, .int p1), (2, .int p2)]) S.1 S.2.1 dX9_bows_35 rfl hl (by decide) rfl (fun ls hl => ?_)
      refine lv_aload_n S.1 S.2.1 dX9_bows_36 rfl (lv_at hl 1 rfl) ?_
      refine gf (C := RX9) (T := TX9) (N := 28) (ci := 5) (k := 0) S hK hW wu_X9 rfl (by decide) wf_X9_7 0 rfl rfl dX9_bows_37 ?_
      refine lv_bipush (v := (12 : Int32)) S.1 S.2.1 dX9_bows_40 kb_12 ?_
      refine lv_iload_n S.1 S.2.1 dX9_bows_42 rfl (lv_at hl 2 rfl) ?_
      refine lv_iadd S.1 S.2.1 dX9_bows_43 ?_
      refine lv_iload_n S.1 S.2.1 dX9_bows_44 rfl (lv_at hl 3 rfl) ?_
      obtain ⟨z16, h⟩ := of_g h
      refine ist S hK hW rfl 1 rfl z16 dX9_bows_45 (fun H locs hW => ?_)
      have hW : wd (dC, dI) A s.heap (clX9 cI cJ cZ cB h0 a0 (upd (c0 0) (ix ((12 : Int32) + p1)) p2) (c0 1) (c0 2) (c0 3) (w0 4 0) (w0 5 0) (c0 6) (c0 7) (c0 8) (c0 9) (c0 10) (c0 11) (c0 12) (c0 13) (c0 14 0) (c0 15 0) (c0 16 0) (c0 17 0) (c0 18) (c0 19) (c0 20) (c0 21 0) (c0 22 0) (c0 23 0) (c0 24 0) (c0 25 0) (c0 26) (c0 27) []) H locs := hW
      refine lv_aload_n S.1 S.2.1 dX9_bows_46 rfl (lv_at hl 1 rfl) ?_
      refine gf (C := RX9) (T := TX9) (N := 28) (ci := 5) (k := 0) S hK hW wu_X9 rfl (by decide) wf_X9_7 0 rfl rfl dX9_bows_47 ?_
      refine lv_iconst (v := (4 : Int32)) S.1 S.2.1 dX9_bows_50 ki_4 ?_
      refine lv_iconst (v := (0 : Int32)) S.1 S.2.1 dX9_bows_51 ki_0 ?_
      refine istK S hK hW rfl 1 rfl b_4_194 x_4 dX9_bows_52 (fun H locs hW => ?_)
      have hW : wd (dC, dI) A s.heap (clX9 cI cJ cZ cB h0 a0 (upd (upd (c0 0) (ix ((12 : Int32) + p1)) p2) 4 (0 : Int32)) (c0 1) (c0 2) (c0 3) (w0 4 0) (w0 5 0) (c0 6) (c0 7) (c0 8) (c0 9) (c0 10) (c0 11) (c0 12) (c0 13) (c0 14 0) (c0 15 0) (c0 16 0) (c0 17 0) (c0 18) (c0 19) (c0 20) (c0 21 0) (c0 22 0) (c0 23 0) (c0 24 0) (c0 25 0) (c0 26) (c0 27) []) H locs := hW
      refine lv_iload_n S.1 S.2.1 dX9_bows_53 rfl (lv_at hl 0 rfl) ?_
      have f17 := Option.some.inj h
      obtain ⟨f18, f19⟩ := Prod.mk.inj f17
      subst f18
      subst f19
      exact ri S hr hlocks hW dX9_bows_54
    · have h := of_p u12 h
      exact hJ19 _ h H locs hW ls (lv_sub hl [0] rfl)
abbrev rmX9_layPoint : Room := { frames := 0, cells := 0, slots := 0, locals := 0 }
set_option maxHeartbeats 4000000 in
set_option maxRecDepth 100000 in
theorem t_X9_layPoint (l : Launch) (dC : Nat → ClassId) (dI : Nat → Nat → Nat) (cI cJ cZ cB : ClassId) (zz : ZT)  (a0 : Nat → Nat) (c0 : Nat → Nat → Int32) (p1 : Int32) (p2 : Int32) (p3 : Int32) (c0' : Nat → Nat → Int32) (hm : md_X9_layPoint c0 p1 p2 p3 = some (c0')) : ct l (dC, dI) zz (ty4 cI cJ cZ cB) yX9_layPoint cX9_layPoint 5 none rmX9_layPoint [.ref (a0 0), .int p1, .int p2, .int p3] (cwXA cI cJ cZ cB 0 a0 c0 []) (cwXA cI cJ cZ cB 0 a0 c0' []) none := by
  refine ct_of (cc := cX9_layPoint) (maxL := 5) (ret := none) (by decide) (Nat.le_of_ble_eq_true rfl) ?_
  intro p e s m below meth c A S hr hlocks hK hN hZ hA H locs hW ls hl
  have S : CallFix p m c cX9_layPoint 5 s (List.toArray [.ref (a0 0), .int p1, .int p2, .int p3]) G RX9 := S
  have hl : lv_has ls 5 [(0, .ref (a0 0)), (1, .int p1), (2, .int p2), (3, .int p3)] := hl
  have h := hm
  rw [md_X9_layPoint] at h
  have hW : wd (dC, dI) A s.heap (clXA cI cJ cZ cB 0 a0 (c0 0) []) H locs := hW
  refine lv_aload_n S.1 S.2.1 dX9_layPoint_0 rfl (lv_at hl 0 rfl) ?_
  refine lv_iconst (v := (0 : Int32)) S.1 S.2.1 dX9_layPoint_1 ki_0 ?_
  refine iaK S hK hW rfl 0 rfl b_0_194 x_0 dX9_layPoint_2 ?_
  refine lv_istore (lv' := [(4, .int ((c0 0) 0)), (0, .ref (a0 0)), (1, .int p1), (2, .int p2), (3, .int p3)]) S.1 S.2.1 dX9_layPoint_3 hl (by decide) rfl (fun ls hl => ?_)
  refine lv_aload_n S.1 S.2.1 dX9_layPoint_5 rfl (lv_at hl 1 rfl) ?_
  refine lv_bipush (v := (18 : Int32)) S.1 S.2.1 dX9_layPoint_6 kb_18 ?_
  refine lv_iload S.1 S.2.1 dX9_layPoint_8 (lv_at hl 0 rfl) ?_
  refine lv_iadd S.1 S.2.1 dX9_layPoint_10 ?_
  refine lv_iload_n S.1 S.2.1 dX9_layPoint_11 rfl (lv_at hl 2 rfl) ?_
  obtain ⟨z1, h⟩ := of_g h
  refine ist S hK hW rfl 0 rfl z1 dX9_layPoint_12 (fun H locs hW => ?_)
  have hW : wd (dC, dI) A s.heap (clXA cI cJ cZ cB 0 a0 (upd (c0 0) (ix ((18 : Int32) + ((c0 0) 0))) p1) []) H locs := hW
  refine lv_aload_n S.1 S.2.1 dX9_layPoint_13 rfl (lv_at hl 1 rfl) ?_
  refine lv_bipush (v := (24 : Int32)) S.1 S.2.1 dX9_layPoint_14 kb_24 ?_
  refine lv_iload S.1 S.2.1 dX9_layPoint_16 (lv_at hl 0 rfl) ?_
  refine lv_iadd S.1 S.2.1 dX9_layPoint_18 ?_
  refine lv_iload_n S.1 S.2.1 dX9_layPoint_19 rfl (lv_at hl 3 rfl) ?_
  obtain ⟨z2, h⟩ := of_g h
  refine ist S hK hW rfl 0 rfl z2 dX9_layPoint_20 (fun H locs hW => ?_)
  have hW : wd (dC, dI) A s.heap (clXA cI cJ cZ cB 0 a0 (upd (upd (c0 0) (ix ((18 : Int32) + ((c0 0) 0))) p1) (ix ((24 : Int32) + ((c0 0) 0))) p2) []) H locs := hW
  refine lv_aload_n S.1 S.2.1 dX9_layPoint_21 rfl (lv_at hl 1 rfl) ?_
  refine lv_bipush (v := (6 : Int32)) S.1 S.2.1 dX9_layPoint_22 kb_6 ?_
  refine lv_iload S.1 S.2.1 dX9_layPoint_24 (lv_at hl 0 rfl) ?_
  refine lv_iadd S.1 S.2.1 dX9_layPoint_26 ?_
  refine lv_iload_n S.1 S.2.1 dX9_layPoint_27 rfl (lv_at hl 4 rfl) ?_
  obtain ⟨z3, h⟩ := of_g h
  refine ist S hK hW rfl 0 rfl z3 dX9_layPoint_28 (fun H locs hW => ?_)
  have hW : wd (dC, dI) A s.heap (clXA cI cJ cZ cB 0 a0 (upd (upd (upd (c0 0) (ix ((18 : Int32) + ((c0 0) 0))) p1) (ix ((24 : Int32) + ((c0 0) 0))) p2) (ix ((6 : Int32) + ((c0 0) 0))) p3) []) H locs := hW
  refine lv_aload_n S.1 S.2.1 dX9_layPoint_29 rfl (lv_at hl 1 rfl) ?_
  refine lv_iconst (v := (0 : Int32)) S.1 S.2.1 dX9_layPoint_30 ki_0 ?_
  refine lv_dup2_11 S.1 S.2.1 dX9_layPoint_31 rfl rfl ?_
  refine iaK S hK hW rfl 0 rfl b_0_194 x_0 dX9_layPoint_32 ?_
  refine lv_iconst (v := (1 : Int32)) S.1 S.2.1 dX9_layPoint_33 ki_1 ?_
  refine lv_iadd S.1 S.2.1 dX9_layPoint_34 ?_
  obtain ⟨y4, e5, h⟩ := lt1_e h
  refine nmi e5 ?_
  refine istK S hK hW rfl 0 rfl b_0_194 x_0 dX9_layPoint_35 (fun H locs hW => ?_)
  have hW : wd (dC, dI) A s.heap (clXA cI cJ cZ cB 0 a0 (upd (upd (upd (upd (c0 0) (ix ((18 : Int32) + ((c0 0) 0))) p1) (ix ((24 : Int32) + ((c0 0) 0))) p2) (ix ((6 : Int32) + ((c0 0) 0))) p3) 0 y4) []) H locs := hW
  have f6 := Option.some.inj h
  subst f6
  exact rv S hr hlocks hW dX9_layPoint_36
abbrev rmX9_point : Room := { frames := 2, cells := 0, slots := 0, locals := 45 }
set_option maxHeartbeats 4000000 in
set_option maxRecDepth 100000 in
theorem t_X9_point (l : Launch) (dC : Nat → ClassId) (dI : Nat → Nat → Nat) (cI cJ cZ cB : ClassId) (zz : ZT)  (h0 : Nat) (a0 : Nat → Nat) (c0 : Nat → Nat → Int32) (w0 : Nat → Nat → Int64) (p1 : Int32) (p2 : Int32) (p3 : Int32) (r : Int32) (c0' : Nat → Nat → Int32) (hm : md_X9_point c0 w0 p1 p2 p3 = some (r, c0')) : ct l (dC, dI) zz (ty4 cI cJ cZ cB) yX9_point cX9_point 4 (some .int) rmX9_point [.ref h0, .int p1, .int p2, .int p3] (cwX9 cI cJ cZ cB h0 a0 c0 w0 []) (cwX9 cI cJ cZ cB h0 a0 c0' w0 []) (some (.int r)) := by
  refine ct_of (cc := cX9_point) (maxL := 4) (ret := (some .int)) (by decide) (Nat.le_of_ble_eq_true rfl) ?_
  intro p e s m below meth c A S hr hlocks hK hN hZ hA H locs hW ls hl
  have S : CallFix p m c cX9_point 4 s (List.toArray [.ref h0, .int p1, .int p2, .int p3]) G RX9 := S
  have hl : lv_has ls 4 [(0, .ref h0), (1, .int p1), (2, .int p2), (3, .int p3)] := hl
  have h := hm
  rw [md_X9_point] at h
  have hW : wd (dC, dI) A s.heap (clX9 cI cJ cZ cB h0 a0 (c0 0) (c0 1) (c0 2) (c0 3) (w0 4 0) (w0 5 0) (c0 6) (c0 7) (c0 8) (c0 9) (c0 10) (c0 11) (c0 12) (c0 13) (c0 14 0) (c0 15 0) (c0 16 0) (c0 17 0) (c0 18) (c0 19) (c0 20) (c0 21 0) (c0 22 0) (c0 23 0) (c0 24 0) (c0 25 0) (c0 26) (c0 27) []) H locs := hW
  have hJ31 : ∀ (c0 : Nat → Nat → Int32), jd_X9_point_31 w0 c0 = some (r, c0') → ∀ (H : Heap) (locs : List Loc), wd (dC, dI) A s.heap (clX9 cI cJ cZ cB h0 a0 (c0 0) (c0 1) (c0 2) (c0 3) (w0 4 0) (w0 5 0) (c0 6) (c0 7) (c0 8) (c0 9) (c0 10) (c0 11) (c0 12) (c0 13) (c0 14 0) (c0 15 0) (c0 16 0) (c0 17 0) (c0 18) (c0 19) (c0 20) (c0 21 0) (c0 22 0) (c0 23 0) (c0 24 0) (c0 25 0) (c0 26) (c0 27) []) H locs → ∀ ls : Array Slot, lv_has ls 4 [(0, .ref h0)] → W p l e rmX9_point s m (List.toArray [.ref h0, .int p1, .int p2, .int p3]) below meth c H locs 0 0 (MQ below (kQ (dC, dI) (cwX9 cI cJ cZ cB h0 a0 c0' w0 []) (some (.int r)) A) (List.toArray [.ref h0, .int p1, .int p2, .int p3]) s 0 0 A) (F0 m 31 ls []) := by
    intro c0 h H locs hW ls hl
    rw [jd_X9_point_31] at h
    refine lv_aload_n S.1 S.2.1 dX9_point_31 rfl (lv_at hl 0 rfl) ?_
    refine lv_bipush (v := (-2 : Int32)) S.1 S.2.1 dX9_point_32 kb_m2 ?_
    obtain ⟨r1, cv2, hy3, h⟩ := bd2_e h
    refine kv (clX9 cI cJ cZ cB h0 a0 (cv2 0) (cv2 1) (cv2 2) (cv2 3) (w0 4 0) (w0 5 0) (cv2 6) (cv2 7) (cv2 8) (cv2 9) (cv2 10) (cv2 11) (cv2 12) (cv2 13) (cv2 14 0) (cv2 15 0) (cv2 16 0) (cv2 17 0) (cv2 18) (cv2 19) (cv2 20) (cv2 21 0) (cv2 22 0) (cv2 23 0) (cv2 24 0) (cv2 25 0) (cv2 26) (cv2 27) []) S hK hN hZ hA hW (rest := []) (t_X9_bad l dC dI cI cJ cZ cB zz h0 a0 c0 w0 (-2 : Int32) _ _  hy3) wl_X9_84 wv_X9_bad rfl rfl ⟨Nat.le_of_ble_eq_true rfl, Nat.le_of_ble_eq_true rfl⟩ [] [] rfl rfl rfl 0 rfl rfl rfl rfl hl.1 rfl (Nat.le_of_ble_eq_true rfl) dX9_point_34 [.int r1] rfl (fun H locs hW => ?_)
    have f4 := Option.some.inj h
    obtain ⟨f5, f6⟩ := Prod.mk.inj f4
    subst f5
    subst f6
    exact ri S hr hlocks hW dX9_point_37
  refine lv_iload_n S.1 S.2.1 dX9_point_0 rfl (lv_at hl 1 rfl) ?_
  obtain ⟨r7, hy8, h⟩ := bd1_e h
  refine ks0 S hK hN hZ hA hW (rest := []) (t_X9_isKind l dC dI cI cJ cZ cB zz p1 _  hy8) wl_X9_80 wv_X9_isKind rfl rfl ⟨Nat.le_of_ble_eq_true rfl, Nat.le_of_ble_eq_true rfl⟩ [] (clX9 cI cJ cZ cB h0 a0 (c0 0) (c0 1) (c0 2) (c0 3) (w0 4 0) (w0 5 0) (c0 6) (c0 7) (c0 8) (c0 9) (c0 10) (c0 11) (c0 12) (c0 13) (c0 14 0) (c0 15 0) (c0 16 0) (c0 17 0) (c0 18) (c0 19) (c0 20) (c0 21 0) (c0 22 0) (c0 23 0) (c0 24 0) (c0 25 0) (c0 26) (c0 27) []) rfl rfl hl.1 rfl (Nat.le_of_ble_eq_true rfl) dX9_point_1 [.int r7] rfl (fun H locs hW => ?_)
  refine lv_if_eq (tgt := 31) S.1 S.2.1 dX9_point_4 (by decide) (fun u9 => ?_) (fun u9 => ?_)
  · have h := of_p u9 h
    exact hJ31 _ h H locs hW ls (lv_sub hl [0] rfl)
  · have h := of_n u9 h
    refine lv_iload_n S.1 S.2.1 dX9_point_7 rfl (lv_at hl 2 rfl) ?_
    refine lv_i2l S.1 S.2.1 dX9_point_8 rfl ?_
    refine lv_lconst (v := (1 : Int64)) S.1 S.2.1 dX9_point_9 rfl ?_
    refine lv_ldc2 (v := (9 : Int64)) S.1 S.2.1 S.2.2.2.1 (S.2.2.2.2 _ wk_X9_93) dX9_point_10 ?_
    obtain ⟨r10, hy11, h⟩ := bd1_e h
    refine ks0 S hK hN hZ hA hW (rest := []) (t_X9_in l dC dI cI cJ cZ cB zz p2.toInt64 (1 : Int64) (9 : Int64) _  hy11) wl_X9_74 wv_X9_in rfl rfl ⟨Nat.le_of_ble_eq_true rfl, Nat.le_of_ble_eq_true rfl⟩ [] (clX9 cI cJ cZ cB h0 a0 (c0 0) (c0 1) (c0 2) (c0 3) (w0 4 0) (w0 5 0) (c0 6) (c0 7) (c0 8) (c0 9) (c0 10) (c0 11) (c0 12) (c0 13) (c0 14 0) (c0 15 0) (c0 16 0) (c0 17 0) (c0 18) (c0 19) (c0 20) (c0 21 0) (c0 22 0) (c0 23 0) (c0 24 0) (c0 25 0) (c0 26) (c0 27) []) rfl rfl hl.1 rfl (Nat.le_of_ble_eq_true rfl) dX9_point_13 [.int r10] rfl (fun H locs hW => ?_)
    refine lv_if_eq (tgt := 31) S.1 S.2.1 dX9_point_16 (by decide) (fun u12 => ?_) (fun u12 => ?_)
    · have h := of_p u12 h
      exact hJ31 _ h H locs hW ls (lv_sub hl [0] rfl)
    · have h := of_n u12 h
      refine lv_iload_n S.1 S.2.1 dX9_point_19 rfl (lv_at hl 3 rfl) ?_
      refine lv_i2l S.1 S.2.1 dX9_point_20 rfl ?_
      refine lv_lconst (v := (0 : Int64)) S.1 S.2.1 dX9_point_21 rfl ?_
      refine lv_ldc2 (v := (3 : Int64)) S.1 S.2.1 S.2.2.2.1 (S.2.2.2.2 _ wk_X9_91) dX9_point_22 ?_
      obtain ⟨r13, hy14, h⟩ := bd1_e h
      refine ks0 S hK hN hZ hA hW (rest := []) (t_X9_in l dC dI cI cJ cZ cB zz p3.toInt64 (0 : Int64) (3 : Int64) _  hy14) wl_X9_74 wv_X9_in rfl rfl ⟨Nat.le_of_ble_eq_true rfl, Nat.le_of_ble_eq_true rfl⟩ [] (clX9 cI cJ cZ cB h0 a0 (c0 0) (c0 1) (c0 2) (c0 3) (w0 4 0) (w0 5 0) (c0 6) (c0 7) (c0 8) (c0 9) (c0 10) (c0 11) (c0 12) (c0 13) (c0 14 0) (c0 15 0) (c0 16 0) (c0 17 0) (c0 18) (c0 19) (c0 20) (c0 21 0) (c0 22 0) (c0 23 0) (c0 24 0) (c0 25 0) (c0 26) (c0 27) []) rfl rfl hl.1 rfl (Nat.le_of_ble_eq_true rfl) dX9_point_25 [.int r13] rfl (fun H locs hW => ?_)
      refine lv_if_ne (tgt := 38) S.1 S.2.1 dX9_point_28 (by decide) (fun u15 => ?_) (fun u15 => ?_)
      · have h := of_n u15 h
        refine lv_aload_n S.1 S.2.1 dX9_point_38 rfl (lv_at hl 0 rfl) ?_
        obtain ⟨r16, hy17, h⟩ := bd1_e h
        refine kv0 S hK hN hZ hA hW (rest := []) (t_X9_many l dC dI cI cJ cZ cB zz h0 a0 c0 w0 _  hy17) wl_X9_70 wv_X9_many rfl rfl ⟨Nat.le_of_ble_eq_true rfl, Nat.le_of_ble_eq_true rfl⟩ [] [] rfl 0 rfl rfl rfl rfl hl.1 rfl (Nat.le_of_ble_eq_true rfl) dX9_point_39 [.int r16] rfl (fun H locs hW => ?_)
        refine lv_bipush (v := (6 : Int32)) S.1 S.2.1 dX9_point_42 kb_6 ?_
        refine lv_icmp_ne (tgt := 52) S.1 S.2.1 dX9_point_44 (by decide) (fun u18 => ?_) (fun u18 => ?_)
        · have h := of_n u18 h
          refine lv_aload_n S.1 S.2.1 dX9_point_52 rfl (lv_at hl 0 rfl) ?_
          refine gf (C := RX9) (T := TX9) (N := 28) (ci := 5) (k := 0) S hK hW wu_X9 rfl (by decide) wf_X9_7 0 rfl rfl dX9_point_53 ?_
          refine lv_iload_n S.1 S.2.1 dX9_point_56 rfl (lv_at hl 1 rfl) ?_
          refine lv_iload_n S.1 S.2.1 dX9_point_57 rfl (lv_at hl 2 rfl) ?_
          refine lv_iload_n S.1 S.2.1 dX9_point_58 rfl (lv_at hl 3 rfl) ?_
          obtain ⟨cv19, hy20, h⟩ := bd1_e h
          refine ks (clX9 cI cJ cZ cB h0 a0 (cv19 0) (c0 1) (c0 2) (c0 3) (w0 4 0) (w0 5 0) (c0 6) (c0 7) (c0 8) (c0 9) (c0 10) (c0 11) (c0 12) (c0 13) (c0 14 0) (c0 15 0) (c0 16 0) (c0 17 0) (c0 18) (c0 19) (c0 20) (c0 21 0) (c0 22 0) (c0 23 0) (c0 24 0) (c0 25 0) (c0 26) (c0 27) []) S hK hN hZ hA hW (rest := []) (t_X9_layPoint l dC dI cI cJ cZ cB zz (fun _ => a0 0) (fun _ => (c0 0)) p1 p2 p3 _  hy20) wl_X9_98 wv_X9_layPoint rfl rfl ⟨Nat.le_of_ble_eq_true rfl, Nat.le_of_ble_eq_true rfl⟩ [(h0, .inr (5, [.ref (a0 0), .ref (a0 1), .ref (a0 2), .ref (a0 3), .long (w0 4 0), .long (w0 5 0), .ref (a0 6), .ref (a0 7), .ref (a0 8), .ref (a0 9), .ref (a0 10), .ref (a0 11), .ref (a0 12), .ref (a0 13), .int (c0 14 0), .int (c0 15 0), .int (c0 16 0), .int (c0 17 0), .ref (a0 18), .ref (a0 19), .ref (a0 20), .int (c0 21 0), .int (c0 22 0), .int (c0 23 0), .int (c0 24 0), .int (c0 25 0), .ref (a0 26), .ref (a0 27)]))] [(a0 1, .inl (cI, 388, .inl (c0 1))), (a0 2, .inl (cZ, 2, .inl (c0 2))), (a0 3, .inl (cI, 3, .inl (c0 3))), (a0 6, .inl (cI, 14, .inl (c0 6))), (a0 7, .inl (cI, 14, .inl (c0 7))), (a0 8, .inl (cI, 14, .inl (c0 8))), (a0 9, .inl (cI, 14, .inl (c0 9))), (a0 10, .inl (cI, 28, .inl (c0 10))), (a0 11, .inl (cI, 14, .inl (c0 11))), (a0 12, .inl (cI, 14, .inl (c0 12))), (a0 13, .inl (cI, 14, .inl (c0 13))), (a0 18, .inl (cI, 2, .inl (c0 18))), (a0 19, .inl (cI, 6, .inl (c0 19))), (a0 20, .inl (cI, 150, .inl (c0 20))), (a0 26, .inl (cI, 90, .inl (c0 26))), (a0 27, .inl (cI, 3, .inl (c0 27)))] rfl rfl rfl rfl hl.1 rfl (Nat.le_of_ble_eq_true rfl) dX9_point_59 [] rfl (fun H locs hW => ?_)
          refine lv_aload_n S.1 S.2.1 dX9_point_62 rfl (lv_at hl 0 rfl) ?_
          refine gf (C := RX9) (T := TX9) (N := 28) (ci := 5) (k := 0) S hK hW wu_X9 rfl (by decide) wf_X9_7 0 rfl rfl dX9_point_63 ?_
          refine lv_iconst (v := (4 : Int32)) S.1 S.2.1 dX9_point_66 ki_4 ?_
          refine lv_iconst (v := (0 : Int32)) S.1 S.2.1 dX9_point_67 ki_0 ?_
          refine istK S hK hW rfl 1 rfl b_4_194 x_4 dX9_point_68 (fun H locs hW => ?_)
          have hW : wd (dC, dI) A s.heap (clX9 cI cJ cZ cB h0 a0 (upd (cv19 0) 4 (0 : Int32)) (c0 1) (c0 2) (c0 3) (w0 4 0) (w0 5 0) (c0 6) (c0 7) (c0 8) (c0 9) (c0 10) (c0 11) (c0 12) (c0 13) (c0 14 0) (c0 15 0) (c0 16 0) (c0 17 0) (c0 18) (c0 19) (c0 20) (c0 21 0) (c0 22 0) (c0 23 0) (c0 24 0) (c0 25 0) (c0 26) (c0 27) []) H locs := hW
          refine lv_aload_n S.1 S.2.1 dX9_point_69 rfl (lv_at hl 0 rfl) ?_
          obtain ⟨r21, hy22, h⟩ := bd1_e h
          refine kv0 S hK hN hZ hA hW (rest := []) (t_X9_many l dC dI cI cJ cZ cB zz h0 a0 (rs c0 0 (upd (cv19 0) 4 (0 : Int32))) w0 _  hy22) wl_X9_70 wv_X9_many rfl rfl ⟨Nat.le_of_ble_eq_true rfl, Nat.le_of_ble_eq_true rfl⟩ [] [] rfl 0 rfl rfl rfl rfl hl.1 rfl (Nat.le_of_ble_eq_true rfl) dX9_point_70 [.int r21] rfl (fun H locs hW => ?_)
          refine lv_iconst (v := (1 : Int32)) S.1 S.2.1 dX9_point_73 ki_1 ?_
          refine lv_isub S.1 S.2.1 dX9_point_74 ?_
          have f23 := Option.some.inj h
          obtain ⟨f24, f25⟩ := Prod.mk.inj f23
          subst f24
          subst f25
          exact ri S hr hlocks hW dX9_point_75
        · have h := of_p u18 h
          refine lv_aload_n S.1 S.2.1 dX9_point_47 rfl (lv_at hl 0 rfl) ?_
          obtain ⟨r26, cv27, hy28, h⟩ := bd2_e h
          refine kv (clX9 cI cJ cZ cB h0 a0 (cv27 0) (cv27 1) (cv27 2) (cv27 3) (w0 4 0) (w0 5 0) (cv27 6) (cv27 7) (cv27 8) (cv27 9) (cv27 10) (cv27 11) (cv27 12) (cv27 13) (cv27 14 0) (cv27 15 0) (cv27 16 0) (cv27 17 0) (cv27 18) (cv27 19) (cv27 20) (cv27 21 0) (cv27 22 0) (cv27 23 0) (cv27 24 0) (cv27 25 0) (cv27 26) (cv27 27) []) S hK hN hZ hA hW (rest := []) (t_X9_full l dC dI cI cJ cZ cB zz h0 a0 c0 w0 _ _  hy28) wl_X9_95 wv_X9_full rfl rfl ⟨Nat.le_of_ble_eq_true rfl, Nat.le_of_ble_eq_true rfl⟩ [] [] rfl rfl rfl 0 rfl rfl rfl rfl hl.1 rfl (Nat.le_of_ble_eq_true rfl) dX9_point_48 [.int r26] rfl (fun H locs hW => ?_)
          have f29 := Option.some.inj h
          obtain ⟨f30, f31⟩ := Prod.mk.inj f29
          subst f30
          subst f31
          exact ri S hr hlocks hW dX9_point_51
      · have h := of_p u15 h
        exact hJ31 _ h H locs hW ls (lv_sub hl [0] rfl)
abbrev rmX9_movesAs : Room := { frames := 0, cells := 0, slots := 0, locals := 0 }
set_option maxHeartbeats 4000000 in
set_option maxRecDepth 100000 in
theorem t_X9_movesAs (l : Launch) (dC : Nat → ClassId) (dI : Nat → Nat → Nat) (cI cJ cZ cB : ClassId) (zz : ZT)   (p0 : Int32) (p1 : Int32) (p2 : Int32) (p3 : Int32) (r : Int32) (hm : md_X9_movesAs p0 p1 p2 p3 = some (r)) : ct l (dC, dI) zz (ty4 cI cJ cZ cB) yX9_movesAs cX9_movesAs 6 (some .int) rmX9_movesAs [.int p0, .int p1, .int p2, .int p3] [] [] (some (.int r)) := by
  refine ct_of (cc := cX9_movesAs) (maxL := 6) (ret := (some .int)) (by decide) (Nat.le_of_ble_eq_true rfl) ?_
  intro p e s m below meth c A S hr hlocks hK hN hZ hA H locs hW ls hl
  have S : CallFix p m c cX9_movesAs 6 s (List.toArray [.int p0, .int p1, .int p2, .int p3]) G RX9 := S
  have hl : lv_has ls 6 [(0, .int p0), (1, .int p1), (2, .int p2), (3, .int p3)] := hl
  have h := hm
  rw [md_X9_movesAs] at h
  have hW : wd (dC, dI) A s.heap [] H locs := hW
  refine lv_iload_n S.1 S.2.1 dX9_movesAs_0 rfl (lv_at hl 1 rfl) ?_
  refine lv_iconst (v := (1 : Int32)) S.1 S.2.1 dX9_movesAs_1 ki_1 ?_
  refine lv_iadd S.1 S.2.1 dX9_movesAs_2 ?_
  refine lv_iconst (v := (2 : Int32)) S.1 S.2.1 dX9_movesAs_3 ki_2 ?_
  refine lv_idiv S.1 S.2.1 dX9_movesAs_4 (by decide) ?_
  obtain ⟨y1, e2, h⟩ := lt1_e h
  refine nmi e2 ?_
  refine lv_istore (lv' := [(4, .int y1), (0, .int p0), (1, .int p1), (2, .int p2), (3, .int p3)]) S.1 S.2.1 dX9_movesAs_5 hl (by decide) rfl (fun ls hl => ?_)
  refine lv_iload_n S.1 S.2.1 dX9_movesAs_7 rfl (lv_at hl 3 rfl) ?_
  obtain ⟨y3, e4, h⟩ := lt1_e h
  suffices hM5 : ∀ ls : Array Slot, lv_has ls 6 [(0, .int p0), (1, .int p1), (3, .int p3), (4, .int y1)] → W p l e rmX9_movesAs s m (List.toArray [.int p0, .int p1, .int p2, .int p3]) below meth c H locs 0 0 (MQ below (kQ (dC, dI) [] (some (.int r)) A) (List.toArray [.int p0, .int p1, .int p2, .int p3]) s 0 0 A) (F0 m 18 ls [.int y3]) by
    refine lv_if_ge (tgt := 17) S.1 S.2.1 dX9_movesAs_8 (by decide) (fun u6 => ?_) (fun u6 => ?_)
    · refine lv_iload_n S.1 S.2.1 dX9_movesAs_17 rfl (lv_at hl 2 rfl) ?_
      have e4 := e4.trans (if_pos u6)
      subst e4
      exact hM5 ls (lv_sub hl [1, 2, 4, 0] rfl)
    · refine lv_iconst (v := (2 : Int32)) S.1 S.2.1 dX9_movesAs_11 ki_2 ?_
      refine lv_iload_n S.1 S.2.1 dX9_movesAs_12 rfl (lv_at hl 2 rfl) ?_
      refine lv_imul S.1 S.2.1 dX9_movesAs_13 ?_
      refine lv_goto (tgt := 18) S.1 S.2.1 dX9_movesAs_14 (by decide) ?_
      have e4 := e4.trans (if_neg u6)
      subst e4
      exact hM5 ls (lv_sub hl [1, 2, 4, 0] rfl)
  intro ls hl
  refine lv_istore (lv' := [(5, .int y3), (0, .int p0), (1, .int p1), (3, .int p3), (4, .int y1)]) S.1 S.2.1 dX9_movesAs_18 hl (by decide) rfl (fun ls hl => ?_)
  refine lv_iload_n S.1 S.2.1 dX9_movesAs_20 rfl (lv_at hl 1 rfl) ?_
  by_cases u7 : p0 = (1 : Int32)
  · have h := of_p u7 h
    refine lv_tableIn (off := 35) (tgt := 56) S.1 S.2.1 dX9_movesAs_21 (by rw [u7]; decide) (by rw [u7]; decide) (by rw [u7]; decide +kernel) (by decide) ?_
    refine lv_iload S.1 S.2.1 dX9_movesAs_56 (lv_at hl 4 rfl) ?_
    have f8 := Option.some.inj h
    subst f8
    exact ri S hr hlocks hW dX9_movesAs_58
  · have h := of_n u7 h
    by_cases u9 : p0 = (2 : Int32)
    · have h := of_p u9 h
      refine lv_tableIn (off := 38) (tgt := 59) S.1 S.2.1 dX9_movesAs_21 (by rw [u9]; decide) (by rw [u9]; decide) (by rw [u9]; decide +kernel) (by decide) ?_
      refine lv_iload S.1 S.2.1 dX9_movesAs_59 (lv_at hl 0 rfl) ?_
      have f10 := Option.some.inj h
      subst f10
      exact ri S hr hlocks hW dX9_movesAs_61
    · have h := of_n u9 h
      by_cases u11 : p0 = (3 : Int32)
      · have h := of_p u11 h
        refine lv_tableIn (off := 41) (tgt := 62) S.1 S.2.1 dX9_movesAs_21 (by rw [u11]; decide) (by rw [u11]; decide) (by rw [u11]; decide +kernel) (by decide) ?_
        refine lv_iload S.1 S.2.1 dX9_movesAs_62 (lv_at hl 4 rfl) ?_
        refine lv_iload_n S.1 S.2.1 dX9_movesAs_64 rfl (lv_at hl 3 rfl) ?_
        refine lv_iadd S.1 S.2.1 dX9_movesAs_65 ?_
        have f12 := Option.some.inj h
        subst f12
        exact ri S hr hlocks hW dX9_movesAs_66
      · have h := of_n u11 h
        by_cases u13 : p0 = (4 : Int32)
        · have h := of_p u13 h
          refine lv_tableIn (off := 46) (tgt := 67) S.1 S.2.1 dX9_movesAs_21 (by rw [u13]; decide) (by rw [u13]; decide) (by rw [u13]; decide +kernel) (by decide) ?_
          refine lv_iload S.1 S.2.1 dX9_movesAs_67 (lv_at hl 0 rfl) ?_
          refine lv_iconst (v := (2 : Int32)) S.1 S.2.1 dX9_movesAs_69 ki_2 ?_
          refine lv_iadd S.1 S.2.1 dX9_movesAs_70 ?_
          have f14 := Option.some.inj h
          subst f14
          exact ri S hr hlocks hW dX9_movesAs_71
        · have h := of_n u13 h
          by_cases u15 : p0 = (5 : Int32)
          · have h := of_p u15 h
            refine lv_tableIn (off := 51) (tgt := 72) S.1 S.2.1 dX9_movesAs_21 (by rw [u15]; decide) (by rw [u15]; decide) (by rw [u15]; decide +kernel) (by decide) ?_
            refine lv_iload_n S.1 S.2.1 dX9_movesAs_72 rfl (lv_at hl 3 rfl) ?_
            refine lv_iconst (v := (2 : Int32)) S.1 S.2.1 dX9_movesAs_73 ki_2 ?_
            refine lv_irem S.1 S.2.1 dX9_movesAs_74 (by decide) ?_
            refine lv_iconst (v := (1 : Int32)) S.1 S.2.1 dX9_movesAs_75 ki_1 ?_
            obtain ⟨y16, e17, h⟩ := lt1_e h
            suffices hM18 : ∀ ls : Array Slot, lv_has ls 6 [] → W p l e rmX9_movesAs s m (List.toArray [.int p0, .int p1, .int p2, .int p3]) below meth c H locs 0 0 (MQ below (kQ (dC, dI) [] (some (.int r)) A) (List.toArray [.int p0, .int p1, .int p2, .int p3]) s 0 0 A) (F0 m 84 ls [.int y16]) by
              refine lv_icmp_ne (tgt := 83) S.1 S.2.1 dX9_movesAs_76 (by decide) (fun u19 => ?_) (fun u19 => ?_)
              · refine lv_iload_n S.1 S.2.1 dX9_movesAs_83 rfl (lv_at hl 2 rfl) ?_
                have e17 := e17.trans (if_neg u19)
                subst e17
                exact hM18 ls (lv_sub hl [] rfl)
              · refine lv_iconst (v := (0 : Int32)) S.1 S.2.1 dX9_movesAs_79 ki_0 ?_
                refine lv_goto (tgt := 84) S.1 S.2.1 dX9_movesAs_80 (by decide) ?_
                have e17 := e17.trans (if_pos u19)
                subst e17
                exact hM18 ls (lv_sub hl [] rfl)
            intro ls hl
            have f20 := Option.some.inj h
            subst f20
            exact ri S hr hlocks hW dX9_movesAs_84
          · have h := of_n u15 h
            refine lv_tableOut (tgt := 85) S.1 S.2.1 dX9_movesAs_21 (by have z0 := lv_neT u7 (a := 1) (by decide); have z1 := lv_neT u9 (a := 2) (by decide); have z2 := lv_neT u11 (a := 3) (by decide); have z3 := lv_neT u13 (a := 4) (by decide); have z4 := lv_neT u15 (a := 5) (by decide); omega) (by decide) ?_
            refine lv_iload_n S.1 S.2.1 dX9_movesAs_85 rfl (lv_at hl 2 rfl) ?_
            have f21 := Option.some.inj h
            subst f21
            exact ri S hr hlocks hW dX9_movesAs_86
abbrev rmX9_countsAs : Room := { frames := 0, cells := 0, slots := 0, locals := 0 }
set_option maxHeartbeats 4000000 in
set_option maxRecDepth 100000 in
theorem t_X9_countsAs (l : Launch) (dC : Nat → ClassId) (dI : Nat → Nat → Nat) (cI cJ cZ cB : ClassId) (zz : ZT)   (p0 : Int32) (p1 : Int32) (p2 : Int32) (r : Int32) (hm : md_X9_countsAs p0 p1 p2 = some (r)) : ct l (dC, dI) zz (ty4 cI cJ cZ cB) yX9_countsAs cX9_countsAs 4 (some .int) rmX9_countsAs [.int p0, .int p1, .int p2] [] [] (some (.int r)) := by
  refine ct_of (cc := cX9_countsAs) (maxL := 4) (ret := (some .int)) (by decide) (Nat.le_of_ble_eq_true rfl) ?_
  intro p e s m below meth c A S hr hlocks hK hN hZ hA H locs hW ls hl
  have S : CallFix p m c cX9_countsAs 4 s (List.toArray [.int p0, .int p1, .int p2]) G RX9 := S
  have hl : lv_has ls 4 [(0, .int p0), (1, .int p1), (2, .int p2)] := hl
  have h := hm
  rw [md_X9_countsAs] at h
  have hW : wd (dC, dI) A s.heap [] H locs := hW
  refine lv_iload_n S.1 S.2.1 dX9_countsAs_0 rfl (lv_at hl 1 rfl) ?_
  refine lv_iconst (v := (1 : Int32)) S.1 S.2.1 dX9_countsAs_1 ki_1 ?_
  obtain ⟨y1, e2, h⟩ := lt1_e h
  suffices hM3 : ∀ ls : Array Slot, lv_has ls 4 [(0, .int p0), (1, .int p1), (2, .int p2)] → W p l e rmX9_countsAs s m (List.toArray [.int p0, .int p1, .int p2]) below meth c H locs 0 0 (MQ below (kQ (dC, dI) [] (some (.int r)) A) (List.toArray [.int p0, .int p1, .int p2]) s 0 0 A) (F0 m 12 ls [.int y1]) by
    refine lv_icmp_le (tgt := 11) S.1 S.2.1 dX9_countsAs_2 (by decide) (fun u4 => ?_) (fun u4 => ?_)
    · refine lv_iconst (v := (0 : Int32)) S.1 S.2.1 dX9_countsAs_11 ki_0 ?_
      have e2 := e2.trans (if_pos u4)
      subst e2
      exact hM3 ls (lv_sub hl [0, 1, 2] rfl)
    · refine lv_iload_n S.1 S.2.1 dX9_countsAs_5 rfl (lv_at hl 1 rfl) ?_
      refine lv_iconst (v := (1 : Int32)) S.1 S.2.1 dX9_countsAs_6 ki_1 ?_
      refine lv_isub S.1 S.2.1 dX9_countsAs_7 ?_
      refine lv_goto (tgt := 12) S.1 S.2.1 dX9_countsAs_8 (by decide) ?_
      have e2 := e2.trans (if_neg u4)
      subst e2
      exact hM3 ls (lv_sub hl [0, 1, 2] rfl)
  intro ls hl
  refine lv_istore_n (lv' := [(3, .int y1), (0, .int p0), (1, .int p1), (2, .int p2)]) S.1 S.2.1 dX9_countsAs_12 rfl hl (by decide) rfl (fun ls hl => ?_)
  refine lv_iload_n S.1 S.2.1 dX9_countsAs_13 rfl (lv_at hl 1 rfl) ?_
  by_cases u5 : p0 = (1 : Int32)
  · have h := of_p u5 h
    refine lv_tableIn (off := 34) (tgt := 48) S.1 S.2.1 dX9_countsAs_14 (by rw [u5]; decide) (by rw [u5]; decide) (by rw [u5]; decide +kernel) (by decide) ?_
    refine lv_iload_n S.1 S.2.1 dX9_countsAs_48 rfl (lv_at hl 2 rfl) ?_
    refine lv_iconst (v := (2 : Int32)) S.1 S.2.1 dX9_countsAs_49 ki_2 ?_
    refine lv_iadd S.1 S.2.1 dX9_countsAs_50 ?_
    have f6 := Option.some.inj h
    subst f6
    exact ri S hr hlocks hW dX9_countsAs_51
  · have h := of_n u5 h
    by_cases u7 : p0 = (2 : Int32)
    · have h := of_p u7 h
      refine lv_tableIn (off := 38) (tgt := 52) S.1 S.2.1 dX9_countsAs_14 (by rw [u7]; decide) (by rw [u7]; decide) (by rw [u7]; decide +kernel) (by decide) ?_
      refine lv_iload_n S.1 S.2.1 dX9_countsAs_52 rfl (lv_at hl 0 rfl) ?_
      have f8 := Option.some.inj h
      subst f8
      exact ri S hr hlocks hW dX9_countsAs_53
    · have h := of_n u7 h
      by_cases u9 : p0 = (3 : Int32)
      · have h := of_p u9 h
        refine lv_tableIn (off := 40) (tgt := 54) S.1 S.2.1 dX9_countsAs_14 (by rw [u9]; decide) (by rw [u9]; decide) (by rw [u9]; decide +kernel) (by decide) ?_
        refine lv_iload_n S.1 S.2.1 dX9_countsAs_54 rfl (lv_at hl 3 rfl) ?_
        obtain ⟨y10, e11, h⟩ := lt1_e h
        suffices hM12 : ∀ ls : Array Slot, lv_has ls 4 [] → W p l e rmX9_countsAs s m (List.toArray [.int p0, .int p1, .int p2]) below meth c H locs 0 0 (MQ below (kQ (dC, dI) [] (some (.int r)) A) (List.toArray [.int p0, .int p1, .int p2]) s 0 0 A) (F0 m 68 ls [.int y10]) by
          refine lv_if_ne (tgt := 64) S.1 S.2.1 dX9_countsAs_55 (by decide) (fun u13 => ?_) (fun u13 => ?_)
          · refine lv_iload_n S.1 S.2.1 dX9_countsAs_64 rfl (lv_at hl 2 rfl) ?_
            refine lv_ineg S.1 S.2.1 dX9_countsAs_65 ?_
            refine lv_iconst (v := (2 : Int32)) S.1 S.2.1 dX9_countsAs_66 ki_2 ?_
            refine lv_isub S.1 S.2.1 dX9_countsAs_67 ?_
            have e11 := e11.trans (if_neg u13)
            subst e11
            exact hM12 ls (lv_sub hl [] rfl)
          · refine lv_iload_n S.1 S.2.1 dX9_countsAs_58 rfl (lv_at hl 2 rfl) ?_
            refine lv_iconst (v := (2 : Int32)) S.1 S.2.1 dX9_countsAs_59 ki_2 ?_
            refine lv_iadd S.1 S.2.1 dX9_countsAs_60 ?_
            refine lv_goto (tgt := 68) S.1 S.2.1 dX9_countsAs_61 (by decide) ?_
            have e11 := e11.trans (if_pos u13)
            subst e11
            exact hM12 ls (lv_sub hl [] rfl)
        intro ls hl
        have f14 := Option.some.inj h
        subst f14
        exact ri S hr hlocks hW dX9_countsAs_68
      · have h := of_n u9 h
        by_cases u15 : p0 = (4 : Int32)
        · have h := of_p u15 h
          refine lv_tableIn (off := 55) (tgt := 69) S.1 S.2.1 dX9_countsAs_14 (by rw [u15]; decide) (by rw [u15]; decide) (by rw [u15]; decide +kernel) (by decide) ?_
          refine lv_iload_n S.1 S.2.1 dX9_countsAs_69 rfl (lv_at hl 2 rfl) ?_
          refine lv_iconst (v := (2 : Int32)) S.1 S.2.1 dX9_countsAs_70 ki_2 ?_
          refine lv_irem S.1 S.2.1 dX9_countsAs_71 (by decide) ?_
          obtain ⟨y16, e17, h⟩ := lt1_e h
          suffices hM18 : ∀ ls : Array Slot, lv_has ls 4 [] → W p l e rmX9_countsAs s m (List.toArray [.int p0, .int p1, .int p2]) below meth c H locs 0 0 (MQ below (kQ (dC, dI) [] (some (.int r)) A) (List.toArray [.int p0, .int p1, .int p2]) s 0 0 A) (F0 m 82 ls [.int y16]) by
            refine lv_if_ne (tgt := 81) S.1 S.2.1 dX9_countsAs_72 (by decide) (fun u19 => ?_) (fun u19 => ?_)
            · refine lv_iload_n S.1 S.2.1 dX9_countsAs_81 rfl (lv_at hl 0 rfl) ?_
              have e17 := e17.trans (if_neg u19)
              subst e17
              exact hM18 ls (lv_sub hl [] rfl)
            · refine lv_iload_n S.1 S.2.1 dX9_countsAs_75 rfl (lv_at hl 0 rfl) ?_
              refine lv_iconst (v := (3 : Int32)) S.1 S.2.1 dX9_countsAs_76 ki_3 ?_
              refine lv_iadd S.1 S.2.1 dX9_countsAs_77 ?_
              refine lv_goto (tgt := 82) S.1 S.2.1 dX9_countsAs_78 (by decide) ?_
              have e17 := e17.trans (if_pos u19)
              subst e17
              exact hM18 ls (lv_sub hl [] rfl)
          intro ls hl
          have f20 := Option.some.inj h
          subst f20
          exact ri S hr hlocks hW dX9_countsAs_82
        · have h := of_n u15 h
          by_cases u21 : p0 = (5 : Int32)
          · have h := of_p u21 h
            refine lv_tableIn (off := 69) (tgt := 83) S.1 S.2.1 dX9_countsAs_14 (by rw [u21]; decide) (by rw [u21]; decide) (by rw [u21]; decide +kernel) (by decide) ?_
            refine lv_iload_n S.1 S.2.1 dX9_countsAs_83 rfl (lv_at hl 2 rfl) ?_
            refine lv_iconst (v := (2 : Int32)) S.1 S.2.1 dX9_countsAs_84 ki_2 ?_
            refine lv_iadd S.1 S.2.1 dX9_countsAs_85 ?_
            refine lv_iconst (v := (2 : Int32)) S.1 S.2.1 dX9_countsAs_86 ki_2 ?_
            refine lv_idiv S.1 S.2.1 dX9_countsAs_87 (by decide) ?_
            have f22 := Option.some.inj h
            subst f22
            exact ri S hr hlocks hW dX9_countsAs_88
          · have h := of_n u21 h
            refine lv_tableOut (tgt := 89) S.1 S.2.1 dX9_countsAs_14 (by have z0 := lv_neT u5 (a := 1) (by decide); have z1 := lv_neT u7 (a := 2) (by decide); have z2 := lv_neT u9 (a := 3) (by decide); have z3 := lv_neT u15 (a := 4) (by decide); have z4 := lv_neT u21 (a := 5) (by decide); omega) (by decide) ?_
            refine lv_iload_n S.1 S.2.1 dX9_countsAs_89 rfl (lv_at hl 2 rfl) ?_
            have f23 := Option.some.inj h
            subst f23
            exact ri S hr hlocks hW dX9_countsAs_90
abbrev rmX9_chairOf : Room := { frames := 0, cells := 0, slots := 0, locals := 0 }
set_option maxHeartbeats 4000000 in
set_option maxRecDepth 100000 in
theorem t_X9_chairOf (l : Launch) (dC : Nat → ClassId) (dI : Nat → Nat → Nat) (cI cJ cZ cB : ClassId) (zz : ZT)   (p0 : Int32) (p1 : Int32) (r : Int32) (hm : md_X9_chairOf p0 p1 = some (r)) : ct l (dC, dI) zz (ty4 cI cJ cZ cB) yX9_chairOf cX9_chairOf 2 (some .int) rmX9_chairOf [.int p0, .int p1] [] [] (some (.int r)) := by
  refine ct_of (cc := cX9_chairOf) (maxL := 2) (ret := (some .int)) (by decide) (Nat.le_of_ble_eq_true rfl) ?_
  intro p e s m below meth c A S hr hlocks hK hN hZ hA H locs hW ls hl
  have S : CallFix p m c cX9_chairOf 2 s (List.toArray [.int p0, .int p1]) G RX9 := S
  have hl : lv_has ls 2 [(0, .int p0), (1, .int p1)] := hl
  have h := hm
  rw [md_X9_chairOf] at h
  have hW : wd (dC, dI) A s.heap [] H locs := hW
  refine lv_iload_n S.1 S.2.1 dX9_chairOf_0 rfl (lv_at hl 0 rfl) ?_
  refine lv_iload_n S.1 S.2.1 dX9_chairOf_1 rfl (lv_at hl 1 rfl) ?_
  obtain ⟨y1, e2, h⟩ := lt1_e h
  suffices hM3 : ∀ ls : Array Slot, lv_has ls 2 [] → W p l e rmX9_chairOf s m (List.toArray [.int p0, .int p1]) below meth c H locs 0 0 (MQ below (kQ (dC, dI) [] (some (.int r)) A) (List.toArray [.int p0, .int p1]) s 0 0 A) (F0 m 10 ls [.int y1]) by
    refine lv_icmp_ne (tgt := 9) S.1 S.2.1 dX9_chairOf_2 (by decide) (fun u4 => ?_) (fun u4 => ?_)
    · refine lv_iconst (v := (1 : Int32)) S.1 S.2.1 dX9_chairOf_9 ki_1 ?_
      have e2 := e2.trans (if_neg u4)
      subst e2
      exact hM3 ls (lv_sub hl [] rfl)
    · refine lv_iconst (v := (0 : Int32)) S.1 S.2.1 dX9_chairOf_5 ki_0 ?_
      refine lv_goto (tgt := 10) S.1 S.2.1 dX9_chairOf_6 (by decide) ?_
      have e2 := e2.trans (if_pos u4)
      subst e2
      exact hM3 ls (lv_sub hl [] rfl)
  intro ls hl
  have f5 := Option.some.inj h
  subst f5
  exact ri S hr hlocks hW dX9_chairOf_10
abbrev rmX9_countsBy : Room := { frames := 1, cells := 0, slots := 0, locals := 25 }
set_option maxHeartbeats 4000000 in
set_option maxRecDepth 100000 in
theorem t_X9_countsBy (l : Launch) (dC : Nat → ClassId) (dI : Nat → Nat → Nat) (cI cJ cZ cB : ClassId) (zz : ZT)  (h0 : Nat) (a0 : Nat → Nat) (c0 : Nat → Nat → Int32) (w0 : Nat → Nat → Int64) (p1 : Int32) (p2 : Int32) (p3 : Int32) (p4 : Int32) (r : Int32) (hm : md_X9_countsBy c0 w0 p1 p2 p3 p4 = some (r)) : ct l (dC, dI) zz (ty4 cI cJ cZ cB) yX9_countsBy cX9_countsBy 8 (some .int) rmX9_countsBy [.ref h0, .int p1, .int p2, .int p3, .int p4] (cwX9 cI cJ cZ cB h0 a0 c0 w0 []) (cwX9 cI cJ cZ cB h0 a0 c0 w0 []) (some (.int r)) := by
  refine ct_of (cc := cX9_countsBy) (maxL := 8) (ret := (some .int)) (by decide) (Nat.le_of_ble_eq_true rfl) ?_
  intro p e s m below meth c A S hr hlocks hK hN hZ hA H locs hW ls hl
  have S : CallFix p m c cX9_countsBy 8 s (List.toArray [.ref h0, .int p1, .int p2, .int p3, .int p4]) G RX9 := S
  have hl : lv_has ls 8 [(0, .ref h0), (1, .int p1), (2, .int p2), (3, .int p3), (4, .int p4)] := hl
  have h := hm
  rw [md_X9_countsBy] at h
  have hW : wd (dC, dI) A s.heap (clX9 cI cJ cZ cB h0 a0 (c0 0) (c0 1) (c0 2) (c0 3) (w0 4 0) (w0 5 0) (c0 6) (c0 7) (c0 8) (c0 9) (c0 10) (c0 11) (c0 12) (c0 13) (c0 14 0) (c0 15 0) (c0 16 0) (c0 17 0) (c0 18) (c0 19) (c0 20) (c0 21 0) (c0 22 0) (c0 23 0) (c0 24 0) (c0 25 0) (c0 26) (c0 27) []) H locs := hW
  refine lv_iload S.1 S.2.1 dX9_countsBy_0 (lv_at hl 4 rfl) ?_
  refine lv_iconst (v := (2 : Int32)) S.1 S.2.1 dX9_countsBy_2 ki_2 ?_
  refine lv_irem S.1 S.2.1 dX9_countsBy_3 (by decide) ?_
  obtain ⟨y1, e2, h⟩ := lt1_e h
  refine nmi e2 ?_
  refine lv_istore (lv' := [(5, .int y1), (0, .ref h0), (1, .int p1), (2, .int p2), (3, .int p3), (4, .int p4)]) S.1 S.2.1 dX9_countsBy_4 hl (by decide) rfl (fun ls hl => ?_)
  refine lv_iload_n S.1 S.2.1 dX9_countsBy_6 rfl (lv_at hl 3 rfl) ?_
  refine lv_iload S.1 S.2.1 dX9_countsBy_7 (lv_at hl 0 rfl) ?_
  obtain ⟨r3, hy4, h⟩ := bd1_e h
  refine ks0 S hK hN hZ hA hW (rest := []) (t_X9_chairOf l dC dI cI cJ cZ cB zz p2 y1 _  hy4) wl_X9_102 wv_X9_chairOf rfl rfl ⟨Nat.le_of_ble_eq_true rfl, Nat.le_of_ble_eq_true rfl⟩ [] (clX9 cI cJ cZ cB h0 a0 (c0 0) (c0 1) (c0 2) (c0 3) (w0 4 0) (w0 5 0) (c0 6) (c0 7) (c0 8) (c0 9) (c0 10) (c0 11) (c0 12) (c0 13) (c0 14 0) (c0 15 0) (c0 16 0) (c0 17 0) (c0 18) (c0 19) (c0 20) (c0 21 0) (c0 22 0) (c0 23 0) (c0 24 0) (c0 25 0) (c0 26) (c0 27) []) rfl rfl hl.1 rfl (Nat.le_of_ble_eq_true rfl) dX9_countsBy_9 [.int r3] rfl (fun H locs hW => ?_)
  refine lv_istore (lv' := [(6, .int r3), (5, .int y1), (0, .ref h0), (1, .int p1), (2, .int p2), (3, .int p3), (4, .int p4)]) S.1 S.2.1 dX9_countsBy_12 hl (by decide) rfl (fun ls hl => ?_)
  refine lv_aload_n S.1 S.2.1 dX9_countsBy_14 rfl (lv_at hl 2 rfl) ?_
  refine gf (C := RX9) (T := TX9) (N := 28) (ci := 5) (k := 0) S hK hW wu_X9 rfl (by decide) wf_X9_7 0 rfl rfl dX9_countsBy_15 ?_
  refine lv_bipush (v := (18 : Int32)) S.1 S.2.1 dX9_countsBy_18 kb_18 ?_
  refine lv_iload_n S.1 S.2.1 dX9_countsBy_20 rfl (lv_at hl 3 rfl) ?_
  refine lv_iadd S.1 S.2.1 dX9_countsBy_21 ?_
  obtain ⟨z5, h⟩ := of_g h
  refine ia S hK hW rfl 1 rfl z5 dX9_countsBy_22 ?_
  refine lv_aload_n S.1 S.2.1 dX9_countsBy_23 rfl (lv_at hl 2 rfl) ?_
  refine gf (C := RX9) (T := TX9) (N := 28) (ci := 5) (k := 0) S hK hW wu_X9 rfl (by decide) wf_X9_7 0 rfl rfl dX9_countsBy_24 ?_
  refine lv_bipush (v := (24 : Int32)) S.1 S.2.1 dX9_countsBy_27 kb_24 ?_
  refine lv_iload_n S.1 S.2.1 dX9_countsBy_29 rfl (lv_at hl 3 rfl) ?_
  refine lv_iadd S.1 S.2.1 dX9_countsBy_30 ?_
  obtain ⟨z6, h⟩ := of_g h
  refine ia S hK hW rfl 1 rfl z6 dX9_countsBy_31 ?_
  refine lv_iload S.1 S.2.1 dX9_countsBy_32 (lv_at hl 0 rfl) ?_
  obtain ⟨y7, e8, h⟩ := lt1_e h
  suffices hM9 : ∀ ls : Array Slot, lv_has ls 8 [(0, .ref h0), (4, .int p4), (5, .int y1), (6, .int r3)] → W p l e rmX9_countsBy s m (List.toArray [.ref h0, .int p1, .int p2, .int p3, .int p4]) below meth c H locs 0 0 (MQ below (kQ (dC, dI) (cwX9 cI cJ cZ cB h0 a0 c0 w0 []) (some (.int r)) A) (List.toArray [.ref h0, .int p1, .int p2, .int p3, .int p4]) s 0 0 A) (F0 m 43 ls [.int y7, .int ((c0 0) (ix ((24 : Int32) + p1))), .int ((c0 0) (ix ((18 : Int32) + p1)))]) by
    refine lv_if_ne (tgt := 41) S.1 S.2.1 dX9_countsBy_34 (by decide) (fun u10 => ?_) (fun u10 => ?_)
    · refine lv_iload_n S.1 S.2.1 dX9_countsBy_41 rfl (lv_at hl 5 rfl) ?_
      refine lv_ineg S.1 S.2.1 dX9_countsBy_42 ?_
      have e8 := e8.trans (if_neg u10)
      subst e8
      exact hM9 ls (lv_sub hl [2, 6, 1, 0] rfl)
    · refine lv_iload_n S.1 S.2.1 dX9_countsBy_37 rfl (lv_at hl 5 rfl) ?_
      refine lv_goto (tgt := 43) S.1 S.2.1 dX9_countsBy_38 (by decide) ?_
      have e8 := e8.trans (if_pos u10)
      subst e8
      exact hM9 ls (lv_sub hl [2, 6, 1, 0] rfl)
  intro ls hl
  refine lv_iload S.1 S.2.1 dX9_countsBy_43 (lv_at hl 1 rfl) ?_
  obtain ⟨r11, hy12, h⟩ := bd1_e h
  refine ks0 S hK hN hZ hA hW (rest := []) (t_X9_movesAs l dC dI cI cJ cZ cB zz ((c0 0) (ix ((18 : Int32) + p1))) ((c0 0) (ix ((24 : Int32) + p1))) y7 p4 _  hy12) wl_X9_106 wv_X9_movesAs rfl rfl ⟨Nat.le_of_ble_eq_true rfl, Nat.le_of_ble_eq_true rfl⟩ [] (clX9 cI cJ cZ cB h0 a0 (c0 0) (c0 1) (c0 2) (c0 3) (w0 4 0) (w0 5 0) (c0 6) (c0 7) (c0 8) (c0 9) (c0 10) (c0 11) (c0 12) (c0 13) (c0 14 0) (c0 15 0) (c0 16 0) (c0 17 0) (c0 18) (c0 19) (c0 20) (c0 21 0) (c0 22 0) (c0 23 0) (c0 24 0) (c0 25 0) (c0 26) (c0 27) []) rfl rfl hl.1 rfl (Nat.le_of_ble_eq_true rfl) dX9_countsBy_45 [.int r11] rfl (fun H locs hW => ?_)
  refine lv_istore (lv' := [(7, .int r11), (0, .ref h0), (4, .int p4), (5, .int y1), (6, .int r3)]) S.1 S.2.1 dX9_countsBy_48 hl (by decide) rfl (fun ls hl => ?_)
  refine lv_aload_n S.1 S.2.1 dX9_countsBy_50 rfl (lv_at hl 1 rfl) ?_
  refine gf (C := RX9) (T := TX9) (N := 28) (ci := 5) (k := 0) S hK hW wu_X9 rfl (by decide) wf_X9_7 0 rfl rfl dX9_countsBy_51 ?_
  refine lv_bipush (v := (30 : Int32)) S.1 S.2.1 dX9_countsBy_54 kb_30 ?_
  refine lv_iload S.1 S.2.1 dX9_countsBy_56 (lv_at hl 3 rfl) ?_
  refine lv_iadd S.1 S.2.1 dX9_countsBy_58 ?_
  obtain ⟨z13, h⟩ := of_g h
  refine ia S hK hW rfl 1 rfl z13 dX9_countsBy_59 ?_
  refine lv_iload S.1 S.2.1 dX9_countsBy_60 (lv_at hl 0 rfl) ?_
  refine lv_iload S.1 S.2.1 dX9_countsBy_62 (lv_at hl 4 rfl) ?_
  obtain ⟨r14, hy15, h⟩ := bd1_e h
  refine ks0 S hK hN hZ hA hW (rest := []) (t_X9_countsAs l dC dI cI cJ cZ cB zz ((c0 0) (ix ((30 : Int32) + y1))) r11 r3 _  hy15) wl_X9_110 wv_X9_countsAs rfl rfl ⟨Nat.le_of_ble_eq_true rfl, Nat.le_of_ble_eq_true rfl⟩ [] (clX9 cI cJ cZ cB h0 a0 (c0 0) (c0 1) (c0 2) (c0 3) (w0 4 0) (w0 5 0) (c0 6) (c0 7) (c0 8) (c0 9) (c0 10) (c0 11) (c0 12) (c0 13) (c0 14 0) (c0 15 0) (c0 16 0) (c0 17 0) (c0 18) (c0 19) (c0 20) (c0 21 0) (c0 22 0) (c0 23 0) (c0 24 0) (c0 25 0) (c0 26) (c0 27) []) rfl rfl hl.1 rfl (Nat.le_of_ble_eq_true rfl) dX9_countsBy_64 [.int r14] rfl (fun H locs hW => ?_)
  have f16 := Option.some.inj h
  subst f16
  exact ri S hr hlocks hW dX9_countsBy_67
abbrev rmX9_meritBy : Room := { frames := 2, cells := 0, slots := 0, locals := 52 }
set_option maxHeartbeats 4000000 in
set_option maxRecDepth 100000 in
theorem t_X9_meritBy (l : Launch) (dC : Nat → ClassId) (dI : Nat → Nat → Nat) (cI cJ cZ cB : ClassId) (zz : ZT)  (h0 : Nat) (a0 : Nat → Nat) (c0 : Nat → Nat → Int32) (w0 : Nat → Nat → Int64) (p1 : Int32) (p2 : Int32) (p3 : Int32) (p4 : Int32) (r : Int32) (hm : md_X9_meritBy c0 w0 p1 p2 p3 p4 = some (r)) : ct l (dC, dI) zz (ty4 cI cJ cZ cB) yX9_meritBy cX9_meritBy 7 (some .int) rmX9_meritBy [.ref h0, .int p1, .int p2, .int p3, .int p4] (cwX9 cI cJ cZ cB h0 a0 c0 w0 []) (cwX9 cI cJ cZ cB h0 a0 c0 w0 []) (some (.int r)) := by
  refine ct_of (cc := cX9_meritBy) (maxL := 7) (ret := (some .int)) (by decide) (Nat.le_of_ble_eq_true rfl) ?_
  intro p e s m below meth c A S hr hlocks hK hN hZ hA H locs hW ls hl
  have S : CallFix p m c cX9_meritBy 7 s (List.toArray [.ref h0, .int p1, .int p2, .int p3, .int p4]) G RX9 := S
  have hl : lv_has ls 7 [(0, .ref h0), (1, .int p1), (2, .int p2), (3, .int p3), (4, .int p4)] := hl
  have h := hm
  rw [md_X9_meritBy] at h
  have hW : wd (dC, dI) A s.heap (clX9 cI cJ cZ cB h0 a0 (c0 0) (c0 1) (c0 2) (c0 3) (w0 4 0) (w0 5 0) (c0 6) (c0 7) (c0 8) (c0 9) (c0 10) (c0 11) (c0 12) (c0 13) (c0 14 0) (c0 15 0) (c0 16 0) (c0 17 0) (c0 18) (c0 19) (c0 20) (c0 21 0) (c0 22 0) (c0 23 0) (c0 24 0) (c0 25 0) (c0 26) (c0 27) []) H locs := hW
  refine lv_aload_n S.1 S.2.1 dX9_meritBy_0 rfl (lv_at hl 0 rfl) ?_
  refine lv_iload_n S.1 S.2.1 dX9_meritBy_1 rfl (lv_at hl 1 rfl) ?_
  refine lv_iload_n S.1 S.2.1 dX9_meritBy_2 rfl (lv_at hl 2 rfl) ?_
  refine lv_iload_n S.1 S.2.1 dX9_meritBy_3 rfl (lv_at hl 3 rfl) ?_
  refine lv_iload S.1 S.2.1 dX9_meritBy_4 (lv_at hl 4 rfl) ?_
  obtain ⟨r1, hy2, h⟩ := bd1_e h
  refine kv0 S hK hN hZ hA hW (rest := []) (t_X9_countsBy l dC dI cI cJ cZ cB zz h0 a0 c0 w0 p1 p2 p3 p4 _  hy2) wl_X9_114 wv_X9_countsBy rfl rfl ⟨Nat.le_of_ble_eq_true rfl, Nat.le_of_ble_eq_true rfl⟩ [] [] rfl 0 rfl rfl rfl rfl hl.1 rfl (Nat.le_of_ble_eq_true rfl) dX9_meritBy_6 [.int r1] rfl (fun H locs hW => ?_)
  refine lv_istore (lv' := [(5, .int r1), (0, .ref h0), (1, .int p1), (2, .int p2), (3, .int p3), (4, .int p4)]) S.1 S.2.1 dX9_meritBy_9 hl (by decide) rfl (fun ls hl => ?_)
  refine lv_iload_n S.1 S.2.1 dX9_meritBy_11 rfl (lv_at hl 3 rfl) ?_
  refine lv_iload S.1 S.2.1 dX9_meritBy_12 (lv_at hl 5 rfl) ?_
  refine lv_iconst (v := (2 : Int32)) S.1 S.2.1 dX9_meritBy_14 ki_2 ?_
  refine lv_irem S.1 S.2.1 dX9_meritBy_15 (by decide) ?_
  obtain ⟨r3, hy4, h⟩ := bd1_e h
  refine ks0 S hK hN hZ hA hW (rest := []) (t_X9_chairOf l dC dI cI cJ cZ cB zz p2 (p4 - p4 / (2 : Int32) * (2 : Int32)) _  hy4) wl_X9_102 wv_X9_chairOf rfl rfl ⟨Nat.le_of_ble_eq_true rfl, Nat.le_of_ble_eq_true rfl⟩ [] (clX9 cI cJ cZ cB h0 a0 (c0 0) (c0 1) (c0 2) (c0 3) (w0 4 0) (w0 5 0) (c0 6) (c0 7) (c0 8) (c0 9) (c0 10) (c0 11) (c0 12) (c0 13) (c0 14 0) (c0 15 0) (c0 16 0) (c0 17 0) (c0 18) (c0 19) (c0 20) (c0 21 0) (c0 22 0) (c0 23 0) (c0 24 0) (c0 25 0) (c0 26) (c0 27) []) rfl rfl hl.1 rfl (Nat.le_of_ble_eq_true rfl) dX9_meritBy_16 [.int r3] rfl (fun H locs hW => ?_)
  obtain ⟨y5, e6, h⟩ := lt1_e h
  suffices hM7 : ∀ ls : Array Slot, lv_has ls 7 [] → W p l e rmX9_meritBy s m (List.toArray [.ref h0, .int p1, .int p2, .int p3, .int p4]) below meth c H locs 0 0 (MQ below (kQ (dC, dI) (cwX9 cI cJ cZ cB h0 a0 c0 w0 []) (some (.int r)) A) (List.toArray [.ref h0, .int p1, .int p2, .int p3, .int p4]) s 0 0 A) (F0 m 33 ls [.int y5]) by
    refine lv_if_ne (tgt := 29) S.1 S.2.1 dX9_meritBy_19 (by decide) (fun u8 => ?_) (fun u8 => ?_)
    · refine lv_iload_n S.1 S.2.1 dX9_meritBy_29 rfl (lv_at hl 4 rfl) ?_
      refine lv_iload S.1 S.2.1 dX9_meritBy_30 (lv_at hl 0 rfl) ?_
      refine lv_isub S.1 S.2.1 dX9_meritBy_32 ?_
      have e6 := e6.trans (if_neg u8)
      subst e6
      exact hM7 ls (lv_sub hl [] rfl)
    · refine lv_iload_n S.1 S.2.1 dX9_meritBy_22 rfl (lv_at hl 4 rfl) ?_
      refine lv_iload S.1 S.2.1 dX9_meritBy_23 (lv_at hl 0 rfl) ?_
      refine lv_iadd S.1 S.2.1 dX9_meritBy_25 ?_
      refine lv_goto (tgt := 33) S.1 S.2.1 dX9_meritBy_26 (by decide) ?_
      have e6 := e6.trans (if_pos u8)
      subst e6
      exact hM7 ls (lv_sub hl [] rfl)
  intro ls hl
  refine lv_istore (lv' := [(6, .int y5)]) S.1 S.2.1 dX9_meritBy_33 hl (by decide) rfl (fun ls hl => ?_)
  refine lv_iload S.1 S.2.1 dX9_meritBy_35 (lv_at hl 0 rfl) ?_
  refine lv_bipush (v := (99 : Int32)) S.1 S.2.1 dX9_meritBy_37 kb_99 ?_
  obtain ⟨y9, e10, h⟩ := lt1_e h
  suffices hM11 : ∀ ls : Array Slot, lv_has ls 7 [] → W p l e rmX9_meritBy s m (List.toArray [.ref h0, .int p1, .int p2, .int p3, .int p4]) below meth c H locs 0 0 (MQ below (kQ (dC, dI) (cwX9 cI cJ cZ cB h0 a0 c0 w0 []) (some (.int r)) A) (List.toArray [.ref h0, .int p1, .int p2, .int p3, .int p4]) s 0 0 A) (F0 m 61 ls [.int y9]) by
    refine lv_icmp_le (tgt := 47) S.1 S.2.1 dX9_meritBy_39 (by decide) (fun u12 => ?_) (fun u12 => ?_)
    · refine lv_iload S.1 S.2.1 dX9_meritBy_47 (lv_at hl 0 rfl) ?_
      refine lv_bipush (v := (-99 : Int32)) S.1 S.2.1 dX9_meritBy_49 kb_m99 ?_
      refine lv_icmp_ge (tgt := 59) S.1 S.2.1 dX9_meritBy_51 (by decide) (fun u13 => ?_) (fun u13 => ?_)
      · refine lv_iload S.1 S.2.1 dX9_meritBy_59 (lv_at hl 0 rfl) ?_
        have e10 := e10.trans ((if_pos u12).trans (if_pos u13))
        subst e10
        exact hM11 ls (lv_sub hl [] rfl)
      · refine lv_bipush (v := (-99 : Int32)) S.1 S.2.1 dX9_meritBy_54 kb_m99 ?_
        refine lv_goto (tgt := 61) S.1 S.2.1 dX9_meritBy_56 (by decide) ?_
        have e10 := e10.trans ((if_pos u12).trans (if_neg u13))
        subst e10
        exact hM11 ls (lv_sub hl [] rfl)
    · refine lv_bipush (v := (99 : Int32)) S.1 S.2.1 dX9_meritBy_42 kb_99 ?_
      refine lv_goto (tgt := 61) S.1 S.2.1 dX9_meritBy_44 (by decide) ?_
      have e10 := e10.trans (if_neg u12)
      subst e10
      exact hM11 ls (lv_sub hl [] rfl)
  intro ls hl
  have f14 := Option.some.inj h
  subst f14
  exact ri S hr hlocks hW dX9_meritBy_61
abbrev rmX9_save : Room := { frames := 0, cells := 0, slots := 0, locals := 0 }
set_option maxHeartbeats 4000000 in
set_option maxRecDepth 100000 in
theorem t_X9_save (l : Launch) (dC : Nat → ClassId) (dI : Nat → Nat → Nat) (cI cJ cZ cB : ClassId) (zz : ZT)  (h0 : Nat) (a0 : Nat → Nat) (F : Nat) (c0 : Nat → Nat → Int32) (w0 : Nat → Nat → Int64) (c0' : Nat → Nat → Int32) (hm : md_X9_save F c0 w0 = some (c0')) : ct l (dC, dI) zz (ty4 cI cJ cZ cB) yX9_save cX9_save 2 none rmX9_save [.ref h0] (cwX9 cI cJ cZ cB h0 a0 c0 w0 []) (cwX9 cI cJ cZ cB h0 a0 c0' w0 []) none := by
  refine ct_of (cc := cX9_save) (maxL := 2) (ret := none) (by decide) (Nat.le_of_ble_eq_true rfl) ?_
  intro p e s m below meth c A S hr hlocks hK hN hZ hA H locs hW ls hl
  have S : CallFix p m c cX9_save 2 s (List.toArray [.ref h0]) G RX9 := S
  have hl : lv_has ls 2 [(0, .ref h0)] := hl
  have h := hm
  rw [md_X9_save] at h
  have hW : wd (dC, dI) A s.heap (clX9 cI cJ cZ cB h0 a0 (c0 0) (c0 1) (c0 2) (c0 3) (w0 4 0) (w0 5 0) (c0 6) (c0 7) (c0 8) (c0 9) (c0 10) (c0 11) (c0 12) (c0 13) (c0 14 0) (c0 15 0) (c0 16 0) (c0 17 0) (c0 18) (c0 19) (c0 20) (c0 21 0) (c0 22 0) (c0 23 0) (c0 24 0) (c0 25 0) (c0 26) (c0 27) []) H locs := hW
  have hL53 : ∀ (n53 : Nat) (c0 : Nat → Nat → Int32) (x1 : Int32), ld_X9_save_53 F w0 n53 c0 x1 = some (c0') → ∀ (H : Heap) (locs : List Loc), wd (dC, dI) A s.heap (clX9 cI cJ cZ cB h0 a0 (c0 0) (c0 1) (c0 2) (c0 3) (w0 4 0) (w0 5 0) (c0 6) (c0 7) (c0 8) (c0 9) (c0 10) (c0 11) (c0 12) (c0 13) (c0 14 0) (c0 15 0) (c0 16 0) (c0 17 0) (c0 18) (c0 19) (c0 20) (c0 21 0) (c0 22 0) (c0 23 0) (c0 24 0) (c0 25 0) (c0 26) (c0 27) []) H locs → ∀ ls : Array Slot, lv_has ls 2 [(0, .ref h0), (1, .int x1)] → W p l e rmX9_save s m (List.toArray [.ref h0]) below meth c H locs 0 0 (MQ below (kQ (dC, dI) (cwX9 cI cJ cZ cB h0 a0 c0' w0 []) none A) (List.toArray [.ref h0]) s 0 0 A) (F0 m 53 ls []) := by
    intro n53
    induction n53 with
    | zero => intro c0 x1 h; rw [ld_X9_save_53] at h; cases h
    | succ n53 ih53 =>
      intro c0 x1 h H locs hW ls hl
      rw [ld_X9_save_53] at h
      refine lv_iload_n S.1 S.2.1 dX9_save_53 rfl (lv_at hl 1 rfl) ?_
      refine lv_bipush (v := (13 : Int32)) S.1 S.2.1 dX9_save_54 kb_13 ?_
      refine lv_icmp_ge (tgt := 92) S.1 S.2.1 dX9_save_56 (by decide) (fun u1 => ?_) (fun u1 => ?_)
      · have h := of_p u1 h
        refine lv_aload_n S.1 S.2.1 dX9_save_92 rfl (lv_at hl 0 rfl) ?_
        refine gf (C := RX9) (T := TX9) (N := 28) (ci := 5) (k := 0) S hK hW wu_X9 rfl (by decide) wf_X9_7 0 rfl rfl dX9_save_93 ?_
        refine lv_iconst (v := (4 : Int32)) S.1 S.2.1 dX9_save_96 ki_4 ?_
        refine lv_dup2_11 S.1 S.2.1 dX9_save_97 rfl rfl ?_
        refine iaK S hK hW rfl 1 rfl b_4_194 x_4 dX9_save_98 ?_
        refine lv_iconst (v := (1 : Int32)) S.1 S.2.1 dX9_save_99 ki_1 ?_
        refine lv_iadd S.1 S.2.1 dX9_save_100 ?_
        refine istK S hK hW rfl 1 rfl b_4_194 x_4 dX9_save_101 (fun H locs hW => ?_)
        have hW : wd (dC, dI) A s.heap (clX9 cI cJ cZ cB h0 a0 (upd (c0 0) 4 (((c0 0) 4) + (1 : Int32))) (c0 1) (c0 2) (c0 3) (w0 4 0) (w0 5 0) (c0 6) (c0 7) (c0 8) (c0 9) (c0 10) (c0 11) (c0 12) (c0 13) (c0 14 0) (c0 15 0) (c0 16 0) (c0 17 0) (c0 18) (c0 19) (c0 20) (c0 21 0) (c0 22 0) (c0 23 0) (c0 24 0) (c0 25 0) (c0 26) (c0 27) []) H locs := hW
        have f2 := Option.some.inj h
        subst f2
        exact rv S hr hlocks hW dX9_save_102
      · have h := of_n u1 h
        refine lv_aload_n S.1 S.2.1 dX9_save_59 rfl (lv_at hl 0 rfl) ?_
        refine gf (C := RX9) (T := TX9) (N := 28) (ci := 5) (k := 0) S hK hW wu_X9 rfl (by decide) wf_X9_7 0 rfl rfl dX9_save_60 ?_
        refine lv_bipush (v := (90 : Int32)) S.1 S.2.1 dX9_save_63 kb_90 ?_
        refine lv_bipush (v := (13 : Int32)) S.1 S.2.1 dX9_save_65 kb_13 ?_
        refine lv_aload_n S.1 S.2.1 dX9_save_67 rfl (lv_at hl 0 rfl) ?_
        refine gf (C := RX9) (T := TX9) (N := 28) (ci := 5) (k := 0) S hK hW wu_X9 rfl (by decide) wf_X9_7 0 rfl rfl dX9_save_68 ?_
        refine lv_iconst (v := (4 : Int32)) S.1 S.2.1 dX9_save_71 ki_4 ?_
        refine iaK S hK hW rfl 1 rfl b_4_194 x_4 dX9_save_72 ?_
        refine lv_imul S.1 S.2.1 dX9_save_73 ?_
        refine lv_iadd S.1 S.2.1 dX9_save_74 ?_
        refine lv_iload_n S.1 S.2.1 dX9_save_75 rfl (lv_at hl 1 rfl) ?_
        refine lv_iadd S.1 S.2.1 dX9_save_76 ?_
        refine lv_aload_n S.1 S.2.1 dX9_save_77 rfl (lv_at hl 0 rfl) ?_
        refine gf (C := RX9) (T := TX9) (N := 28) (ci := 5) (k := 0) S hK hW wu_X9 rfl (by decide) wf_X9_7 0 rfl rfl dX9_save_78 ?_
        refine lv_iconst (v := (5 : Int32)) S.1 S.2.1 dX9_save_81 ki_5 ?_
        refine lv_iload_n S.1 S.2.1 dX9_save_82 rfl (lv_at hl 1 rfl) ?_
        refine lv_iadd S.1 S.2.1 dX9_save_83 ?_
        obtain ⟨z3, h⟩ := of_g h
        refine ia S hK hW rfl 1 rfl z3 dX9_save_84 ?_
        obtain ⟨z4, h⟩ := of_g h
        refine ist S hK hW rfl 1 rfl z4 dX9_save_85 (fun H locs hW => ?_)
        have hW : wd (dC, dI) A s.heap (clX9 cI cJ cZ cB h0 a0 (upd (c0 0) (ix (((90 : Int32) + ((13 : Int32) * ((c0 0) 4))) + x1)) ((c0 0) (ix ((5 : Int32) + x1)))) (c0 1) (c0 2) (c0 3) (w0 4 0) (w0 5 0) (c0 6) (c0 7) (c0 8) (c0 9) (c0 10) (c0 11) (c0 12) (c0 13) (c0 14 0) (c0 15 0) (c0 16 0) (c0 17 0) (c0 18) (c0 19) (c0 20) (c0 21 0) (c0 22 0) (c0 23 0) (c0 24 0) (c0 25 0) (c0 26) (c0 27) []) H locs := hW
        refine lv_iinc (v := (x1 + (1 : Int32))) (lv' := [(1, .int (x1 + (1 : Int32))), (0, .ref h0)]) S.1 S.2.1 dX9_save_86 hl (k := 1) rfl (congrArg (fun z => x1 + z) ki_1) (by decide) rfl (fun ls hl => ?_)
        refine lv_goto (tgt := 53) S.1 S.2.1 dX9_save_89 (by decide) ?_
        exact ih53 _ _ h H locs hW ls (lv_sub hl [1, 0] rfl)
  have hL13 : ∀ (n13 : Nat) (c0 : Nat → Nat → Int32) (x1 : Int32), ld_X9_save_13 F w0 n13 c0 x1 = some (c0') → ∀ (H : Heap) (locs : List Loc), wd (dC, dI) A s.heap (clX9 cI cJ cZ cB h0 a0 (c0 0) (c0 1) (c0 2) (c0 3) (w0 4 0) (w0 5 0) (c0 6) (c0 7) (c0 8) (c0 9) (c0 10) (c0 11) (c0 12) (c0 13) (c0 14 0) (c0 15 0) (c0 16 0) (c0 17 0) (c0 18) (c0 19) (c0 20) (c0 21 0) (c0 22 0) (c0 23 0) (c0 24 0) (c0 25 0) (c0 26) (c0 27) []) H locs → ∀ ls : Array Slot, lv_has ls 2 [(0, .ref h0), (1, .int x1)] → W p l e rmX9_save s m (List.toArray [.ref h0]) below meth c H locs 0 0 (MQ below (kQ (dC, dI) (cwX9 cI cJ cZ cB h0 a0 c0' w0 []) none A) (List.toArray [.ref h0]) s 0 0 A) (F0 m 13 ls []) := by
    intro n13
    induction n13 with
    | zero => intro c0 x1 h; rw [ld_X9_save_13] at h; cases h
    | succ n13 ih13 =>
      intro c0 x1 h H locs hW ls hl
      rw [ld_X9_save_13] at h
      refine lv_iload_n S.1 S.2.1 dX9_save_13 rfl (lv_at hl 1 rfl) ?_
      refine lv_bipush (v := (91 : Int32)) S.1 S.2.1 dX9_save_14 kb_91 ?_
      refine lv_icmp_ge (tgt := 43) S.1 S.2.1 dX9_save_16 (by decide) (fun u5 => ?_) (fun u5 => ?_)
      · have h := of_p u5 h
        refine lv_aload_n S.1 S.2.1 dX9_save_43 rfl (lv_at hl 0 rfl) ?_
        refine gf (C := RX9) (T := TX9) (N := 28) (ci := 5) (k := 0) S hK hW wu_X9 rfl (by decide) wf_X9_7 0 rfl rfl dX9_save_44 ?_
        refine lv_iconst (v := (4 : Int32)) S.1 S.2.1 dX9_save_47 ki_4 ?_
        refine lv_bipush (v := (7 : Int32)) S.1 S.2.1 dX9_save_48 kb_7 ?_
        refine istK S hK hW rfl 1 rfl b_4_194 x_4 dX9_save_50 (fun H locs hW => ?_)
        have hW : wd (dC, dI) A s.heap (clX9 cI cJ cZ cB h0 a0 (upd (c0 0) 4 (7 : Int32)) (c0 1) (c0 2) (c0 3) (w0 4 0) (w0 5 0) (c0 6) (c0 7) (c0 8) (c0 9) (c0 10) (c0 11) (c0 12) (c0 13) (c0 14 0) (c0 15 0) (c0 16 0) (c0 17 0) (c0 18) (c0 19) (c0 20) (c0 21 0) (c0 22 0) (c0 23 0) (c0 24 0) (c0 25 0) (c0 26) (c0 27) []) H locs := hW
        refine lv_iconst (v := (0 : Int32)) S.1 S.2.1 dX9_save_51 ki_0 ?_
        refine lv_istore_n (lv' := [(1, .int (0 : Int32)), (0, .ref h0)]) S.1 S.2.1 dX9_save_52 rfl hl (by decide) rfl (fun ls hl => ?_)
        exact hL53 F _ _ h H locs hW ls (lv_sub hl [1, 0] rfl)
      · have h := of_n u5 h
        refine lv_aload_n S.1 S.2.1 dX9_save_19 rfl (lv_at hl 0 rfl) ?_
        refine gf (C := RX9) (T := TX9) (N := 28) (ci := 5) (k := 0) S hK hW wu_X9 rfl (by decide) wf_X9_7 0 rfl rfl dX9_save_20 ?_
        refine lv_bipush (v := (90 : Int32)) S.1 S.2.1 dX9_save_23 kb_90 ?_
        refine lv_iload_n S.1 S.2.1 dX9_save_25 rfl (lv_at hl 1 rfl) ?_
        refine lv_iadd S.1 S.2.1 dX9_save_26 ?_
        refine lv_aload_n S.1 S.2.1 dX9_save_27 rfl (lv_at hl 0 rfl) ?_
        refine gf (C := RX9) (T := TX9) (N := 28) (ci := 5) (k := 0) S hK hW wu_X9 rfl (by decide) wf_X9_7 0 rfl rfl dX9_save_28 ?_
        refine lv_bipush (v := (103 : Int32)) S.1 S.2.1 dX9_save_31 kb_103 ?_
        refine lv_iload_n S.1 S.2.1 dX9_save_33 rfl (lv_at hl 1 rfl) ?_
        refine lv_iadd S.1 S.2.1 dX9_save_34 ?_
        obtain ⟨z6, h⟩ := of_g h
        refine ia S hK hW rfl 1 rfl z6 dX9_save_35 ?_
        obtain ⟨z7, h⟩ := of_g h
        refine ist S hK hW rfl 1 rfl z7 dX9_save_36 (fun H locs hW => ?_)
        have hW : wd (dC, dI) A s.heap (clX9 cI cJ cZ cB h0 a0 (upd (c0 0) (ix ((90 : Int32) + x1)) ((c0 0) (ix ((103 : Int32) + x1)))) (c0 1) (c0 2) (c0 3) (w0 4 0) (w0 5 0) (c0 6) (c0 7) (c0 8) (c0 9) (c0 10) (c0 11) (c0 12) (c0 13) (c0 14 0) (c0 15 0) (c0 16 0) (c0 17 0) (c0 18) (c0 19) (c0 20) (c0 21 0) (c0 22 0) (c0 23 0) (c0 24 0) (c0 25 0) (c0 26) (c0 27) []) H locs := hW
        refine lv_iinc (v := (x1 + (1 : Int32))) (lv' := [(1, .int (x1 + (1 : Int32))), (0, .ref h0)]) S.1 S.2.1 dX9_save_37 hl (k := 1) rfl (congrArg (fun z => x1 + z) ki_1) (by decide) rfl (fun ls hl => ?_)
        refine lv_goto (tgt := 13) S.1 S.2.1 dX9_save_40 (by decide) ?_
        exact ih13 _ _ h H locs hW ls (lv_sub hl [1, 0] rfl)
  refine lv_aload_n S.1 S.2.1 dX9_save_0 rfl (lv_at hl 0 rfl) ?_
  refine gf (C := RX9) (T := TX9) (N := 28) (ci := 5) (k := 0) S hK hW wu_X9 rfl (by decide) wf_X9_7 0 rfl rfl dX9_save_1 ?_
  refine lv_iconst (v := (4 : Int32)) S.1 S.2.1 dX9_save_4 ki_4 ?_
  refine iaK S hK hW rfl 1 rfl b_4_194 x_4 dX9_save_5 ?_
  refine lv_bipush (v := (8 : Int32)) S.1 S.2.1 dX9_save_6 kb_8 ?_
  refine lv_icmp_ne (tgt := 51) S.1 S.2.1 dX9_save_8 (by decide) (fun u8 => ?_) (fun u8 => ?_)
  · have h := of_n u8 h
    refine lv_iconst (v := (0 : Int32)) S.1 S.2.1 dX9_save_51 ki_0 ?_
    refine lv_istore_n (lv' := [(1, .int (0 : Int32)), (0, .ref h0)]) S.1 S.2.1 dX9_save_52 rfl hl (by decide) rfl (fun ls hl => ?_)
    exact hL53 F _ _ h H locs hW ls (lv_sub hl [1, 0] rfl)
  · have h := of_p u8 h
    refine lv_iconst (v := (0 : Int32)) S.1 S.2.1 dX9_save_11 ki_0 ?_
    refine lv_istore_n (lv' := [(1, .int (0 : Int32)), (0, .ref h0)]) S.1 S.2.1 dX9_save_12 rfl hl (by decide) rfl (fun ls hl => ?_)
    exact hL13 F _ _ h H locs hW ls (lv_sub hl [1, 0] rfl)
abbrev rmX9_says : Room := { frames := 3, cells := 0, slots := 0, locals := 78 }
set_option maxHeartbeats 4000000 in
set_option maxRecDepth 100000 in
theorem t_X9_says (l : Launch) (dC : Nat → ClassId) (dI : Nat → Nat → Nat) (cI cJ cZ cB : ClassId) (zz : ZT)  (h0 : Nat) (a0 : Nat → Nat) (F : Nat) (c0 : Nat → Nat → Int32) (w0 : Nat → Nat → Int64) (p1 : Int32) (r : Int32) (c0' : Nat → Nat → Int32) (hm : md_X9_says F c0 w0 p1 = some (r, c0')) : ct l (dC, dI) zz (ty4 cI cJ cZ cB) yX9_says cX9_says 2 (some .int) rmX9_says [.ref h0, .int p1] (cwX9 cI cJ cZ cB h0 a0 c0 w0 []) (cwX9 cI cJ cZ cB h0 a0 c0' w0 []) (some (.int r)) := by
  refine ct_of (cc := cX9_says) (maxL := 2) (ret := (some .int)) (by decide) (Nat.le_of_ble_eq_true rfl) ?_
  intro p e s m below meth c A S hr hlocks hK hN hZ hA H locs hW ls hl
  have S : CallFix p m c cX9_says 2 s (List.toArray [.ref h0, .int p1]) G RX9 := S
  have hl : lv_has ls 2 [(0, .ref h0), (1, .int p1)] := hl
  have h := hm
  rw [md_X9_says] at h
  have hW : wd (dC, dI) A s.heap (clX9 cI cJ cZ cB h0 a0 (c0 0) (c0 1) (c0 2) (c0 3) (w0 4 0) (w0 5 0) (c0 6) (c0 7) (c0 8) (c0 9) (c0 10) (c0 11) (c0 12) (c0 13) (c0 14 0) (c0 15 0) (c0 16 0) (c0 17 0) (c0 18) (c0 19) (c0 20) (c0 21 0) (c0 22 0) (c0 23 0) (c0 24 0) (c0 25 0) (c0 26) (c0 27) []) H locs := hW
  refine lv_aload_n S.1 S.2.1 dX9_says_0 rfl (lv_at hl 0 rfl) ?_
  refine lv_iload_n S.1 S.2.1 dX9_says_1 rfl (lv_at hl 1 rfl) ?_
  obtain ⟨r1, hy2, h⟩ := bd1_e h
  refine kv0 S hK hN hZ hA hW (rest := []) (t_X9_isPoint l dC dI cI cJ cZ cB zz h0 a0 c0 w0 p1 _  hy2) wl_X9_117 wv_X9_isPoint rfl rfl ⟨Nat.le_of_ble_eq_true rfl, Nat.le_of_ble_eq_true rfl⟩ [] [] rfl 0 rfl rfl rfl rfl hl.1 rfl (Nat.le_of_ble_eq_true rfl) dX9_says_2 [.int r1] rfl (fun H locs hW => ?_)
  refine lv_if_ne (tgt := 16) S.1 S.2.1 dX9_says_5 (by decide) (fun u3 => ?_) (fun u3 => ?_)
  · have h := of_n u3 h
    refine lv_aload_n S.1 S.2.1 dX9_says_16 rfl (lv_at hl 0 rfl) ?_
    refine gf (C := RX9) (T := TX9) (N := 28) (ci := 5) (k := 0) S hK hW wu_X9 rfl (by decide) wf_X9_7 0 rfl rfl dX9_says_17 ?_
    refine lv_iconst (v := (5 : Int32)) S.1 S.2.1 dX9_says_20 ki_5 ?_
    refine iaK S hK hW rfl 1 rfl b_5_194 x_5 dX9_says_21 ?_
    refine lv_iload_n S.1 S.2.1 dX9_says_22 rfl (lv_at hl 1 rfl) ?_
    obtain ⟨r4, hy5, h⟩ := bd1_e h
    refine ks0 S hK hN hZ hA hW (rest := []) (t_X9_has l dC dI cI cJ cZ cB zz ((c0 0) 5) p1 _  hy5) wl_X9_120 wv_X9_has rfl rfl ⟨Nat.le_of_ble_eq_true rfl, Nat.le_of_ble_eq_true rfl⟩ [] (clX9 cI cJ cZ cB h0 a0 (c0 0) (c0 1) (c0 2) (c0 3) (w0 4 0) (w0 5 0) (c0 6) (c0 7) (c0 8) (c0 9) (c0 10) (c0 11) (c0 12) (c0 13) (c0 14 0) (c0 15 0) (c0 16 0) (c0 17 0) (c0 18) (c0 19) (c0 20) (c0 21 0) (c0 22 0) (c0 23 0) (c0 24 0) (c0 25 0) (c0 26) (c0 27) []) rfl rfl hl.1 rfl (Nat.le_of_ble_eq_true rfl) dX9_says_23 [.int r4] rfl (fun H locs hW => ?_)
    refine lv_if_eq (tgt := 37) S.1 S.2.1 dX9_says_26 (by decide) (fun u6 => ?_) (fun u6 => ?_)
    · have h := of_p u6 h
      refine lv_aload_n S.1 S.2.1 dX9_says_37 rfl (lv_at hl 0 rfl) ?_
      obtain ⟨cv7, hy8, h⟩ := bd1_e h
      refine kv (clX9 cI cJ cZ cB h0 a0 (cv7 0) (cv7 1) (cv7 2) (cv7 3) (w0 4 0) (w0 5 0) (cv7 6) (cv7 7) (cv7 8) (cv7 9) (cv7 10) (cv7 11) (cv7 12) (cv7 13) (cv7 14 0) (cv7 15 0) (cv7 16 0) (cv7 17 0) (cv7 18) (cv7 19) (cv7 20) (cv7 21 0) (cv7 22 0) (cv7 23 0) (cv7 24 0) (cv7 25 0) (cv7 26) (cv7 27) []) S hK hN hZ hA hW (rest := []) (t_X9_save l dC dI cI cJ cZ cB zz h0 a0 F c0 w0 _  hy8) wl_X9_127 wv_X9_save rfl rfl ⟨Nat.le_of_ble_eq_true rfl, Nat.le_of_ble_eq_true rfl⟩ [] [] rfl rfl rfl 0 rfl rfl rfl rfl hl.1 rfl (Nat.le_of_ble_eq_true rfl) dX9_says_38 [] rfl (fun H locs hW => ?_)
      refine lv_aload_n S.1 S.2.1 dX9_says_41 rfl (lv_at hl 0 rfl) ?_
      refine gf (C := RX9) (T := TX9) (N := 28) (ci := 5) (k := 0) S hK hW wu_X9 rfl (by decide) wf_X9_7 0 rfl rfl dX9_says_42 ?_
      refine lv_bipush (v := (15 : Int32)) S.1 S.2.1 dX9_says_45 kb_15 ?_
      refine lv_aload_n S.1 S.2.1 dX9_says_47 rfl (lv_at hl 0 rfl) ?_
      refine lv_iload_n S.1 S.2.1 dX9_says_48 rfl (lv_at hl 1 rfl) ?_
      refine lv_aload_n S.1 S.2.1 dX9_says_49 rfl (lv_at hl 0 rfl) ?_
      refine gf (C := RX9) (T := TX9) (N := 28) (ci := 5) (k := 0) S hK hW wu_X9 rfl (by decide) wf_X9_7 0 rfl rfl dX9_says_50 ?_
      refine lv_bipush (v := (14 : Int32)) S.1 S.2.1 dX9_says_53 kb_14 ?_
      refine iaK S hK hW rfl 1 rfl b_14_194 x_14 dX9_says_55 ?_
      refine lv_aload_n S.1 S.2.1 dX9_says_56 rfl (lv_at hl 0 rfl) ?_
      refine gf (C := RX9) (T := TX9) (N := 28) (ci := 5) (k := 0) S hK hW wu_X9 rfl (by decide) wf_X9_7 0 rfl rfl dX9_says_57 ?_
      refine lv_bipush (v := (15 : Int32)) S.1 S.2.1 dX9_says_60 kb_15 ?_
      refine iaK S hK hW rfl 1 rfl b_15_194 x_15 dX9_says_62 ?_
      refine lv_aload_n S.1 S.2.1 dX9_says_63 rfl (lv_at hl 0 rfl) ?_
      refine gf (C := RX9) (T := TX9) (N := 28) (ci := 5) (k := 0) S hK hW wu_X9 rfl (by decide) wf_X9_7 0 rfl rfl dX9_says_64 ?_
      refine lv_bipush (v := (16 : Int32)) S.1 S.2.1 dX9_says_67 kb_16 ?_
      refine iaK S hK hW rfl 1 rfl b_16_194 x_16 dX9_says_69 ?_
      obtain ⟨r9, hy10, h⟩ := bd1_e h
      refine kv0 S hK hN hZ hA hW (rest := [.int (15 : Int32), .ref (a0 0)]) (t_X9_meritBy l dC dI cI cJ cZ cB zz h0 a0 cv7 w0 p1 ((cv7 0) 14) ((cv7 0) 15) ((cv7 0) 16) _  hy10) wl_X9_130 wv_X9_meritBy rfl rfl ⟨Nat.le_of_ble_eq_true rfl, Nat.le_of_ble_eq_true rfl⟩ [] [] rfl 0 rfl rfl rfl rfl hl.1 rfl (Nat.le_of_ble_eq_true rfl) dX9_says_70 [.int r9, .int (15 : Int32), .ref (a0 0)] rfl (fun H locs hW => ?_)
      refine istK S hK hW rfl 1 rfl b_15_194 x_15 dX9_says_73 (fun H locs hW => ?_)
      have hW : wd (dC, dI) A s.heap (clX9 cI cJ cZ cB h0 a0 (upd (cv7 0) 15 r9) (cv7 1) (cv7 2) (cv7 3) (w0 4 0) (w0 5 0) (cv7 6) (cv7 7) (cv7 8) (cv7 9) (cv7 10) (cv7 11) (cv7 12) (cv7 13) (cv7 14 0) (cv7 15 0) (cv7 16 0) (cv7 17 0) (cv7 18) (cv7 19) (cv7 20) (cv7 21 0) (cv7 22 0) (cv7 23 0) (cv7 24 0) (cv7 25 0) (cv7 26) (cv7 27) []) H locs := hW
      refine lv_aload_n S.1 S.2.1 dX9_says_74 rfl (lv_at hl 0 rfl) ?_
      refine gf (C := RX9) (T := TX9) (N := 28) (ci := 5) (k := 0) S hK hW wu_X9 rfl (by decide) wf_X9_7 0 rfl rfl dX9_says_75 ?_
      refine lv_iconst (v := (5 : Int32)) S.1 S.2.1 dX9_says_78 ki_5 ?_
      refine lv_dup2_11 S.1 S.2.1 dX9_says_79 rfl rfl ?_
      refine iaK S hK hW rfl 1 rfl b_5_194 x_5 dX9_says_80 ?_
      refine lv_iconst (v := (1 : Int32)) S.1 S.2.1 dX9_says_81 ki_1 ?_
      refine lv_iload_n S.1 S.2.1 dX9_says_82 rfl (lv_at hl 1 rfl) ?_
      refine lv_ishl S.1 S.2.1 dX9_says_83 ?_
      refine lv_ior S.1 S.2.1 dX9_says_84 ?_
      refine istK S hK hW rfl 1 rfl b_5_194 x_5 dX9_says_85 (fun H locs hW => ?_)
      have hW : wd (dC, dI) A s.heap (clX9 cI cJ cZ cB h0 a0 (upd (upd (cv7 0) 15 r9) 5 (((upd (cv7 0) 15 r9) 5) ||| ((1 : Int32) <<< (p1 &&& 31)))) (cv7 1) (cv7 2) (cv7 3) (w0 4 0) (w0 5 0) (cv7 6) (cv7 7) (cv7 8) (cv7 9) (cv7 10) (cv7 11) (cv7 12) (cv7 13) (cv7 14 0) (cv7 15 0) (cv7 16 0) (cv7 17 0) (cv7 18) (cv7 19) (cv7 20) (cv7 21 0) (cv7 22 0) (cv7 23 0) (cv7 24 0) (cv7 25 0) (cv7 26) (cv7 27) []) H locs := hW
      refine lv_aload_n S.1 S.2.1 dX9_says_86 rfl (lv_at hl 0 rfl) ?_
      refine gf (C := RX9) (T := TX9) (N := 28) (ci := 5) (k := 0) S hK hW wu_X9 rfl (by decide) wf_X9_7 0 rfl rfl dX9_says_87 ?_
      refine lv_bipush (v := (16 : Int32)) S.1 S.2.1 dX9_says_90 kb_16 ?_
      refine lv_dup2_11 S.1 S.2.1 dX9_says_92 rfl rfl ?_
      refine iaK S hK hW rfl 1 rfl b_16_194 x_16 dX9_says_93 ?_
      refine lv_iconst (v := (1 : Int32)) S.1 S.2.1 dX9_says_94 ki_1 ?_
      refine lv_iadd S.1 S.2.1 dX9_says_95 ?_
      obtain ⟨y11, e12, h⟩ := lt1_e h
      refine nmi e12 ?_
      refine istK S hK hW rfl 1 rfl b_16_194 x_16 dX9_says_96 (fun H locs hW => ?_)
      have hW : wd (dC, dI) A s.heap (clX9 cI cJ cZ cB h0 a0 (upd (upd (upd (cv7 0) 15 r9) 5 (((upd (cv7 0) 15 r9) 5) ||| ((1 : Int32) <<< (p1 &&& 31)))) 16 y11) (cv7 1) (cv7 2) (cv7 3) (w0 4 0) (w0 5 0) (cv7 6) (cv7 7) (cv7 8) (cv7 9) (cv7 10) (cv7 11) (cv7 12) (cv7 13) (cv7 14 0) (cv7 15 0) (cv7 16 0) (cv7 17 0) (cv7 18) (cv7 19) (cv7 20) (cv7 21 0) (cv7 22 0) (cv7 23 0) (cv7 24 0) (cv7 25 0) (cv7 26) (cv7 27) []) H locs := hW
      refine lv_aload_n S.1 S.2.1 dX9_says_97 rfl (lv_at hl 0 rfl) ?_
      refine gf (C := RX9) (T := TX9) (N := 28) (ci := 5) (k := 0) S hK hW wu_X9 rfl (by decide) wf_X9_7 0 rfl rfl dX9_says_98 ?_
      refine lv_bipush (v := (17 : Int32)) S.1 S.2.1 dX9_says_101 kb_17 ?_
      refine lv_iload_n S.1 S.2.1 dX9_says_103 rfl (lv_at hl 1 rfl) ?_
      refine istK S hK hW rfl 1 rfl b_17_194 x_17 dX9_says_104 (fun H locs hW => ?_)
      have hW : wd (dC, dI) A s.heap (clX9 cI cJ cZ cB h0 a0 (upd (upd (upd (upd (cv7 0) 15 r9) 5 (((upd (cv7 0) 15 r9) 5) ||| ((1 : Int32) <<< (p1 &&& 31)))) 16 y11) 17 p1) (cv7 1) (cv7 2) (cv7 3) (w0 4 0) (w0 5 0) (cv7 6) (cv7 7) (cv7 8) (cv7 9) (cv7 10) (cv7 11) (cv7 12) (cv7 13) (cv7 14 0) (cv7 15 0) (cv7 16 0) (cv7 17 0) (cv7 18) (cv7 19) (cv7 20) (cv7 21 0) (cv7 22 0) (cv7 23 0) (cv7 24 0) (cv7 25 0) (cv7 26) (cv7 27) []) H locs := hW
      refine lv_aload_n S.1 S.2.1 dX9_says_105 rfl (lv_at hl 0 rfl) ?_
      refine gf (C := RX9) (T := TX9) (N := 28) (ci := 5) (k := 0) S hK hW wu_X9 rfl (by decide) wf_X9_7 0 rfl rfl dX9_says_106 ?_
      refine lv_bipush (v := (15 : Int32)) S.1 S.2.1 dX9_says_109 kb_15 ?_
      refine iaK S hK hW rfl 1 rfl b_15_194 x_15 dX9_says_111 ?_
      have f13 := Option.some.inj h
      obtain ⟨f14, f15⟩ := Prod.mk.inj f13
      subst f14
      subst f15
      exact ri S hr hlocks hW dX9_says_112
    · have h := of_n u6 h
      refine lv_aload_n S.1 S.2.1 dX9_says_29 rfl (lv_at hl 0 rfl) ?_
      refine lv_sipush (v := (-1001 : Int32)) S.1 S.2.1 dX9_says_30 ks_m1001 ?_
      obtain ⟨r16, cv17, hy18, h⟩ := bd2_e h
      refine kv (clX9 cI cJ cZ cB h0 a0 (cv17 0) (cv17 1) (cv17 2) (cv17 3) (w0 4 0) (w0 5 0) (cv17 6) (cv17 7) (cv17 8) (cv17 9) (cv17 10) (cv17 11) (cv17 12) (cv17 13) (cv17 14 0) (cv17 15 0) (cv17 16 0) (cv17 17 0) (cv17 18) (cv17 19) (cv17 20) (cv17 21 0) (cv17 22 0) (cv17 23 0) (cv17 24 0) (cv17 25 0) (cv17 26) (cv17 27) []) S hK hN hZ hA hW (rest := []) (t_X9_no l dC dI cI cJ cZ cB zz h0 a0 c0 w0 (-1001 : Int32) _ _  hy18) wl_X9_124 wv_X9_no rfl rfl ⟨Nat.le_of_ble_eq_true rfl, Nat.le_of_ble_eq_true rfl⟩ [] [] rfl rfl rfl 0 rfl rfl rfl rfl hl.1 rfl (Nat.le_of_ble_eq_true rfl) dX9_says_33 [.int r16] rfl (fun H locs hW => ?_)
      have f19 := Option.some.inj h
      obtain ⟨f20, f21⟩ := Prod.mk.inj f19
      subst f20
      subst f21
      exact ri S hr hlocks hW dX9_says_36
  · have h := of_p u3 h
    refine lv_aload_n S.1 S.2.1 dX9_says_8 rfl (lv_at hl 0 rfl) ?_
    refine lv_sipush (v := (-1000 : Int32)) S.1 S.2.1 dX9_says_9 ks_m1000 ?_
    obtain ⟨r22, cv23, hy24, h⟩ := bd2_e h
    refine kv (clX9 cI cJ cZ cB h0 a0 (cv23 0) (cv23 1) (cv23 2) (cv23 3) (w0 4 0) (w0 5 0) (cv23 6) (cv23 7) (cv23 8) (cv23 9) (cv23 10) (cv23 11) (cv23 12) (cv23 13) (cv23 14 0) (cv23 15 0) (cv23 16 0) (cv23 17 0) (cv23 18) (cv23 19) (cv23 20) (cv23 21 0) (cv23 22 0) (cv23 23 0) (cv23 24 0) (cv23 25 0) (cv23 26) (cv23 27) []) S hK hN hZ hA hW (rest := []) (t_X9_bad l dC dI cI cJ cZ cB zz h0 a0 c0 w0 (-1000 : Int32) _ _  hy24) wl_X9_84 wv_X9_bad rfl rfl ⟨Nat.le_of_ble_eq_true rfl, Nat.le_of_ble_eq_true rfl⟩ [] [] rfl rfl rfl 0 rfl rfl rfl rfl hl.1 rfl (Nat.le_of_ble_eq_true rfl) dX9_says_12 [.int r22] rfl (fun H locs hW => ?_)
    have f25 := Option.some.inj h
    obtain ⟨f26, f27⟩ := Prod.mk.inj f25
    subst f26
    subst f27
    exact ri S hr hlocks hW dX9_says_15
abbrev rmX9_may : Room := { frames := 0, cells := 0, slots := 0, locals := 0 }
set_option maxHeartbeats 4000000 in
set_option maxRecDepth 100000 in
theorem t_X9_may (l : Launch) (dC : Nat → ClassId) (dI : Nat → Nat → Nat) (cI cJ cZ cB : ClassId) (zz : ZT)  (h0 : Nat) (a0 : Nat → Nat) (c0 : Nat → Nat → Int32) (w0 : Nat → Nat → Int64) (r : Int32) (hm : md_X9_may c0 w0 = some (r)) : ct l (dC, dI) zz (ty4 cI cJ cZ cB) yX9_may cX9_may 2 (some .boolean) rmX9_may [.ref h0] (cwX9 cI cJ cZ cB h0 a0 c0 w0 []) (cwX9 cI cJ cZ cB h0 a0 c0 w0 []) (some (.int r)) := by
  refine ct_of (cc := cX9_may) (maxL := 2) (ret := (some .boolean)) (by decide) (Nat.le_of_ble_eq_true rfl) ?_
  intro p e s m below meth c A S hr hlocks hK hN hZ hA H locs hW ls hl
  have S : CallFix p m c cX9_may 2 s (List.toArray [.ref h0]) G RX9 := S
  have hl : lv_has ls 2 [(0, .ref h0)] := hl
  have h := hm
  rw [md_X9_may] at h
  have hW : wd (dC, dI) A s.heap (clX9 cI cJ cZ cB h0 a0 (c0 0) (c0 1) (c0 2) (c0 3) (w0 4 0) (w0 5 0) (c0 6) (c0 7) (c0 8) (c0 9) (c0 10) (c0 11) (c0 12) (c0 13) (c0 14 0) (c0 15 0) (c0 16 0) (c0 17 0) (c0 18) (c0 19) (c0 20) (c0 21 0) (c0 22 0) (c0 23 0) (c0 24 0) (c0 25 0) (c0 26) (c0 27) []) H locs := hW
  refine lv_aload_n S.1 S.2.1 dX9_may_0 rfl (lv_at hl 0 rfl) ?_
  refine gf (C := RX9) (T := TX9) (N := 28) (ci := 5) (k := 0) S hK hW wu_X9 rfl (by decide) wf_X9_7 0 rfl rfl dX9_may_1 ?_
  refine lv_bipush (v := (17 : Int32)) S.1 S.2.1 dX9_may_4 kb_17 ?_
  refine iaK S hK hW rfl 1 rfl b_17_194 x_17 dX9_may_6 ?_
  refine lv_istore_n (lv' := [(1, .int ((c0 0) 17)), (0, .ref h0)]) S.1 S.2.1 dX9_may_7 rfl hl (by decide) rfl (fun ls hl => ?_)
  refine lv_iload_n S.1 S.2.1 dX9_may_8 rfl (lv_at hl 0 rfl) ?_
  refine lv_iconst (v := (-1 : Int32)) S.1 S.2.1 dX9_may_9 ki_m1 ?_
  refine lv_icmp_eq (tgt := 49) S.1 S.2.1 dX9_may_10 (by decide) (fun u1 => ?_) (fun u1 => ?_)
  · have h := of_p u1 h
    refine lv_iconst (v := (0 : Int32)) S.1 S.2.1 dX9_may_49 ki_0 ?_
    have f2 := Option.some.inj h
    subst f2
    exact rz S hr hlocks hW (nz (Or.inl rfl)) dX9_may_50
  · have h := of_n u1 h
    refine lv_aload_n S.1 S.2.1 dX9_may_13 rfl (lv_at hl 1 rfl) ?_
    refine gf (C := RX9) (T := TX9) (N := 28) (ci := 5) (k := 0) S hK hW wu_X9 rfl (by decide) wf_X9_7 0 rfl rfl dX9_may_14 ?_
    refine lv_bipush (v := (6 : Int32)) S.1 S.2.1 dX9_may_17 kb_6 ?_
    refine lv_iload_n S.1 S.2.1 dX9_may_19 rfl (lv_at hl 0 rfl) ?_
    refine lv_iadd S.1 S.2.1 dX9_may_20 ?_
    obtain ⟨z3, h⟩ := of_g h
    refine ia S hK hW rfl 1 rfl z3 dX9_may_21 ?_
    refine lv_if_le (tgt := 49) S.1 S.2.1 dX9_may_22 (by decide) (fun u4 => ?_) (fun u4 => ?_)
    · have h := of_p u4 h
      refine lv_iconst (v := (0 : Int32)) S.1 S.2.1 dX9_may_49 ki_0 ?_
      have f5 := Option.some.inj h
      subst f5
      exact rz S hr hlocks hW (nz (Or.inl rfl)) dX9_may_50
    · have h := of_n u4 h
      refine lv_aload_n S.1 S.2.1 dX9_may_25 rfl (lv_at hl 1 rfl) ?_
      refine gf (C := RX9) (T := TX9) (N := 28) (ci := 5) (k := 0) S hK hW wu_X9 rfl (by decide) wf_X9_7 0 rfl rfl dX9_may_26 ?_
      refine lv_bipush (v := (12 : Int32)) S.1 S.2.1 dX9_may_29 kb_12 ?_
      refine lv_aload_n S.1 S.2.1 dX9_may_31 rfl (lv_at hl 1 rfl) ?_
      refine gf (C := RX9) (T := TX9) (N := 28) (ci := 5) (k := 0) S hK hW wu_X9 rfl (by decide) wf_X9_7 0 rfl rfl dX9_may_32 ?_
      refine lv_bipush (v := (16 : Int32)) S.1 S.2.1 dX9_may_35 kb_16 ?_
      refine iaK S hK hW rfl 1 rfl b_16_194 x_16 dX9_may_37 ?_
      refine lv_iconst (v := (2 : Int32)) S.1 S.2.1 dX9_may_38 ki_2 ?_
      refine lv_irem S.1 S.2.1 dX9_may_39 (by decide) ?_
      refine lv_iadd S.1 S.2.1 dX9_may_40 ?_
      obtain ⟨z6, h⟩ := of_g h
      refine ia S hK hW rfl 1 rfl z6 dX9_may_41 ?_
      refine lv_if_le (tgt := 49) S.1 S.2.1 dX9_may_42 (by decide) (fun u7 => ?_) (fun u7 => ?_)
      · have h := of_p u7 h
        refine lv_iconst (v := (0 : Int32)) S.1 S.2.1 dX9_may_49 ki_0 ?_
        have f8 := Option.some.inj h
        subst f8
        exact rz S hr hlocks hW (nz (Or.inl rfl)) dX9_may_50
      · have h := of_n u7 h
        refine lv_iconst (v := (1 : Int32)) S.1 S.2.1 dX9_may_45 ki_1 ?_
        refine lv_goto (tgt := 50) S.1 S.2.1 dX9_may_46 (by decide) ?_
        have f9 := Option.some.inj h
        subst f9
        exact rz S hr hlocks hW (nz (Or.inr rfl)) dX9_may_50
abbrev rmX9_objects : Room := { frames := 1, cells := 0, slots := 0, locals := 21 }
set_option maxHeartbeats 4000000 in
set_option maxRecDepth 100000 in
theorem t_X9_objects (l : Launch) (dC : Nat → ClassId) (dI : Nat → Nat → Nat) (cI cJ cZ cB : ClassId) (zz : ZT)  (h0 : Nat) (a0 : Nat → Nat) (F : Nat) (c0 : Nat → Nat → Int32) (w0 : Nat → Nat → Int64) (r : Int32) (c0' : Nat → Nat → Int32) (hm : md_X9_objects F c0 w0 = some (r, c0')) : ct l (dC, dI) zz (ty4 cI cJ cZ cB) yX9_objects cX9_objects 1 (some .int) rmX9_objects [.ref h0] (cwX9 cI cJ cZ cB h0 a0 c0 w0 []) (cwX9 cI cJ cZ cB h0 a0 c0' w0 []) (some (.int r)) := by
  refine ct_of (cc := cX9_objects) (maxL := 1) (ret := (some .int)) (by decide) (Nat.le_of_ble_eq_true rfl) ?_
  intro p e s m below meth c A S hr hlocks hK hN hZ hA H locs hW ls hl
  have S : CallFix p m c cX9_objects 1 s (List.toArray [.ref h0]) G RX9 := S
  have hl : lv_has ls 1 [(0, .ref h0)] := hl
  have h := hm
  rw [md_X9_objects] at h
  have hW : wd (dC, dI) A s.heap (clX9 cI cJ cZ cB h0 a0 (c0 0) (c0 1) (c0 2) (c0 3) (w0 4 0) (w0 5 0) (c0 6) (c0 7) (c0 8) (c0 9) (c0 10) (c0 11) (c0 12) (c0 13) (c0 14 0) (c0 15 0) (c0 16 0) (c0 17 0) (c0 18) (c0 19) (c0 20) (c0 21 0) (c0 22 0) (c0 23 0) (c0 24 0) (c0 25 0) (c0 26) (c0 27) []) H locs := hW
  refine lv_aload_n S.1 S.2.1 dX9_objects_0 rfl (lv_at hl 0 rfl) ?_
  obtain ⟨r1, hy2, h⟩ := bd1_e h
  refine kv0 S hK hN hZ hA hW (rest := []) (t_X9_may l dC dI cI cJ cZ cB zz h0 a0 c0 w0 _  hy2) wl_X9_133 wv_X9_may rfl rfl ⟨Nat.le_of_ble_eq_true rfl, Nat.le_of_ble_eq_true rfl⟩ [] [] rfl 0 rfl rfl rfl rfl hl.1 rfl (Nat.le_of_ble_eq_true rfl) dX9_objects_1 [.int r1] rfl (fun H locs hW => ?_)
  refine lv_if_ne (tgt := 14) S.1 S.2.1 dX9_objects_4 (by decide) (fun u3 => ?_) (fun u3 => ?_)
  · have h := of_n u3 h
    refine lv_aload_n S.1 S.2.1 dX9_objects_14 rfl (lv_at hl 0 rfl) ?_
    obtain ⟨cv4, hy5, h⟩ := bd1_e h
    refine kv (clX9 cI cJ cZ cB h0 a0 (cv4 0) (cv4 1) (cv4 2) (cv4 3) (w0 4 0) (w0 5 0) (cv4 6) (cv4 7) (cv4 8) (cv4 9) (cv4 10) (cv4 11) (cv4 12) (cv4 13) (cv4 14 0) (cv4 15 0) (cv4 16 0) (cv4 17 0) (cv4 18) (cv4 19) (cv4 20) (cv4 21 0) (cv4 22 0) (cv4 23 0) (cv4 24 0) (cv4 25 0) (cv4 26) (cv4 27) []) S hK hN hZ hA hW (rest := []) (t_X9_save l dC dI cI cJ cZ cB zz h0 a0 F c0 w0 _  hy5) wl_X9_127 wv_X9_save rfl rfl ⟨Nat.le_of_ble_eq_true rfl, Nat.le_of_ble_eq_true rfl⟩ [] [] rfl rfl rfl 0 rfl rfl rfl rfl hl.1 rfl (Nat.le_of_ble_eq_true rfl) dX9_objects_15 [] rfl (fun H locs hW => ?_)
    refine lv_aload_n S.1 S.2.1 dX9_objects_18 rfl (lv_at hl 0 rfl) ?_
    refine gf (C := RX9) (T := TX9) (N := 28) (ci := 5) (k := 0) S hK hW wu_X9 rfl (by decide) wf_X9_7 0 rfl rfl dX9_objects_19 ?_
    refine lv_bipush (v := (12 : Int32)) S.1 S.2.1 dX9_objects_22 kb_12 ?_
    refine lv_aload_n S.1 S.2.1 dX9_objects_24 rfl (lv_at hl 0 rfl) ?_
    refine gf (C := RX9) (T := TX9) (N := 28) (ci := 5) (k := 0) S hK hW wu_X9 rfl (by decide) wf_X9_7 0 rfl rfl dX9_objects_25 ?_
    refine lv_bipush (v := (16 : Int32)) S.1 S.2.1 dX9_objects_28 kb_16 ?_
    refine iaK S hK hW rfl 1 rfl b_16_194 x_16 dX9_objects_30 ?_
    refine lv_iconst (v := (2 : Int32)) S.1 S.2.1 dX9_objects_31 ki_2 ?_
    refine lv_irem S.1 S.2.1 dX9_objects_32 (by decide) ?_
    refine lv_iadd S.1 S.2.1 dX9_objects_33 ?_
    refine lv_dup2_11 S.1 S.2.1 dX9_objects_34 rfl rfl ?_
    obtain ⟨z6, h⟩ := of_g h
    refine ia S hK hW rfl 1 rfl z6 dX9_objects_35 ?_
    refine lv_iconst (v := (1 : Int32)) S.1 S.2.1 dX9_objects_36 ki_1 ?_
    refine lv_isub S.1 S.2.1 dX9_objects_37 ?_
    obtain ⟨y7, e8, h⟩ := lt1_e h
    refine nmi e8 ?_
    obtain ⟨z9, h⟩ := of_g h
    refine ist S hK hW rfl 1 rfl z9 dX9_objects_38 (fun H locs hW => ?_)
    have hW : wd (dC, dI) A s.heap (clX9 cI cJ cZ cB h0 a0 (upd (cv4 0) (ix ((12 : Int32) + (((cv4 0) 16) - ((cv4 0) 16) / (2 : Int32) * (2 : Int32)))) y7) (cv4 1) (cv4 2) (cv4 3) (w0 4 0) (w0 5 0) (cv4 6) (cv4 7) (cv4 8) (cv4 9) (cv4 10) (cv4 11) (cv4 12) (cv4 13) (cv4 14 0) (cv4 15 0) (cv4 16 0) (cv4 17 0) (cv4 18) (cv4 19) (cv4 20) (cv4 21 0) (cv4 22 0) (cv4 23 0) (cv4 24 0) (cv4 25 0) (cv4 26) (cv4 27) []) H locs := hW
    refine lv_aload_n S.1 S.2.1 dX9_objects_39 rfl (lv_at hl 0 rfl) ?_
    refine gf (C := RX9) (T := TX9) (N := 28) (ci := 5) (k := 0) S hK hW wu_X9 rfl (by decide) wf_X9_7 0 rfl rfl dX9_objects_40 ?_
    refine lv_bipush (v := (6 : Int32)) S.1 S.2.1 dX9_objects_43 kb_6 ?_
    refine lv_aload_n S.1 S.2.1 dX9_objects_45 rfl (lv_at hl 0 rfl) ?_
    refine gf (C := RX9) (T := TX9) (N := 28) (ci := 5) (k := 0) S hK hW wu_X9 rfl (by decide) wf_X9_7 0 rfl rfl dX9_objects_46 ?_
    refine lv_bipush (v := (17 : Int32)) S.1 S.2.1 dX9_objects_49 kb_17 ?_
    refine iaK S hK hW rfl 1 rfl b_17_194 x_17 dX9_objects_51 ?_
    refine lv_iadd S.1 S.2.1 dX9_objects_52 ?_
    refine lv_dup2_11 S.1 S.2.1 dX9_objects_53 rfl rfl ?_
    obtain ⟨z10, h⟩ := of_g h
    refine ia S hK hW rfl 1 rfl z10 dX9_objects_54 ?_
    refine lv_iconst (v := (1 : Int32)) S.1 S.2.1 dX9_objects_55 ki_1 ?_
    refine lv_isub S.1 S.2.1 dX9_objects_56 ?_
    obtain ⟨y11, e12, h⟩ := lt1_e h
    refine nmi e12 ?_
    obtain ⟨z13, h⟩ := of_g h
    refine ist S hK hW rfl 1 rfl z13 dX9_objects_57 (fun H locs hW => ?_)
    have hW : wd (dC, dI) A s.heap (clX9 cI cJ cZ cB h0 a0 (upd (upd (cv4 0) (ix ((12 : Int32) + (((cv4 0) 16) - ((cv4 0) 16) / (2 : Int32) * (2 : Int32)))) y7) (ix ((6 : Int32) + ((upd (cv4 0) (ix ((12 : Int32) + (((cv4 0) 16) - ((cv4 0) 16) / (2 : Int32) * (2 : Int32)))) y7) 17))) y11) (cv4 1) (cv4 2) (cv4 3) (w0 4 0) (w0 5 0) (cv4 6) (cv4 7) (cv4 8) (cv4 9) (cv4 10) (cv4 11) (cv4 12) (cv4 13) (cv4 14 0) (cv4 15 0) (cv4 16 0) (cv4 17 0) (cv4 18) (cv4 19) (cv4 20) (cv4 21 0) (cv4 22 0) (cv4 23 0) (cv4 24 0) (cv4 25 0) (cv4 26) (cv4 27) []) H locs := hW
    refine lv_aload_n S.1 S.2.1 dX9_objects_58 rfl (lv_at hl 0 rfl) ?_
    refine gf (C := RX9) (T := TX9) (N := 28) (ci := 5) (k := 0) S hK hW wu_X9 rfl (by decide) wf_X9_7 0 rfl rfl dX9_objects_59 ?_
    refine lv_bipush (v := (14 : Int32)) S.1 S.2.1 dX9_objects_62 kb_14 ?_
    refine lv_iconst (v := (1 : Int32)) S.1 S.2.1 dX9_objects_64 ki_1 ?_
    refine lv_aload_n S.1 S.2.1 dX9_objects_65 rfl (lv_at hl 0 rfl) ?_
    refine gf (C := RX9) (T := TX9) (N := 28) (ci := 5) (k := 0) S hK hW wu_X9 rfl (by decide) wf_X9_7 0 rfl rfl dX9_objects_66 ?_
    refine lv_bipush (v := (14 : Int32)) S.1 S.2.1 dX9_objects_69 kb_14 ?_
    refine iaK S hK hW rfl 1 rfl b_14_194 x_14 dX9_objects_71 ?_
    refine lv_isub S.1 S.2.1 dX9_objects_72 ?_
    obtain ⟨y14, e15, h⟩ := lt1_e h
    refine nmi e15 ?_
    refine istK S hK hW rfl 1 rfl b_14_194 x_14 dX9_objects_73 (fun H locs hW => ?_)
    have hW : wd (dC, dI) A s.heap (clX9 cI cJ cZ cB h0 a0 (upd (upd (upd (cv4 0) (ix ((12 : Int32) + (((cv4 0) 16) - ((cv4 0) 16) / (2 : Int32) * (2 : Int32)))) y7) (ix ((6 : Int32) + ((upd (cv4 0) (ix ((12 : Int32) + (((cv4 0) 16) - ((cv4 0) 16) / (2 : Int32) * (2 : Int32)))) y7) 17))) y11) 14 y14) (cv4 1) (cv4 2) (cv4 3) (w0 4 0) (w0 5 0) (cv4 6) (cv4 7) (cv4 8) (cv4 9) (cv4 10) (cv4 11) (cv4 12) (cv4 13) (cv4 14 0) (cv4 15 0) (cv4 16 0) (cv4 17 0) (cv4 18) (cv4 19) (cv4 20) (cv4 21 0) (cv4 22 0) (cv4 23 0) (cv4 24 0) (cv4 25 0) (cv4 26) (cv4 27) []) H locs := hW
    refine lv_aload_n S.1 S.2.1 dX9_objects_74 rfl (lv_at hl 0 rfl) ?_
    refine gf (C := RX9) (T := TX9) (N := 28) (ci := 5) (k := 0) S hK hW wu_X9 rfl (by decide) wf_X9_7 0 rfl rfl dX9_objects_75 ?_
    refine lv_bipush (v := (17 : Int32)) S.1 S.2.1 dX9_objects_78 kb_17 ?_
    refine lv_iconst (v := (-1 : Int32)) S.1 S.2.1 dX9_objects_80 ki_m1 ?_
    refine istK S hK hW rfl 1 rfl b_17_194 x_17 dX9_objects_81 (fun H locs hW => ?_)
    have hW : wd (dC, dI) A s.heap (clX9 cI cJ cZ cB h0 a0 (upd (upd (upd (upd (cv4 0) (ix ((12 : Int32) + (((cv4 0) 16) - ((cv4 0) 16) / (2 : Int32) * (2 : Int32)))) y7) (ix ((6 : Int32) + ((upd (cv4 0) (ix ((12 : Int32) + (((cv4 0) 16) - ((cv4 0) 16) / (2 : Int32) * (2 : Int32)))) y7) 17))) y11) 14 y14) 17 (-1 : Int32)) (cv4 1) (cv4 2) (cv4 3) (w0 4 0) (w0 5 0) (cv4 6) (cv4 7) (cv4 8) (cv4 9) (cv4 10) (cv4 11) (cv4 12) (cv4 13) (cv4 14 0) (cv4 15 0) (cv4 16 0) (cv4 17 0) (cv4 18) (cv4 19) (cv4 20) (cv4 21 0) (cv4 22 0) (cv4 23 0) (cv4 24 0) (cv4 25 0) (cv4 26) (cv4 27) []) H locs := hW
    refine lv_aload_n S.1 S.2.1 dX9_objects_82 rfl (lv_at hl 0 rfl) ?_
    refine gf (C := RX9) (T := TX9) (N := 28) (ci := 5) (k := 0) S hK hW wu_X9 rfl (by decide) wf_X9_7 0 rfl rfl dX9_objects_83 ?_
    refine lv_bipush (v := (14 : Int32)) S.1 S.2.1 dX9_objects_86 kb_14 ?_
    refine iaK S hK hW rfl 1 rfl b_14_194 x_14 dX9_objects_88 ?_
    have f16 := Option.some.inj h
    obtain ⟨f17, f18⟩ := Prod.mk.inj f16
    subst f17
    subst f18
    exact ri S hr hlocks hW dX9_objects_89
  · have h := of_p u3 h
    refine lv_aload_n S.1 S.2.1 dX9_objects_7 rfl (lv_at hl 0 rfl) ?_
    refine lv_bipush (v := (-3 : Int32)) S.1 S.2.1 dX9_objects_8 kb_m3 ?_
    obtain ⟨r19, cv20, hy21, h⟩ := bd2_e h
    refine kv (clX9 cI cJ cZ cB h0 a0 (cv20 0) (cv20 1) (cv20 2) (cv20 3) (w0 4 0) (w0 5 0) (cv20 6) (cv20 7) (cv20 8) (cv20 9) (cv20 10) (cv20 11) (cv20 12) (cv20 13) (cv20 14 0) (cv20 15 0) (cv20 16 0) (cv20 17 0) (cv20 18) (cv20 19) (cv20 20) (cv20 21 0) (cv20 22 0) (cv20 23 0) (cv20 24 0) (cv20 25 0) (cv20 26) (cv20 27) []) S hK hN hZ hA hW (rest := []) (t_X9_no l dC dI cI cJ cZ cB zz h0 a0 c0 w0 (-3 : Int32) _ _  hy21) wl_X9_124 wv_X9_no rfl rfl ⟨Nat.le_of_ble_eq_true rfl, Nat.le_of_ble_eq_true rfl⟩ [] [] rfl rfl rfl 0 rfl rfl rfl rfl hl.1 rfl (Nat.le_of_ble_eq_true rfl) dX9_objects_10 [.int r19] rfl (fun H locs hW => ?_)
    have f22 := Option.some.inj h
    obtain ⟨f23, f24⟩ := Prod.mk.inj f22
    subst f23
    subst f24
    exact ri S hr hlocks hW dX9_objects_13
abbrev rmX9_undo : Room := { frames := 1, cells := 0, slots := 0, locals := 21 }
set_option maxHeartbeats 4000000 in
set_option maxRecDepth 100000 in
theorem t_X9_undo (l : Launch) (dC : Nat → ClassId) (dI : Nat → Nat → Nat) (cI cJ cZ cB : ClassId) (zz : ZT)  (h0 : Nat) (a0 : Nat → Nat) (F : Nat) (c0 : Nat → Nat → Int32) (w0 : Nat → Nat → Int64) (r : Int32) (c0' : Nat → Nat → Int32) (hm : md_X9_undo F c0 w0 = some (r, c0')) : ct l (dC, dI) zz (ty4 cI cJ cZ cB) yX9_undo cX9_undo 2 (some .int) rmX9_undo [.ref h0] (cwX9 cI cJ cZ cB h0 a0 c0 w0 []) (cwX9 cI cJ cZ cB h0 a0 c0' w0 []) (some (.int r)) := by
  refine ct_of (cc := cX9_undo) (maxL := 2) (ret := (some .int)) (by decide) (Nat.le_of_ble_eq_true rfl) ?_
  intro p e s m below meth c A S hr hlocks hK hN hZ hA H locs hW ls hl
  have S : CallFix p m c cX9_undo 2 s (List.toArray [.ref h0]) G RX9 := S
  have hl : lv_has ls 2 [(0, .ref h0)] := hl
  have h := hm
  rw [md_X9_undo] at h
  have hW : wd (dC, dI) A s.heap (clX9 cI cJ cZ cB h0 a0 (c0 0) (c0 1) (c0 2) (c0 3) (w0 4 0) (w0 5 0) (c0 6) (c0 7) (c0 8) (c0 9) (c0 10) (c0 11) (c0 12) (c0 13) (c0 14 0) (c0 15 0) (c0 16 0) (c0 17 0) (c0 18) (c0 19) (c0 20) (c0 21 0) (c0 22 0) (c0 23 0) (c0 24 0) (c0 25 0) (c0 26) (c0 27) []) H locs := hW
  have hL28 : ∀ (n28 : Nat) (c0 : Nat → Nat → Int32) (x1 : Int32), ld_X9_undo_28 F w0 n28 c0 x1 = some (r, c0') → ∀ (H : Heap) (locs : List Loc), wd (dC, dI) A s.heap (clX9 cI cJ cZ cB h0 a0 (c0 0) (c0 1) (c0 2) (c0 3) (w0 4 0) (w0 5 0) (c0 6) (c0 7) (c0 8) (c0 9) (c0 10) (c0 11) (c0 12) (c0 13) (c0 14 0) (c0 15 0) (c0 16 0) (c0 17 0) (c0 18) (c0 19) (c0 20) (c0 21 0) (c0 22 0) (c0 23 0) (c0 24 0) (c0 25 0) (c0 26) (c0 27) []) H locs → ∀ ls : Array Slot, lv_has ls 2 [(0, .ref h0), (1, .int x1)] → W p l e rmX9_undo s m (List.toArray [.ref h0]) below meth c H locs 0 0 (MQ below (kQ (dC, dI) (cwX9 cI cJ cZ cB h0 a0 c0' w0 []) (some (.int r)) A) (List.toArray [.ref h0]) s 0 0 A) (F0 m 28 ls []) := by
    intro n28
    induction n28 with
    | zero => intro c0 x1 h; rw [ld_X9_undo_28] at h; cases h
    | succ n28 ih28 =>
      intro c0 x1 h H locs hW ls hl
      rw [ld_X9_undo_28] at h
      refine lv_iload_n S.1 S.2.1 dX9_undo_28 rfl (lv_at hl 1 rfl) ?_
      refine lv_bipush (v := (13 : Int32)) S.1 S.2.1 dX9_undo_29 kb_13 ?_
      refine lv_icmp_ge (tgt := 67) S.1 S.2.1 dX9_undo_31 (by decide) (fun u1 => ?_) (fun u1 => ?_)
      · have h := of_p u1 h
        refine lv_aload_n S.1 S.2.1 dX9_undo_67 rfl (lv_at hl 0 rfl) ?_
        refine gf (C := RX9) (T := TX9) (N := 28) (ci := 5) (k := 0) S hK hW wu_X9 rfl (by decide) wf_X9_7 0 rfl rfl dX9_undo_68 ?_
        refine lv_bipush (v := (16 : Int32)) S.1 S.2.1 dX9_undo_71 kb_16 ?_
        refine iaK S hK hW rfl 1 rfl b_16_194 x_16 dX9_undo_73 ?_
        have f2 := Option.some.inj h
        obtain ⟨f3, f4⟩ := Prod.mk.inj f2
        subst f3
        subst f4
        exact ri S hr hlocks hW dX9_undo_74
      · have h := of_n u1 h
        refine lv_aload_n S.1 S.2.1 dX9_undo_34 rfl (lv_at hl 0 rfl) ?_
        refine gf (C := RX9) (T := TX9) (N := 28) (ci := 5) (k := 0) S hK hW wu_X9 rfl (by decide) wf_X9_7 0 rfl rfl dX9_undo_35 ?_
        refine lv_iconst (v := (5 : Int32)) S.1 S.2.1 dX9_undo_38 ki_5 ?_
        refine lv_iload_n S.1 S.2.1 dX9_undo_39 rfl (lv_at hl 1 rfl) ?_
        refine lv_iadd S.1 S.2.1 dX9_undo_40 ?_
        refine lv_aload_n S.1 S.2.1 dX9_undo_41 rfl (lv_at hl 0 rfl) ?_
        refine gf (C := RX9) (T := TX9) (N := 28) (ci := 5) (k := 0) S hK hW wu_X9 rfl (by decide) wf_X9_7 0 rfl rfl dX9_undo_42 ?_
        refine lv_bipush (v := (90 : Int32)) S.1 S.2.1 dX9_undo_45 kb_90 ?_
        refine lv_bipush (v := (13 : Int32)) S.1 S.2.1 dX9_undo_47 kb_13 ?_
        refine lv_aload_n S.1 S.2.1 dX9_undo_49 rfl (lv_at hl 0 rfl) ?_
        refine gf (C := RX9) (T := TX9) (N := 28) (ci := 5) (k := 0) S hK hW wu_X9 rfl (by decide) wf_X9_7 0 rfl rfl dX9_undo_50 ?_
        refine lv_iconst (v := (4 : Int32)) S.1 S.2.1 dX9_undo_53 ki_4 ?_
        refine iaK S hK hW rfl 1 rfl b_4_194 x_4 dX9_undo_54 ?_
        refine lv_imul S.1 S.2.1 dX9_undo_55 ?_
        refine lv_iadd S.1 S.2.1 dX9_undo_56 ?_
        refine lv_iload_n S.1 S.2.1 dX9_undo_57 rfl (lv_at hl 1 rfl) ?_
        refine lv_iadd S.1 S.2.1 dX9_undo_58 ?_
        obtain ⟨z5, h⟩ := of_g h
        refine ia S hK hW rfl 1 rfl z5 dX9_undo_59 ?_
        obtain ⟨y6, e7, h⟩ := lt1_e h
        refine nmi e7 ?_
        obtain ⟨z8, h⟩ := of_g h
        refine ist S hK hW rfl 1 rfl z8 dX9_undo_60 (fun H locs hW => ?_)
        have hW : wd (dC, dI) A s.heap (clX9 cI cJ cZ cB h0 a0 (upd (c0 0) (ix ((5 : Int32) + x1)) y6) (c0 1) (c0 2) (c0 3) (w0 4 0) (w0 5 0) (c0 6) (c0 7) (c0 8) (c0 9) (c0 10) (c0 11) (c0 12) (c0 13) (c0 14 0) (c0 15 0) (c0 16 0) (c0 17 0) (c0 18) (c0 19) (c0 20) (c0 21 0) (c0 22 0) (c0 23 0) (c0 24 0) (c0 25 0) (c0 26) (c0 27) []) H locs := hW
        refine lv_iinc (v := (x1 + (1 : Int32))) (lv' := [(1, .int (x1 + (1 : Int32))), (0, .ref h0)]) S.1 S.2.1 dX9_undo_61 hl (k := 1) rfl (congrArg (fun z => x1 + z) ki_1) (by decide) rfl (fun ls hl => ?_)
        refine lv_goto (tgt := 28) S.1 S.2.1 dX9_undo_64 (by decide) ?_
        exact ih28 _ _ h H locs hW ls (lv_sub hl [1, 0] rfl)
  refine lv_aload_n S.1 S.2.1 dX9_undo_0 rfl (lv_at hl 0 rfl) ?_
  refine gf (C := RX9) (T := TX9) (N := 28) (ci := 5) (k := 0) S hK hW wu_X9 rfl (by decide) wf_X9_7 0 rfl rfl dX9_undo_1 ?_
  refine lv_iconst (v := (4 : Int32)) S.1 S.2.1 dX9_undo_4 ki_4 ?_
  refine iaK S hK hW rfl 1 rfl b_4_194 x_4 dX9_undo_5 ?_
  refine lv_if_ne (tgt := 16) S.1 S.2.1 dX9_undo_6 (by decide) (fun u9 => ?_) (fun u9 => ?_)
  · have h := of_n u9 h
    refine lv_aload_n S.1 S.2.1 dX9_undo_16 rfl (lv_at hl 0 rfl) ?_
    refine gf (C := RX9) (T := TX9) (N := 28) (ci := 5) (k := 0) S hK hW wu_X9 rfl (by decide) wf_X9_7 0 rfl rfl dX9_undo_17 ?_
    refine lv_iconst (v := (4 : Int32)) S.1 S.2.1 dX9_undo_20 ki_4 ?_
    refine lv_dup2_11 S.1 S.2.1 dX9_undo_21 rfl rfl ?_
    refine iaK S hK hW rfl 1 rfl b_4_194 x_4 dX9_undo_22 ?_
    refine lv_iconst (v := (1 : Int32)) S.1 S.2.1 dX9_undo_23 ki_1 ?_
    refine lv_isub S.1 S.2.1 dX9_undo_24 ?_
    refine istK S hK hW rfl 1 rfl b_4_194 x_4 dX9_undo_25 (fun H locs hW => ?_)
    have hW : wd (dC, dI) A s.heap (clX9 cI cJ cZ cB h0 a0 (upd (c0 0) 4 (((c0 0) 4) - (1 : Int32))) (c0 1) (c0 2) (c0 3) (w0 4 0) (w0 5 0) (c0 6) (c0 7) (c0 8) (c0 9) (c0 10) (c0 11) (c0 12) (c0 13) (c0 14 0) (c0 15 0) (c0 16 0) (c0 17 0) (c0 18) (c0 19) (c0 20) (c0 21 0) (c0 22 0) (c0 23 0) (c0 24 0) (c0 25 0) (c0 26) (c0 27) []) H locs := hW
    refine lv_iconst (v := (0 : Int32)) S.1 S.2.1 dX9_undo_26 ki_0 ?_
    refine lv_istore_n (lv' := [(1, .int (0 : Int32)), (0, .ref h0)]) S.1 S.2.1 dX9_undo_27 rfl hl (by decide) rfl (fun ls hl => ?_)
    exact hL28 F _ _ h H locs hW ls (lv_sub hl [1, 0] rfl)
  · have h := of_p u9 h
    refine lv_aload_n S.1 S.2.1 dX9_undo_9 rfl (lv_at hl 0 rfl) ?_
    refine lv_bipush (v := (-3 : Int32)) S.1 S.2.1 dX9_undo_10 kb_m3 ?_
    obtain ⟨r10, cv11, hy12, h⟩ := bd2_e h
    refine kv (clX9 cI cJ cZ cB h0 a0 (cv11 0) (cv11 1) (cv11 2) (cv11 3) (w0 4 0) (w0 5 0) (cv11 6) (cv11 7) (cv11 8) (cv11 9) (cv11 10) (cv11 11) (cv11 12) (cv11 13) (cv11 14 0) (cv11 15 0) (cv11 16 0) (cv11 17 0) (cv11 18) (cv11 19) (cv11 20) (cv11 21 0) (cv11 22 0) (cv11 23 0) (cv11 24 0) (cv11 25 0) (cv11 26) (cv11 27) []) S hK hN hZ hA hW (rest := []) (t_X9_no l dC dI cI cJ cZ cB zz h0 a0 c0 w0 (-3 : Int32) _ _  hy12) wl_X9_124 wv_X9_no rfl rfl ⟨Nat.le_of_ble_eq_true rfl, Nat.le_of_ble_eq_true rfl⟩ [] [] rfl rfl rfl 0 rfl rfl rfl rfl hl.1 rfl (Nat.le_of_ble_eq_true rfl) dX9_undo_12 [.int r10] rfl (fun H locs hW => ?_)
    have f13 := Option.some.inj h
    obtain ⟨f14, f15⟩ := Prod.mk.inj f13
    subst f14
    subst f15
    exact ri S hr hlocks hW dX9_undo_15
abbrev rmX9_open : Room := { frames := 1, cells := 0, slots := 0, locals := 20 }
set_option maxHeartbeats 4000000 in
set_option maxRecDepth 100000 in
theorem t_X9_open (l : Launch) (dC : Nat → ClassId) (dI : Nat → Nat → Nat) (cI cJ cZ cB : ClassId) (zz : ZT)  (h0 : Nat) (a0 : Nat → Nat) (c0 : Nat → Nat → Int32) (w0 : Nat → Nat → Int64) (r : Int32) (hm : md_X9_open c0 w0 = some (r)) : ct l (dC, dI) zz (ty4 cI cJ cZ cB) yX9_open cX9_open 1 (some .int) rmX9_open [.ref h0] (cwX9 cI cJ cZ cB h0 a0 c0 w0 []) (cwX9 cI cJ cZ cB h0 a0 c0 w0 []) (some (.int r)) := by
  refine ct_of (cc := cX9_open) (maxL := 1) (ret := (some .int)) (by decide) (Nat.le_of_ble_eq_true rfl) ?_
  intro p e s m below meth c A S hr hlocks hK hN hZ hA H locs hW ls hl
  have S : CallFix p m c cX9_open 1 s (List.toArray [.ref h0]) G RX9 := S
  have hl : lv_has ls 1 [(0, .ref h0)] := hl
  have h := hm
  rw [md_X9_open] at h
  have hW : wd (dC, dI) A s.heap (clX9 cI cJ cZ cB h0 a0 (c0 0) (c0 1) (c0 2) (c0 3) (w0 4 0) (w0 5 0) (c0 6) (c0 7) (c0 8) (c0 9) (c0 10) (c0 11) (c0 12) (c0 13) (c0 14 0) (c0 15 0) (c0 16 0) (c0 17 0) (c0 18) (c0 19) (c0 20) (c0 21 0) (c0 22 0) (c0 23 0) (c0 24 0) (c0 25 0) (c0 26) (c0 27) []) H locs := hW
  refine lv_iconst (v := (1 : Int32)) S.1 S.2.1 dX9_open_0 ki_1 ?_
  refine lv_aload_n S.1 S.2.1 dX9_open_1 rfl (lv_at hl 0 rfl) ?_
  obtain ⟨r1, hy2, h⟩ := bd1_e h
  refine kv0 S hK hN hZ hA hW (rest := [.int (1 : Int32)]) (t_X9_many l dC dI cI cJ cZ cB zz h0 a0 c0 w0 _  hy2) wl_X9_70 wv_X9_many rfl rfl ⟨Nat.le_of_ble_eq_true rfl, Nat.le_of_ble_eq_true rfl⟩ [] [] rfl 0 rfl rfl rfl rfl hl.1 rfl (Nat.le_of_ble_eq_true rfl) dX9_open_2 [.int r1, .int (1 : Int32)] rfl (fun H locs hW => ?_)
  refine lv_ishl S.1 S.2.1 dX9_open_5 ?_
  refine lv_iconst (v := (1 : Int32)) S.1 S.2.1 dX9_open_6 ki_1 ?_
  refine lv_isub S.1 S.2.1 dX9_open_7 ?_
  refine lv_aload_n S.1 S.2.1 dX9_open_8 rfl (lv_at hl 0 rfl) ?_
  refine gf (C := RX9) (T := TX9) (N := 28) (ci := 5) (k := 0) S hK hW wu_X9 rfl (by decide) wf_X9_7 0 rfl rfl dX9_open_9 ?_
  refine lv_iconst (v := (5 : Int32)) S.1 S.2.1 dX9_open_12 ki_5 ?_
  refine iaK S hK hW rfl 1 rfl b_5_194 x_5 dX9_open_13 ?_
  refine lv_iconst (v := (-1 : Int32)) S.1 S.2.1 dX9_open_14 ki_m1 ?_
  refine lv_ixor S.1 S.2.1 dX9_open_15 ?_
  refine lv_iand S.1 S.2.1 dX9_open_16 ?_
  have f3 := Option.some.inj h
  subst f3
  exact ri S hr hlocks hW dX9_open_17
abbrev rmX9_toldNow : Room := { frames := 2, cells := 0, slots := 0, locals := 40 }
set_option maxHeartbeats 4000000 in
set_option maxRecDepth 100000 in
theorem t_X9_toldNow (l : Launch) (dC : Nat → ClassId) (dI : Nat → Nat → Nat) (cI cJ cZ cB : ClassId) (zz : ZT)  (h0 : Nat) (a0 : Nat → Nat) (c0 : Nat → Nat → Int32) (w0 : Nat → Nat → Int64) (p1 : Int32) (r : Int32) (hm : md_X9_toldNow c0 w0 p1 = some (r)) : ct l (dC, dI) zz (ty4 cI cJ cZ cB) yX9_toldNow cX9_toldNow 2 (some .int) rmX9_toldNow [.ref h0, .int p1] (cwX9 cI cJ cZ cB h0 a0 c0 w0 []) (cwX9 cI cJ cZ cB h0 a0 c0 w0 []) (some (.int r)) := by
  refine ct_of (cc := cX9_toldNow) (maxL := 2) (ret := (some .int)) (by decide) (Nat.le_of_ble_eq_true rfl) ?_
  intro p e s m below meth c A S hr hlocks hK hN hZ hA H locs hW ls hl
  have S : CallFix p m c cX9_toldNow 2 s (List.toArray [.ref h0, .int p1]) G RX9 := S
  have hl : lv_has ls 2 [(0, .ref h0), (1, .int p1)] := hl
  have h := hm
  rw [md_X9_toldNow] at h
  have hW : wd (dC, dI) A s.heap (clX9 cI cJ cZ cB h0 a0 (c0 0) (c0 1) (c0 2) (c0 3) (w0 4 0) (w0 5 0) (c0 6) (c0 7) (c0 8) (c0 9) (c0 10) (c0 11) (c0 12) (c0 13) (c0 14 0) (c0 15 0) (c0 16 0) (c0 17 0) (c0 18) (c0 19) (c0 20) (c0 21 0) (c0 22 0) (c0 23 0) (c0 24 0) (c0 25 0) (c0 26) (c0 27) []) H locs := hW
  refine lv_iload_n S.1 S.2.1 dX9_toldNow_0 rfl (lv_at hl 1 rfl) ?_
  by_cases u1 : p1 = (0 : Int32)
  · have h := of_p u1 h
    refine lv_tableIn (off := 35) (tgt := 36) S.1 S.2.1 dX9_toldNow_1 (by rw [u1]; decide) (by rw [u1]; decide) (by rw [u1]; decide +kernel) (by decide) ?_
    refine lv_aload_n S.1 S.2.1 dX9_toldNow_36 rfl (lv_at hl 0 rfl) ?_
    refine gf (C := RX9) (T := TX9) (N := 28) (ci := 5) (k := 0) S hK hW wu_X9 rfl (by decide) wf_X9_7 0 rfl rfl dX9_toldNow_37 ?_
    refine lv_bipush (v := (15 : Int32)) S.1 S.2.1 dX9_toldNow_40 kb_15 ?_
    refine iaK S hK hW rfl 1 rfl b_15_194 x_15 dX9_toldNow_42 ?_
    have f2 := Option.some.inj h
    subst f2
    exact ri S hr hlocks hW dX9_toldNow_43
  · have h := of_n u1 h
    by_cases u3 : p1 = (1 : Int32)
    · have h := of_p u3 h
      refine lv_tableIn (off := 43) (tgt := 44) S.1 S.2.1 dX9_toldNow_1 (by rw [u3]; decide) (by rw [u3]; decide) (by rw [u3]; decide +kernel) (by decide) ?_
      refine lv_aload_n S.1 S.2.1 dX9_toldNow_44 rfl (lv_at hl 0 rfl) ?_
      refine gf (C := RX9) (T := TX9) (N := 28) (ci := 5) (k := 0) S hK hW wu_X9 rfl (by decide) wf_X9_7 0 rfl rfl dX9_toldNow_45 ?_
      refine lv_bipush (v := (14 : Int32)) S.1 S.2.1 dX9_toldNow_48 kb_14 ?_
      refine iaK S hK hW rfl 1 rfl b_14_194 x_14 dX9_toldNow_50 ?_
      have f4 := Option.some.inj h
      subst f4
      exact ri S hr hlocks hW dX9_toldNow_51
    · have h := of_n u3 h
      by_cases u5 : p1 = (2 : Int32)
      · have h := of_p u5 h
        refine lv_tableIn (off := 51) (tgt := 52) S.1 S.2.1 dX9_toldNow_1 (by rw [u5]; decide) (by rw [u5]; decide) (by rw [u5]; decide +kernel) (by decide) ?_
        refine lv_aload_n S.1 S.2.1 dX9_toldNow_52 rfl (lv_at hl 0 rfl) ?_
        refine gf (C := RX9) (T := TX9) (N := 28) (ci := 5) (k := 0) S hK hW wu_X9 rfl (by decide) wf_X9_7 0 rfl rfl dX9_toldNow_53 ?_
        refine lv_bipush (v := (16 : Int32)) S.1 S.2.1 dX9_toldNow_56 kb_16 ?_
        refine iaK S hK hW rfl 1 rfl b_16_194 x_16 dX9_toldNow_58 ?_
        have f6 := Option.some.inj h
        subst f6
        exact ri S hr hlocks hW dX9_toldNow_59
      · have h := of_n u5 h
        by_cases u7 : p1 = (3 : Int32)
        · have h := of_p u7 h
          refine lv_tableIn (off := 59) (tgt := 60) S.1 S.2.1 dX9_toldNow_1 (by rw [u7]; decide) (by rw [u7]; decide) (by rw [u7]; decide +kernel) (by decide) ?_
          refine lv_aload_n S.1 S.2.1 dX9_toldNow_60 rfl (lv_at hl 0 rfl) ?_
          refine gf (C := RX9) (T := TX9) (N := 28) (ci := 5) (k := 0) S hK hW wu_X9 rfl (by decide) wf_X9_7 0 rfl rfl dX9_toldNow_61 ?_
          refine lv_bipush (v := (16 : Int32)) S.1 S.2.1 dX9_toldNow_64 kb_16 ?_
          refine iaK S hK hW rfl 1 rfl b_16_194 x_16 dX9_toldNow_66 ?_
          refine lv_iconst (v := (2 : Int32)) S.1 S.2.1 dX9_toldNow_67 ki_2 ?_
          refine lv_irem S.1 S.2.1 dX9_toldNow_68 (by decide) ?_
          have f8 := Option.some.inj h
          subst f8
          exact ri S hr hlocks hW dX9_toldNow_69
        · have h := of_n u7 h
          by_cases u9 : p1 = (4 : Int32)
          · have h := of_p u9 h
            refine lv_tableIn (off := 69) (tgt := 70) S.1 S.2.1 dX9_toldNow_1 (by rw [u9]; decide) (by rw [u9]; decide) (by rw [u9]; decide +kernel) (by decide) ?_
            refine lv_aload_n S.1 S.2.1 dX9_toldNow_70 rfl (lv_at hl 0 rfl) ?_
            obtain ⟨r10, hy11, h⟩ := bd1_e h
            refine kv0 S hK hN hZ hA hW (rest := []) (t_X9_may l dC dI cI cJ cZ cB zz h0 a0 c0 w0 _  hy11) wl_X9_133 wv_X9_may rfl rfl ⟨Nat.le_of_ble_eq_true rfl, Nat.le_of_ble_eq_true rfl⟩ [] [] rfl 0 rfl rfl rfl rfl hl.1 rfl (Nat.le_of_ble_eq_true rfl) dX9_toldNow_71 [.int r10] rfl (fun H locs hW => ?_)
            obtain ⟨y12, e13, h⟩ := lt1_e h
            suffices hM14 : ∀ ls : Array Slot, lv_has ls 2 [] → W p l e rmX9_toldNow s m (List.toArray [.ref h0, .int p1]) below meth c H locs 0 0 (MQ below (kQ (dC, dI) (cwX9 cI cJ cZ cB h0 a0 c0 w0 []) (some (.int r)) A) (List.toArray [.ref h0, .int p1]) s 0 0 A) (F0 m 82 ls [.int y12]) by
              refine lv_if_eq (tgt := 81) S.1 S.2.1 dX9_toldNow_74 (by decide) (fun u15 => ?_) (fun u15 => ?_)
              · refine lv_iconst (v := (0 : Int32)) S.1 S.2.1 dX9_toldNow_81 ki_0 ?_
                have e13 := e13.trans (if_pos u15)
                subst e13
                exact hM14 ls (lv_sub hl [] rfl)
              · refine lv_iconst (v := (1 : Int32)) S.1 S.2.1 dX9_toldNow_77 ki_1 ?_
                refine lv_goto (tgt := 82) S.1 S.2.1 dX9_toldNow_78 (by decide) ?_
                have e13 := e13.trans (if_neg u15)
                subst e13
                exact hM14 ls (lv_sub hl [] rfl)
            intro ls hl
            have f16 := Option.some.inj h
            subst f16
            exact ri S hr hlocks hW dX9_toldNow_82
          · have h := of_n u9 h
            refine lv_tableOut (tgt := 83) S.1 S.2.1 dX9_toldNow_1 (by have z0 := lv_neT u1 (a := 0) (by decide); have z1 := lv_neT u3 (a := 1) (by decide); have z2 := lv_neT u5 (a := 2) (by decide); have z3 := lv_neT u7 (a := 3) (by decide); have z4 := lv_neT u9 (a := 4) (by decide); omega) (by decide) ?_
            refine lv_aload_n S.1 S.2.1 dX9_toldNow_83 rfl (lv_at hl 0 rfl) ?_
            obtain ⟨r17, hy18, h⟩ := bd1_e h
            refine kv0 S hK hN hZ hA hW (rest := []) (t_X9_open l dC dI cI cJ cZ cB zz h0 a0 c0 w0 _  hy18) wl_X9_137 wv_X9_open rfl rfl ⟨Nat.le_of_ble_eq_true rfl, Nat.le_of_ble_eq_true rfl⟩ [] [] rfl 0 rfl rfl rfl rfl hl.1 rfl (Nat.le_of_ble_eq_true rfl) dX9_toldNow_84 [.int r17] rfl (fun H locs hW => ?_)
            obtain ⟨y19, e20, h⟩ := lt1_e h
            suffices hM21 : ∀ ls : Array Slot, lv_has ls 2 [] → W p l e rmX9_toldNow s m (List.toArray [.ref h0, .int p1]) below meth c H locs 0 0 (MQ below (kQ (dC, dI) (cwX9 cI cJ cZ cB h0 a0 c0 w0 []) (some (.int r)) A) (List.toArray [.ref h0, .int p1]) s 0 0 A) (F0 m 109 ls [.int y19]) by
              refine lv_if_eq (tgt := 94) S.1 S.2.1 dX9_toldNow_87 (by decide) (fun u22 => ?_) (fun u22 => ?_)
              · refine lv_aload_n S.1 S.2.1 dX9_toldNow_94 rfl (lv_at hl 0 rfl) ?_
                refine gf (C := RX9) (T := TX9) (N := 28) (ci := 5) (k := 0) S hK hW wu_X9 rfl (by decide) wf_X9_7 0 rfl rfl dX9_toldNow_95 ?_
                refine lv_bipush (v := (15 : Int32)) S.1 S.2.1 dX9_toldNow_98 kb_15 ?_
                refine iaK S hK hW rfl 1 rfl b_15_194 x_15 dX9_toldNow_100 ?_
                refine lv_if_le (tgt := 108) S.1 S.2.1 dX9_toldNow_101 (by decide) (fun u23 => ?_) (fun u23 => ?_)
                · refine lv_iconst (v := (1 : Int32)) S.1 S.2.1 dX9_toldNow_108 ki_1 ?_
                  have e20 := e20.trans ((if_pos u22).trans (if_pos u23))
                  subst e20
                  exact hM21 ls (lv_sub hl [] rfl)
                · refine lv_iconst (v := (0 : Int32)) S.1 S.2.1 dX9_toldNow_104 ki_0 ?_
                  refine lv_goto (tgt := 109) S.1 S.2.1 dX9_toldNow_105 (by decide) ?_
                  have e20 := e20.trans ((if_pos u22).trans (if_neg u23))
                  subst e20
                  exact hM21 ls (lv_sub hl [] rfl)
              · refine lv_iconst (v := (-1 : Int32)) S.1 S.2.1 dX9_toldNow_90 ki_m1 ?_
                refine lv_goto (tgt := 109) S.1 S.2.1 dX9_toldNow_91 (by decide) ?_
                have e20 := e20.trans (if_neg u22)
                subst e20
                exact hM21 ls (lv_sub hl [] rfl)
            intro ls hl
            have f24 := Option.some.inj h
            subst f24
            exact ri S hr hlocks hW dX9_toldNow_109
