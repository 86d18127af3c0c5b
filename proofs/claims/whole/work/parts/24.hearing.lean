abbrev rmX4_speakAll : Room := { frames := 4, cells := 0, slots := 0, locals := 91 }
set_option maxHeartbeats 4000000 in
set_option maxRecDepth 100000 in
theorem t_X4_speakAll (l : Launch) (dC : Nat → ClassId) (dI : Nat → Nat → Nat) (cI cJ cZ cB : ClassId) (zz : ZT)  (h0 : Nat) (a0 : Nat → Nat) (F : Nat) (c0 : Nat → Nat → Int32) (p1 : Int32) (c0' : Nat → Nat → Int32) (hm : md_X4_speakAll F c0 p1 = some (c0')) : ct l (dC, dI) zz (ty4 cI cJ cZ cB) yX4_speakAll cX4_speakAll 3 none rmX4_speakAll [.ref h0, .int p1] (cwX3 cI cJ cZ cB h0 a0 c0 []) (cwX3 cI cJ cZ cB h0 a0 c0' []) none := by
  refine ct_of (cc := cX4_speakAll) (maxL := 3) (ret := none) (by decide) (Nat.le_of_ble_eq_true rfl) ?_
  intro p e s m below meth c A S hr hlocks hK hN hZ hA H locs hW ls hl
  have S : CallFix p m c cX4_speakAll 3 s (List.toArray [.ref h0, .int p1]) G RX4 := S
  have hl : lv_has ls 3 [(0, .ref h0), (1, .int p1)] := hl
  have h := hm
  rw [md_X4_speakAll] at h
  have hW : wd (dC, dI) A s.heap (clX3 cI cJ cZ cB h0 a0 (c0 0) (c0 1) (c0 2) (c0 3) (c0 4) (c0 5 0) (c0 6 0) (c0 7 0) (c0 8 0) (c0 9 0) []) H locs := hW
  have hL2 : ∀ (n2 : Nat) (c0 : Nat → Nat → Int32) (x1 : Int32) (x2 : Int32), ld_X4_speakAll_2 F n2 c0 x1 x2 = some (c0') → ∀ (H : Heap) (locs : List Loc), wd (dC, dI) A s.heap (clX3 cI cJ cZ cB h0 a0 (c0 0) (c0 1) (c0 2) (c0 3) (c0 4) (c0 5 0) (c0 6 0) (c0 7 0) (c0 8 0) (c0 9 0) []) H locs → ∀ ls : Array Slot, lv_has ls 3 [(0, .ref h0), (1, .int x1), (2, .int x2)] → W p l e rmX4_speakAll s m (List.toArray [.ref h0, .int p1]) below meth c H locs 0 0 (MQ below (kQ (dC, dI) (cwX3 cI cJ cZ cB h0 a0 c0' []) none A) (List.toArray [.ref h0, .int p1]) s 0 0 A) (F0 m 2 ls []) := by
    intro n2
    induction n2 with
    | zero => intro c0 x1 x2 h; rw [ld_X4_speakAll_2] at h; cases h
    | succ n2 ih2 =>
      intro c0 x1 x2 h H locs hW ls hl
      rw [ld_X4_speakAll_2] at h
      refine lv_iload_n S.1 S.2.1 dX4_speakAll_2 rfl (lv_at hl 2 rfl) ?_
      refine lv_bipush (v := (6 : Int32)) S.1 S.2.1 dX4_speakAll_3 kb_6 ?_
      refine lv_icmp_ge (tgt := 27) S.1 S.2.1 dX4_speakAll_5 (by decide) (fun u1 => ?_) (fun u1 => ?_)
      · have h := of_p u1 h
        have f2 := Option.some.inj h
        subst f2
        exact rv S hr hlocks hW dX4_speakAll_27
      · have h := of_n u1 h
        refine lv_iload_n S.1 S.2.1 dX4_speakAll_8 rfl (lv_at hl 1 rfl) ?_
        refine lv_iload_n S.1 S.2.1 dX4_speakAll_9 rfl (lv_at hl 2 rfl) ?_
        obtain ⟨r3, hy4, h⟩ := bd1_e h
        refine kn0 S hK hN hZ hA hW (rest := []) (t_X8_has l dC dI cI cJ cZ cB zz x1 x2 _  hy4) wx_X4_39 wv_X8_has rfl rfl ⟨Nat.le_of_ble_eq_true rfl, Nat.le_of_ble_eq_true rfl⟩ [] (clX3 cI cJ cZ cB h0 a0 (c0 0) (c0 1) (c0 2) (c0 3) (c0 4) (c0 5 0) (c0 6 0) (c0 7 0) (c0 8 0) (c0 9 0) []) rfl rfl hl.1 rfl (Nat.le_of_ble_eq_true rfl) dX4_speakAll_10 [.int r3] rfl (fun H locs hW => ?_)
        refine lv_if_eq (tgt := 21) S.1 S.2.1 dX4_speakAll_13 (by decide) (fun u5 => ?_) (fun u5 => ?_)
        · have h := of_p u5 h
          refine lv_iinc (v := (x2 + (1 : Int32))) (lv' := [(2, .int (x2 + (1 : Int32))), (0, .ref h0), (1, .int x1)]) S.1 S.2.1 dX4_speakAll_21 hl (k := 2) rfl (congrArg (fun z => x2 + z) ki_1) (by decide) rfl (fun ls hl => ?_)
          refine lv_goto (tgt := 2) S.1 S.2.1 dX4_speakAll_24 (by decide) ?_
          exact ih2 _ _ _ h H locs hW ls (lv_sub hl [1, 2, 0] rfl)
        · have h := of_n u5 h
          refine lv_aload_n S.1 S.2.1 dX4_speakAll_16 rfl (lv_at hl 0 rfl) ?_
          refine lv_iload_n S.1 S.2.1 dX4_speakAll_17 rfl (lv_at hl 2 rfl) ?_
          obtain ⟨cv6, hy7, h⟩ := bd1_e h
          refine kv (clX3 cI cJ cZ cB h0 a0 (cv6 0) (cv6 1) (cv6 2) (cv6 3) (cv6 4) (cv6 5 0) (cv6 6 0) (cv6 7 0) (cv6 8 0) (cv6 9 0) []) S hK hN hZ hA hW (rest := []) (t_X3_speak l dC dI cI cJ cZ cB zz h0 a0 c0 x2 _  hy7) wl_X4_43 wv_X3_speak rfl rfl ⟨Nat.le_of_ble_eq_true rfl, Nat.le_of_ble_eq_true rfl⟩ [] [] rfl rfl rfl 0 rfl rfl rfl rfl hl.1 rfl (Nat.le_of_ble_eq_true rfl) dX4_speakAll_18 [] rfl (fun H locs hW => ?_)
          refine lv_iinc (v := (x2 + (1 : Int32))) (lv' := [(2, .int (x2 + (1 : Int32))), (0, .ref h0), (1, .int x1)]) S.1 S.2.1 dX4_speakAll_21 hl (k := 2) rfl (congrArg (fun z => x2 + z) ki_1) (by decide) rfl (fun ls hl => ?_)
          refine lv_goto (tgt := 2) S.1 S.2.1 dX4_speakAll_24 (by decide) ?_
          exact ih2 _ _ _ h H locs hW ls (lv_sub hl [1, 2, 0] rfl)
  refine lv_iconst (v := (0 : Int32)) S.1 S.2.1 dX4_speakAll_0 ki_0 ?_
  refine lv_istore_n (lv' := [(2, .int (0 : Int32)), (0, .ref h0), (1, .int p1)]) S.1 S.2.1 dX4_speakAll_1 rfl hl (by decide) rfl (fun ls hl => ?_)
  exact hL2 F _ _ _ h H locs hW ls (lv_sub hl [1, 2, 0] rfl)
abbrev rmX4_proofFor : Room := { frames := 5, cells := 0, slots := 0, locals := 113 }
set_option maxHeartbeats 4000000 in
set_option maxRecDepth 100000 in
theorem t_X4_proofFor (l : Launch) (dC : Nat → ClassId) (dI : Nat → Nat → Nat) (cI cJ cZ cB : ClassId) (zz : ZT)  (h0 : Nat) (a0 : Nat → Nat) (F : Nat) (c0 : Nat → Nat → Int32) (p1 : Int32) (r : Int32) (c0' : Nat → Nat → Int32) (hm : md_X4_proofFor F c0 p1 = some (r, c0')) : ct l (dC, dI) zz (ty4 cI cJ cZ cB) yX4_proofFor cX4_proofFor 7 (some .int) rmX4_proofFor [.ref h0, .int p1] (cwX3 cI cJ cZ cB h0 a0 c0 []) (cwX3 cI cJ cZ cB h0 a0 c0' []) (some (.int r)) := by
  refine ct_of (cc := cX4_proofFor) (maxL := 7) (ret := (some .int)) (by decide) (Nat.le_of_ble_eq_true rfl) ?_
  intro p e s m below meth c A S hr hlocks hK hN hZ hA H locs hW ls hl
  have S : CallFix p m c cX4_proofFor 7 s (List.toArray [.ref h0, .int p1]) G RX4 := S
  have hl : lv_has ls 7 [(0, .ref h0), (1, .int p1)] := hl
  have h := hm
  rw [md_X4_proofFor] at h
  have hW : wd (dC, dI) A s.heap (clX3 cI cJ cZ cB h0 a0 (c0 0) (c0 1) (c0 2) (c0 3) (c0 4) (c0 5 0) (c0 6 0) (c0 7 0) (c0 8 0) (c0 9 0) []) H locs := hW
  have hL17 : ∀ (n17 : Nat) (c0 : Nat → Nat → Int32) (x1 : Int32) (x2 : Int64) (x4 : Int32) (x5 : Int32) (x6 : Int32), ld_X4_proofFor_17 F n17 c0 x1 x2 x4 x5 x6 = some (r, c0') → ∀ (H : Heap) (locs : List Loc), wd (dC, dI) A s.heap (clX3 cI cJ cZ cB h0 a0 (c0 0) (c0 1) (c0 2) (c0 3) (c0 4) (c0 5 0) (c0 6 0) (c0 7 0) (c0 8 0) (c0 9 0) []) H locs → ∀ ls : Array Slot, lv_has ls 7 [(0, .ref h0), (1, .int x1), (2, .long x2), (4, .int x4), (5, .int x5), (6, .int x6)] → W p l e rmX4_proofFor s m (List.toArray [.ref h0, .int p1]) below meth c H locs 0 0 (MQ below (kQ (dC, dI) (cwX3 cI cJ cZ cB h0 a0 c0' []) (some (.int r)) A) (List.toArray [.ref h0, .int p1]) s 0 0 A) (F0 m 17 ls []) := by
    intro n17
    induction n17 with
    | zero => intro c0 x1 x2 x4 x5 x6 h; rw [ld_X4_proofFor_17] at h; cases h
    | succ n17 ih17 =>
      intro c0 x1 x2 x4 x5 x6 h H locs hW ls hl
      rw [ld_X4_proofFor_17] at h
      have hJ53 : ∀ (c0 : Nat → Nat → Int32) (x1 : Int32) (x2 : Int64) (x4 : Int32) (x5 : Int32) (x6 : Int32), jd_X4_proofFor_53 F (ld_X4_proofFor_17 F n17) c0 x1 x2 x4 x5 x6 = some (r, c0') → ∀ (H : Heap) (locs : List Loc), wd (dC, dI) A s.heap (clX3 cI cJ cZ cB h0 a0 (c0 0) (c0 1) (c0 2) (c0 3) (c0 4) (c0 5 0) (c0 6 0) (c0 7 0) (c0 8 0) (c0 9 0) []) H locs → ∀ ls : Array Slot, lv_has ls 7 [(0, .ref h0), (1, .int x1), (2, .long x2), (4, .int x4), (5, .int x5), (6, .int x6)] → W p l e rmX4_proofFor s m (List.toArray [.ref h0, .int p1]) below meth c H locs 0 0 (MQ below (kQ (dC, dI) (cwX3 cI cJ cZ cB h0 a0 c0' []) (some (.int r)) A) (List.toArray [.ref h0, .int p1]) s 0 0 A) (F0 m 53 ls []) := by
        intro c0 x1 x2 x4 x5 x6 h H locs hW ls hl
        rw [jd_X4_proofFor_53] at h
        refine lv_aload_n S.1 S.2.1 dX4_proofFor_53 rfl (lv_at hl 0 rfl) ?_
        refine lv_lload_n S.1 S.2.1 dX4_proofFor_54 rfl (lv_at hl 2 rfl) ?_
        obtain ⟨cv1, hy2, h⟩ := bd1_e h
        refine kv (clX3 cI cJ cZ cB h0 a0 (cv1 0) (cv1 1) (cv1 2) (cv1 3) (cv1 4) (cv1 5 0) (cv1 6 0) (cv1 7 0) (cv1 8 0) (cv1 9 0) []) S hK hN hZ hA hW (rest := []) (t_X3_back l dC dI cI cJ cZ cB zz h0 a0 F c0 x2 _  hy2) wl_X4_25 wv_X3_back rfl rfl ⟨Nat.le_of_ble_eq_true rfl, Nat.le_of_ble_eq_true rfl⟩ [] [] rfl rfl rfl 0 rfl rfl rfl rfl hl.1 rfl (Nat.le_of_ble_eq_true rfl) dX4_proofFor_55 [] rfl (fun H locs hW => ?_)
        refine lv_aload_n S.1 S.2.1 dX4_proofFor_58 rfl (lv_at hl 0 rfl) ?_
        refine lv_iload S.1 S.2.1 dX4_proofFor_59 (lv_at hl 5 rfl) ?_
        obtain ⟨cv3, hy4, h⟩ := bd1_e h
        refine ks (clX3 cI cJ cZ cB h0 a0 (cv3 0) (cv3 1) (cv3 2) (cv3 3) (cv3 4) (cv3 5 0) (cv3 6 0) (cv3 7 0) (cv3 8 0) (cv3 9 0) []) S hK hN hZ hA hW (rest := []) (t_X4_speakAll l dC dI cI cJ cZ cB zz h0 a0 F cv1 x6 _  hy4) wl_X4_29 wv_X4_speakAll rfl rfl ⟨Nat.le_of_ble_eq_true rfl, Nat.le_of_ble_eq_true rfl⟩ [] [] rfl rfl rfl rfl hl.1 rfl (Nat.le_of_ble_eq_true rfl) dX4_proofFor_61 [] rfl (fun H locs hW => ?_)
        refine lv_iload_n S.1 S.2.1 dX4_proofFor_64 rfl (lv_at hl 1 rfl) ?_
        refine lv_if_ne (tgt := 78) S.1 S.2.1 dX4_proofFor_65 (by decide) (fun u5 => ?_) (fun u5 => ?_)
        · have h := of_n u5 h
          refine lv_aload_n S.1 S.2.1 dX4_proofFor_78 rfl (lv_at hl 0 rfl) ?_
          refine gf (C := RX3) (T := TX3) (N := 10) (ci := 2) (k := 7) S hK hW wu_X3 rfl (by decide) wf_X4_35 0 rfl rfl dX4_proofFor_79 ?_
          refine lv_if_ge (tgt := 89) S.1 S.2.1 dX4_proofFor_82 (by decide) (fun u6 => ?_) (fun u6 => ?_)
          · have h := of_p u6 h
            refine lv_iinc (v := (x6 + (1 : Int32))) (lv' := [(6, .int (x6 + (1 : Int32))), (0, .ref h0), (1, .int x1), (2, .long x2), (4, .int x4), (5, .int x5)]) S.1 S.2.1 dX4_proofFor_89 hl (k := 5) rfl (congrArg (fun z => x6 + z) ki_1) (by decide) rfl (fun ls hl => ?_)
            refine lv_goto (tgt := 17) S.1 S.2.1 dX4_proofFor_92 (by decide) ?_
            exact ih17 _ _ _ _ _ _ h H locs hW ls (lv_sub hl [1, 2, 3, 4, 5, 0] rfl)
          · have h := of_n u6 h
            refine lv_iload S.1 S.2.1 dX4_proofFor_85 (lv_at hl 5 rfl) ?_
            refine lv_istore (lv' := [(5, .int x6), (0, .ref h0), (1, .int x1), (2, .long x2), (4, .int x4), (6, .int x6)]) S.1 S.2.1 dX4_proofFor_87 hl (by decide) rfl (fun ls hl => ?_)
            refine lv_iinc (v := (x6 + (1 : Int32))) (lv' := [(6, .int (x6 + (1 : Int32))), (5, .int x6), (0, .ref h0), (1, .int x1), (2, .long x2), (4, .int x4)]) S.1 S.2.1 dX4_proofFor_89 hl (k := 5) rfl (congrArg (fun z => x6 + z) ki_1) (by decide) rfl (fun ls hl => ?_)
            refine lv_goto (tgt := 17) S.1 S.2.1 dX4_proofFor_92 (by decide) ?_
            exact ih17 _ _ _ _ _ _ h H locs hW ls (lv_sub hl [2, 3, 4, 5, 1, 0] rfl)
        · have h := of_p u5 h
          refine lv_aload_n S.1 S.2.1 dX4_proofFor_68 rfl (lv_at hl 0 rfl) ?_
          refine gf (C := RX3) (T := TX3) (N := 10) (ci := 2) (k := 7) S hK hW wu_X3 rfl (by decide) wf_X4_35 0 rfl rfl dX4_proofFor_69 ?_
          refine lv_if_le (tgt := 89) S.1 S.2.1 dX4_proofFor_72 (by decide) (fun u7 => ?_) (fun u7 => ?_)
          · have h := of_p u7 h
            refine lv_iinc (v := (x6 + (1 : Int32))) (lv' := [(6, .int (x6 + (1 : Int32))), (0, .ref h0), (1, .int x1), (2, .long x2), (4, .int x4), (5, .int x5)]) S.1 S.2.1 dX4_proofFor_89 hl (k := 5) rfl (congrArg (fun z => x6 + z) ki_1) (by decide) rfl (fun ls hl => ?_)
            refine lv_goto (tgt := 17) S.1 S.2.1 dX4_proofFor_92 (by decide) ?_
            exact ih17 _ _ _ _ _ _ h H locs hW ls (lv_sub hl [1, 2, 3, 4, 5, 0] rfl)
          · have h := of_n u7 h
            refine lv_goto (tgt := 85) S.1 S.2.1 dX4_proofFor_75 (by decide) ?_
            refine lv_iload S.1 S.2.1 dX4_proofFor_85 (lv_at hl 5 rfl) ?_
            refine lv_istore (lv' := [(5, .int x6), (0, .ref h0), (1, .int x1), (2, .long x2), (4, .int x4), (6, .int x6)]) S.1 S.2.1 dX4_proofFor_87 hl (by decide) rfl (fun ls hl => ?_)
            refine lv_iinc (v := (x6 + (1 : Int32))) (lv' := [(6, .int (x6 + (1 : Int32))), (5, .int x6), (0, .ref h0), (1, .int x1), (2, .long x2), (4, .int x4)]) S.1 S.2.1 dX4_proofFor_89 hl (k := 5) rfl (congrArg (fun z => x6 + z) ki_1) (by decide) rfl (fun ls hl => ?_)
            refine lv_goto (tgt := 17) S.1 S.2.1 dX4_proofFor_92 (by decide) ?_
            exact ih17 _ _ _ _ _ _ h H locs hW ls (lv_sub hl [2, 3, 4, 5, 1, 0] rfl)
      refine lv_iload S.1 S.2.1 dX4_proofFor_17 (lv_at hl 5 rfl) ?_
      refine lv_iload S.1 S.2.1 dX4_proofFor_19 (lv_at hl 3 rfl) ?_
      refine lv_icmp_gt (tgt := 95) S.1 S.2.1 dX4_proofFor_21 (by decide) (fun u8 => ?_) (fun u8 => ?_)
      · have h := of_p u8 h
        refine lv_iload S.1 S.2.1 dX4_proofFor_95 (lv_at hl 4 rfl) ?_
        have f9 := Option.some.inj h
        obtain ⟨f10, f11⟩ := Prod.mk.inj f9
        subst f10
        subst f11
        exact ri S hr hlocks hW dX4_proofFor_97
      · have h := of_n u8 h
        refine lv_iload S.1 S.2.1 dX4_proofFor_24 (lv_at hl 5 rfl) ?_
        refine lv_iload S.1 S.2.1 dX4_proofFor_26 (lv_at hl 3 rfl) ?_
        refine lv_iconst (v := (-1 : Int32)) S.1 S.2.1 dX4_proofFor_28 ki_m1 ?_
        refine lv_ixor S.1 S.2.1 dX4_proofFor_29 ?_
        refine lv_iand S.1 S.2.1 dX4_proofFor_30 ?_
        refine lv_if_ne (tgt := 89) S.1 S.2.1 dX4_proofFor_31 (by decide) (fun u12 => ?_) (fun u12 => ?_)
        · have h := of_n u12 h
          refine lv_iinc (v := (x6 + (1 : Int32))) (lv' := [(6, .int (x6 + (1 : Int32))), (0, .ref h0), (1, .int x1), (2, .long x2), (4, .int x4), (5, .int x5)]) S.1 S.2.1 dX4_proofFor_89 hl (k := 5) rfl (congrArg (fun z => x6 + z) ki_1) (by decide) rfl (fun ls hl => ?_)
          refine lv_goto (tgt := 17) S.1 S.2.1 dX4_proofFor_92 (by decide) ?_
          exact ih17 _ _ _ _ _ _ h H locs hW ls (lv_sub hl [1, 2, 3, 4, 5, 0] rfl)
        · have h := of_p u12 h
          refine lv_iload S.1 S.2.1 dX4_proofFor_34 (lv_at hl 4 rfl) ?_
          refine lv_iconst (v := (-1 : Int32)) S.1 S.2.1 dX4_proofFor_36 ki_m1 ?_
          refine lv_icmp_eq (tgt := 53) S.1 S.2.1 dX4_proofFor_37 (by decide) (fun u13 => ?_) (fun u13 => ?_)
          · have h := of_p u13 h
            exact hJ53 _ _ _ _ _ _ h H locs hW ls (lv_sub hl [0, 1, 2, 3, 4, 5] rfl)
          · have h := of_n u13 h
            refine lv_iload S.1 S.2.1 dX4_proofFor_40 (lv_at hl 5 rfl) ?_
            obtain ⟨r14, hy15, h⟩ := bd1_e h
            refine ks0 S hK hN hZ hA hW (rest := []) (t_J6_bitCount_0f7a4 l dC dI cI cJ cZ cB zz x6 _  hy15) wl_X4_19 wv_J6_bitCount_0f7a4 rfl rfl ⟨Nat.le_of_ble_eq_true rfl, Nat.le_of_ble_eq_true rfl⟩ [] (clX3 cI cJ cZ cB h0 a0 (c0 0) (c0 1) (c0 2) (c0 3) (c0 4) (c0 5 0) (c0 6 0) (c0 7 0) (c0 8 0) (c0 9 0) []) rfl rfl hl.1 rfl (Nat.le_of_ble_eq_true rfl) dX4_proofFor_42 [.int r14] rfl (fun H locs hW => ?_)
            refine lv_iload S.1 S.2.1 dX4_proofFor_45 (lv_at hl 4 rfl) ?_
            obtain ⟨r16, hy17, h⟩ := bd1_e h
            refine ks0 S hK hN hZ hA hW (rest := [.int r14]) (t_J6_bitCount_0f7a4 l dC dI cI cJ cZ cB zz x5 _  hy17) wl_X4_19 wv_J6_bitCount_0f7a4 rfl rfl ⟨Nat.le_of_ble_eq_true rfl, Nat.le_of_ble_eq_true rfl⟩ [] (clX3 cI cJ cZ cB h0 a0 (c0 0) (c0 1) (c0 2) (c0 3) (c0 4) (c0 5 0) (c0 6 0) (c0 7 0) (c0 8 0) (c0 9 0) []) rfl rfl hl.1 rfl (Nat.le_of_ble_eq_true rfl) dX4_proofFor_47 [.int r16, .int r14] rfl (fun H locs hW => ?_)
            refine lv_icmp_ge (tgt := 89) S.1 S.2.1 dX4_proofFor_50 (by decide) (fun u18 => ?_) (fun u18 => ?_)
            · have h := of_p u18 h
              refine lv_iinc (v := (x6 + (1 : Int32))) (lv' := [(6, .int (x6 + (1 : Int32))), (0, .ref h0), (1, .int x1), (2, .long x2), (4, .int x4), (5, .int x5)]) S.1 S.2.1 dX4_proofFor_89 hl (k := 5) rfl (congrArg (fun z => x6 + z) ki_1) (by decide) rfl (fun ls hl => ?_)
              refine lv_goto (tgt := 17) S.1 S.2.1 dX4_proofFor_92 (by decide) ?_
              exact ih17 _ _ _ _ _ _ h H locs hW ls (lv_sub hl [1, 2, 3, 4, 5, 0] rfl)
            · have h := of_n u18 h
              exact hJ53 _ _ _ _ _ _ h H locs hW ls (lv_sub hl [0, 1, 2, 3, 4, 5] rfl)
  refine lv_aload_n S.1 S.2.1 dX4_proofFor_0 rfl (lv_at hl 0 rfl) ?_
  obtain ⟨r19, hy20, h⟩ := bd1_e h
  refine kv0 S hK hN hZ hA hW (rest := []) (t_X3_keep l dC dI cI cJ cZ cB zz h0 a0 F c0 _  hy20) wl_X4_9 wv_X3_keep rfl rfl ⟨Nat.le_of_ble_eq_true rfl, Nat.le_of_ble_eq_true rfl⟩ [] [] rfl 0 rfl rfl rfl rfl hl.1 rfl (Nat.le_of_ble_eq_true rfl) dX4_proofFor_1 [.long r19] rfl (fun H locs hW => ?_)
  refine lv_lstore_n (lv' := [(2, .long r19), (0, .ref h0), (1, .int p1)]) S.1 S.2.1 dX4_proofFor_4 rfl hl (by decide) rfl (fun ls hl => ?_)
  refine lv_aload_n S.1 S.2.1 dX4_proofFor_5 rfl (lv_at hl 1 rfl) ?_
  obtain ⟨r21, hy22, h⟩ := bd1_e h
  refine kv0 S hK hN hZ hA hW (rest := []) (t_X3_unsaid l dC dI cI cJ cZ cB zz h0 a0 c0 _  hy22) wl_X4_15 wv_X3_unsaid rfl rfl ⟨Nat.le_of_ble_eq_true rfl, Nat.le_of_ble_eq_true rfl⟩ [] [] rfl 0 rfl rfl rfl rfl hl.1 rfl (Nat.le_of_ble_eq_true rfl) dX4_proofFor_6 [.int r21] rfl (fun H locs hW => ?_)
  refine lv_istore (lv' := [(4, .int r21), (2, .long r19), (0, .ref h0), (1, .int p1)]) S.1 S.2.1 dX4_proofFor_9 hl (by decide) rfl (fun ls hl => ?_)
  refine lv_iconst (v := (-1 : Int32)) S.1 S.2.1 dX4_proofFor_11 ki_m1 ?_
  refine lv_istore (lv' := [(5, .int (-1 : Int32)), (4, .int r21), (2, .long r19), (0, .ref h0), (1, .int p1)]) S.1 S.2.1 dX4_proofFor_12 hl (by decide) rfl (fun ls hl => ?_)
  refine lv_iconst (v := (0 : Int32)) S.1 S.2.1 dX4_proofFor_14 ki_0 ?_
  refine lv_istore (lv' := [(6, .int (0 : Int32)), (5, .int (-1 : Int32)), (4, .int r21), (2, .long r19), (0, .ref h0), (1, .int p1)]) S.1 S.2.1 dX4_proofFor_15 hl (by decide) rfl (fun ls hl => ?_)
  exact hL17 F _ _ _ _ _ _ h H locs hW ls (lv_sub hl [4, 5, 3, 2, 1, 0] rfl)
abbrev rmX4_bowsTo : Room := { frames := 4, cells := 0, slots := 0, locals := 91 }
set_option maxHeartbeats 4000000 in
set_option maxRecDepth 100000 in
theorem t_X4_bowsTo (l : Launch) (dC : Nat → ClassId) (dI : Nat → Nat → Nat) (cI cJ cZ cB : ClassId) (zz : ZT)  (h0 : Nat) (a0 : Nat → Nat) (F : Nat) (c0 : Nat → Nat → Int32) (p1 : Int32) (r : Int32) (c0' : Nat → Nat → Int32) (hm : md_X4_bowsTo F c0 p1 = some (r, c0')) : ct l (dC, dI) zz (ty4 cI cJ cZ cB) yX4_bowsTo cX4_bowsTo 4 (some .boolean) rmX4_bowsTo [.ref h0, .int p1] (cwX3 cI cJ cZ cB h0 a0 c0 []) (cwX3 cI cJ cZ cB h0 a0 c0' []) (some (.int r)) := by
  refine ct_of (cc := cX4_bowsTo) (maxL := 4) (ret := (some .boolean)) (by decide) (Nat.le_of_ble_eq_true rfl) ?_
  intro p e s m below meth c A S hr hlocks hK hN hZ hA H locs hW ls hl
  have S : CallFix p m c cX4_bowsTo 4 s (List.toArray [.ref h0, .int p1]) G RX4 := S
  have hl : lv_has ls 4 [(0, .ref h0), (1, .int p1)] := hl
  have h := hm
  rw [md_X4_bowsTo] at h
  have hW : wd (dC, dI) A s.heap (clX3 cI cJ cZ cB h0 a0 (c0 0) (c0 1) (c0 2) (c0 3) (c0 4) (c0 5 0) (c0 6 0) (c0 7 0) (c0 8 0) (c0 9 0) []) H locs := hW
  have hL7 : ∀ (n7 : Nat) (c0 : Nat → Nat → Int32) (x1 : Int32) (x2 : Int32) (x3 : Int32), ld_X4_bowsTo_7 F n7 c0 x1 x2 x3 = some (r, c0') → ∀ (H : Heap) (locs : List Loc), wd (dC, dI) A s.heap (clX3 cI cJ cZ cB h0 a0 (c0 0) (c0 1) (c0 2) (c0 3) (c0 4) (c0 5 0) (c0 6 0) (c0 7 0) (c0 8 0) (c0 9 0) []) H locs → ∀ ls : Array Slot, lv_has ls 4 [(0, .ref h0), (1, .int x1), (2, .int x2), (3, .int x3)] → W p l e rmX4_bowsTo s m (List.toArray [.ref h0, .int p1]) below meth c H locs 0 0 (MQ below (kQ (dC, dI) (cwX3 cI cJ cZ cB h0 a0 c0' []) (some (.int r)) A) (List.toArray [.ref h0, .int p1]) s 0 0 A) (F0 m 7 ls []) := by
    intro n7
    induction n7 with
    | zero => intro c0 x1 x2 x3 h; rw [ld_X4_bowsTo_7] at h; cases h
    | succ n7 ih7 =>
      intro c0 x1 x2 x3 h H locs hW ls hl
      rw [ld_X4_bowsTo_7] at h
      refine lv_iload_n S.1 S.2.1 dX4_bowsTo_7 rfl (lv_at hl 3 rfl) ?_
      refine lv_bipush (v := (6 : Int32)) S.1 S.2.1 dX4_bowsTo_8 kb_6 ?_
      refine lv_icmp_ge (tgt := 53) S.1 S.2.1 dX4_bowsTo_10 (by decide) (fun u1 => ?_) (fun u1 => ?_)
      · have h := of_p u1 h
        refine lv_iconst (v := (1 : Int32)) S.1 S.2.1 dX4_bowsTo_53 ki_1 ?_
        have f2 := Option.some.inj h
        obtain ⟨f3, f4⟩ := Prod.mk.inj f2
        subst f3
        subst f4
        exact rz S hr hlocks hW (nz (Or.inr rfl)) dX4_bowsTo_54
      · have h := of_n u1 h
        refine lv_iload_n S.1 S.2.1 dX4_bowsTo_13 rfl (lv_at hl 2 rfl) ?_
        refine lv_iload_n S.1 S.2.1 dX4_bowsTo_14 rfl (lv_at hl 3 rfl) ?_
        obtain ⟨r5, hy6, h⟩ := bd1_e h
        refine kn0 S hK hN hZ hA hW (rest := []) (t_X8_has l dC dI cI cJ cZ cB zz x2 x3 _  hy6) wx_X4_39 wv_X8_has rfl rfl ⟨Nat.le_of_ble_eq_true rfl, Nat.le_of_ble_eq_true rfl⟩ [] (clX3 cI cJ cZ cB h0 a0 (c0 0) (c0 1) (c0 2) (c0 3) (c0 4) (c0 5 0) (c0 6 0) (c0 7 0) (c0 8 0) (c0 9 0) []) rfl rfl hl.1 rfl (Nat.le_of_ble_eq_true rfl) dX4_bowsTo_15 [.int r5] rfl (fun H locs hW => ?_)
        refine lv_if_eq (tgt := 47) S.1 S.2.1 dX4_bowsTo_18 (by decide) (fun u7 => ?_) (fun u7 => ?_)
        · have h := of_p u7 h
          refine lv_iinc (v := (x3 + (1 : Int32))) (lv' := [(3, .int (x3 + (1 : Int32))), (0, .ref h0), (1, .int x1), (2, .int x2)]) S.1 S.2.1 dX4_bowsTo_47 hl (k := 3) rfl (congrArg (fun z => x3 + z) ki_1) (by decide) rfl (fun ls hl => ?_)
          refine lv_goto (tgt := 7) S.1 S.2.1 dX4_bowsTo_50 (by decide) ?_
          exact ih7 _ _ _ _ h H locs hW ls (lv_sub hl [1, 2, 3, 0] rfl)
        · have h := of_n u7 h
          refine lv_aload_n S.1 S.2.1 dX4_bowsTo_21 rfl (lv_at hl 0 rfl) ?_
          refine lv_iload_n S.1 S.2.1 dX4_bowsTo_22 rfl (lv_at hl 3 rfl) ?_
          obtain ⟨cv8, hy9, h⟩ := bd1_e h
          refine kv (clX3 cI cJ cZ cB h0 a0 (cv8 0) (cv8 1) (cv8 2) (cv8 3) (cv8 4) (cv8 5 0) (cv8 6 0) (cv8 7 0) (cv8 8 0) (cv8 9 0) []) S hK hN hZ hA hW (rest := []) (t_X3_speak l dC dI cI cJ cZ cB zz h0 a0 c0 x3 _  hy9) wl_X4_43 wv_X3_speak rfl rfl ⟨Nat.le_of_ble_eq_true rfl, Nat.le_of_ble_eq_true rfl⟩ [] [] rfl rfl rfl 0 rfl rfl rfl rfl hl.1 rfl (Nat.le_of_ble_eq_true rfl) dX4_bowsTo_23 [] rfl (fun H locs hW => ?_)
          refine lv_iload_n S.1 S.2.1 dX4_bowsTo_26 rfl (lv_at hl 1 rfl) ?_
          refine lv_iload_n S.1 S.2.1 dX4_bowsTo_27 rfl (lv_at hl 3 rfl) ?_
          obtain ⟨r10, hy11, h⟩ := bd1_e h
          refine kn0 S hK hN hZ hA hW (rest := []) (t_X8_has l dC dI cI cJ cZ cB zz x1 x3 _  hy11) wx_X4_39 wv_X8_has rfl rfl ⟨Nat.le_of_ble_eq_true rfl, Nat.le_of_ble_eq_true rfl⟩ [] (clX3 cI cJ cZ cB h0 a0 (cv8 0) (cv8 1) (cv8 2) (cv8 3) (cv8 4) (cv8 5 0) (cv8 6 0) (cv8 7 0) (cv8 8 0) (cv8 9 0) []) rfl rfl hl.1 rfl (Nat.le_of_ble_eq_true rfl) dX4_bowsTo_28 [.int r10] rfl (fun H locs hW => ?_)
          refine lv_if_eq (tgt := 47) S.1 S.2.1 dX4_bowsTo_31 (by decide) (fun u12 => ?_) (fun u12 => ?_)
          · have h := of_p u12 h
            refine lv_iinc (v := (x3 + (1 : Int32))) (lv' := [(3, .int (x3 + (1 : Int32))), (0, .ref h0), (1, .int x1), (2, .int x2)]) S.1 S.2.1 dX4_bowsTo_47 hl (k := 3) rfl (congrArg (fun z => x3 + z) ki_1) (by decide) rfl (fun ls hl => ?_)
            refine lv_goto (tgt := 7) S.1 S.2.1 dX4_bowsTo_50 (by decide) ?_
            exact ih7 _ _ _ _ h H locs hW ls (lv_sub hl [1, 2, 3, 0] rfl)
          · have h := of_n u12 h
            refine lv_aload_n S.1 S.2.1 dX4_bowsTo_34 rfl (lv_at hl 0 rfl) ?_
            obtain ⟨r13, hy14, h⟩ := bd1_e h
            refine kv0 S hK hN hZ hA hW (rest := []) (t_X3_mayObject l dC dI cI cJ cZ cB zz h0 a0 cv8 _  hy14) wl_X4_47 wv_X3_mayObject rfl rfl ⟨Nat.le_of_ble_eq_true rfl, Nat.le_of_ble_eq_true rfl⟩ [] [] rfl 0 rfl rfl rfl rfl hl.1 rfl (Nat.le_of_ble_eq_true rfl) dX4_bowsTo_35 [.int r13] rfl (fun H locs hW => ?_)
            refine lv_if_ne (tgt := 43) S.1 S.2.1 dX4_bowsTo_38 (by decide) (fun u15 => ?_) (fun u15 => ?_)
            · have h := of_n u15 h
              refine lv_aload_n S.1 S.2.1 dX4_bowsTo_43 rfl (lv_at hl 0 rfl) ?_
              obtain ⟨cv16, hy17, h⟩ := bd1_e h
              refine kv (clX3 cI cJ cZ cB h0 a0 (cv16 0) (cv16 1) (cv16 2) (cv16 3) (cv16 4) (cv16 5 0) (cv16 6 0) (cv16 7 0) (cv16 8 0) (cv16 9 0) []) S hK hN hZ hA hW (rest := []) (t_X3_bow l dC dI cI cJ cZ cB zz h0 a0 cv8 _  hy17) wl_X4_51 wv_X3_bow rfl rfl ⟨Nat.le_of_ble_eq_true rfl, Nat.le_of_ble_eq_true rfl⟩ [] [] rfl rfl rfl 0 rfl rfl rfl rfl hl.1 rfl (Nat.le_of_ble_eq_true rfl) dX4_bowsTo_44 [] rfl (fun H locs hW => ?_)
              refine lv_iinc (v := (x3 + (1 : Int32))) (lv' := [(3, .int (x3 + (1 : Int32))), (0, .ref h0), (1, .int x1), (2, .int x2)]) S.1 S.2.1 dX4_bowsTo_47 hl (k := 3) rfl (congrArg (fun z => x3 + z) ki_1) (by decide) rfl (fun ls hl => ?_)
              refine lv_goto (tgt := 7) S.1 S.2.1 dX4_bowsTo_50 (by decide) ?_
              exact ih7 _ _ _ _ h H locs hW ls (lv_sub hl [1, 2, 3, 0] rfl)
            · have h := of_p u15 h
              refine lv_iconst (v := (0 : Int32)) S.1 S.2.1 dX4_bowsTo_41 ki_0 ?_
              have f18 := Option.some.inj h
              obtain ⟨f19, f20⟩ := Prod.mk.inj f18
              subst f19
              subst f20
              exact rz S hr hlocks hW (nz (Or.inl rfl)) dX4_bowsTo_42
  refine lv_aload_n S.1 S.2.1 dX4_bowsTo_0 rfl (lv_at hl 0 rfl) ?_
  obtain ⟨r21, hy22, h⟩ := bd1_e h
  refine kv0 S hK hN hZ hA hW (rest := []) (t_X3_unsaid l dC dI cI cJ cZ cB zz h0 a0 c0 _  hy22) wl_X4_15 wv_X3_unsaid rfl rfl ⟨Nat.le_of_ble_eq_true rfl, Nat.le_of_ble_eq_true rfl⟩ [] [] rfl 0 rfl rfl rfl rfl hl.1 rfl (Nat.le_of_ble_eq_true rfl) dX4_bowsTo_1 [.int r21] rfl (fun H locs hW => ?_)
  refine lv_istore_n (lv' := [(2, .int r21), (0, .ref h0), (1, .int p1)]) S.1 S.2.1 dX4_bowsTo_4 rfl hl (by decide) rfl (fun ls hl => ?_)
  refine lv_iconst (v := (0 : Int32)) S.1 S.2.1 dX4_bowsTo_5 ki_0 ?_
  refine lv_istore_n (lv' := [(3, .int (0 : Int32)), (2, .int r21), (0, .ref h0), (1, .int p1)]) S.1 S.2.1 dX4_bowsTo_6 rfl hl (by decide) rfl (fun ls hl => ?_)
  exact hL7 F _ _ _ _ h H locs hW ls (lv_sub hl [2, 3, 1, 0] rfl)
abbrev rmX4_weightOf : Room := { frames := 4, cells := 0, slots := 0, locals := 91 }
set_option maxHeartbeats 4000000 in
set_option maxRecDepth 100000 in
theorem t_X4_weightOf (l : Launch) (dC : Nat → ClassId) (dI : Nat → Nat → Nat) (cI cJ cZ cB : ClassId) (zz : ZT)  (h0 : Nat) (a0 : Nat → Nat) (F : Nat) (c0 : Nat → Nat → Int32) (p1 : Int32) (p2 : Int32) (r : Int64) (c0' : Nat → Nat → Int32) (hm : md_X4_weightOf F c0 p1 p2 = some (r, c0')) : ct l (dC, dI) zz (ty4 cI cJ cZ cB) yX4_weightOf cX4_weightOf 8 (some .long) rmX4_weightOf [.ref h0, .int p1, .int p2] (cwX3 cI cJ cZ cB h0 a0 c0 []) (cwX3 cI cJ cZ cB h0 a0 c0' []) (some (.long r)) := by
  refine ct_of (cc := cX4_weightOf) (maxL := 8) (ret := (some .long)) (by decide) (Nat.le_of_ble_eq_true rfl) ?_
  intro p e s m below meth c A S hr hlocks hK hN hZ hA H locs hW ls hl
  have S : CallFix p m c cX4_weightOf 8 s (List.toArray [.ref h0, .int p1, .int p2]) G RX4 := S
  have hl : lv_has ls 8 [(0, .ref h0), (1, .int p1), (2, .int p2)] := hl
  have h := hm
  rw [md_X4_weightOf] at h
  have hW : wd (dC, dI) A s.heap (clX3 cI cJ cZ cB h0 a0 (c0 0) (c0 1) (c0 2) (c0 3) (c0 4) (c0 5 0) (c0 6 0) (c0 7 0) (c0 8 0) (c0 9 0) []) H locs := hW
  have hL11 : ∀ (n11 : Nat) (c0 : Nat → Nat → Int32) (x1 : Int32) (x2 : Int32) (x3 : Int32) (x4 : Int64) (x6 : Int32), ld_X4_weightOf_11 F n11 c0 x1 x2 x3 x4 x6 = some (r, c0') → ∀ (H : Heap) (locs : List Loc), wd (dC, dI) A s.heap (clX3 cI cJ cZ cB h0 a0 (c0 0) (c0 1) (c0 2) (c0 3) (c0 4) (c0 5 0) (c0 6 0) (c0 7 0) (c0 8 0) (c0 9 0) []) H locs → ∀ ls : Array Slot, lv_has ls 8 [(0, .ref h0), (1, .int x1), (2, .int x2), (3, .int x3), (4, .long x4), (6, .int x6)] → W p l e rmX4_weightOf s m (List.toArray [.ref h0, .int p1, .int p2]) below meth c H locs 0 0 (MQ below (kQ (dC, dI) (cwX3 cI cJ cZ cB h0 a0 c0' []) (some (.long r)) A) (List.toArray [.ref h0, .int p1, .int p2]) s 0 0 A) (F0 m 11 ls []) := by
    intro n11
    induction n11 with
    | zero => intro c0 x1 x2 x3 x4 x6 h; rw [ld_X4_weightOf_11] at h; cases h
    | succ n11 ih11 =>
      intro c0 x1 x2 x3 x4 x6 h H locs hW ls hl
      rw [ld_X4_weightOf_11] at h
      refine lv_iload S.1 S.2.1 dX4_weightOf_11 (lv_at hl 5 rfl) ?_
      refine lv_bipush (v := (6 : Int32)) S.1 S.2.1 dX4_weightOf_13 kb_6 ?_
      refine lv_icmp_ge (tgt := 98) S.1 S.2.1 dX4_weightOf_15 (by decide) (fun u1 => ?_) (fun u1 => ?_)
      · have h := of_p u1 h
        refine lv_lload S.1 S.2.1 dX4_weightOf_98 (lv_at hl 4 rfl) ?_
        have f2 := Option.some.inj h
        obtain ⟨f3, f4⟩ := Prod.mk.inj f2
        subst f3
        subst f4
        exact rl S hr hlocks hW dX4_weightOf_100
      · have h := of_n u1 h
        refine lv_iload_n S.1 S.2.1 dX4_weightOf_18 rfl (lv_at hl 3 rfl) ?_
        refine lv_iload S.1 S.2.1 dX4_weightOf_19 (lv_at hl 5 rfl) ?_
        obtain ⟨r5, hy6, h⟩ := bd1_e h
        refine kn0 S hK hN hZ hA hW (rest := []) (t_X8_has l dC dI cI cJ cZ cB zz x3 x6 _  hy6) wx_X4_39 wv_X8_has rfl rfl ⟨Nat.le_of_ble_eq_true rfl, Nat.le_of_ble_eq_true rfl⟩ [] (clX3 cI cJ cZ cB h0 a0 (c0 0) (c0 1) (c0 2) (c0 3) (c0 4) (c0 5 0) (c0 6 0) (c0 7 0) (c0 8 0) (c0 9 0) []) rfl rfl hl.1 rfl (Nat.le_of_ble_eq_true rfl) dX4_weightOf_21 [.int r5] rfl (fun H locs hW => ?_)
        refine lv_if_eq (tgt := 92) S.1 S.2.1 dX4_weightOf_24 (by decide) (fun u7 => ?_) (fun u7 => ?_)
        · have h := of_p u7 h
          refine lv_iinc (v := (x6 + (1 : Int32))) (lv' := [(6, .int (x6 + (1 : Int32))), (0, .ref h0), (1, .int x1), (2, .int x2), (3, .int x3), (4, .long x4)]) S.1 S.2.1 dX4_weightOf_92 hl (k := 5) rfl (congrArg (fun z => x6 + z) ki_1) (by decide) rfl (fun ls hl => ?_)
          refine lv_goto (tgt := 11) S.1 S.2.1 dX4_weightOf_95 (by decide) ?_
          exact ih11 _ _ _ _ _ _ h H locs hW ls (lv_sub hl [1, 2, 3, 4, 5, 0] rfl)
        · have h := of_n u7 h
          refine lv_aload_n S.1 S.2.1 dX4_weightOf_27 rfl (lv_at hl 0 rfl) ?_
          refine lv_iload S.1 S.2.1 dX4_weightOf_28 (lv_at hl 5 rfl) ?_
          obtain ⟨cv8, hy9, h⟩ := bd1_e h
          refine kv (clX3 cI cJ cZ cB h0 a0 (cv8 0) (cv8 1) (cv8 2) (cv8 3) (cv8 4) (cv8 5 0) (cv8 6 0) (cv8 7 0) (cv8 8 0) (cv8 9 0) []) S hK hN hZ hA hW (rest := []) (t_X3_speak l dC dI cI cJ cZ cB zz h0 a0 c0 x6 _  hy9) wl_X4_43 wv_X3_speak rfl rfl ⟨Nat.le_of_ble_eq_true rfl, Nat.le_of_ble_eq_true rfl⟩ [] [] rfl rfl rfl 0 rfl rfl rfl rfl hl.1 rfl (Nat.le_of_ble_eq_true rfl) dX4_weightOf_30 [] rfl (fun H locs hW => ?_)
          refine lv_aload_n S.1 S.2.1 dX4_weightOf_33 rfl (lv_at hl 0 rfl) ?_
          obtain ⟨r10, hy11, h⟩ := bd1_e h
          refine kv0 S hK hN hZ hA hW (rest := []) (t_X3_mayObject l dC dI cI cJ cZ cB zz h0 a0 cv8 _  hy11) wl_X4_47 wv_X3_mayObject rfl rfl ⟨Nat.le_of_ble_eq_true rfl, Nat.le_of_ble_eq_true rfl⟩ [] [] rfl 0 rfl rfl rfl rfl hl.1 rfl (Nat.le_of_ble_eq_true rfl) dX4_weightOf_34 [.int r10] rfl (fun H locs hW => ?_)
          refine lv_istore (lv' := [(7, .int r10), (0, .ref h0), (1, .int x1), (2, .int x2), (3, .int x3), (4, .long x4), (6, .int x6)]) S.1 S.2.1 dX4_weightOf_37 hl (by decide) rfl (fun ls hl => ?_)
          refine lv_iload_n S.1 S.2.1 dX4_weightOf_39 rfl (lv_at hl 2 rfl) ?_
          refine lv_iload S.1 S.2.1 dX4_weightOf_40 (lv_at hl 6 rfl) ?_
          obtain ⟨r12, hy13, h⟩ := bd1_e h
          refine kn0 S hK hN hZ hA hW (rest := []) (t_X8_has l dC dI cI cJ cZ cB zz x1 x6 _  hy13) wx_X4_39 wv_X8_has rfl rfl ⟨Nat.le_of_ble_eq_true rfl, Nat.le_of_ble_eq_true rfl⟩ [] (clX3 cI cJ cZ cB h0 a0 (cv8 0) (cv8 1) (cv8 2) (cv8 3) (cv8 4) (cv8 5 0) (cv8 6 0) (cv8 7 0) (cv8 8 0) (cv8 9 0) []) rfl rfl hl.1 rfl (Nat.le_of_ble_eq_true rfl) dX4_weightOf_42 [.int r12] rfl (fun H locs hW => ?_)
          refine lv_if_eq (tgt := 71) S.1 S.2.1 dX4_weightOf_45 (by decide) (fun u14 => ?_) (fun u14 => ?_)
          · have h := of_p u14 h
            refine lv_lload S.1 S.2.1 dX4_weightOf_71 (lv_at hl 5 rfl) ?_
            refine lv_iload S.1 S.2.1 dX4_weightOf_73 (lv_at hl 0 rfl) ?_
            obtain ⟨y15, e16, h⟩ := lt1_e h
            suffices hM17 : ∀ ls : Array Slot, lv_has ls 8 [(0, .ref h0), (1, .int x1), (2, .int x2), (3, .int x3), (6, .int x6)] → W p l e rmX4_weightOf s m (List.toArray [.ref h0, .int p1, .int p2]) below meth c H locs 0 0 (MQ below (kQ (dC, dI) (cwX3 cI cJ cZ cB h0 a0 c0' []) (some (.long r)) A) (List.toArray [.ref h0, .int p1, .int p2]) s 0 0 A) (F0 m 89 ls [.long y15, .long x4]) by
              refine lv_if_eq (tgt := 86) S.1 S.2.1 dX4_weightOf_75 (by decide) (fun u18 => ?_) (fun u18 => ?_)
              · refine lv_ldc2 (v := (10 : Int64)) S.1 S.2.1 S.2.2.2.1 (S.2.2.2.2 _ wk_X4_54) dX4_weightOf_86 ?_
                have e16 := e16.trans (if_pos u18)
                subst e16
                exact hM17 ls (lv_sub hl [1, 2, 3, 4, 6] rfl)
              · refine lv_bipush (v := (10 : Int32)) S.1 S.2.1 dX4_weightOf_78 kb_10 ?_
                refine lv_iload_n S.1 S.2.1 dX4_weightOf_80 rfl (lv_at hl 3 rfl) ?_
                refine lv_isub S.1 S.2.1 dX4_weightOf_81 ?_
                refine lv_i2l S.1 S.2.1 dX4_weightOf_82 rfl ?_
                refine lv_goto (tgt := 89) S.1 S.2.1 dX4_weightOf_83 (by decide) ?_
                have e16 := e16.trans (if_neg u18)
                subst e16
                exact hM17 ls (lv_sub hl [1, 2, 3, 4, 6] rfl)
            intro ls hl
            refine lv_lmul S.1 S.2.1 dX4_weightOf_89 ?_
            refine lv_lstore (lv' := [(4, .long (x4 * y15)), (0, .ref h0), (1, .int x1), (2, .int x2), (3, .int x3), (6, .int x6)]) S.1 S.2.1 dX4_weightOf_90 hl (by decide) rfl (fun ls hl => ?_)
            refine lv_iinc (v := (x6 + (1 : Int32))) (lv' := [(6, .int (x6 + (1 : Int32))), (4, .long (x4 * y15)), (0, .ref h0), (1, .int x1), (2, .int x2), (3, .int x3)]) S.1 S.2.1 dX4_weightOf_92 hl (k := 5) rfl (congrArg (fun z => x6 + z) ki_1) (by decide) rfl (fun ls hl => ?_)
            refine lv_goto (tgt := 11) S.1 S.2.1 dX4_weightOf_95 (by decide) ?_
            exact ih11 _ _ _ _ _ _ h H locs hW ls (lv_sub hl [2, 3, 4, 5, 1, 0] rfl)
          · have h := of_n u14 h
            refine lv_aload_n S.1 S.2.1 dX4_weightOf_48 rfl (lv_at hl 1 rfl) ?_
            obtain ⟨cv19, hy20, h⟩ := bd1_e h
            refine kv (clX3 cI cJ cZ cB h0 a0 (cv19 0) (cv19 1) (cv19 2) (cv19 3) (cv19 4) (cv19 5 0) (cv19 6 0) (cv19 7 0) (cv19 8 0) (cv19 9 0) []) S hK hN hZ hA hW (rest := []) (t_X3_bow l dC dI cI cJ cZ cB zz h0 a0 cv8 _  hy20) wl_X4_51 wv_X3_bow rfl rfl ⟨Nat.le_of_ble_eq_true rfl, Nat.le_of_ble_eq_true rfl⟩ [] [] rfl rfl rfl 0 rfl rfl rfl rfl hl.1 rfl (Nat.le_of_ble_eq_true rfl) dX4_weightOf_49 [] rfl (fun H locs hW => ?_)
            refine lv_lload S.1 S.2.1 dX4_weightOf_52 (lv_at hl 5 rfl) ?_
            refine lv_iload S.1 S.2.1 dX4_weightOf_54 (lv_at hl 0 rfl) ?_
            obtain ⟨y21, e22, h⟩ := lt1_e h
            suffices hM23 : ∀ ls : Array Slot, lv_has ls 8 [(0, .ref h0), (1, .int x1), (2, .int x2), (3, .int x3), (6, .int x6)] → W p l e rmX4_weightOf s m (List.toArray [.ref h0, .int p1, .int p2]) below meth c H locs 0 0 (MQ below (kQ (dC, dI) (cwX3 cI cJ cZ cB h0 a0 c0' []) (some (.long r)) A) (List.toArray [.ref h0, .int p1, .int p2]) s 0 0 A) (F0 m 65 ls [.long y21, .long x4]) by
              refine lv_if_eq (tgt := 64) S.1 S.2.1 dX4_weightOf_56 (by decide) (fun u24 => ?_) (fun u24 => ?_)
              · refine lv_lconst (v := (0 : Int64)) S.1 S.2.1 dX4_weightOf_64 rfl ?_
                have e22 := e22.trans (if_pos u24)
                subst e22
                exact hM23 ls (lv_sub hl [1, 2, 3, 4, 6] rfl)
              · refine lv_iload_n S.1 S.2.1 dX4_weightOf_59 rfl (lv_at hl 3 rfl) ?_
                refine lv_i2l S.1 S.2.1 dX4_weightOf_60 rfl ?_
                refine lv_goto (tgt := 65) S.1 S.2.1 dX4_weightOf_61 (by decide) ?_
                have e22 := e22.trans (if_neg u24)
                subst e22
                exact hM23 ls (lv_sub hl [1, 2, 3, 4, 6] rfl)
            intro ls hl
            refine lv_lmul S.1 S.2.1 dX4_weightOf_65 ?_
            refine lv_lstore (lv' := [(4, .long (x4 * y21)), (0, .ref h0), (1, .int x1), (2, .int x2), (3, .int x3), (6, .int x6)]) S.1 S.2.1 dX4_weightOf_66 hl (by decide) rfl (fun ls hl => ?_)
            refine lv_goto (tgt := 92) S.1 S.2.1 dX4_weightOf_68 (by decide) ?_
            refine lv_iinc (v := (x6 + (1 : Int32))) (lv' := [(6, .int (x6 + (1 : Int32))), (4, .long (x4 * y21)), (0, .ref h0), (1, .int x1), (2, .int x2), (3, .int x3)]) S.1 S.2.1 dX4_weightOf_92 hl (k := 5) rfl (congrArg (fun z => x6 + z) ki_1) (by decide) rfl (fun ls hl => ?_)
            refine lv_goto (tgt := 11) S.1 S.2.1 dX4_weightOf_95 (by decide) ?_
            exact ih11 _ _ _ _ _ _ h H locs hW ls (lv_sub hl [2, 3, 4, 5, 1, 0] rfl)
  refine lv_aload_n S.1 S.2.1 dX4_weightOf_0 rfl (lv_at hl 0 rfl) ?_
  obtain ⟨r25, hy26, h⟩ := bd1_e h
  refine kv0 S hK hN hZ hA hW (rest := []) (t_X3_unsaid l dC dI cI cJ cZ cB zz h0 a0 c0 _  hy26) wl_X4_15 wv_X3_unsaid rfl rfl ⟨Nat.le_of_ble_eq_true rfl, Nat.le_of_ble_eq_true rfl⟩ [] [] rfl 0 rfl rfl rfl rfl hl.1 rfl (Nat.le_of_ble_eq_true rfl) dX4_weightOf_1 [.int r25] rfl (fun H locs hW => ?_)
  refine lv_istore_n (lv' := [(3, .int r25), (0, .ref h0), (1, .int p1), (2, .int p2)]) S.1 S.2.1 dX4_weightOf_4 rfl hl (by decide) rfl (fun ls hl => ?_)
  refine lv_lconst (v := (1 : Int64)) S.1 S.2.1 dX4_weightOf_5 rfl ?_
  refine lv_lstore (lv' := [(4, .long (1 : Int64)), (3, .int r25), (0, .ref h0), (1, .int p1), (2, .int p2)]) S.1 S.2.1 dX4_weightOf_6 hl (by decide) rfl (fun ls hl => ?_)
  refine lv_iconst (v := (0 : Int32)) S.1 S.2.1 dX4_weightOf_8 ki_0 ?_
  refine lv_istore (lv' := [(6, .int (0 : Int32)), (4, .long (1 : Int64)), (3, .int r25), (0, .ref h0), (1, .int p1), (2, .int p2)]) S.1 S.2.1 dX4_weightOf_9 hl (by decide) rfl (fun ls hl => ?_)
  exact hL11 F _ _ _ _ _ _ h H locs hW ls (lv_sub hl [3, 4, 5, 2, 1, 0] rfl)
abbrev rmX4_dayBy : Room := { frames := 4, cells := 0, slots := 0, locals := 91 }
set_option maxHeartbeats 4000000 in
set_option maxRecDepth 100000 in
theorem t_X4_dayBy (l : Launch) (dC : Nat → ClassId) (dI : Nat → Nat → Nat) (cI cJ cZ cB : ClassId) (zz : ZT)  (h0 : Nat) (a0 : Nat → Nat) (F : Nat) (c0 : Nat → Nat → Int32) (p1 : Int64) (r : Int64) (c0' : Nat → Nat → Int32) (hm : md_X4_dayBy F c0 p1 = some (r, c0')) : ct l (dC, dI) zz (ty4 cI cJ cZ cB) yX4_dayBy cX4_dayBy 7 (some .long) rmX4_dayBy [.ref h0, .long p1] (cwX3 cI cJ cZ cB h0 a0 c0 []) (cwX3 cI cJ cZ cB h0 a0 c0' []) (some (.long r)) := by
  refine ct_of (cc := cX4_dayBy) (maxL := 7) (ret := (some .long)) (by decide) (Nat.le_of_ble_eq_true rfl) ?_
  intro p e s m below meth c A S hr hlocks hK hN hZ hA H locs hW ls hl
  have S : CallFix p m c cX4_dayBy 7 s (List.toArray [.ref h0, .long p1]) G RX4 := S
  have hl : lv_has ls 7 [(0, .ref h0), (1, .long p1)] := hl
  have h := hm
  rw [md_X4_dayBy] at h
  have hW : wd (dC, dI) A s.heap (clX3 cI cJ cZ cB h0 a0 (c0 0) (c0 1) (c0 2) (c0 3) (c0 4) (c0 5 0) (c0 6 0) (c0 7 0) (c0 8 0) (c0 9 0) []) H locs := hW
  have hL11 : ∀ (n11 : Nat) (c0 : Nat → Nat → Int32) (x3 : Int64) (x5 : Int32) (x6 : Int32), ld_X4_dayBy_11 F n11 c0 x3 x5 x6 = some (r, c0') → ∀ (H : Heap) (locs : List Loc), wd (dC, dI) A s.heap (clX3 cI cJ cZ cB h0 a0 (c0 0) (c0 1) (c0 2) (c0 3) (c0 4) (c0 5 0) (c0 6 0) (c0 7 0) (c0 8 0) (c0 9 0) []) H locs → ∀ ls : Array Slot, lv_has ls 7 [(0, .ref h0), (3, .long x3), (5, .int x5), (6, .int x6)] → W p l e rmX4_dayBy s m (List.toArray [.ref h0, .long p1]) below meth c H locs 0 0 (MQ below (kQ (dC, dI) (cwX3 cI cJ cZ cB h0 a0 c0' []) (some (.long r)) A) (List.toArray [.ref h0, .long p1]) s 0 0 A) (F0 m 11 ls []) := by
    intro n11
    induction n11 with
    | zero => intro c0 x3 x5 x6 h; rw [ld_X4_dayBy_11] at h; cases h
    | succ n11 ih11 =>
      intro c0 x3 x5 x6 h H locs hW ls hl
      rw [ld_X4_dayBy_11] at h
      refine lv_iload S.1 S.2.1 dX4_dayBy_11 (lv_at hl 3 rfl) ?_
      refine lv_bipush (v := (6 : Int32)) S.1 S.2.1 dX4_dayBy_13 kb_6 ?_
      refine lv_icmp_ge (tgt := 72) S.1 S.2.1 dX4_dayBy_15 (by decide) (fun u1 => ?_) (fun u1 => ?_)
      · have h := of_p u1 h
        refine lv_lload_n S.1 S.2.1 dX4_dayBy_72 rfl (lv_at hl 1 rfl) ?_
        have f2 := Option.some.inj h
        obtain ⟨f3, f4⟩ := Prod.mk.inj f2
        subst f3
        subst f4
        exact rl S hr hlocks hW dX4_dayBy_73
      · have h := of_n u1 h
        refine lv_iload S.1 S.2.1 dX4_dayBy_18 (lv_at hl 2 rfl) ?_
        refine lv_iload S.1 S.2.1 dX4_dayBy_20 (lv_at hl 3 rfl) ?_
        obtain ⟨r5, hy6, h⟩ := bd1_e h
        refine kn0 S hK hN hZ hA hW (rest := []) (t_X8_has l dC dI cI cJ cZ cB zz x5 x6 _  hy6) wx_X4_39 wv_X8_has rfl rfl ⟨Nat.le_of_ble_eq_true rfl, Nat.le_of_ble_eq_true rfl⟩ [] (clX3 cI cJ cZ cB h0 a0 (c0 0) (c0 1) (c0 2) (c0 3) (c0 4) (c0 5 0) (c0 6 0) (c0 7 0) (c0 8 0) (c0 9 0) []) rfl rfl hl.1 rfl (Nat.le_of_ble_eq_true rfl) dX4_dayBy_22 [.int r5] rfl (fun H locs hW => ?_)
        refine lv_if_eq (tgt := 66) S.1 S.2.1 dX4_dayBy_25 (by decide) (fun u7 => ?_) (fun u7 => ?_)
        · have h := of_p u7 h
          refine lv_iinc (v := (x6 + (1 : Int32))) (lv' := [(6, .int (x6 + (1 : Int32))), (0, .ref h0), (3, .long x3), (5, .int x5)]) S.1 S.2.1 dX4_dayBy_66 hl (k := 3) rfl (congrArg (fun z => x6 + z) ki_1) (by decide) rfl (fun ls hl => ?_)
          refine lv_goto (tgt := 11) S.1 S.2.1 dX4_dayBy_69 (by decide) ?_
          exact ih11 _ _ _ _ h H locs hW ls (lv_sub hl [1, 2, 3, 0] rfl)
        · have h := of_n u7 h
          refine lv_lload_n S.1 S.2.1 dX4_dayBy_28 rfl (lv_at hl 1 rfl) ?_
          refine lv_ldc2 (v := (1103515245 : Int64)) S.1 S.2.1 S.2.2.2.1 (S.2.2.2.2 _ wk_X4_56) dX4_dayBy_29 ?_
          refine lv_lmul S.1 S.2.1 dX4_dayBy_32 ?_
          refine lv_ldc2 (v := (12345 : Int64)) S.1 S.2.1 S.2.2.2.1 (S.2.2.2.2 _ wk_X4_58) dX4_dayBy_33 ?_
          refine lv_ladd S.1 S.2.1 dX4_dayBy_36 ?_
          refine lv_ldc2 (v := (2147483648 : Int64)) S.1 S.2.1 S.2.2.2.1 (S.2.2.2.2 _ wk_X4_60) dX4_dayBy_37 ?_
          refine lv_lrem S.1 S.2.1 dX4_dayBy_40 (by decide) ?_
          obtain ⟨y8, e9, h⟩ := lt1_e h
          refine nml e9 ?_
          refine lv_lstore_n (lv' := [(3, .long y8), (0, .ref h0), (5, .int x5), (6, .int x6)]) S.1 S.2.1 dX4_dayBy_41 rfl hl (by decide) rfl (fun ls hl => ?_)
          refine lv_aload_n S.1 S.2.1 dX4_dayBy_42 rfl (lv_at hl 1 rfl) ?_
          refine lv_iload S.1 S.2.1 dX4_dayBy_43 (lv_at hl 3 rfl) ?_
          obtain ⟨cv10, hy11, h⟩ := bd1_e h
          refine kv (clX3 cI cJ cZ cB h0 a0 (cv10 0) (cv10 1) (cv10 2) (cv10 3) (cv10 4) (cv10 5 0) (cv10 6 0) (cv10 7 0) (cv10 8 0) (cv10 9 0) []) S hK hN hZ hA hW (rest := []) (t_X3_speak l dC dI cI cJ cZ cB zz h0 a0 c0 x6 _  hy11) wl_X4_43 wv_X3_speak rfl rfl ⟨Nat.le_of_ble_eq_true rfl, Nat.le_of_ble_eq_true rfl⟩ [] [] rfl rfl rfl 0 rfl rfl rfl rfl hl.1 rfl (Nat.le_of_ble_eq_true rfl) dX4_dayBy_45 [] rfl (fun H locs hW => ?_)
          refine lv_lload_n S.1 S.2.1 dX4_dayBy_48 rfl (lv_at hl 0 rfl) ?_
          refine lv_ldc2 (v := (65536 : Int64)) S.1 S.2.1 S.2.2.2.1 (S.2.2.2.2 _ wk_X4_62) dX4_dayBy_49 ?_
          refine lv_ldiv S.1 S.2.1 dX4_dayBy_52 (by decide) ?_
          refine lv_ldc2 (v := (2 : Int64)) S.1 S.2.1 S.2.2.2.1 (S.2.2.2.2 _ wk_X4_64) dX4_dayBy_53 ?_
          refine lv_lrem S.1 S.2.1 dX4_dayBy_56 (by decide) ?_
          refine lv_lconst (v := (1 : Int64)) S.1 S.2.1 dX4_dayBy_57 rfl ?_
          refine W.lcmp S.1 S.2.1 dX4_dayBy_58 ?_
          refine lv_if_ne (tgt := 66) S.1 S.2.1 dX4_dayBy_59 (by decide) (fun u12 => ?_) (fun u12 => ?_)
          · have h := of_n u12 h
            refine lv_iinc (v := (x6 + (1 : Int32))) (lv' := [(6, .int (x6 + (1 : Int32))), (3, .long y8), (0, .ref h0), (5, .int x5)]) S.1 S.2.1 dX4_dayBy_66 hl (k := 3) rfl (congrArg (fun z => x6 + z) ki_1) (by decide) rfl (fun ls hl => ?_)
            refine lv_goto (tgt := 11) S.1 S.2.1 dX4_dayBy_69 (by decide) ?_
            exact ih11 _ _ _ _ h H locs hW ls (lv_sub hl [2, 1, 3, 0] rfl)
          · have h := of_p u12 h
            refine lv_aload_n S.1 S.2.1 dX4_dayBy_62 rfl (lv_at hl 1 rfl) ?_
            obtain ⟨cv13, hy14, h⟩ := bd1_e h
            refine kv (clX3 cI cJ cZ cB h0 a0 (cv13 0) (cv13 1) (cv13 2) (cv13 3) (cv13 4) (cv13 5 0) (cv13 6 0) (cv13 7 0) (cv13 8 0) (cv13 9 0) []) S hK hN hZ hA hW (rest := []) (t_X3_bow l dC dI cI cJ cZ cB zz h0 a0 cv10 _  hy14) wl_X4_51 wv_X3_bow rfl rfl ⟨Nat.le_of_ble_eq_true rfl, Nat.le_of_ble_eq_true rfl⟩ [] [] rfl rfl rfl 0 rfl rfl rfl rfl hl.1 rfl (Nat.le_of_ble_eq_true rfl) dX4_dayBy_63 [] rfl (fun H locs hW => ?_)
            refine lv_iinc (v := (x6 + (1 : Int32))) (lv' := [(6, .int (x6 + (1 : Int32))), (3, .long y8), (0, .ref h0), (5, .int x5)]) S.1 S.2.1 dX4_dayBy_66 hl (k := 3) rfl (congrArg (fun z => x6 + z) ki_1) (by decide) rfl (fun ls hl => ?_)
            refine lv_goto (tgt := 11) S.1 S.2.1 dX4_dayBy_69 (by decide) ?_
            exact ih11 _ _ _ _ h H locs hW ls (lv_sub hl [2, 1, 3, 0] rfl)
  refine lv_lload_n S.1 S.2.1 dX4_dayBy_0 rfl (lv_at hl 1 rfl) ?_
  refine lv_lstore_n (lv' := [(3, .long p1), (0, .ref h0), (1, .long p1)]) S.1 S.2.1 dX4_dayBy_1 rfl hl (by decide) rfl (fun ls hl => ?_)
  refine lv_aload_n S.1 S.2.1 dX4_dayBy_2 rfl (lv_at hl 1 rfl) ?_
  obtain ⟨r15, hy16, h⟩ := bd1_e h
  refine kv0 S hK hN hZ hA hW (rest := []) (t_X3_unsaid l dC dI cI cJ cZ cB zz h0 a0 c0 _  hy16) wl_X4_15 wv_X3_unsaid rfl rfl ⟨Nat.le_of_ble_eq_true rfl, Nat.le_of_ble_eq_true rfl⟩ [] [] rfl 0 rfl rfl rfl rfl hl.1 rfl (Nat.le_of_ble_eq_true rfl) dX4_dayBy_3 [.int r15] rfl (fun H locs hW => ?_)
  refine lv_istore (lv' := [(5, .int r15), (3, .long p1), (0, .ref h0), (1, .long p1)]) S.1 S.2.1 dX4_dayBy_6 hl (by decide) rfl (fun ls hl => ?_)
  refine lv_iconst (v := (0 : Int32)) S.1 S.2.1 dX4_dayBy_8 ki_0 ?_
  refine lv_istore (lv' := [(6, .int (0 : Int32)), (5, .int r15), (3, .long p1), (0, .ref h0), (1, .long p1)]) S.1 S.2.1 dX4_dayBy_9 hl (by decide) rfl (fun ls hl => ?_)
  exact hL11 F _ _ _ _ h H locs hW ls (lv_sub hl [3, 2, 1, 0] rfl)
