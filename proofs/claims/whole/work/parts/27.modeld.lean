abbrev rmX9_look : Room := { frames := 2, cells := 0, slots := 0, locals := 51 }
set_option maxHeartbeats 4000000 in
set_option maxRecDepth 100000 in
theorem t_X9_look (l : Launch) (dC : Nat → ClassId) (dI : Nat → Nat → Nat) (cI cJ cZ cB : ClassId) (zz : ZT)  (h0 : Nat) (a0 : Nat → Nat) (F : Nat) (c0 : Nat → Nat → Int32) (w0 : Nat → Nat → Int64) (p1 : Int32) (r : Int32) (c0' : Nat → Nat → Int32) (hm : md_X9_look F c0 w0 p1 = some (r, c0')) : ct l (dC, dI) zz (ty4 cI cJ cZ cB) yX9_look cX9_look 8 (some .int) rmX9_look [.ref h0, .int p1] (cwX9 cI cJ cZ cB h0 a0 c0 w0 []) (cwX9 cI cJ cZ cB h0 a0 c0' w0 []) (some (.int r)) := by
  refine ct_of (cc := cX9_look) (maxL := 8) (ret := (some .int)) (by decide) (Nat.le_of_ble_eq_true rfl) ?_
  intro p e s m below meth c A S hr hlocks hK hN hZ hA H locs hW ls hl
  have S : CallFix p m c cX9_look 8 s (List.toArray [.ref h0, .int p1]) G RX9 := S
  have hl : lv_has ls 8 [(0, .ref h0), (1, .int p1)] := hl
  have h := hm
  rw [md_X9_look] at h
  have hW : wd (dC, dI) A s.heap (clX9 cI cJ cZ cB h0 a0 (c0 0) (c0 1) (c0 2) (c0 3) (w0 4 0) (w0 5 0) (c0 6) (c0 7) (c0 8) (c0 9) (c0 10) (c0 11) (c0 12) (c0 13) (c0 14 0) (c0 15 0) (c0 16 0) (c0 17 0) (c0 18) (c0 19) (c0 20) (c0 21 0) (c0 22 0) (c0 23 0) (c0 24 0) (c0 25 0) (c0 26) (c0 27) []) H locs := hW
  have hL30 : ∀ (n30 : Nat) (c0 : Nat → Nat → Int32) (x1 : Int32) (x2 : Int32) (x3 : Int32) (x4 : Int32) (x5 : Int32), ld_X9_look_30 F w0 n30 c0 x1 x2 x3 x4 x5 = some (r, c0') → ∀ (H : Heap) (locs : List Loc), wd (dC, dI) A s.heap (clX9 cI cJ cZ cB h0 a0 (c0 0) (c0 1) (c0 2) (c0 3) (w0 4 0) (w0 5 0) (c0 6) (c0 7) (c0 8) (c0 9) (c0 10) (c0 11) (c0 12) (c0 13) (c0 14 0) (c0 15 0) (c0 16 0) (c0 17 0) (c0 18) (c0 19) (c0 20) (c0 21 0) (c0 22 0) (c0 23 0) (c0 24 0) (c0 25 0) (c0 26) (c0 27) []) H locs → ∀ ls : Array Slot, lv_has ls 8 [(0, .ref h0), (1, .int x1), (2, .int x2), (3, .int x3), (4, .int x4), (5, .int x5)] → W p l e rmX9_look s m (List.toArray [.ref h0, .int p1]) below meth c H locs 0 0 (MQ below (kQ (dC, dI) (cwX9 cI cJ cZ cB h0 a0 c0' w0 []) (some (.int r)) A) (List.toArray [.ref h0, .int p1]) s 0 0 A) (F0 m 30 ls []) := by
    intro n30
    induction n30 with
    | zero => intro c0 x1 x2 x3 x4 x5 h; rw [ld_X9_look_30] at h; cases h
    | succ n30 ih30 =>
      intro c0 x1 x2 x3 x4 x5 h H locs hW ls hl
      rw [ld_X9_look_30] at h
      have hL44 : ∀ (n44 : Nat) (c0 : Nat → Nat → Int32) (x1 : Int32) (x2 : Int32) (x3 : Int32) (x4 : Int32) (x5 : Int32) (x6 : Int32), ld_X9_look_44 F w0 (ld_X9_look_30 F w0 n30) n44 c0 x1 x2 x3 x4 x5 x6 = some (r, c0') → ∀ (H : Heap) (locs : List Loc), wd (dC, dI) A s.heap (clX9 cI cJ cZ cB h0 a0 (c0 0) (c0 1) (c0 2) (c0 3) (w0 4 0) (w0 5 0) (c0 6) (c0 7) (c0 8) (c0 9) (c0 10) (c0 11) (c0 12) (c0 13) (c0 14 0) (c0 15 0) (c0 16 0) (c0 17 0) (c0 18) (c0 19) (c0 20) (c0 21 0) (c0 22 0) (c0 23 0) (c0 24 0) (c0 25 0) (c0 26) (c0 27) []) H locs → ∀ ls : Array Slot, lv_has ls 8 [(0, .ref h0), (1, .int x1), (2, .int x2), (3, .int x3), (4, .int x4), (5, .int x5), (6, .int x6)] → W p l e rmX9_look s m (List.toArray [.ref h0, .int p1]) below meth c H locs 0 0 (MQ below (kQ (dC, dI) (cwX9 cI cJ cZ cB h0 a0 c0' w0 []) (some (.int r)) A) (List.toArray [.ref h0, .int p1]) s 0 0 A) (F0 m 44 ls []) := by
        intro n44
        induction n44 with
        | zero => intro c0 x1 x2 x3 x4 x5 x6 h; rw [ld_X9_look_44] at h; cases h
        | succ n44 ih44 =>
          intro c0 x1 x2 x3 x4 x5 x6 h H locs hW ls hl
          rw [ld_X9_look_44] at h
          have hL54 : ∀ (n54 : Nat) (c0 : Nat → Nat → Int32) (x1 : Int32) (x2 : Int32) (x3 : Int32) (x4 : Int32) (x5 : Int32) (x6 : Int32) (x7 : Int32), ld_X9_look_54 F w0 (ld_X9_look_30 F w0 n30) (ld_X9_look_44 F w0 (ld_X9_look_30 F w0 n30) n44) n54 c0 x1 x2 x3 x4 x5 x6 x7 = some (r, c0') → ∀ (H : Heap) (locs : List Loc), wd (dC, dI) A s.heap (clX9 cI cJ cZ cB h0 a0 (c0 0) (c0 1) (c0 2) (c0 3) (w0 4 0) (w0 5 0) (c0 6) (c0 7) (c0 8) (c0 9) (c0 10) (c0 11) (c0 12) (c0 13) (c0 14 0) (c0 15 0) (c0 16 0) (c0 17 0) (c0 18) (c0 19) (c0 20) (c0 21 0) (c0 22 0) (c0 23 0) (c0 24 0) (c0 25 0) (c0 26) (c0 27) []) H locs → ∀ ls : Array Slot, lv_has ls 8 [(0, .ref h0), (1, .int x1), (2, .int x2), (3, .int x3), (4, .int x4), (5, .int x5), (6, .int x6), (7, .int x7)] → W p l e rmX9_look s m (List.toArray [.ref h0, .int p1]) below meth c H locs 0 0 (MQ below (kQ (dC, dI) (cwX9 cI cJ cZ cB h0 a0 c0' w0 []) (some (.int r)) A) (List.toArray [.ref h0, .int p1]) s 0 0 A) (F0 m 54 ls []) := by
            intro n54
            induction n54 with
            | zero => intro c0 x1 x2 x3 x4 x5 x6 x7 h; rw [ld_X9_look_54] at h; cases h
            | succ n54 ih54 =>
              intro c0 x1 x2 x3 x4 x5 x6 x7 h H locs hW ls hl
              rw [ld_X9_look_54] at h
              refine lv_iload S.1 S.2.1 dX9_look_54 (lv_at hl 7 rfl) ?_
              refine lv_bipush (v := (6 : Int32)) S.1 S.2.1 dX9_look_56 kb_6 ?_
              refine lv_icmp_ge (tgt := 95) S.1 S.2.1 dX9_look_58 (by decide) (fun u1 => ?_) (fun u1 => ?_)
              · have h := of_p u1 h
                refine lv_aload_n S.1 S.2.1 dX9_look_95 rfl (lv_at hl 0 rfl) ?_
                refine lv_iload_n S.1 S.2.1 dX9_look_96 rfl (lv_at hl 2 rfl) ?_
                obtain ⟨r2, hy3, h⟩ := bd1_e h
                refine kv0 S hK hN hZ hA hW (rest := []) (t_X9_mostAlike l dC dI cI cJ cZ cB zz h0 a0 F c0 w0 x2 _  hy3) wl_X9_231 wv_X9_mostAlike rfl rfl ⟨Nat.le_of_ble_eq_true rfl, Nat.le_of_ble_eq_true rfl⟩ [] [] rfl 0 rfl rfl rfl rfl hl.1 rfl (Nat.le_of_ble_eq_true rfl) dX9_look_97 [.int r2] rfl (fun H locs hW => ?_)
                refine lv_istore (lv' := [(7, .int r2), (0, .ref h0), (1, .int x1), (2, .int x2), (3, .int x3), (4, .int x4), (5, .int x5), (6, .int x6)]) S.1 S.2.1 dX9_look_100 hl (by decide) rfl (fun ls hl => ?_)
                refine lv_iload S.1 S.2.1 dX9_look_102 (lv_at hl 0 rfl) ?_
                refine lv_iload S.1 S.2.1 dX9_look_104 (lv_at hl 5 rfl) ?_
                obtain ⟨y4, e5, h⟩ := lt1_e h
                suffices hM6 : ∀ ls : Array Slot, lv_has ls 8 [(0, .ref h0), (1, .int x1), (2, .int x2), (4, .int x4), (5, .int x5), (6, .int x6), (7, .int r2)] → W p l e rmX9_look s m (List.toArray [.ref h0, .int p1]) below meth c H locs 0 0 (MQ below (kQ (dC, dI) (cwX9 cI cJ cZ cB h0 a0 c0' w0 []) (some (.int r)) A) (List.toArray [.ref h0, .int p1]) s 0 0 A) (F0 m 121 ls [.int y4]) by
                  refine lv_icmp_ge (tgt := 120) S.1 S.2.1 dX9_look_106 (by decide) (fun u7 => ?_) (fun u7 => ?_)
                  · refine lv_iload_n S.1 S.2.1 dX9_look_120 rfl (lv_at hl 4 rfl) ?_
                    have e5 := e5.trans (if_pos u7)
                    subst e5
                    exact hM6 ls (lv_sub hl [1, 2, 3, 5, 6, 7, 0] rfl)
                  · refine lv_bipush (v := (100 : Int32)) S.1 S.2.1 dX9_look_109 kb_100 ?_
                    refine lv_iload S.1 S.2.1 dX9_look_111 (lv_at hl 6 rfl) ?_
                    refine lv_imul S.1 S.2.1 dX9_look_113 ?_
                    refine lv_iload S.1 S.2.1 dX9_look_114 (lv_at hl 7 rfl) ?_
                    refine lv_iadd S.1 S.2.1 dX9_look_116 ?_
                    refine lv_goto (tgt := 121) S.1 S.2.1 dX9_look_117 (by decide) ?_
                    have e5 := e5.trans (if_neg u7)
                    subst e5
                    exact hM6 ls (lv_sub hl [1, 2, 3, 5, 6, 7, 0] rfl)
                intro ls hl
                refine lv_istore_n (lv' := [(3, .int y4), (0, .ref h0), (1, .int x1), (2, .int x2), (4, .int x4), (5, .int x5), (6, .int x6), (7, .int r2)]) S.1 S.2.1 dX9_look_121 rfl hl (by decide) rfl (fun ls hl => ?_)
                refine lv_iload S.1 S.2.1 dX9_look_122 (lv_at hl 7 rfl) ?_
                refine lv_iload S.1 S.2.1 dX9_look_124 (lv_at hl 4 rfl) ?_
                obtain ⟨y8, e9, h⟩ := lt1_e h
                suffices hM10 : ∀ ls : Array Slot, lv_has ls 8 [(0, .ref h0), (1, .int x1), (2, .int x2), (3, .int y4), (5, .int x5), (6, .int x6)] → W p l e rmX9_look s m (List.toArray [.ref h0, .int p1]) below meth c H locs 0 0 (MQ below (kQ (dC, dI) (cwX9 cI cJ cZ cB h0 a0 c0' w0 []) (some (.int r)) A) (List.toArray [.ref h0, .int p1]) s 0 0 A) (F0 m 136 ls [.int y8]) by
                  refine lv_icmp_ge (tgt := 134) S.1 S.2.1 dX9_look_126 (by decide) (fun u11 => ?_) (fun u11 => ?_)
                  · refine lv_iload S.1 S.2.1 dX9_look_134 (lv_at hl 4 rfl) ?_
                    have e9 := e9.trans (if_pos u11)
                    subst e9
                    exact hM10 ls (lv_sub hl [1, 2, 3, 0, 5, 6] rfl)
                  · refine lv_iload S.1 S.2.1 dX9_look_129 (lv_at hl 7 rfl) ?_
                    refine lv_goto (tgt := 136) S.1 S.2.1 dX9_look_131 (by decide) ?_
                    have e9 := e9.trans (if_neg u11)
                    subst e9
                    exact hM10 ls (lv_sub hl [1, 2, 3, 0, 5, 6] rfl)
                intro ls hl
                refine lv_istore (lv' := [(4, .int y8), (0, .ref h0), (1, .int x1), (2, .int x2), (3, .int y4), (5, .int x5), (6, .int x6)]) S.1 S.2.1 dX9_look_136 hl (by decide) rfl (fun ls hl => ?_)
                refine lv_iinc (v := (x6 + (1 : Int32))) (lv' := [(6, .int (x6 + (1 : Int32))), (4, .int y8), (0, .ref h0), (1, .int x1), (2, .int x2), (3, .int y4), (5, .int x5)]) S.1 S.2.1 dX9_look_138 hl (k := 6) rfl (congrArg (fun z => x6 + z) ki_1) (by decide) rfl (fun ls hl => ?_)
                refine lv_goto (tgt := 44) S.1 S.2.1 dX9_look_141 (by decide) ?_
                exact ih44 _ _ _ _ _ _ _ h H locs hW ls (lv_sub hl [2, 3, 4, 5, 1, 6, 0] rfl)
              · have h := of_n u1 h
                refine lv_aload_n S.1 S.2.1 dX9_look_61 rfl (lv_at hl 0 rfl) ?_
                refine gf (C := RX9) (T := TX9) (N := 28) (ci := 5) (k := 19) S hK hW wu_X9 rfl (by decide) wf_X9_54 0 rfl rfl dX9_look_62 ?_
                refine lv_iload S.1 S.2.1 dX9_look_65 (lv_at hl 7 rfl) ?_
                refine lv_iload S.1 S.2.1 dX9_look_67 (lv_at hl 7 rfl) ?_
                refine lv_aload_n S.1 S.2.1 dX9_look_69 rfl (lv_at hl 0 rfl) ?_
                refine gf (C := RX9) (T := TX9) (N := 28) (ci := 5) (k := 0) S hK hW wu_X9 rfl (by decide) wf_X9_7 0 rfl rfl dX9_look_70 ?_
                refine lv_bipush (v := (24 : Int32)) S.1 S.2.1 dX9_look_73 kb_24 ?_
                refine lv_iload_n S.1 S.2.1 dX9_look_75 rfl (lv_at hl 1 rfl) ?_
                refine lv_iadd S.1 S.2.1 dX9_look_76 ?_
                obtain ⟨z12, h⟩ := of_g h
                refine ia S hK hW rfl 1 rfl z12 dX9_look_77 ?_
                refine lv_iload S.1 S.2.1 dX9_look_78 (lv_at hl 6 rfl) ?_
                refine lv_bipush (v := (10 : Int32)) S.1 S.2.1 dX9_look_80 kb_10 ?_
                refine lv_isub S.1 S.2.1 dX9_look_82 ?_
                refine lv_iload S.1 S.2.1 dX9_look_83 (lv_at hl 5 rfl) ?_
                obtain ⟨r13, hy14, h⟩ := bd1_e h
                refine ks0 S hK hN hZ hA hW (rest := [.int x7, .ref (a0 19)]) (t_X9_movesAs l dC dI cI cJ cZ cB zz x7 ((c0 0) (ix ((24 : Int32) + x1))) (x6 - (10 : Int32)) x5 _  hy14) wl_X9_106 wv_X9_movesAs rfl rfl ⟨Nat.le_of_ble_eq_true rfl, Nat.le_of_ble_eq_true rfl⟩ [] (clX9 cI cJ cZ cB h0 a0 (c0 0) (c0 1) (c0 2) (c0 3) (w0 4 0) (w0 5 0) (c0 6) (c0 7) (c0 8) (c0 9) (c0 10) (c0 11) (c0 12) (c0 13) (c0 14 0) (c0 15 0) (c0 16 0) (c0 17 0) (c0 18) (c0 19) (c0 20) (c0 21 0) (c0 22 0) (c0 23 0) (c0 24 0) (c0 25 0) (c0 26) (c0 27) []) rfl rfl hl.1 rfl (Nat.le_of_ble_eq_true rfl) dX9_look_85 [.int r13, .int x7, .ref (a0 19)] rfl (fun H locs hW => ?_)
                obtain ⟨z15, h⟩ := of_g h
                refine ist S hK hW rfl 14 rfl z15 dX9_look_88 (fun H locs hW => ?_)
                have hW : wd (dC, dI) A s.heap (clX9 cI cJ cZ cB h0 a0 (c0 0) (c0 1) (c0 2) (c0 3) (w0 4 0) (w0 5 0) (c0 6) (c0 7) (c0 8) (c0 9) (c0 10) (c0 11) (c0 12) (c0 13) (c0 14 0) (c0 15 0) (c0 16 0) (c0 17 0) (c0 18) (upd (c0 19) (ix x7) r13) (c0 20) (c0 21 0) (c0 22 0) (c0 23 0) (c0 24 0) (c0 25 0) (c0 26) (c0 27) []) H locs := hW
                refine lv_iinc (v := (x7 + (1 : Int32))) (lv' := [(7, .int (x7 + (1 : Int32))), (0, .ref h0), (1, .int x1), (2, .int x2), (3, .int x3), (4, .int x4), (5, .int x5), (6, .int x6)]) S.1 S.2.1 dX9_look_89 hl (k := 7) rfl (congrArg (fun z => x7 + z) ki_1) (by decide) rfl (fun ls hl => ?_)
                refine lv_goto (tgt := 54) S.1 S.2.1 dX9_look_92 (by decide) ?_
                exact ih54 _ _ _ _ _ _ _ _ h H locs hW ls (lv_sub hl [1, 2, 3, 4, 5, 6, 7, 0] rfl)
          refine lv_iload S.1 S.2.1 dX9_look_44 (lv_at hl 6 rfl) ?_
          refine lv_bipush (v := (21 : Int32)) S.1 S.2.1 dX9_look_46 kb_21 ?_
          refine lv_icmp_ge (tgt := 144) S.1 S.2.1 dX9_look_48 (by decide) (fun u16 => ?_) (fun u16 => ?_)
          · have h := of_p u16 h
            refine lv_iinc (v := (x5 + (1 : Int32))) (lv' := [(5, .int (x5 + (1 : Int32))), (0, .ref h0), (1, .int x1), (2, .int x2), (3, .int x3), (4, .int x4), (6, .int x6)]) S.1 S.2.1 dX9_look_144 hl (k := 5) rfl (congrArg (fun z => x5 + z) ki_1) (by decide) rfl (fun ls hl => ?_)
            refine lv_goto (tgt := 30) S.1 S.2.1 dX9_look_147 (by decide) ?_
            exact ih30 _ _ _ _ _ _ h H locs hW ls (lv_sub hl [1, 2, 3, 4, 5, 0] rfl)
          · have h := of_n u16 h
            refine lv_iconst (v := (0 : Int32)) S.1 S.2.1 dX9_look_51 ki_0 ?_
            refine lv_istore (lv' := [(7, .int (0 : Int32)), (0, .ref h0), (1, .int x1), (2, .int x2), (3, .int x3), (4, .int x4), (5, .int x5), (6, .int x6)]) S.1 S.2.1 dX9_look_52 hl (by decide) rfl (fun ls hl => ?_)
            exact hL54 F _ _ _ _ _ _ _ _ h H locs hW ls (lv_sub hl [1, 2, 3, 4, 5, 6, 7, 0] rfl)
      refine lv_iload S.1 S.2.1 dX9_look_30 (lv_at hl 5 rfl) ?_
      refine lv_bipush (v := (6 : Int32)) S.1 S.2.1 dX9_look_32 kb_6 ?_
      refine lv_icmp_ge (tgt := 150) S.1 S.2.1 dX9_look_34 (by decide) (fun u17 => ?_) (fun u17 => ?_)
      · have h := of_p u17 h
        refine lv_iload_n S.1 S.2.1 dX9_look_150 rfl (lv_at hl 3 rfl) ?_
        have f18 := Option.some.inj h
        obtain ⟨f19, f20⟩ := Prod.mk.inj f18
        subst f19
        subst f20
        exact ri S hr hlocks hW dX9_look_151
      · have h := of_n u17 h
        refine lv_iload_n S.1 S.2.1 dX9_look_37 rfl (lv_at hl 2 rfl) ?_
        refine lv_if_le (tgt := 150) S.1 S.2.1 dX9_look_38 (by decide) (fun u21 => ?_) (fun u21 => ?_)
        · have h := of_p u21 h
          refine lv_iload_n S.1 S.2.1 dX9_look_150 rfl (lv_at hl 3 rfl) ?_
          have f22 := Option.some.inj h
          obtain ⟨f23, f24⟩ := Prod.mk.inj f22
          subst f23
          subst f24
          exact ri S hr hlocks hW dX9_look_151
        · have h := of_n u21 h
          refine lv_iconst (v := (0 : Int32)) S.1 S.2.1 dX9_look_41 ki_0 ?_
          refine lv_istore (lv' := [(6, .int (0 : Int32)), (0, .ref h0), (1, .int x1), (2, .int x2), (3, .int x3), (4, .int x4), (5, .int x5)]) S.1 S.2.1 dX9_look_42 hl (by decide) rfl (fun ls hl => ?_)
          exact hL44 F _ _ _ _ _ _ _ h H locs hW ls (lv_sub hl [1, 2, 3, 4, 5, 6, 0] rfl)
  refine lv_aload_n S.1 S.2.1 dX9_look_0 rfl (lv_at hl 0 rfl) ?_
  refine lv_iload_n S.1 S.2.1 dX9_look_1 rfl (lv_at hl 1 rfl) ?_
  obtain ⟨r25, hy26, h⟩ := bd1_e h
  refine kv0 S hK hN hZ hA hW (rest := []) (t_X9_isPoint l dC dI cI cJ cZ cB zz h0 a0 c0 w0 p1 _  hy26) wl_X9_117 wv_X9_isPoint rfl rfl ⟨Nat.le_of_ble_eq_true rfl, Nat.le_of_ble_eq_true rfl⟩ [] [] rfl 0 rfl rfl rfl rfl hl.1 rfl (Nat.le_of_ble_eq_true rfl) dX9_look_2 [.int r25] rfl (fun H locs hW => ?_)
  refine lv_if_ne (tgt := 15) S.1 S.2.1 dX9_look_5 (by decide) (fun u27 => ?_) (fun u27 => ?_)
  · have h := of_n u27 h
    refine lv_aload_n S.1 S.2.1 dX9_look_15 rfl (lv_at hl 0 rfl) ?_
    refine lv_iload_n S.1 S.2.1 dX9_look_16 rfl (lv_at hl 1 rfl) ?_
    obtain ⟨r28, hy29, h⟩ := bd1_e h
    refine kv0 S hK hN hZ hA hW (rest := []) (t_X9_kindsOf l dC dI cI cJ cZ cB zz h0 a0 F c0 w0 p1 _  hy29) wl_X9_225 wv_X9_kindsOf rfl rfl ⟨Nat.le_of_ble_eq_true rfl, Nat.le_of_ble_eq_true rfl⟩ [] [] rfl 0 rfl rfl rfl rfl hl.1 rfl (Nat.le_of_ble_eq_true rfl) dX9_look_17 [.int r28] rfl (fun H locs hW => ?_)
    refine lv_istore_n (lv' := [(2, .int r28), (0, .ref h0), (1, .int p1)]) S.1 S.2.1 dX9_look_20 rfl hl (by decide) rfl (fun ls hl => ?_)
    refine lv_iconst (v := (-1 : Int32)) S.1 S.2.1 dX9_look_21 ki_m1 ?_
    refine lv_istore_n (lv' := [(3, .int (-1 : Int32)), (2, .int r28), (0, .ref h0), (1, .int p1)]) S.1 S.2.1 dX9_look_22 rfl hl (by decide) rfl (fun ls hl => ?_)
    refine lv_ldc (v := (1000000 : Int32)) S.1 S.2.1 S.2.2.2.1 (S.2.2.2.2 _ wk_X9_146) dX9_look_23 ?_
    refine lv_istore (lv' := [(4, .int (1000000 : Int32)), (3, .int (-1 : Int32)), (2, .int r28), (0, .ref h0), (1, .int p1)]) S.1 S.2.1 dX9_look_25 hl (by decide) rfl (fun ls hl => ?_)
    refine lv_iconst (v := (0 : Int32)) S.1 S.2.1 dX9_look_27 ki_0 ?_
    refine lv_istore (lv' := [(5, .int (0 : Int32)), (4, .int (1000000 : Int32)), (3, .int (-1 : Int32)), (2, .int r28), (0, .ref h0), (1, .int p1)]) S.1 S.2.1 dX9_look_28 hl (by decide) rfl (fun ls hl => ?_)
    exact hL30 F _ _ _ _ _ _ h H locs hW ls (lv_sub hl [4, 5, 3, 2, 1, 0] rfl)
  · have h := of_p u27 h
    refine lv_aload_n S.1 S.2.1 dX9_look_8 rfl (lv_at hl 0 rfl) ?_
    refine lv_bipush (v := (-2 : Int32)) S.1 S.2.1 dX9_look_9 kb_m2 ?_
    obtain ⟨r30, cv31, hy32, h⟩ := bd2_e h
    refine kv (clX9 cI cJ cZ cB h0 a0 (cv31 0) (cv31 1) (cv31 2) (cv31 3) (w0 4 0) (w0 5 0) (cv31 6) (cv31 7) (cv31 8) (cv31 9) (cv31 10) (cv31 11) (cv31 12) (cv31 13) (cv31 14 0) (cv31 15 0) (cv31 16 0) (cv31 17 0) (cv31 18) (cv31 19) (cv31 20) (cv31 21 0) (cv31 22 0) (cv31 23 0) (cv31 24 0) (cv31 25 0) (cv31 26) (cv31 27) []) S hK hN hZ hA hW (rest := []) (t_X9_bad l dC dI cI cJ cZ cB zz h0 a0 c0 w0 (-2 : Int32) _ _  hy32) wl_X9_84 wv_X9_bad rfl rfl ⟨Nat.le_of_ble_eq_true rfl, Nat.le_of_ble_eq_true rfl⟩ [] [] rfl rfl rfl 0 rfl rfl rfl rfl hl.1 rfl (Nat.le_of_ble_eq_true rfl) dX9_look_11 [.int r30] rfl (fun H locs hW => ?_)
    have f33 := Option.some.inj h
    obtain ⟨f34, f35⟩ := Prod.mk.inj f33
    subst f34
    subst f35
    exact ri S hr hlocks hW dX9_look_14
abbrev rmX9_ask : Room := { frames := 2, cells := 0, slots := 0, locals := 49 }
set_option maxHeartbeats 4000000 in
set_option maxRecDepth 100000 in
theorem t_X9_ask (l : Launch) (dC : Nat → ClassId) (dI : Nat → Nat → Nat) (cI cJ cZ cB : ClassId) (zz : ZT)  (h0 : Nat) (a0 : Nat → Nat) (F : Nat) (c0 : Nat → Nat → Int32) (w0 : Nat → Nat → Int64) (p1 : Int32) (r : Int32) (c0' : Nat → Nat → Int32) (hm : md_X9_ask F c0 w0 p1 = some (r, c0')) : ct l (dC, dI) zz (ty4 cI cJ cZ cB) yX9_ask cX9_ask 8 (some .int) rmX9_ask [.ref h0, .int p1] (cwX9 cI cJ cZ cB h0 a0 c0 w0 []) (cwX9 cI cJ cZ cB h0 a0 c0' w0 []) (some (.int r)) := by
  refine ct_of (cc := cX9_ask) (maxL := 8) (ret := (some .int)) (by decide) (Nat.le_of_ble_eq_true rfl) ?_
  intro p e s m below meth c A S hr hlocks hK hN hZ hA H locs hW ls hl
  have S : CallFix p m c cX9_ask 8 s (List.toArray [.ref h0, .int p1]) G RX9 := S
  have hl : lv_has ls 8 [(0, .ref h0), (1, .int p1)] := hl
  have h := hm
  rw [md_X9_ask] at h
  have hW : wd (dC, dI) A s.heap (clX9 cI cJ cZ cB h0 a0 (c0 0) (c0 1) (c0 2) (c0 3) (w0 4 0) (w0 5 0) (c0 6) (c0 7) (c0 8) (c0 9) (c0 10) (c0 11) (c0 12) (c0 13) (c0 14 0) (c0 15 0) (c0 16 0) (c0 17 0) (c0 18) (c0 19) (c0 20) (c0 21 0) (c0 22 0) (c0 23 0) (c0 24 0) (c0 25 0) (c0 26) (c0 27) []) H locs := hW
  have hL29 : ∀ (n29 : Nat) (c0 : Nat → Nat → Int32) (x2 : Int32) (x3 : Int32) (x4 : Int32) (x5 : Int32), ld_X9_ask_29 F w0 n29 c0 x2 x3 x4 x5 = some (r, c0') → ∀ (H : Heap) (locs : List Loc), wd (dC, dI) A s.heap (clX9 cI cJ cZ cB h0 a0 (c0 0) (c0 1) (c0 2) (c0 3) (w0 4 0) (w0 5 0) (c0 6) (c0 7) (c0 8) (c0 9) (c0 10) (c0 11) (c0 12) (c0 13) (c0 14 0) (c0 15 0) (c0 16 0) (c0 17 0) (c0 18) (c0 19) (c0 20) (c0 21 0) (c0 22 0) (c0 23 0) (c0 24 0) (c0 25 0) (c0 26) (c0 27) []) H locs → ∀ ls : Array Slot, lv_has ls 8 [(0, .ref h0), (2, .int x2), (3, .int x3), (4, .int x4), (5, .int x5)] → W p l e rmX9_ask s m (List.toArray [.ref h0, .int p1]) below meth c H locs 0 0 (MQ below (kQ (dC, dI) (cwX9 cI cJ cZ cB h0 a0 c0' w0 []) (some (.int r)) A) (List.toArray [.ref h0, .int p1]) s 0 0 A) (F0 m 29 ls []) := by
    intro n29
    induction n29 with
    | zero => intro c0 x2 x3 x4 x5 h; rw [ld_X9_ask_29] at h; cases h
    | succ n29 ih29 =>
      intro c0 x2 x3 x4 x5 h H locs hW ls hl
      rw [ld_X9_ask_29] at h
      have hL42 : ∀ (n42 : Nat) (c0 : Nat → Nat → Int32) (x2 : Int32) (x3 : Int32) (x4 : Int32) (x5 : Int32) (x6 : Int32), ld_X9_ask_42 F w0 (ld_X9_ask_29 F w0 n29) n42 c0 x2 x3 x4 x5 x6 = some (r, c0') → ∀ (H : Heap) (locs : List Loc), wd (dC, dI) A s.heap (clX9 cI cJ cZ cB h0 a0 (c0 0) (c0 1) (c0 2) (c0 3) (w0 4 0) (w0 5 0) (c0 6) (c0 7) (c0 8) (c0 9) (c0 10) (c0 11) (c0 12) (c0 13) (c0 14 0) (c0 15 0) (c0 16 0) (c0 17 0) (c0 18) (c0 19) (c0 20) (c0 21 0) (c0 22 0) (c0 23 0) (c0 24 0) (c0 25 0) (c0 26) (c0 27) []) H locs → ∀ ls : Array Slot, lv_has ls 8 [(0, .ref h0), (2, .int x2), (3, .int x3), (4, .int x4), (5, .int x5), (6, .int x6)] → W p l e rmX9_ask s m (List.toArray [.ref h0, .int p1]) below meth c H locs 0 0 (MQ below (kQ (dC, dI) (cwX9 cI cJ cZ cB h0 a0 c0' w0 []) (some (.int r)) A) (List.toArray [.ref h0, .int p1]) s 0 0 A) (F0 m 42 ls []) := by
        intro n42
        induction n42 with
        | zero => intro c0 x2 x3 x4 x5 x6 h; rw [ld_X9_ask_42] at h; cases h
        | succ n42 ih42 =>
          intro c0 x2 x3 x4 x5 x6 h H locs hW ls hl
          rw [ld_X9_ask_42] at h
          have hL52 : ∀ (n52 : Nat) (c0 : Nat → Nat → Int32) (x2 : Int32) (x3 : Int32) (x4 : Int32) (x5 : Int32) (x6 : Int32) (x7 : Int32), ld_X9_ask_52 F w0 (ld_X9_ask_29 F w0 n29) (ld_X9_ask_42 F w0 (ld_X9_ask_29 F w0 n29) n42) n52 c0 x2 x3 x4 x5 x6 x7 = some (r, c0') → ∀ (H : Heap) (locs : List Loc), wd (dC, dI) A s.heap (clX9 cI cJ cZ cB h0 a0 (c0 0) (c0 1) (c0 2) (c0 3) (w0 4 0) (w0 5 0) (c0 6) (c0 7) (c0 8) (c0 9) (c0 10) (c0 11) (c0 12) (c0 13) (c0 14 0) (c0 15 0) (c0 16 0) (c0 17 0) (c0 18) (c0 19) (c0 20) (c0 21 0) (c0 22 0) (c0 23 0) (c0 24 0) (c0 25 0) (c0 26) (c0 27) []) H locs → ∀ ls : Array Slot, lv_has ls 8 [(0, .ref h0), (2, .int x2), (3, .int x3), (4, .int x4), (5, .int x5), (6, .int x6), (7, .int x7)] → W p l e rmX9_ask s m (List.toArray [.ref h0, .int p1]) below meth c H locs 0 0 (MQ below (kQ (dC, dI) (cwX9 cI cJ cZ cB h0 a0 c0' w0 []) (some (.int r)) A) (List.toArray [.ref h0, .int p1]) s 0 0 A) (F0 m 52 ls []) := by
            intro n52
            induction n52 with
            | zero => intro c0 x2 x3 x4 x5 x6 x7 h; rw [ld_X9_ask_52] at h; cases h
            | succ n52 ih52 =>
              intro c0 x2 x3 x4 x5 x6 x7 h H locs hW ls hl
              rw [ld_X9_ask_52] at h
              refine lv_iload S.1 S.2.1 dX9_ask_52 (lv_at hl 6 rfl) ?_
              refine lv_bipush (v := (6 : Int32)) S.1 S.2.1 dX9_ask_54 kb_6 ?_
              refine lv_icmp_ge (tgt := 81) S.1 S.2.1 dX9_ask_56 (by decide) (fun u1 => ?_) (fun u1 => ?_)
              · have h := of_p u1 h
                refine lv_aload_n S.1 S.2.1 dX9_ask_81 rfl (lv_at hl 0 rfl) ?_
                refine lv_iload_n S.1 S.2.1 dX9_ask_82 rfl (lv_at hl 1 rfl) ?_
                obtain ⟨r2, hy3, h⟩ := bd1_e h
                refine kv0 S hK hN hZ hA hW (rest := []) (t_X9_mostAlike l dC dI cI cJ cZ cB zz h0 a0 F c0 w0 x2 _  hy3) wl_X9_231 wv_X9_mostAlike rfl rfl ⟨Nat.le_of_ble_eq_true rfl, Nat.le_of_ble_eq_true rfl⟩ [] [] rfl 0 rfl rfl rfl rfl hl.1 rfl (Nat.le_of_ble_eq_true rfl) dX9_ask_83 [.int r2] rfl (fun H locs hW => ?_)
                refine lv_istore (lv' := [(7, .int r2), (0, .ref h0), (2, .int x2), (3, .int x3), (4, .int x4), (5, .int x5), (6, .int x6)]) S.1 S.2.1 dX9_ask_86 hl (by decide) rfl (fun ls hl => ?_)
                refine lv_iload S.1 S.2.1 dX9_ask_88 (lv_at hl 0 rfl) ?_
                refine lv_iload S.1 S.2.1 dX9_ask_90 (lv_at hl 4 rfl) ?_
                obtain ⟨y4, e5, h⟩ := lt1_e h
                suffices hM6 : ∀ ls : Array Slot, lv_has ls 8 [(0, .ref h0), (2, .int x2), (4, .int x4), (5, .int x5), (6, .int x6), (7, .int r2)] → W p l e rmX9_ask s m (List.toArray [.ref h0, .int p1]) below meth c H locs 0 0 (MQ below (kQ (dC, dI) (cwX9 cI cJ cZ cB h0 a0 c0' w0 []) (some (.int r)) A) (List.toArray [.ref h0, .int p1]) s 0 0 A) (F0 m 107 ls [.int y4]) by
                  refine lv_icmp_ge (tgt := 106) S.1 S.2.1 dX9_ask_92 (by decide) (fun u7 => ?_) (fun u7 => ?_)
                  · refine lv_iload_n S.1 S.2.1 dX9_ask_106 rfl (lv_at hl 3 rfl) ?_
                    have e5 := e5.trans (if_pos u7)
                    subst e5
                    exact hM6 ls (lv_sub hl [1, 2, 4, 5, 6, 0] rfl)
                  · refine lv_bipush (v := (100 : Int32)) S.1 S.2.1 dX9_ask_95 kb_100 ?_
                    refine lv_iload S.1 S.2.1 dX9_ask_97 (lv_at hl 5 rfl) ?_
                    refine lv_imul S.1 S.2.1 dX9_ask_99 ?_
                    refine lv_iload S.1 S.2.1 dX9_ask_100 (lv_at hl 6 rfl) ?_
                    refine lv_iadd S.1 S.2.1 dX9_ask_102 ?_
                    refine lv_goto (tgt := 107) S.1 S.2.1 dX9_ask_103 (by decide) ?_
                    have e5 := e5.trans (if_neg u7)
                    subst e5
                    exact hM6 ls (lv_sub hl [1, 2, 4, 5, 6, 0] rfl)
                intro ls hl
                refine lv_istore_n (lv' := [(3, .int y4), (0, .ref h0), (2, .int x2), (4, .int x4), (5, .int x5), (6, .int x6), (7, .int r2)]) S.1 S.2.1 dX9_ask_107 rfl hl (by decide) rfl (fun ls hl => ?_)
                refine lv_iload S.1 S.2.1 dX9_ask_108 (lv_at hl 6 rfl) ?_
                refine lv_iload S.1 S.2.1 dX9_ask_110 (lv_at hl 3 rfl) ?_
                obtain ⟨y8, e9, h⟩ := lt1_e h
                suffices hM10 : ∀ ls : Array Slot, lv_has ls 8 [(0, .ref h0), (2, .int x2), (3, .int y4), (5, .int x5), (6, .int x6)] → W p l e rmX9_ask s m (List.toArray [.ref h0, .int p1]) below meth c H locs 0 0 (MQ below (kQ (dC, dI) (cwX9 cI cJ cZ cB h0 a0 c0' w0 []) (some (.int r)) A) (List.toArray [.ref h0, .int p1]) s 0 0 A) (F0 m 122 ls [.int y8]) by
                  refine lv_icmp_ge (tgt := 120) S.1 S.2.1 dX9_ask_112 (by decide) (fun u11 => ?_) (fun u11 => ?_)
                  · refine lv_iload S.1 S.2.1 dX9_ask_120 (lv_at hl 3 rfl) ?_
                    have e9 := e9.trans (if_pos u11)
                    subst e9
                    exact hM10 ls (lv_sub hl [1, 2, 0, 4, 5] rfl)
                  · refine lv_iload S.1 S.2.1 dX9_ask_115 (lv_at hl 6 rfl) ?_
                    refine lv_goto (tgt := 122) S.1 S.2.1 dX9_ask_117 (by decide) ?_
                    have e9 := e9.trans (if_neg u11)
                    subst e9
                    exact hM10 ls (lv_sub hl [1, 2, 0, 4, 5] rfl)
                intro ls hl
                refine lv_istore (lv' := [(4, .int y8), (0, .ref h0), (2, .int x2), (3, .int y4), (5, .int x5), (6, .int x6)]) S.1 S.2.1 dX9_ask_122 hl (by decide) rfl (fun ls hl => ?_)
                refine lv_iinc (v := (x6 + (1 : Int32))) (lv' := [(6, .int (x6 + (1 : Int32))), (4, .int y8), (0, .ref h0), (2, .int x2), (3, .int y4), (5, .int x5)]) S.1 S.2.1 dX9_ask_124 hl (k := 5) rfl (congrArg (fun z => x6 + z) ki_1) (by decide) rfl (fun ls hl => ?_)
                refine lv_goto (tgt := 42) S.1 S.2.1 dX9_ask_127 (by decide) ?_
                exact ih42 _ _ _ _ _ _ h H locs hW ls (lv_sub hl [2, 3, 4, 1, 5, 0] rfl)
              · have h := of_n u1 h
                refine lv_aload_n S.1 S.2.1 dX9_ask_59 rfl (lv_at hl 0 rfl) ?_
                refine gf (C := RX9) (T := TX9) (N := 28) (ci := 5) (k := 19) S hK hW wu_X9 rfl (by decide) wf_X9_54 0 rfl rfl dX9_ask_60 ?_
                refine lv_iload S.1 S.2.1 dX9_ask_63 (lv_at hl 6 rfl) ?_
                refine lv_iload S.1 S.2.1 dX9_ask_65 (lv_at hl 6 rfl) ?_
                refine lv_iload S.1 S.2.1 dX9_ask_67 (lv_at hl 5 rfl) ?_
                refine lv_iload S.1 S.2.1 dX9_ask_69 (lv_at hl 4 rfl) ?_
                obtain ⟨r12, hy13, h⟩ := bd1_e h
                refine ks0 S hK hN hZ hA hW (rest := [.int x7, .ref (a0 19)]) (t_X9_countsAs l dC dI cI cJ cZ cB zz x7 x6 x5 _  hy13) wl_X9_110 wv_X9_countsAs rfl rfl ⟨Nat.le_of_ble_eq_true rfl, Nat.le_of_ble_eq_true rfl⟩ [] (clX9 cI cJ cZ cB h0 a0 (c0 0) (c0 1) (c0 2) (c0 3) (w0 4 0) (w0 5 0) (c0 6) (c0 7) (c0 8) (c0 9) (c0 10) (c0 11) (c0 12) (c0 13) (c0 14 0) (c0 15 0) (c0 16 0) (c0 17 0) (c0 18) (c0 19) (c0 20) (c0 21 0) (c0 22 0) (c0 23 0) (c0 24 0) (c0 25 0) (c0 26) (c0 27) []) rfl rfl hl.1 rfl (Nat.le_of_ble_eq_true rfl) dX9_ask_71 [.int r12, .int x7, .ref (a0 19)] rfl (fun H locs hW => ?_)
                obtain ⟨z14, h⟩ := of_g h
                refine ist S hK hW rfl 14 rfl z14 dX9_ask_74 (fun H locs hW => ?_)
                have hW : wd (dC, dI) A s.heap (clX9 cI cJ cZ cB h0 a0 (c0 0) (c0 1) (c0 2) (c0 3) (w0 4 0) (w0 5 0) (c0 6) (c0 7) (c0 8) (c0 9) (c0 10) (c0 11) (c0 12) (c0 13) (c0 14 0) (c0 15 0) (c0 16 0) (c0 17 0) (c0 18) (upd (c0 19) (ix x7) r12) (c0 20) (c0 21 0) (c0 22 0) (c0 23 0) (c0 24 0) (c0 25 0) (c0 26) (c0 27) []) H locs := hW
                refine lv_iinc (v := (x7 + (1 : Int32))) (lv' := [(7, .int (x7 + (1 : Int32))), (0, .ref h0), (2, .int x2), (3, .int x3), (4, .int x4), (5, .int x5), (6, .int x6)]) S.1 S.2.1 dX9_ask_75 hl (k := 6) rfl (congrArg (fun z => x7 + z) ki_1) (by decide) rfl (fun ls hl => ?_)
                refine lv_goto (tgt := 52) S.1 S.2.1 dX9_ask_78 (by decide) ?_
                exact ih52 _ _ _ _ _ _ _ h H locs hW ls (lv_sub hl [1, 2, 3, 4, 5, 6, 0] rfl)
          refine lv_iload S.1 S.2.1 dX9_ask_42 (lv_at hl 5 rfl) ?_
          refine lv_bipush (v := (41 : Int32)) S.1 S.2.1 dX9_ask_44 kb_41 ?_
          refine lv_icmp_ge (tgt := 130) S.1 S.2.1 dX9_ask_46 (by decide) (fun u15 => ?_) (fun u15 => ?_)
          · have h := of_p u15 h
            refine lv_iinc (v := (x5 + (1 : Int32))) (lv' := [(5, .int (x5 + (1 : Int32))), (0, .ref h0), (2, .int x2), (3, .int x3), (4, .int x4), (6, .int x6)]) S.1 S.2.1 dX9_ask_130 hl (k := 4) rfl (congrArg (fun z => x5 + z) ki_1) (by decide) rfl (fun ls hl => ?_)
            refine lv_goto (tgt := 29) S.1 S.2.1 dX9_ask_133 (by decide) ?_
            exact ih29 _ _ _ _ _ h H locs hW ls (lv_sub hl [1, 2, 3, 4, 0] rfl)
          · have h := of_n u15 h
            refine lv_iconst (v := (0 : Int32)) S.1 S.2.1 dX9_ask_49 ki_0 ?_
            refine lv_istore (lv' := [(7, .int (0 : Int32)), (0, .ref h0), (2, .int x2), (3, .int x3), (4, .int x4), (5, .int x5), (6, .int x6)]) S.1 S.2.1 dX9_ask_50 hl (by decide) rfl (fun ls hl => ?_)
            exact hL52 F _ _ _ _ _ _ _ h H locs hW ls (lv_sub hl [1, 2, 3, 4, 5, 6, 0] rfl)
      refine lv_iload S.1 S.2.1 dX9_ask_29 (lv_at hl 4 rfl) ?_
      refine lv_iconst (v := (2 : Int32)) S.1 S.2.1 dX9_ask_31 ki_2 ?_
      refine lv_icmp_ge (tgt := 136) S.1 S.2.1 dX9_ask_32 (by decide) (fun u16 => ?_) (fun u16 => ?_)
      · have h := of_p u16 h
        refine lv_iload_n S.1 S.2.1 dX9_ask_136 rfl (lv_at hl 2 rfl) ?_
        have f17 := Option.some.inj h
        obtain ⟨f18, f19⟩ := Prod.mk.inj f17
        subst f18
        subst f19
        exact ri S hr hlocks hW dX9_ask_137
      · have h := of_n u16 h
        refine lv_iload_n S.1 S.2.1 dX9_ask_35 rfl (lv_at hl 1 rfl) ?_
        refine lv_if_le (tgt := 136) S.1 S.2.1 dX9_ask_36 (by decide) (fun u20 => ?_) (fun u20 => ?_)
        · have h := of_p u20 h
          refine lv_iload_n S.1 S.2.1 dX9_ask_136 rfl (lv_at hl 2 rfl) ?_
          have f21 := Option.some.inj h
          obtain ⟨f22, f23⟩ := Prod.mk.inj f21
          subst f22
          subst f23
          exact ri S hr hlocks hW dX9_ask_137
        · have h := of_n u20 h
          refine lv_iconst (v := (0 : Int32)) S.1 S.2.1 dX9_ask_39 ki_0 ?_
          refine lv_istore (lv' := [(6, .int (0 : Int32)), (0, .ref h0), (2, .int x2), (3, .int x3), (4, .int x4), (5, .int x5)]) S.1 S.2.1 dX9_ask_40 hl (by decide) rfl (fun ls hl => ?_)
          exact hL42 F _ _ _ _ _ _ h H locs hW ls (lv_sub hl [1, 2, 3, 4, 5, 0] rfl)
  refine lv_iload_n S.1 S.2.1 dX9_ask_0 rfl (lv_at hl 1 rfl) ?_
  obtain ⟨r24, hy25, h⟩ := bd1_e h
  refine ks0 S hK hN hZ hA hW (rest := []) (t_X9_isCounsel l dC dI cI cJ cZ cB zz p1 _  hy25) wl_X9_88 wv_X9_isCounsel rfl rfl ⟨Nat.le_of_ble_eq_true rfl, Nat.le_of_ble_eq_true rfl⟩ [] (clX9 cI cJ cZ cB h0 a0 (c0 0) (c0 1) (c0 2) (c0 3) (w0 4 0) (w0 5 0) (c0 6) (c0 7) (c0 8) (c0 9) (c0 10) (c0 11) (c0 12) (c0 13) (c0 14 0) (c0 15 0) (c0 16 0) (c0 17 0) (c0 18) (c0 19) (c0 20) (c0 21 0) (c0 22 0) (c0 23 0) (c0 24 0) (c0 25 0) (c0 26) (c0 27) []) rfl rfl hl.1 rfl (Nat.le_of_ble_eq_true rfl) dX9_ask_1 [.int r24] rfl (fun H locs hW => ?_)
  refine lv_if_ne (tgt := 14) S.1 S.2.1 dX9_ask_4 (by decide) (fun u26 => ?_) (fun u26 => ?_)
  · have h := of_n u26 h
    refine lv_aload_n S.1 S.2.1 dX9_ask_14 rfl (lv_at hl 0 rfl) ?_
    refine lv_iload_n S.1 S.2.1 dX9_ask_15 rfl (lv_at hl 1 rfl) ?_
    obtain ⟨r27, hy28, h⟩ := bd1_e h
    refine kv0 S hK hN hZ hA hW (rest := []) (t_X9_kindsOfCounsel l dC dI cI cJ cZ cB zz h0 a0 F c0 w0 p1 _  hy28) wl_X9_228 wv_X9_kindsOfCounsel rfl rfl ⟨Nat.le_of_ble_eq_true rfl, Nat.le_of_ble_eq_true rfl⟩ [] [] rfl 0 rfl rfl rfl rfl hl.1 rfl (Nat.le_of_ble_eq_true rfl) dX9_ask_16 [.int r27] rfl (fun H locs hW => ?_)
    refine lv_istore_n (lv' := [(2, .int r27), (0, .ref h0), (1, .int p1)]) S.1 S.2.1 dX9_ask_19 rfl hl (by decide) rfl (fun ls hl => ?_)
    refine lv_iconst (v := (-1 : Int32)) S.1 S.2.1 dX9_ask_20 ki_m1 ?_
    refine lv_istore_n (lv' := [(3, .int (-1 : Int32)), (2, .int r27), (0, .ref h0), (1, .int p1)]) S.1 S.2.1 dX9_ask_21 rfl hl (by decide) rfl (fun ls hl => ?_)
    refine lv_ldc (v := (1000000 : Int32)) S.1 S.2.1 S.2.2.2.1 (S.2.2.2.2 _ wk_X9_146) dX9_ask_22 ?_
    refine lv_istore (lv' := [(4, .int (1000000 : Int32)), (3, .int (-1 : Int32)), (2, .int r27), (0, .ref h0), (1, .int p1)]) S.1 S.2.1 dX9_ask_24 hl (by decide) rfl (fun ls hl => ?_)
    refine lv_iconst (v := (0 : Int32)) S.1 S.2.1 dX9_ask_26 ki_0 ?_
    refine lv_istore (lv' := [(5, .int (0 : Int32)), (4, .int (1000000 : Int32)), (3, .int (-1 : Int32)), (2, .int r27), (0, .ref h0), (1, .int p1)]) S.1 S.2.1 dX9_ask_27 hl (by decide) rfl (fun ls hl => ?_)
    exact hL29 F _ _ _ _ _ h H locs hW ls (lv_sub hl [4, 3, 2, 1, 0] rfl)
  · have h := of_p u26 h
    refine lv_aload_n S.1 S.2.1 dX9_ask_7 rfl (lv_at hl 0 rfl) ?_
    refine lv_bipush (v := (-2 : Int32)) S.1 S.2.1 dX9_ask_8 kb_m2 ?_
    obtain ⟨r29, cv30, hy31, h⟩ := bd2_e h
    refine kv (clX9 cI cJ cZ cB h0 a0 (cv30 0) (cv30 1) (cv30 2) (cv30 3) (w0 4 0) (w0 5 0) (cv30 6) (cv30 7) (cv30 8) (cv30 9) (cv30 10) (cv30 11) (cv30 12) (cv30 13) (cv30 14 0) (cv30 15 0) (cv30 16 0) (cv30 17 0) (cv30 18) (cv30 19) (cv30 20) (cv30 21 0) (cv30 22 0) (cv30 23 0) (cv30 24 0) (cv30 25 0) (cv30 26) (cv30 27) []) S hK hN hZ hA hW (rest := []) (t_X9_bad l dC dI cI cJ cZ cB zz h0 a0 c0 w0 (-2 : Int32) _ _  hy31) wl_X9_84 wv_X9_bad rfl rfl ⟨Nat.le_of_ble_eq_true rfl, Nat.le_of_ble_eq_true rfl⟩ [] [] rfl rfl rfl 0 rfl rfl rfl rfl hl.1 rfl (Nat.le_of_ble_eq_true rfl) dX9_ask_10 [.int r29] rfl (fun H locs hW => ?_)
    have f32 := Option.some.inj h
    obtain ⟨f33, f34⟩ := Prod.mk.inj f32
    subst f33
    subst f34
    exact ri S hr hlocks hW dX9_ask_13
abbrev rmX9_getsBy : Room := { frames := 0, cells := 0, slots := 0, locals := 0 }
set_option maxHeartbeats 4000000 in
set_option maxRecDepth 100000 in
theorem t_X9_getsBy (l : Launch) (dC : Nat → ClassId) (dI : Nat → Nat → Nat) (cI cJ cZ cB : ClassId) (zz : ZT)   (p0 : Int32) (p1 : Int32) (p2 : Int32) (r : Int32) (hm : md_X9_getsBy p0 p1 p2 = some (r)) : ct l (dC, dI) zz (ty4 cI cJ cZ cB) yX9_getsBy cX9_getsBy 3 (some .int) rmX9_getsBy [.int p0, .int p1, .int p2] [] [] (some (.int r)) := by
  refine ct_of (cc := cX9_getsBy) (maxL := 3) (ret := (some .int)) (by decide) (Nat.le_of_ble_eq_true rfl) ?_
  intro p e s m below meth c A S hr hlocks hK hN hZ hA H locs hW ls hl
  have S : CallFix p m c cX9_getsBy 3 s (List.toArray [.int p0, .int p1, .int p2]) G RX9 := S
  have hl : lv_has ls 3 [(0, .int p0), (1, .int p1), (2, .int p2)] := hl
  have h := hm
  rw [md_X9_getsBy] at h
  have hW : wd (dC, dI) A s.heap [] H locs := hW
  refine lv_iload_n S.1 S.2.1 dX9_getsBy_0 rfl (lv_at hl 0 rfl) ?_
  refine lv_iload_n S.1 S.2.1 dX9_getsBy_1 rfl (lv_at hl 1 rfl) ?_
  refine lv_iadd S.1 S.2.1 dX9_getsBy_2 ?_
  refine lv_bipush (v := (10 : Int32)) S.1 S.2.1 dX9_getsBy_3 kb_10 ?_
  obtain ⟨y1, e2, h⟩ := lt1_e h
  suffices hM3 : ∀ ls : Array Slot, lv_has ls 3 [] → W p l e rmX9_getsBy s m (List.toArray [.int p0, .int p1, .int p2]) below meth c H locs 0 0 (MQ below (kQ (dC, dI) [] (some (.int r)) A) (List.toArray [.int p0, .int p1, .int p2]) s 0 0 A) (F0 m 17 ls [.int y1]) by
    refine lv_icmp_lt (tgt := 12) S.1 S.2.1 dX9_getsBy_5 (by decide) (fun u4 => ?_) (fun u4 => ?_)
    · refine lv_iconst (v := (5 : Int32)) S.1 S.2.1 dX9_getsBy_12 ki_5 ?_
      refine lv_iload_n S.1 S.2.1 dX9_getsBy_13 rfl (lv_at hl 1 rfl) ?_
      refine lv_iadd S.1 S.2.1 dX9_getsBy_14 ?_
      refine lv_iload_n S.1 S.2.1 dX9_getsBy_15 rfl (lv_at hl 0 rfl) ?_
      refine lv_isub S.1 S.2.1 dX9_getsBy_16 ?_
      have e2 := e2.trans (if_pos u4)
      subst e2
      exact hM3 ls (lv_sub hl [] rfl)
    · refine lv_iload_n S.1 S.2.1 dX9_getsBy_8 rfl (lv_at hl 2 rfl) ?_
      refine lv_goto (tgt := 17) S.1 S.2.1 dX9_getsBy_9 (by decide) ?_
      have e2 := e2.trans (if_neg u4)
      subst e2
      exact hM3 ls (lv_sub hl [] rfl)
  intro ls hl
  have f5 := Option.some.inj h
  subst f5
  exact ri S hr hlocks hW dX9_getsBy_17
abbrev rmX9_isBest : Room := { frames := 1, cells := 0, slots := 0, locals := 22 }
set_option maxHeartbeats 4000000 in
set_option maxRecDepth 100000 in
theorem t_X9_isBest (l : Launch) (dC : Nat → ClassId) (dI : Nat → Nat → Nat) (cI cJ cZ cB : ClassId) (zz : ZT)   (F : Nat) (p0 : Int32) (p1 : Int32) (p2 : Int32) (r : Int32) (hm : md_X9_isBest F p0 p1 p2 = some (r)) : ct l (dC, dI) zz (ty4 cI cJ cZ cB) yX9_isBest cX9_isBest 5 (some .boolean) rmX9_isBest [.int p0, .int p1, .int p2] [] [] (some (.int r)) := by
  refine ct_of (cc := cX9_isBest) (maxL := 5) (ret := (some .boolean)) (by decide) (Nat.le_of_ble_eq_true rfl) ?_
  intro p e s m below meth c A S hr hlocks hK hN hZ hA H locs hW ls hl
  have S : CallFix p m c cX9_isBest 5 s (List.toArray [.int p0, .int p1, .int p2]) G RX9 := S
  have hl : lv_has ls 5 [(0, .int p0), (1, .int p1), (2, .int p2)] := hl
  have h := hm
  rw [md_X9_isBest] at h
  have hW : wd (dC, dI) A s.heap [] H locs := hW
  have hL5 : ∀ (n5 : Nat) (x0 : Int32) (x1 : Int32) (x2 : Int32) (x3 : Int32) (x4 : Int32), ld_X9_isBest_5 F n5 x0 x1 x2 x3 x4 = some (r) → ∀ (H : Heap) (locs : List Loc), wd (dC, dI) A s.heap [] H locs → ∀ ls : Array Slot, lv_has ls 5 [(0, .int x0), (1, .int x1), (2, .int x2), (3, .int x3), (4, .int x4)] → W p l e rmX9_isBest s m (List.toArray [.int p0, .int p1, .int p2]) below meth c H locs 0 0 (MQ below (kQ (dC, dI) [] (some (.int r)) A) (List.toArray [.int p0, .int p1, .int p2]) s 0 0 A) (F0 m 5 ls []) := by
    intro n5
    induction n5 with
    | zero => intro x0 x1 x2 x3 x4 h; rw [ld_X9_isBest_5] at h; cases h
    | succ n5 ih5 =>
      intro x0 x1 x2 x3 x4 h H locs hW ls hl
      rw [ld_X9_isBest_5] at h
      refine lv_iload S.1 S.2.1 dX9_isBest_5 (lv_at hl 4 rfl) ?_
      refine lv_bipush (v := (10 : Int32)) S.1 S.2.1 dX9_isBest_7 kb_10 ?_
      refine lv_icmp_ge (tgt := 44) S.1 S.2.1 dX9_isBest_9 (by decide) (fun u1 => ?_) (fun u1 => ?_)
      · have h := of_p u1 h
        refine lv_iload_n S.1 S.2.1 dX9_isBest_44 rfl (lv_at hl 3 rfl) ?_
        obtain ⟨z2, h⟩ := of_g h
        have f3 := Option.some.inj h
        subst f3
        exact rz S hr hlocks hW (nz z2) dX9_isBest_45
      · have h := of_n u1 h
        refine lv_iload_n S.1 S.2.1 dX9_isBest_12 rfl (lv_at hl 3 rfl) ?_
        refine lv_if_eq (tgt := 44) S.1 S.2.1 dX9_isBest_13 (by decide) (fun u4 => ?_) (fun u4 => ?_)
        · have h := of_p u4 h
          refine lv_iload_n S.1 S.2.1 dX9_isBest_44 rfl (lv_at hl 3 rfl) ?_
          obtain ⟨z5, h⟩ := of_g h
          have f6 := Option.some.inj h
          subst f6
          exact rz S hr hlocks hW (nz z5) dX9_isBest_45
        · have h := of_n u4 h
          refine lv_iload S.1 S.2.1 dX9_isBest_16 (lv_at hl 4 rfl) ?_
          refine lv_iload_n S.1 S.2.1 dX9_isBest_18 rfl (lv_at hl 1 rfl) ?_
          refine lv_iload_n S.1 S.2.1 dX9_isBest_19 rfl (lv_at hl 2 rfl) ?_
          obtain ⟨r7, hy8, h⟩ := bd1_e h
          refine ks0 S hK hN hZ hA hW (rest := []) (t_X9_getsBy l dC dI cI cJ cZ cB zz x4 x1 x2 _  hy8) wl_X9_234 wv_X9_getsBy rfl rfl ⟨Nat.le_of_ble_eq_true rfl, Nat.le_of_ble_eq_true rfl⟩ [] [] rfl rfl hl.1 rfl (Nat.le_of_ble_eq_true rfl) dX9_isBest_20 [.int r7] rfl (fun H locs hW => ?_)
          refine lv_iload_n S.1 S.2.1 dX9_isBest_23 rfl (lv_at hl 0 rfl) ?_
          refine lv_iload_n S.1 S.2.1 dX9_isBest_24 rfl (lv_at hl 1 rfl) ?_
          refine lv_iload_n S.1 S.2.1 dX9_isBest_25 rfl (lv_at hl 2 rfl) ?_
          obtain ⟨r9, hy10, h⟩ := bd1_e h
          refine ks0 S hK hN hZ hA hW (rest := [.int r7]) (t_X9_getsBy l dC dI cI cJ cZ cB zz x0 x1 x2 _  hy10) wl_X9_234 wv_X9_getsBy rfl rfl ⟨Nat.le_of_ble_eq_true rfl, Nat.le_of_ble_eq_true rfl⟩ [] [] rfl rfl hl.1 rfl (Nat.le_of_ble_eq_true rfl) dX9_isBest_26 [.int r9, .int r7] rfl (fun H locs hW => ?_)
          obtain ⟨y11, e12, h⟩ := lt1_e h
          suffices hM13 : ∀ ls : Array Slot, lv_has ls 5 [(0, .int x0), (1, .int x1), (2, .int x2), (4, .int x4)] → W p l e rmX9_isBest s m (List.toArray [.int p0, .int p1, .int p2]) below meth c H locs 0 0 (MQ below (kQ (dC, dI) [] (some (.int r)) A) (List.toArray [.int p0, .int p1, .int p2]) s 0 0 A) (F0 m 37 ls [.int y11]) by
            refine lv_icmp_gt (tgt := 36) S.1 S.2.1 dX9_isBest_29 (by decide) (fun u14 => ?_) (fun u14 => ?_)
            · refine lv_iconst (v := (0 : Int32)) S.1 S.2.1 dX9_isBest_36 ki_0 ?_
              have e12 := e12.trans (if_pos u14)
              subst e12
              exact hM13 ls (lv_sub hl [0, 1, 2, 4] rfl)
            · refine lv_iconst (v := (1 : Int32)) S.1 S.2.1 dX9_isBest_32 ki_1 ?_
              refine lv_goto (tgt := 37) S.1 S.2.1 dX9_isBest_33 (by decide) ?_
              have e12 := e12.trans (if_neg u14)
              subst e12
              exact hM13 ls (lv_sub hl [0, 1, 2, 4] rfl)
          intro ls hl
          refine lv_istore_n (lv' := [(3, .int y11), (0, .int x0), (1, .int x1), (2, .int x2), (4, .int x4)]) S.1 S.2.1 dX9_isBest_37 rfl hl (by decide) rfl (fun ls hl => ?_)
          refine lv_iinc (v := (x4 + (1 : Int32))) (lv' := [(4, .int (x4 + (1 : Int32))), (3, .int y11), (0, .int x0), (1, .int x1), (2, .int x2)]) S.1 S.2.1 dX9_isBest_38 hl (k := 4) rfl (congrArg (fun z => x4 + z) ki_1) (by decide) rfl (fun ls hl => ?_)
          refine lv_goto (tgt := 5) S.1 S.2.1 dX9_isBest_41 (by decide) ?_
          exact ih5 _ _ _ _ _ h H locs hW ls (lv_sub hl [2, 3, 4, 1, 0] rfl)
  refine lv_iconst (v := (1 : Int32)) S.1 S.2.1 dX9_isBest_0 ki_1 ?_
  refine lv_istore_n (lv' := [(3, .int (1 : Int32)), (0, .int p0), (1, .int p1), (2, .int p2)]) S.1 S.2.1 dX9_isBest_1 rfl hl (by decide) rfl (fun ls hl => ?_)
  refine lv_iconst (v := (0 : Int32)) S.1 S.2.1 dX9_isBest_2 ki_0 ?_
  refine lv_istore (lv' := [(4, .int (0 : Int32)), (3, .int (1 : Int32)), (0, .int p0), (1, .int p1), (2, .int p2)]) S.1 S.2.1 dX9_isBest_3 hl (by decide) rfl (fun ls hl => ?_)
  exact hL5 F _ _ _ _ _ h H locs hW ls (lv_sub hl [2, 3, 4, 1, 0] rfl)
abbrev rmX9_settle : Room := { frames := 7, cells := 0, slots := 0, locals := 168 }
set_option maxHeartbeats 4000000 in
set_option maxRecDepth 100000 in
theorem t_X9_settle (l : Launch) (dC : Nat → ClassId) (dI : Nat → Nat → Nat) (cI cJ cZ cB : ClassId) (zz : ZT)  (h0 : Nat) (a0 : Nat → Nat) (F : Nat) (c0 : Nat → Nat → Int32) (w0 : Nat → Nat → Int64) (p1 : Int32) (r : Int32) (c0' : Nat → Nat → Int32) (hm : md_X9_settle F c0 w0 p1 = some (r, c0')) : ct l (dC, dI) zz (ty4 cI cJ cZ cB) yX9_settle cX9_settle 5 (some .int) rmX9_settle [.ref h0, .int p1] (cwX9 cI cJ cZ cB h0 a0 c0 w0 []) (cwX9 cI cJ cZ cB h0 a0 c0' w0 []) (some (.int r)) := by
  refine ct_of (cc := cX9_settle) (maxL := 5) (ret := (some .int)) (by decide) (Nat.le_of_ble_eq_true rfl) ?_
  intro p e s m below meth c A S hr hlocks hK hN hZ hA H locs hW ls hl
  have S : CallFix p m c cX9_settle 5 s (List.toArray [.ref h0, .int p1]) G RX9 := S
  have hl : lv_has ls 5 [(0, .ref h0), (1, .int p1)] := hl
  have h := hm
  rw [md_X9_settle] at h
  have hW : wd (dC, dI) A s.heap (clX9 cI cJ cZ cB h0 a0 (c0 0) (c0 1) (c0 2) (c0 3) (w0 4 0) (w0 5 0) (c0 6) (c0 7) (c0 8) (c0 9) (c0 10) (c0 11) (c0 12) (c0 13) (c0 14 0) (c0 15 0) (c0 16 0) (c0 17 0) (c0 18) (c0 19) (c0 20) (c0 21 0) (c0 22 0) (c0 23 0) (c0 24 0) (c0 25 0) (c0 26) (c0 27) []) H locs := hW
  have hL22 : ∀ (n22 : Nat) (c0 : Nat → Nat → Int32) (x1 : Int32) (x2 : Int32) (x3 : Int32) (x4 : Int32), ld_X9_settle_22 F w0 n22 c0 x1 x2 x3 x4 = some (r, c0') → ∀ (H : Heap) (locs : List Loc), wd (dC, dI) A s.heap (clX9 cI cJ cZ cB h0 a0 (c0 0) (c0 1) (c0 2) (c0 3) (w0 4 0) (w0 5 0) (c0 6) (c0 7) (c0 8) (c0 9) (c0 10) (c0 11) (c0 12) (c0 13) (c0 14 0) (c0 15 0) (c0 16 0) (c0 17 0) (c0 18) (c0 19) (c0 20) (c0 21 0) (c0 22 0) (c0 23 0) (c0 24 0) (c0 25 0) (c0 26) (c0 27) []) H locs → ∀ ls : Array Slot, lv_has ls 5 [(1, .int x1), (2, .int x2), (3, .int x3), (4, .int x4)] → W p l e rmX9_settle s m (List.toArray [.ref h0, .int p1]) below meth c H locs 0 0 (MQ below (kQ (dC, dI) (cwX9 cI cJ cZ cB h0 a0 c0' w0 []) (some (.int r)) A) (List.toArray [.ref h0, .int p1]) s 0 0 A) (F0 m 22 ls []) := by
    intro n22
    induction n22 with
    | zero => intro c0 x1 x2 x3 x4 h; rw [ld_X9_settle_22] at h; cases h
    | succ n22 ih22 =>
      intro c0 x1 x2 x3 x4 h H locs hW ls hl
      rw [ld_X9_settle_22] at h
      refine lv_iload S.1 S.2.1 dX9_settle_22 (lv_at hl 3 rfl) ?_
      refine lv_bipush (v := (100 : Int32)) S.1 S.2.1 dX9_settle_24 kb_100 ?_
      refine lv_icmp_ge (tgt := 81) S.1 S.2.1 dX9_settle_26 (by decide) (fun u1 => ?_) (fun u1 => ?_)
      · have h := of_p u1 h
        refine lv_iload_n S.1 S.2.1 dX9_settle_81 rfl (lv_at hl 0 rfl) ?_
        refine lv_iconst (v := (-1 : Int32)) S.1 S.2.1 dX9_settle_82 ki_m1 ?_
        obtain ⟨y2, e3, h⟩ := lt1_e h
        suffices hM4 : ∀ ls : Array Slot, lv_has ls 5 [] → W p l e rmX9_settle s m (List.toArray [.ref h0, .int p1]) below meth c H locs 0 0 (MQ below (kQ (dC, dI) (cwX9 cI cJ cZ cB h0 a0 c0' w0 []) (some (.int r)) A) (List.toArray [.ref h0, .int p1]) s 0 0 A) (F0 m 92 ls [.int y2]) by
          refine lv_icmp_ne (tgt := 90) S.1 S.2.1 dX9_settle_83 (by decide) (fun u5 => ?_) (fun u5 => ?_)
          · refine lv_bipush (v := (-5 : Int32)) S.1 S.2.1 dX9_settle_90 kb_m5 ?_
            have e3 := e3.trans (if_neg u5)
            subst e3
            exact hM4 ls (lv_sub hl [] rfl)
          · refine lv_iload_n S.1 S.2.1 dX9_settle_86 rfl (lv_at hl 2 rfl) ?_
            refine lv_goto (tgt := 92) S.1 S.2.1 dX9_settle_87 (by decide) ?_
            have e3 := e3.trans (if_pos u5)
            subst e3
            exact hM4 ls (lv_sub hl [] rfl)
        intro ls hl
        have f6 := Option.some.inj h
        obtain ⟨f7, f8⟩ := Prod.mk.inj f6
        subst f7
        subst f8
        exact ri S hr hlocks hW dX9_settle_92
      · have h := of_n u1 h
        refine lv_iload S.1 S.2.1 dX9_settle_29 (lv_at hl 3 rfl) ?_
        refine lv_bipush (v := (10 : Int32)) S.1 S.2.1 dX9_settle_31 kb_10 ?_
        refine lv_idiv S.1 S.2.1 dX9_settle_33 (by decide) ?_
        refine lv_iload S.1 S.2.1 dX9_settle_34 (lv_at hl 3 rfl) ?_
        refine lv_bipush (v := (10 : Int32)) S.1 S.2.1 dX9_settle_36 kb_10 ?_
        refine lv_irem S.1 S.2.1 dX9_settle_38 (by decide) ?_
        refine lv_iload_n S.1 S.2.1 dX9_settle_39 rfl (lv_at hl 1 rfl) ?_
        obtain ⟨r9, hy10, h⟩ := bd1_e h
        refine ks0 S hK hN hZ hA hW (rest := []) (t_X9_isBest l dC dI cI cJ cZ cB zz F (x4 / (10 : Int32)) (x4 - x4 / (10 : Int32) * (10 : Int32)) x2 _  hy10) wl_X9_237 wv_X9_isBest rfl rfl ⟨Nat.le_of_ble_eq_true rfl, Nat.le_of_ble_eq_true rfl⟩ [] (clX9 cI cJ cZ cB h0 a0 (c0 0) (c0 1) (c0 2) (c0 3) (w0 4 0) (w0 5 0) (c0 6) (c0 7) (c0 8) (c0 9) (c0 10) (c0 11) (c0 12) (c0 13) (c0 14 0) (c0 15 0) (c0 16 0) (c0 17 0) (c0 18) (c0 19) (c0 20) (c0 21 0) (c0 22 0) (c0 23 0) (c0 24 0) (c0 25 0) (c0 26) (c0 27) []) rfl rfl hl.1 rfl (Nat.le_of_ble_eq_true rfl) dX9_settle_40 [.int r9] rfl (fun H locs hW => ?_)
        refine lv_if_eq (tgt := 75) S.1 S.2.1 dX9_settle_43 (by decide) (fun u11 => ?_) (fun u11 => ?_)
        · have h := of_p u11 h
          refine lv_iinc (v := (x4 + (1 : Int32))) (lv' := [(4, .int (x4 + (1 : Int32))), (1, .int x1), (2, .int x2), (3, .int x3)]) S.1 S.2.1 dX9_settle_75 hl (k := 3) rfl (congrArg (fun z => x4 + z) ki_1) (by decide) rfl (fun ls hl => ?_)
          refine lv_goto (tgt := 22) S.1 S.2.1 dX9_settle_78 (by decide) ?_
          exact ih22 _ _ _ _ _ h H locs hW ls (lv_sub hl [1, 2, 3, 0] rfl)
        · have h := of_n u11 h
          refine lv_iload S.1 S.2.1 dX9_settle_46 (lv_at hl 3 rfl) ?_
          refine lv_bipush (v := (10 : Int32)) S.1 S.2.1 dX9_settle_48 kb_10 ?_
          refine lv_irem S.1 S.2.1 dX9_settle_50 (by decide) ?_
          refine lv_iload S.1 S.2.1 dX9_settle_51 (lv_at hl 3 rfl) ?_
          refine lv_bipush (v := (10 : Int32)) S.1 S.2.1 dX9_settle_53 kb_10 ?_
          refine lv_idiv S.1 S.2.1 dX9_settle_55 (by decide) ?_
          refine lv_iload_n S.1 S.2.1 dX9_settle_56 rfl (lv_at hl 1 rfl) ?_
          refine lv_ineg S.1 S.2.1 dX9_settle_57 ?_
          obtain ⟨r12, hy13, h⟩ := bd1_e h
          refine ks0 S hK hN hZ hA hW (rest := []) (t_X9_isBest l dC dI cI cJ cZ cB zz F (x4 - x4 / (10 : Int32) * (10 : Int32)) (x4 / (10 : Int32)) (-x2) _  hy13) wl_X9_237 wv_X9_isBest rfl rfl ⟨Nat.le_of_ble_eq_true rfl, Nat.le_of_ble_eq_true rfl⟩ [] (clX9 cI cJ cZ cB h0 a0 (c0 0) (c0 1) (c0 2) (c0 3) (w0 4 0) (w0 5 0) (c0 6) (c0 7) (c0 8) (c0 9) (c0 10) (c0 11) (c0 12) (c0 13) (c0 14 0) (c0 15 0) (c0 16 0) (c0 17 0) (c0 18) (c0 19) (c0 20) (c0 21 0) (c0 22 0) (c0 23 0) (c0 24 0) (c0 25 0) (c0 26) (c0 27) []) rfl rfl hl.1 rfl (Nat.le_of_ble_eq_true rfl) dX9_settle_58 [.int r12] rfl (fun H locs hW => ?_)
          refine lv_if_eq (tgt := 75) S.1 S.2.1 dX9_settle_61 (by decide) (fun u14 => ?_) (fun u14 => ?_)
          · have h := of_p u14 h
            refine lv_iinc (v := (x4 + (1 : Int32))) (lv' := [(4, .int (x4 + (1 : Int32))), (1, .int x1), (2, .int x2), (3, .int x3)]) S.1 S.2.1 dX9_settle_75 hl (k := 3) rfl (congrArg (fun z => x4 + z) ki_1) (by decide) rfl (fun ls hl => ?_)
            refine lv_goto (tgt := 22) S.1 S.2.1 dX9_settle_78 (by decide) ?_
            exact ih22 _ _ _ _ _ h H locs hW ls (lv_sub hl [1, 2, 3, 0] rfl)
          · have h := of_n u14 h
            refine lv_iload_n S.1 S.2.1 dX9_settle_64 rfl (lv_at hl 2 rfl) ?_
            refine lv_iload_n S.1 S.2.1 dX9_settle_65 rfl (lv_at hl 0 rfl) ?_
            refine lv_icmp_ne (tgt := 72) S.1 S.2.1 dX9_settle_66 (by decide) (fun u15 => ?_) (fun u15 => ?_)
            · have h := of_n u15 h
              refine lv_iinc (v := (x3 + (1 : Int32))) (lv' := [(3, .int (x3 + (1 : Int32))), (1, .int x1), (2, .int x2), (4, .int x4)]) S.1 S.2.1 dX9_settle_72 hl (k := 2) rfl (congrArg (fun z => x3 + z) ki_1) (by decide) rfl (fun ls hl => ?_)
              refine lv_iinc (v := (x4 + (1 : Int32))) (lv' := [(4, .int (x4 + (1 : Int32))), (3, .int (x3 + (1 : Int32))), (1, .int x1), (2, .int x2)]) S.1 S.2.1 dX9_settle_75 hl (k := 3) rfl (congrArg (fun z => x4 + z) ki_1) (by decide) rfl (fun ls hl => ?_)
              refine lv_goto (tgt := 22) S.1 S.2.1 dX9_settle_78 (by decide) ?_
              exact ih22 _ _ _ _ _ h H locs hW ls (lv_sub hl [2, 3, 1, 0] rfl)
            · have h := of_p u15 h
              refine lv_iload S.1 S.2.1 dX9_settle_69 (lv_at hl 3 rfl) ?_
              have f16 := Option.some.inj h
              obtain ⟨f17, f18⟩ := Prod.mk.inj f16
              subst f17
              subst f18
              exact ri S hr hlocks hW dX9_settle_71
  refine lv_iload_n S.1 S.2.1 dX9_settle_0 rfl (lv_at hl 1 rfl) ?_
  refine lv_iconst (v := (-1 : Int32)) S.1 S.2.1 dX9_settle_1 ki_m1 ?_
  refine lv_icmp_ge (tgt := 12) S.1 S.2.1 dX9_settle_2 (by decide) (fun u19 => ?_) (fun u19 => ?_)
  · have h := of_p u19 h
    refine lv_aload_n S.1 S.2.1 dX9_settle_12 rfl (lv_at hl 0 rfl) ?_
    obtain ⟨r20, cv21, hy22, h⟩ := bd2_e h
    refine kv (clX9 cI cJ cZ cB h0 a0 (cv21 0) (cv21 1) (cv21 2) (cv21 3) (w0 4 0) (w0 5 0) (cv21 6) (cv21 7) (cv21 8) (cv21 9) (cv21 10) (cv21 11) (cv21 12) (cv21 13) (cv21 14 0) (cv21 15 0) (cv21 16 0) (cv21 17 0) (cv21 18) (cv21 19) (cv21 20) (cv21 21 0) (cv21 22 0) (cv21 23 0) (cv21 24 0) (cv21 25 0) (cv21 26) (cv21 27) []) S hK hN hZ hA hW (rest := []) (t_X9_playIs l dC dI cI cJ cZ cB zz h0 a0 F c0 w0 _ _  hy22) wl_X9_182 wv_X9_playIs rfl rfl ⟨Nat.le_of_ble_eq_true rfl, Nat.le_of_ble_eq_true rfl⟩ [] [] rfl rfl rfl 0 rfl rfl rfl rfl hl.1 rfl (Nat.le_of_ble_eq_true rfl) dX9_settle_13 [.int r20] rfl (fun H locs hW => ?_)
    refine lv_istore_n (lv' := [(2, .int r20), (0, .ref h0), (1, .int p1)]) S.1 S.2.1 dX9_settle_16 rfl hl (by decide) rfl (fun ls hl => ?_)
    refine lv_iconst (v := (0 : Int32)) S.1 S.2.1 dX9_settle_17 ki_0 ?_
    refine lv_istore_n (lv' := [(3, .int (0 : Int32)), (2, .int r20), (0, .ref h0), (1, .int p1)]) S.1 S.2.1 dX9_settle_18 rfl hl (by decide) rfl (fun ls hl => ?_)
    refine lv_iconst (v := (0 : Int32)) S.1 S.2.1 dX9_settle_19 ki_0 ?_
    refine lv_istore (lv' := [(4, .int (0 : Int32)), (3, .int (0 : Int32)), (2, .int r20), (0, .ref h0), (1, .int p1)]) S.1 S.2.1 dX9_settle_20 hl (by decide) rfl (fun ls hl => ?_)
    exact hL22 F _ _ _ _ _ h H locs hW ls (lv_sub hl [4, 2, 1, 0] rfl)
  · have h := of_n u19 h
    refine lv_aload_n S.1 S.2.1 dX9_settle_5 rfl (lv_at hl 0 rfl) ?_
    refine lv_bipush (v := (-10 : Int32)) S.1 S.2.1 dX9_settle_6 kb_m10 ?_
    obtain ⟨r23, cv24, hy25, h⟩ := bd2_e h
    refine kv (clX9 cI cJ cZ cB h0 a0 (cv24 0) (cv24 1) (cv24 2) (cv24 3) (w0 4 0) (w0 5 0) (cv24 6) (cv24 7) (cv24 8) (cv24 9) (cv24 10) (cv24 11) (cv24 12) (cv24 13) (cv24 14 0) (cv24 15 0) (cv24 16 0) (cv24 17 0) (cv24 18) (cv24 19) (cv24 20) (cv24 21 0) (cv24 22 0) (cv24 23 0) (cv24 24 0) (cv24 25 0) (cv24 26) (cv24 27) []) S hK hN hZ hA hW (rest := []) (t_X9_bad l dC dI cI cJ cZ cB zz h0 a0 c0 w0 (-10 : Int32) _ _  hy25) wl_X9_84 wv_X9_bad rfl rfl ⟨Nat.le_of_ble_eq_true rfl, Nat.le_of_ble_eq_true rfl⟩ [] [] rfl rfl rfl 0 rfl rfl rfl rfl hl.1 rfl (Nat.le_of_ble_eq_true rfl) dX9_settle_8 [.int r23] rfl (fun H locs hW => ?_)
    have f26 := Option.some.inj h
    obtain ⟨f27, f28⟩ := Prod.mk.inj f26
    subst f27
    subst f28
    exact ri S hr hlocks hW dX9_settle_11
abbrev rmX9_fraction : Room := { frames := 0, cells := 0, slots := 0, locals := 0 }
set_option maxHeartbeats 4000000 in
set_option maxRecDepth 100000 in
theorem t_X9_fraction (l : Launch) (dC : Nat → ClassId) (dI : Nat → Nat → Nat) (cI cJ cZ cB : ClassId) (zz : ZT)  (h0 : Nat) (a0 : Nat → Nat) (F : Nat) (c0 : Nat → Nat → Int32) (w0 : Nat → Nat → Int64) (p1 : Int64) (p3 : Int64) (w0' : Nat → Nat → Int64) (hm : md_X9_fraction F c0 w0 p1 p3 = some (w0')) : ct l (dC, dI) zz (ty4 cI cJ cZ cB) yX9_fraction cX9_fraction 11 none rmX9_fraction [.ref h0, .long p1, .long p3] (cwX9 cI cJ cZ cB h0 a0 c0 w0 []) (cwX9 cI cJ cZ cB h0 a0 c0 w0' []) none := by
  refine ct_of (cc := cX9_fraction) (maxL := 11) (ret := none) (by decide) (Nat.le_of_ble_eq_true rfl) ?_
  intro p e s m below meth c A S hr hlocks hK hN hZ hA H locs hW ls hl
  have S : CallFix p m c cX9_fraction 11 s (List.toArray [.ref h0, .long p1, .long p3]) G RX9 := S
  have hl : lv_has ls 11 [(0, .ref h0), (1, .long p1), (3, .long p3)] := hl
  have h := hm
  rw [md_X9_fraction] at h
  have hW : wd (dC, dI) A s.heap (clX9 cI cJ cZ cB h0 a0 (c0 0) (c0 1) (c0 2) (c0 3) (w0 4 0) (w0 5 0) (c0 6) (c0 7) (c0 8) (c0 9) (c0 10) (c0 11) (c0 12) (c0 13) (c0 14 0) (c0 15 0) (c0 16 0) (c0 17 0) (c0 18) (c0 19) (c0 20) (c0 21 0) (c0 22 0) (c0 23 0) (c0 24 0) (c0 25 0) (c0 26) (c0 27) []) H locs := hW
  have hL6 : ∀ (n6 : Nat) (w0 : Nat → Nat → Int64) (x1 : Int64) (x3 : Int64) (x5 : Int64) (x7 : Int64), ld_X9_fraction_6 F c0 n6 w0 x1 x3 x5 x7 = some (w0') → ∀ (H : Heap) (locs : List Loc), wd (dC, dI) A s.heap (clX9 cI cJ cZ cB h0 a0 (c0 0) (c0 1) (c0 2) (c0 3) (w0 4 0) (w0 5 0) (c0 6) (c0 7) (c0 8) (c0 9) (c0 10) (c0 11) (c0 12) (c0 13) (c0 14 0) (c0 15 0) (c0 16 0) (c0 17 0) (c0 18) (c0 19) (c0 20) (c0 21 0) (c0 22 0) (c0 23 0) (c0 24 0) (c0 25 0) (c0 26) (c0 27) []) H locs → ∀ ls : Array Slot, lv_has ls 11 [(0, .ref h0), (1, .long x1), (3, .long x3), (5, .long x5), (7, .long x7)] → W p l e rmX9_fraction s m (List.toArray [.ref h0, .long p1, .long p3]) below meth c H locs 0 0 (MQ below (kQ (dC, dI) (cwX9 cI cJ cZ cB h0 a0 c0 w0' []) none A) (List.toArray [.ref h0, .long p1, .long p3]) s 0 0 A) (F0 m 6 ls []) := by
    intro n6
    induction n6 with
    | zero => intro w0 x1 x3 x5 x7 h; rw [ld_X9_fraction_6] at h; cases h
    | succ n6 ih6 =>
      intro w0 x1 x3 x5 x7 h H locs hW ls hl
      rw [ld_X9_fraction_6] at h
      refine lv_lload S.1 S.2.1 dX9_fraction_6 (lv_at hl 4 rfl) ?_
      refine lv_lconst (v := (0 : Int64)) S.1 S.2.1 dX9_fraction_8 rfl ?_
      refine W.lcmp S.1 S.2.1 dX9_fraction_9 ?_
      refine lv_if_eq (tgt := 31) S.1 S.2.1 dX9_fraction_10 (by decide) (fun u1 => ?_) (fun u1 => ?_)
      · have h := of_p u1 h
        refine lv_aload_n S.1 S.2.1 dX9_fraction_31 rfl (lv_at hl 0 rfl) ?_
        refine lv_lload_n S.1 S.2.1 dX9_fraction_32 rfl (lv_at hl 1 rfl) ?_
        refine lv_lload S.1 S.2.1 dX9_fraction_33 (lv_at hl 3 rfl) ?_
        obtain ⟨z2, h⟩ := of_g h
        refine lv_ldiv S.1 S.2.1 dX9_fraction_35 z2 ?_
        refine pf (C := RX9) (T := TX9) (N := 28) (ci := 5) (k := 4) (ty := .long) S hK hW wu_X9 rfl (by decide) tyX9 tyX9_ok nmX9 wf_X9_241 0 rfl rfl rfl rfl rfl (Nat.le_of_ble_eq_true rfl) dX9_fraction_36 (fun H locs hW => ?_)
        have hW : wd (dC, dI) A s.heap (clX9 cI cJ cZ cB h0 a0 (c0 0) (c0 1) (c0 2) (c0 3) (x1 / x5) (w0 5 0) (c0 6) (c0 7) (c0 8) (c0 9) (c0 10) (c0 11) (c0 12) (c0 13) (c0 14 0) (c0 15 0) (c0 16 0) (c0 17 0) (c0 18) (c0 19) (c0 20) (c0 21 0) (c0 22 0) (c0 23 0) (c0 24 0) (c0 25 0) (c0 26) (c0 27) []) H locs := hW
        refine lv_aload_n S.1 S.2.1 dX9_fraction_39 rfl (lv_at hl 0 rfl) ?_
        refine lv_lload_n S.1 S.2.1 dX9_fraction_40 rfl (lv_at hl 2 rfl) ?_
        refine lv_lload S.1 S.2.1 dX9_fraction_41 (lv_at hl 3 rfl) ?_
        obtain ⟨z3, h⟩ := of_g h
        refine lv_ldiv S.1 S.2.1 dX9_fraction_43 z3 ?_
        refine pf (C := RX9) (T := TX9) (N := 28) (ci := 5) (k := 5) (ty := .long) S hK hW wu_X9 rfl (by decide) tyX9 tyX9_ok nmX9 wf_X9_23 0 rfl rfl rfl rfl rfl (Nat.le_of_ble_eq_true rfl) dX9_fraction_44 (fun H locs hW => ?_)
        have hW : wd (dC, dI) A s.heap (clX9 cI cJ cZ cB h0 a0 (c0 0) (c0 1) (c0 2) (c0 3) (x1 / x5) (x3 / x5) (c0 6) (c0 7) (c0 8) (c0 9) (c0 10) (c0 11) (c0 12) (c0 13) (c0 14 0) (c0 15 0) (c0 16 0) (c0 17 0) (c0 18) (c0 19) (c0 20) (c0 21 0) (c0 22 0) (c0 23 0) (c0 24 0) (c0 25 0) (c0 26) (c0 27) []) H locs := hW
        have f4 := Option.some.inj h
        subst f4
        exact rv S hr hlocks hW dX9_fraction_47
      · have h := of_n u1 h
        refine lv_lload S.1 S.2.1 dX9_fraction_13 (lv_at hl 3 rfl) ?_
        refine lv_lload S.1 S.2.1 dX9_fraction_15 (lv_at hl 4 rfl) ?_
        obtain ⟨z5, h⟩ := of_g h
        refine lv_lrem S.1 S.2.1 dX9_fraction_17 z5 ?_
        refine lv_lstore (lv' := [(9, .long (x5 - x5 / x7 * x7)), (0, .ref h0), (1, .long x1), (3, .long x3), (5, .long x5), (7, .long x7)]) S.1 S.2.1 dX9_fraction_18 hl (by decide) rfl (fun ls hl => ?_)
        refine lv_lload S.1 S.2.1 dX9_fraction_20 (lv_at hl 5 rfl) ?_
        refine lv_lstore (lv' := [(5, .long x7), (9, .long (x5 - x5 / x7 * x7)), (0, .ref h0), (1, .long x1), (3, .long x3), (7, .long x7)]) S.1 S.2.1 dX9_fraction_22 hl (by decide) rfl (fun ls hl => ?_)
        refine lv_lload S.1 S.2.1 dX9_fraction_24 (lv_at hl 1 rfl) ?_
        refine lv_lstore (lv' := [(7, .long (x5 - x5 / x7 * x7)), (5, .long x7), (9, .long (x5 - x5 / x7 * x7)), (0, .ref h0), (1, .long x1), (3, .long x3)]) S.1 S.2.1 dX9_fraction_26 hl (by decide) rfl (fun ls hl => ?_)
        refine lv_goto (tgt := 6) S.1 S.2.1 dX9_fraction_28 (by decide) ?_
        exact ih6 _ _ _ _ _ h H locs hW ls (lv_sub hl [3, 4, 5, 1, 0] rfl)
  refine lv_lload_n S.1 S.2.1 dX9_fraction_0 rfl (lv_at hl 1 rfl) ?_
  refine lv_lstore (lv' := [(5, .long p1), (0, .ref h0), (1, .long p1), (3, .long p3)]) S.1 S.2.1 dX9_fraction_1 hl (by decide) rfl (fun ls hl => ?_)
  refine lv_lload_n S.1 S.2.1 dX9_fraction_3 rfl (lv_at hl 3 rfl) ?_
  refine lv_lstore (lv' := [(7, .long p3), (5, .long p1), (0, .ref h0), (1, .long p1), (3, .long p3)]) S.1 S.2.1 dX9_fraction_4 hl (by decide) rfl (fun ls hl => ?_)
  exact hL6 F _ _ _ _ _ h H locs hW ls (lv_sub hl [2, 3, 4, 1, 0] rfl)
abbrev rmX9_isWon : Room := { frames := 0, cells := 0, slots := 0, locals := 0 }
set_option maxHeartbeats 4000000 in
set_option maxRecDepth 100000 in
theorem t_X9_isWon (l : Launch) (dC : Nat → ClassId) (dI : Nat → Nat → Nat) (cI cJ cZ cB : ClassId) (zz : ZT)  (h0 : Nat) (a0 : Nat → Nat) (c0 : Nat → Nat → Int32) (w0 : Nat → Nat → Int64) (r : Int32) (hm : md_X9_isWon c0 w0 = some (r)) : ct l (dC, dI) zz (ty4 cI cJ cZ cB) yX9_isWon cX9_isWon 1 (some .boolean) rmX9_isWon [.ref h0] (cwX9 cI cJ cZ cB h0 a0 c0 w0 []) (cwX9 cI cJ cZ cB h0 a0 c0 w0 []) (some (.int r)) := by
  refine ct_of (cc := cX9_isWon) (maxL := 1) (ret := (some .boolean)) (by decide) (Nat.le_of_ble_eq_true rfl) ?_
  intro p e s m below meth c A S hr hlocks hK hN hZ hA H locs hW ls hl
  have S : CallFix p m c cX9_isWon 1 s (List.toArray [.ref h0]) G RX9 := S
  have hl : lv_has ls 1 [(0, .ref h0)] := hl
  have h := hm
  rw [md_X9_isWon] at h
  have hW : wd (dC, dI) A s.heap (clX9 cI cJ cZ cB h0 a0 (c0 0) (c0 1) (c0 2) (c0 3) (w0 4 0) (w0 5 0) (c0 6) (c0 7) (c0 8) (c0 9) (c0 10) (c0 11) (c0 12) (c0 13) (c0 14 0) (c0 15 0) (c0 16 0) (c0 17 0) (c0 18) (c0 19) (c0 20) (c0 21 0) (c0 22 0) (c0 23 0) (c0 24 0) (c0 25 0) (c0 26) (c0 27) []) H locs := hW
  refine lv_aload_n S.1 S.2.1 dX9_isWon_0 rfl (lv_at hl 0 rfl) ?_
  refine gf (C := RX9) (T := TX9) (N := 28) (ci := 5) (k := 15) S hK hW wu_X9 rfl (by decide) wf_X9_188 0 rfl rfl dX9_isWon_1 ?_
  obtain ⟨y1, e2, h⟩ := lt1_e h
  suffices hM3 : ∀ ls : Array Slot, lv_has ls 1 [] → W p l e rmX9_isWon s m (List.toArray [.ref h0]) below meth c H locs 0 0 (MQ below (kQ (dC, dI) (cwX9 cI cJ cZ cB h0 a0 c0 w0 []) (some (.int r)) A) (List.toArray [.ref h0]) s 0 0 A) (F0 m 34 ls [.int y1]) by
    refine lv_if_ne (tgt := 22) S.1 S.2.1 dX9_isWon_4 (by decide) (fun u4 => ?_) (fun u4 => ?_)
    · refine lv_aload_n S.1 S.2.1 dX9_isWon_22 rfl (lv_at hl 0 rfl) ?_
      refine gf (C := RX9) (T := TX9) (N := 28) (ci := 5) (k := 16) S hK hW wu_X9 rfl (by decide) wf_X9_191 0 rfl rfl dX9_isWon_23 ?_
      refine lv_if_gt (tgt := 33) S.1 S.2.1 dX9_isWon_26 (by decide) (fun u5 => ?_) (fun u5 => ?_)
      · refine lv_iconst (v := (0 : Int32)) S.1 S.2.1 dX9_isWon_33 ki_0 ?_
        have e2 := e2.trans ((if_neg u4).trans (if_pos u5))
        subst e2
        exact hM3 ls (lv_sub hl [] rfl)
      · refine lv_iconst (v := (1 : Int32)) S.1 S.2.1 dX9_isWon_29 ki_1 ?_
        refine lv_goto (tgt := 34) S.1 S.2.1 dX9_isWon_30 (by decide) ?_
        have e2 := e2.trans ((if_neg u4).trans (if_neg u5))
        subst e2
        exact hM3 ls (lv_sub hl [] rfl)
    · refine lv_aload_n S.1 S.2.1 dX9_isWon_7 rfl (lv_at hl 0 rfl) ?_
      refine gf (C := RX9) (T := TX9) (N := 28) (ci := 5) (k := 16) S hK hW wu_X9 rfl (by decide) wf_X9_191 0 rfl rfl dX9_isWon_8 ?_
      refine lv_if_le (tgt := 18) S.1 S.2.1 dX9_isWon_11 (by decide) (fun u6 => ?_) (fun u6 => ?_)
      · refine lv_iconst (v := (0 : Int32)) S.1 S.2.1 dX9_isWon_18 ki_0 ?_
        refine lv_goto (tgt := 34) S.1 S.2.1 dX9_isWon_19 (by decide) ?_
        have e2 := e2.trans ((if_pos u4).trans (if_pos u6))
        subst e2
        exact hM3 ls (lv_sub hl [] rfl)
      · refine lv_iconst (v := (1 : Int32)) S.1 S.2.1 dX9_isWon_14 ki_1 ?_
        refine lv_goto (tgt := 34) S.1 S.2.1 dX9_isWon_15 (by decide) ?_
        have e2 := e2.trans ((if_pos u4).trans (if_neg u6))
        subst e2
        exact hM3 ls (lv_sub hl [] rfl)
  intro ls hl
  obtain ⟨z7, h⟩ := of_g h
  have f8 := Option.some.inj h
  subst f8
  exact rz S hr hlocks hW (nz z7) dX9_isWon_34
abbrev rmX9_hearings : Room := { frames := 4, cells := 0, slots := 0, locals := 99 }
set_option maxHeartbeats 4000000 in
set_option maxRecDepth 100000 in
theorem t_X9_hearings (l : Launch) (dC : Nat → ClassId) (dI : Nat → Nat → Nat) (cI cJ cZ cB : ClassId) (zz : ZT)  (h0 : Nat) (a0 : Nat → Nat) (F : Nat) (c0 : Nat → Nat → Int32) (w0 : Nat → Nat → Int64) (p1 : Int32) (r : Int32) (c0' : Nat → Nat → Int32) (w0' : Nat → Nat → Int64) (hm : md_X9_hearings F c0 w0 p1 = some (r, c0', w0')) : ct l (dC, dI) zz (ty4 cI cJ cZ cB) yX9_hearings cX9_hearings 11 (some .int) rmX9_hearings [.ref h0, .int p1] (cwX9 cI cJ cZ cB h0 a0 c0 w0 []) (cwX9 cI cJ cZ cB h0 a0 c0' w0' []) (some (.int r)) := by
  refine ct_of (cc := cX9_hearings) (maxL := 11) (ret := (some .int)) (by decide) (Nat.le_of_ble_eq_true rfl) ?_
  intro p e s m below meth c A S hr hlocks hK hN hZ hA H locs hW ls hl
  have S : CallFix p m c cX9_hearings 11 s (List.toArray [.ref h0, .int p1]) G RX9 := S
  have hl : lv_has ls 11 [(0, .ref h0), (1, .int p1)] := hl
  have h := hm
  rw [md_X9_hearings] at h
  have hW : wd (dC, dI) A s.heap (clX9 cI cJ cZ cB h0 a0 (c0 0) (c0 1) (c0 2) (c0 3) (w0 4 0) (w0 5 0) (c0 6) (c0 7) (c0 8) (c0 9) (c0 10) (c0 11) (c0 12) (c0 13) (c0 14 0) (c0 15 0) (c0 16 0) (c0 17 0) (c0 18) (c0 19) (c0 20) (c0 21 0) (c0 22 0) (c0 23 0) (c0 24 0) (c0 25 0) (c0 26) (c0 27) []) H locs := hW
  have hL56 : ∀ (n56 : Nat) (c0 : Nat → Nat → Int32) (w0 : Nat → Nat → Int64) (x1 : Int32) (x2 : Int64) (x4 : Int64) (x6 : Int32), ld_X9_hearings_56 F n56 c0 w0 x1 x2 x4 x6 = some (r, c0', w0') → ∀ (H : Heap) (locs : List Loc), wd (dC, dI) A s.heap (clX9 cI cJ cZ cB h0 a0 (c0 0) (c0 1) (c0 2) (c0 3) (w0 4 0) (w0 5 0) (c0 6) (c0 7) (c0 8) (c0 9) (c0 10) (c0 11) (c0 12) (c0 13) (c0 14 0) (c0 15 0) (c0 16 0) (c0 17 0) (c0 18) (c0 19) (c0 20) (c0 21 0) (c0 22 0) (c0 23 0) (c0 24 0) (c0 25 0) (c0 26) (c0 27) []) H locs → ∀ ls : Array Slot, lv_has ls 11 [(0, .ref h0), (1, .int x1), (2, .long x2), (4, .long x4), (6, .int x6)] → W p l e rmX9_hearings s m (List.toArray [.ref h0, .int p1]) below meth c H locs 0 0 (MQ below (kQ (dC, dI) (cwX9 cI cJ cZ cB h0 a0 c0' w0' []) (some (.int r)) A) (List.toArray [.ref h0, .int p1]) s 0 0 A) (F0 m 56 ls []) := by
    intro n56
    induction n56 with
    | zero => intro c0 w0 x1 x2 x4 x6 h; rw [ld_X9_hearings_56] at h; cases h
    | succ n56 ih56 =>
      intro c0 w0 x1 x2 x4 x6 h H locs hW ls hl
      rw [ld_X9_hearings_56] at h
      have hJ204 : ∀ (c0 : Nat → Nat → Int32) (w0 : Nat → Nat → Int64) (x1 : Int32) (x2 : Int64) (x4 : Int64) (x6 : Int32) (x7 : Int64), jd_X9_hearings_204 F (ld_X9_hearings_56 F n56) c0 w0 x1 x2 x4 x6 x7 = some (r, c0', w0') → ∀ (H : Heap) (locs : List Loc), wd (dC, dI) A s.heap (clX9 cI cJ cZ cB h0 a0 (c0 0) (c0 1) (c0 2) (c0 3) (w0 4 0) (w0 5 0) (c0 6) (c0 7) (c0 8) (c0 9) (c0 10) (c0 11) (c0 12) (c0 13) (c0 14 0) (c0 15 0) (c0 16 0) (c0 17 0) (c0 18) (c0 19) (c0 20) (c0 21 0) (c0 22 0) (c0 23 0) (c0 24 0) (c0 25 0) (c0 26) (c0 27) []) H locs → ∀ ls : Array Slot, lv_has ls 11 [(0, .ref h0), (1, .int x1), (2, .long x2), (4, .long x4), (6, .int x6), (7, .long x7)] → W p l e rmX9_hearings s m (List.toArray [.ref h0, .int p1]) below meth c H locs 0 0 (MQ below (kQ (dC, dI) (cwX9 cI cJ cZ cB h0 a0 c0' w0' []) (some (.int r)) A) (List.toArray [.ref h0, .int p1]) s 0 0 A) (F0 m 204 ls []) := by
        intro c0 w0 x1 x2 x4 x6 x7 h H locs hW ls hl
        rw [jd_X9_hearings_204] at h
        refine lv_lload_n S.1 S.2.1 dX9_hearings_204 rfl (lv_at hl 2 rfl) ?_
        refine lv_aload_n S.1 S.2.1 dX9_hearings_205 rfl (lv_at hl 0 rfl) ?_
        obtain ⟨r1, hy2, h⟩ := bd1_e h
        refine kv0 S hK hN hZ hA hW (rest := [.long x2]) (t_X9_isWon l dC dI cI cJ cZ cB zz h0 a0 c0 w0 _  hy2) wl_X9_246 wv_X9_isWon rfl rfl ⟨Nat.le_of_ble_eq_true rfl, Nat.le_of_ble_eq_true rfl⟩ [] [] rfl 0 rfl rfl rfl rfl hl.1 rfl (Nat.le_of_ble_eq_true rfl) dX9_hearings_206 [.int r1, .long x2] rfl (fun H locs hW => ?_)
        obtain ⟨y3, e4, h⟩ := lt1_e h
        suffices hM5 : ∀ ls : Array Slot, lv_has ls 11 [(0, .ref h0), (1, .int x1), (4, .long x4), (6, .int x6)] → W p l e rmX9_hearings s m (List.toArray [.ref h0, .int p1]) below meth c H locs 0 0 (MQ below (kQ (dC, dI) (cwX9 cI cJ cZ cB h0 a0 c0' w0' []) (some (.int r)) A) (List.toArray [.ref h0, .int p1]) s 0 0 A) (F0 m 218 ls [.long y3, .long x2]) by
          refine lv_if_eq (tgt := 217) S.1 S.2.1 dX9_hearings_209 (by decide) (fun u6 => ?_) (fun u6 => ?_)
          · refine lv_lconst (v := (0 : Int64)) S.1 S.2.1 dX9_hearings_217 rfl ?_
            have e4 := e4.trans (if_pos u6)
            subst e4
            exact hM5 ls (lv_sub hl [0, 1, 3, 4] rfl)
          · refine lv_lload S.1 S.2.1 dX9_hearings_212 (lv_at hl 5 rfl) ?_
            refine lv_goto (tgt := 218) S.1 S.2.1 dX9_hearings_214 (by decide) ?_
            have e4 := e4.trans (if_neg u6)
            subst e4
            exact hM5 ls (lv_sub hl [0, 1, 3, 4] rfl)
        intro ls hl
        refine lv_ladd S.1 S.2.1 dX9_hearings_218 ?_
        refine lv_lstore_n (lv' := [(2, .long (x2 + y3)), (0, .ref h0), (1, .int x1), (4, .long x4), (6, .int x6)]) S.1 S.2.1 dX9_hearings_219 rfl hl (by decide) rfl (fun ls hl => ?_)
        refine lv_iinc (v := (x6 + (1 : Int32))) (lv' := [(6, .int (x6 + (1 : Int32))), (2, .long (x2 + y3)), (0, .ref h0), (1, .int x1), (4, .long x4)]) S.1 S.2.1 dX9_hearings_220 hl (k := 4) rfl (congrArg (fun z => x6 + z) ki_1) (by decide) rfl (fun ls hl => ?_)
        refine lv_goto (tgt := 56) S.1 S.2.1 dX9_hearings_223 (by decide) ?_
        exact ih56 _ _ _ _ _ _ h H locs hW ls (lv_sub hl [2, 3, 1, 4, 0] rfl)
      have hL93 : ∀ (n93 : Nat) (c0 : Nat → Nat → Int32) (w0 : Nat → Nat → Int64) (x1 : Int32) (x2 : Int64) (x4 : Int64) (x6 : Int32) (x7 : Int64) (x9 : Int32), ld_X9_hearings_93 F (ld_X9_hearings_56 F n56) n93 c0 w0 x1 x2 x4 x6 x7 x9 = some (r, c0', w0') → ∀ (H : Heap) (locs : List Loc), wd (dC, dI) A s.heap (clX9 cI cJ cZ cB h0 a0 (c0 0) (c0 1) (c0 2) (c0 3) (w0 4 0) (w0 5 0) (c0 6) (c0 7) (c0 8) (c0 9) (c0 10) (c0 11) (c0 12) (c0 13) (c0 14 0) (c0 15 0) (c0 16 0) (c0 17 0) (c0 18) (c0 19) (c0 20) (c0 21 0) (c0 22 0) (c0 23 0) (c0 24 0) (c0 25 0) (c0 26) (c0 27) []) H locs → ∀ ls : Array Slot, lv_has ls 11 [(0, .ref h0), (1, .int x1), (2, .long x2), (4, .long x4), (6, .int x6), (7, .long x7), (9, .int x9)] → W p l e rmX9_hearings s m (List.toArray [.ref h0, .int p1]) below meth c H locs 0 0 (MQ below (kQ (dC, dI) (cwX9 cI cJ cZ cB h0 a0 c0' w0' []) (some (.int r)) A) (List.toArray [.ref h0, .int p1]) s 0 0 A) (F0 m 93 ls []) := by
        intro n93
        induction n93 with
        | zero => intro c0 w0 x1 x2 x4 x6 x7 x9 h; rw [ld_X9_hearings_93] at h; cases h
        | succ n93 ih93 =>
          intro c0 w0 x1 x2 x4 x6 x7 x9 h H locs hW ls hl
          rw [ld_X9_hearings_93] at h
          refine lv_iload S.1 S.2.1 dX9_hearings_93 (lv_at hl 6 rfl) ?_
          refine lv_aload_n S.1 S.2.1 dX9_hearings_95 rfl (lv_at hl 0 rfl) ?_
          obtain ⟨r7, hy8, h⟩ := bd1_e h
          refine kv0 S hK hN hZ hA hW (rest := [.int x9]) (t_X9_many l dC dI cI cJ cZ cB zz h0 a0 c0 w0 _  hy8) wl_X9_70 wv_X9_many rfl rfl ⟨Nat.le_of_ble_eq_true rfl, Nat.le_of_ble_eq_true rfl⟩ [] [] rfl 0 rfl rfl rfl rfl hl.1 rfl (Nat.le_of_ble_eq_true rfl) dX9_hearings_96 [.int r7, .int x9] rfl (fun H locs hW => ?_)
          refine lv_icmp_ge (tgt := 204) S.1 S.2.1 dX9_hearings_99 (by decide) (fun u9 => ?_) (fun u9 => ?_)
          · have h := of_p u9 h
            exact hJ204 _ _ _ _ _ _ _ h H locs hW ls (lv_sub hl [0, 1, 2, 3, 4, 5] rfl)
          · have h := of_n u9 h
            refine lv_lload S.1 S.2.1 dX9_hearings_102 (lv_at hl 5 rfl) ?_
            refine lv_lconst (v := (0 : Int64)) S.1 S.2.1 dX9_hearings_104 rfl ?_
            refine W.lcmp S.1 S.2.1 dX9_hearings_105 ?_
            refine lv_if_le (tgt := 204) S.1 S.2.1 dX9_hearings_106 (by decide) (fun u10 => ?_) (fun u10 => ?_)
            · have h := of_p u10 h
              exact hJ204 _ _ _ _ _ _ _ h H locs hW ls (lv_sub hl [0, 1, 2, 3, 4, 5] rfl)
            · have h := of_n u10 h
              refine lv_aload_n S.1 S.2.1 dX9_hearings_109 rfl (lv_at hl 0 rfl) ?_
              refine gf (C := RX9) (T := TX9) (N := 28) (ci := 5) (k := 0) S hK hW wu_X9 rfl (by decide) wf_X9_7 0 rfl rfl dX9_hearings_110 ?_
              refine lv_iconst (v := (5 : Int32)) S.1 S.2.1 dX9_hearings_113 ki_5 ?_
              refine iaK S hK hW rfl 1 rfl b_5_194 x_5 dX9_hearings_114 ?_
              refine lv_iload S.1 S.2.1 dX9_hearings_115 (lv_at hl 6 rfl) ?_
              obtain ⟨r11, hy12, h⟩ := bd1_e h
              refine ks0 S hK hN hZ hA hW (rest := []) (t_X9_has l dC dI cI cJ cZ cB zz ((c0 0) 5) x9 _  hy12) wl_X9_120 wv_X9_has rfl rfl ⟨Nat.le_of_ble_eq_true rfl, Nat.le_of_ble_eq_true rfl⟩ [] (clX9 cI cJ cZ cB h0 a0 (c0 0) (c0 1) (c0 2) (c0 3) (w0 4 0) (w0 5 0) (c0 6) (c0 7) (c0 8) (c0 9) (c0 10) (c0 11) (c0 12) (c0 13) (c0 14 0) (c0 15 0) (c0 16 0) (c0 17 0) (c0 18) (c0 19) (c0 20) (c0 21 0) (c0 22 0) (c0 23 0) (c0 24 0) (c0 25 0) (c0 26) (c0 27) []) rfl rfl hl.1 rfl (Nat.le_of_ble_eq_true rfl) dX9_hearings_117 [.int r11] rfl (fun H locs hW => ?_)
              refine lv_if_ne (tgt := 198) S.1 S.2.1 dX9_hearings_120 (by decide) (fun u13 => ?_) (fun u13 => ?_)
              · have h := of_n u13 h
                refine lv_iinc (v := (x9 + (1 : Int32))) (lv' := [(9, .int (x9 + (1 : Int32))), (0, .ref h0), (1, .int x1), (2, .long x2), (4, .long x4), (6, .int x6), (7, .long x7)]) S.1 S.2.1 dX9_hearings_198 hl (k := 6) rfl (congrArg (fun z => x9 + z) ki_1) (by decide) rfl (fun ls hl => ?_)
                refine lv_goto (tgt := 93) S.1 S.2.1 dX9_hearings_201 (by decide) ?_
                exact ih93 _ _ _ _ _ _ _ _ h H locs hW ls (lv_sub hl [1, 2, 3, 4, 5, 6, 0] rfl)
              · have h := of_p u13 h
                refine lv_aload_n S.1 S.2.1 dX9_hearings_123 rfl (lv_at hl 0 rfl) ?_
                refine lv_iload S.1 S.2.1 dX9_hearings_124 (lv_at hl 6 rfl) ?_
                obtain ⟨cv14, hy15, h⟩ := bd1_e h
                refine kv (clX9 cI cJ cZ cB h0 a0 (cv14 0) (cv14 1) (cv14 2) (cv14 3) (w0 4 0) (w0 5 0) (cv14 6) (cv14 7) (cv14 8) (cv14 9) (cv14 10) (cv14 11) (cv14 12) (cv14 13) (cv14 14 0) (cv14 15 0) (cv14 16 0) (cv14 17 0) (cv14 18) (cv14 19) (cv14 20) (cv14 21 0) (cv14 22 0) (cv14 23 0) (cv14 24 0) (cv14 25 0) (cv14 26) (cv14 27) []) S hK hN hZ hA hW (rest := []) (t_X9_goSaying l dC dI cI cJ cZ cB zz h0 a0 c0 w0 x9 _  hy15) wl_X9_203 wv_X9_goSaying rfl rfl ⟨Nat.le_of_ble_eq_true rfl, Nat.le_of_ble_eq_true rfl⟩ [] [] rfl rfl rfl 0 rfl rfl rfl rfl hl.1 rfl (Nat.le_of_ble_eq_true rfl) dX9_hearings_126 [] rfl (fun H locs hW => ?_)
                refine lv_iload S.1 S.2.1 dX9_hearings_129 (lv_at hl 4 rfl) ?_
                refine lv_iload S.1 S.2.1 dX9_hearings_131 (lv_at hl 6 rfl) ?_
                obtain ⟨r16, hy17, h⟩ := bd1_e h
                refine ks0 S hK hN hZ hA hW (rest := []) (t_X9_has l dC dI cI cJ cZ cB zz x6 x9 _  hy17) wl_X9_120 wv_X9_has rfl rfl ⟨Nat.le_of_ble_eq_true rfl, Nat.le_of_ble_eq_true rfl⟩ [] (clX9 cI cJ cZ cB h0 a0 (cv14 0) (cv14 1) (cv14 2) (cv14 3) (w0 4 0) (w0 5 0) (cv14 6) (cv14 7) (cv14 8) (cv14 9) (cv14 10) (cv14 11) (cv14 12) (cv14 13) (cv14 14 0) (cv14 15 0) (cv14 16 0) (cv14 17 0) (cv14 18) (cv14 19) (cv14 20) (cv14 21 0) (cv14 22 0) (cv14 23 0) (cv14 24 0) (cv14 25 0) (cv14 26) (cv14 27) []) rfl rfl hl.1 rfl (Nat.le_of_ble_eq_true rfl) dX9_hearings_133 [.int r16] rfl (fun H locs hW => ?_)
                refine lv_istore (lv' := [(10, .int r16), (0, .ref h0), (1, .int x1), (2, .long x2), (4, .long x4), (6, .int x6), (7, .long x7), (9, .int x9)]) S.1 S.2.1 dX9_hearings_136 hl (by decide) rfl (fun ls hl => ?_)
                refine lv_lload S.1 S.2.1 dX9_hearings_138 (lv_at hl 6 rfl) ?_
                refine lv_aload_n S.1 S.2.1 dX9_hearings_140 rfl (lv_at hl 1 rfl) ?_
                refine lv_iload S.1 S.2.1 dX9_hearings_141 (lv_at hl 7 rfl) ?_
                obtain ⟨r18, hy19, h⟩ := bd1_e h
                refine kv0 S hK hN hZ hA hW (rest := [.long x7]) (t_X9_mayTo l dC dI cI cJ cZ cB zz h0 a0 cv14 w0 x9 _  hy19) wl_X9_210 wv_X9_mayTo rfl rfl ⟨Nat.le_of_ble_eq_true rfl, Nat.le_of_ble_eq_true rfl⟩ [] [] rfl 0 rfl rfl rfl rfl hl.1 rfl (Nat.le_of_ble_eq_true rfl) dX9_hearings_143 [.int r18, .long x7] rfl (fun H locs hW => ?_)
                obtain ⟨y20, e21, h⟩ := lt1_e h
                suffices hM22 : ∀ ls : Array Slot, lv_has ls 11 [(0, .ref h0), (1, .int x1), (2, .long x2), (4, .long x4), (6, .int x6), (9, .int x9), (10, .int r16)] → W p l e rmX9_hearings s m (List.toArray [.ref h0, .int p1]) below meth c H locs 0 0 (MQ below (kQ (dC, dI) (cwX9 cI cJ cZ cB h0 a0 c0' w0' []) (some (.int r)) A) (List.toArray [.ref h0, .int p1]) s 0 0 A) (F0 m 179 ls [.long y20, .long x7]) by
                  refine lv_if_ne (tgt := 164) S.1 S.2.1 dX9_hearings_146 (by decide) (fun u23 => ?_) (fun u23 => ?_)
                  · refine lv_iload S.1 S.2.1 dX9_hearings_164 (lv_at hl 0 rfl) ?_
                    refine lv_if_eq (tgt := 174) S.1 S.2.1 dX9_hearings_166 (by decide) (fun u24 => ?_) (fun u24 => ?_)
                    · refine lv_bipush (v := (10 : Int32)) S.1 S.2.1 dX9_hearings_174 kb_10 ?_
                      refine lv_iload_n S.1 S.2.1 dX9_hearings_176 rfl (lv_at hl 2 rfl) ?_
                      refine lv_isub S.1 S.2.1 dX9_hearings_177 ?_
                      refine lv_i2l S.1 S.2.1 dX9_hearings_178 rfl ?_
                      have e21 := e21.trans ((if_neg u23).trans (if_pos u24))
                      subst e21
                      exact hM22 ls (lv_sub hl [1, 2, 3, 4, 5, 7, 0] rfl)
                    · refine lv_iload_n S.1 S.2.1 dX9_hearings_169 rfl (lv_at hl 2 rfl) ?_
                      refine lv_i2l S.1 S.2.1 dX9_hearings_170 rfl ?_
                      refine lv_goto (tgt := 179) S.1 S.2.1 dX9_hearings_171 (by decide) ?_
                      have e21 := e21.trans ((if_neg u23).trans (if_neg u24))
                      subst e21
                      exact hM22 ls (lv_sub hl [1, 2, 3, 4, 5, 7, 0] rfl)
                  · refine lv_iload S.1 S.2.1 dX9_hearings_149 (lv_at hl 0 rfl) ?_
                    refine lv_if_eq (tgt := 158) S.1 S.2.1 dX9_hearings_151 (by decide) (fun u25 => ?_) (fun u25 => ?_)
                    · refine lv_ldc2 (v := (10 : Int64)) S.1 S.2.1 S.2.2.2.1 (S.2.2.2.2 _ wk_X9_244) dX9_hearings_158 ?_
                      refine lv_goto (tgt := 179) S.1 S.2.1 dX9_hearings_161 (by decide) ?_
                      have e21 := e21.trans ((if_pos u23).trans (if_pos u25))
                      subst e21
                      exact hM22 ls (lv_sub hl [1, 2, 3, 4, 5, 7, 0] rfl)
                    · refine lv_lconst (v := (0 : Int64)) S.1 S.2.1 dX9_hearings_154 rfl ?_
                      refine lv_goto (tgt := 179) S.1 S.2.1 dX9_hearings_155 (by decide) ?_
                      have e21 := e21.trans ((if_pos u23).trans (if_neg u25))
                      subst e21
                      exact hM22 ls (lv_sub hl [1, 2, 3, 4, 5, 7, 0] rfl)
                intro ls hl
                refine lv_lmul S.1 S.2.1 dX9_hearings_179 ?_
                refine lv_lstore (lv' := [(7, .long (x7 * y20)), (0, .ref h0), (1, .int x1), (2, .long x2), (4, .long x4), (6, .int x6), (9, .int x9), (10, .int r16)]) S.1 S.2.1 dX9_hearings_180 hl (by decide) rfl (fun ls hl => ?_)
                refine lv_iload S.1 S.2.1 dX9_hearings_182 (lv_at hl 7 rfl) ?_
                refine lv_if_eq (tgt := 198) S.1 S.2.1 dX9_hearings_184 (by decide) (fun u26 => ?_) (fun u26 => ?_)
                · have h := of_p u26 h
                  refine lv_iinc (v := (x9 + (1 : Int32))) (lv' := [(9, .int (x9 + (1 : Int32))), (7, .long (x7 * y20)), (0, .ref h0), (1, .int x1), (2, .long x2), (4, .long x4), (6, .int x6), (10, .int r16)]) S.1 S.2.1 dX9_hearings_198 hl (k := 6) rfl (congrArg (fun z => x9 + z) ki_1) (by decide) rfl (fun ls hl => ?_)
                  refine lv_goto (tgt := 93) S.1 S.2.1 dX9_hearings_201 (by decide) ?_
                  exact ih93 _ _ _ _ _ _ _ _ h H locs hW ls (lv_sub hl [2, 3, 4, 5, 6, 1, 0] rfl)
                · have h := of_n u26 h
                  refine lv_lload S.1 S.2.1 dX9_hearings_187 (lv_at hl 0 rfl) ?_
                  refine lv_lconst (v := (0 : Int64)) S.1 S.2.1 dX9_hearings_189 rfl ?_
                  refine W.lcmp S.1 S.2.1 dX9_hearings_190 ?_
                  refine lv_if_le (tgt := 198) S.1 S.2.1 dX9_hearings_191 (by decide) (fun u27 => ?_) (fun u27 => ?_)
                  · have h := of_p u27 h
                    refine lv_iinc (v := (x9 + (1 : Int32))) (lv' := [(9, .int (x9 + (1 : Int32))), (7, .long (x7 * y20)), (0, .ref h0), (1, .int x1), (2, .long x2), (4, .long x4), (6, .int x6), (10, .int r16)]) S.1 S.2.1 dX9_hearings_198 hl (k := 6) rfl (congrArg (fun z => x9 + z) ki_1) (by decide) rfl (fun ls hl => ?_)
                    refine lv_goto (tgt := 93) S.1 S.2.1 dX9_hearings_201 (by decide) ?_
                    exact ih93 _ _ _ _ _ _ _ _ h H locs hW ls (lv_sub hl [2, 3, 4, 5, 6, 1, 0] rfl)
                  · have h := of_n u27 h
                    refine lv_aload_n S.1 S.2.1 dX9_hearings_194 rfl (lv_at hl 1 rfl) ?_
                    obtain ⟨cv28, hy29, h⟩ := bd1_e h
                    refine kv (clX9 cI cJ cZ cB h0 a0 (cv28 0) (cv28 1) (cv28 2) (cv28 3) (w0 4 0) (w0 5 0) (cv28 6) (cv28 7) (cv28 8) (cv28 9) (cv28 10) (cv28 11) (cv28 12) (cv28 13) (cv28 14 0) (cv28 15 0) (cv28 16 0) (cv28 17 0) (cv28 18) (cv28 19) (cv28 20) (cv28 21 0) (cv28 22 0) (cv28 23 0) (cv28 24 0) (cv28 25 0) (cv28 26) (cv28 27) []) S hK hN hZ hA hW (rest := []) (t_X9_goObjecting l dC dI cI cJ cZ cB zz h0 a0 cv14 w0 _  hy29) wl_X9_213 wv_X9_goObjecting rfl rfl ⟨Nat.le_of_ble_eq_true rfl, Nat.le_of_ble_eq_true rfl⟩ [] [] rfl rfl rfl 0 rfl rfl rfl rfl hl.1 rfl (Nat.le_of_ble_eq_true rfl) dX9_hearings_195 [] rfl (fun H locs hW => ?_)
                    refine lv_iinc (v := (x9 + (1 : Int32))) (lv' := [(9, .int (x9 + (1 : Int32))), (7, .long (x7 * y20)), (0, .ref h0), (1, .int x1), (2, .long x2), (4, .long x4), (6, .int x6), (10, .int r16)]) S.1 S.2.1 dX9_hearings_198 hl (k := 6) rfl (congrArg (fun z => x9 + z) ki_1) (by decide) rfl (fun ls hl => ?_)
                    refine lv_goto (tgt := 93) S.1 S.2.1 dX9_hearings_201 (by decide) ?_
                    exact ih93 _ _ _ _ _ _ _ _ h H locs hW ls (lv_sub hl [2, 3, 4, 5, 6, 1, 0] rfl)
      refine lv_iload S.1 S.2.1 dX9_hearings_56 (lv_at hl 4 rfl) ?_
      refine lv_iconst (v := (1 : Int32)) S.1 S.2.1 dX9_hearings_58 ki_1 ?_
      refine lv_aload_n S.1 S.2.1 dX9_hearings_59 rfl (lv_at hl 0 rfl) ?_
      obtain ⟨r30, hy31, h⟩ := bd1_e h
      refine kv0 S hK hN hZ hA hW (rest := [.int (1 : Int32), .int x6]) (t_X9_many l dC dI cI cJ cZ cB zz h0 a0 c0 w0 _  hy31) wl_X9_70 wv_X9_many rfl rfl ⟨Nat.le_of_ble_eq_true rfl, Nat.le_of_ble_eq_true rfl⟩ [] [] rfl 0 rfl rfl rfl rfl hl.1 rfl (Nat.le_of_ble_eq_true rfl) dX9_hearings_60 [.int r30, .int (1 : Int32), .int x6] rfl (fun H locs hW => ?_)
      refine lv_ishl S.1 S.2.1 dX9_hearings_63 ?_
      refine lv_icmp_ge (tgt := 226) S.1 S.2.1 dX9_hearings_64 (by decide) (fun u32 => ?_) (fun u32 => ?_)
      · have h := of_p u32 h
        refine lv_aload_n S.1 S.2.1 dX9_hearings_226 rfl (lv_at hl 0 rfl) ?_
        refine lv_lload_n S.1 S.2.1 dX9_hearings_227 rfl (lv_at hl 2 rfl) ?_
        refine lv_lload S.1 S.2.1 dX9_hearings_228 (lv_at hl 3 rfl) ?_
        obtain ⟨wv33, hy34, h⟩ := bd1_e h
        refine kv (clX9 cI cJ cZ cB h0 a0 (c0 0) (c0 1) (c0 2) (c0 3) (wv33 4 0) (wv33 5 0) (c0 6) (c0 7) (c0 8) (c0 9) (c0 10) (c0 11) (c0 12) (c0 13) (c0 14 0) (c0 15 0) (c0 16 0) (c0 17 0) (c0 18) (c0 19) (c0 20) (c0 21 0) (c0 22 0) (c0 23 0) (c0 24 0) (c0 25 0) (c0 26) (c0 27) []) S hK hN hZ hA hW (rest := []) (t_X9_fraction l dC dI cI cJ cZ cB zz h0 a0 F c0 w0 x2 x4 _  hy34) wl_X9_249 wv_X9_fraction rfl rfl ⟨Nat.le_of_ble_eq_true rfl, Nat.le_of_ble_eq_true rfl⟩ [] [] rfl rfl rfl 0 rfl rfl rfl rfl hl.1 rfl (Nat.le_of_ble_eq_true rfl) dX9_hearings_230 [] rfl (fun H locs hW => ?_)
        refine lv_iconst (v := (1 : Int32)) S.1 S.2.1 dX9_hearings_233 ki_1 ?_
        have f35 := Option.some.inj h
        obtain ⟨f36, f37⟩ := Prod.mk.inj f35
        obtain ⟨f38, f39⟩ := Prod.mk.inj f37
        subst f36
        subst f38
        subst f39
        exact ri S hr hlocks hW dX9_hearings_234
      · have h := of_n u32 h
        refine lv_iload S.1 S.2.1 dX9_hearings_67 (lv_at hl 4 rfl) ?_
        refine lv_aload_n S.1 S.2.1 dX9_hearings_69 rfl (lv_at hl 0 rfl) ?_
        refine gf (C := RX9) (T := TX9) (N := 28) (ci := 5) (k := 0) S hK hW wu_X9 rfl (by decide) wf_X9_7 0 rfl rfl dX9_hearings_70 ?_
        refine lv_iconst (v := (5 : Int32)) S.1 S.2.1 dX9_hearings_73 ki_5 ?_
        refine iaK S hK hW rfl 1 rfl b_5_194 x_5 dX9_hearings_74 ?_
        refine lv_iand S.1 S.2.1 dX9_hearings_75 ?_
        obtain ⟨y40, e41, h⟩ := lt1_e h
        suffices hM42 : ∀ ls : Array Slot, lv_has ls 11 [(0, .ref h0), (1, .int x1), (2, .long x2), (4, .long x4), (6, .int x6)] → W p l e rmX9_hearings s m (List.toArray [.ref h0, .int p1]) below meth c H locs 0 0 (MQ below (kQ (dC, dI) (cwX9 cI cJ cZ cB h0 a0 c0' w0' []) (some (.int r)) A) (List.toArray [.ref h0, .int p1]) s 0 0 A) (F0 m 84 ls [.long y40]) by
          refine lv_if_ne (tgt := 83) S.1 S.2.1 dX9_hearings_76 (by decide) (fun u43 => ?_) (fun u43 => ?_)
          · refine lv_lconst (v := (0 : Int64)) S.1 S.2.1 dX9_hearings_83 rfl ?_
            have e41 := e41.trans (if_neg u43)
            subst e41
            exact hM42 ls (lv_sub hl [0, 1, 2, 3, 4] rfl)
          · refine lv_lconst (v := (1 : Int64)) S.1 S.2.1 dX9_hearings_79 rfl ?_
            refine lv_goto (tgt := 84) S.1 S.2.1 dX9_hearings_80 (by decide) ?_
            have e41 := e41.trans (if_pos u43)
            subst e41
            exact hM42 ls (lv_sub hl [0, 1, 2, 3, 4] rfl)
        intro ls hl
        refine lv_lstore (lv' := [(7, .long y40), (0, .ref h0), (1, .int x1), (2, .long x2), (4, .long x4), (6, .int x6)]) S.1 S.2.1 dX9_hearings_84 hl (by decide) rfl (fun ls hl => ?_)
        refine lv_aload_n S.1 S.2.1 dX9_hearings_86 rfl (lv_at hl 1 rfl) ?_
        obtain ⟨cv44, hy45, h⟩ := bd1_e h
        refine kv (clX9 cI cJ cZ cB h0 a0 (cv44 0) (cv44 1) (cv44 2) (cv44 3) (w0 4 0) (w0 5 0) (cv44 6) (cv44 7) (cv44 8) (cv44 9) (cv44 10) (cv44 11) (cv44 12) (cv44 13) (cv44 14 0) (cv44 15 0) (cv44 16 0) (cv44 17 0) (cv44 18) (cv44 19) (cv44 20) (cv44 21 0) (cv44 22 0) (cv44 23 0) (cv44 24 0) (cv44 25 0) (cv44 26) (cv44 27) []) S hK hN hZ hA hW (rest := []) (t_X9_layNow l dC dI cI cJ cZ cB zz h0 a0 c0 w0 _  hy45) wl_X9_200 wv_X9_layNow rfl rfl ⟨Nat.le_of_ble_eq_true rfl, Nat.le_of_ble_eq_true rfl⟩ [] [] rfl rfl rfl 0 rfl rfl rfl rfl hl.1 rfl (Nat.le_of_ble_eq_true rfl) dX9_hearings_87 [] rfl (fun H locs hW => ?_)
        refine lv_iconst (v := (0 : Int32)) S.1 S.2.1 dX9_hearings_90 ki_0 ?_
        refine lv_istore (lv' := [(9, .int (0 : Int32)), (7, .long y40), (0, .ref h0), (1, .int x1), (2, .long x2), (4, .long x4), (6, .int x6)]) S.1 S.2.1 dX9_hearings_91 hl (by decide) rfl (fun ls hl => ?_)
        exact hL93 F _ _ _ _ _ _ _ _ h H locs hW ls (lv_sub hl [2, 3, 4, 5, 6, 1, 0] rfl)
  have hL27 : ∀ (n27 : Nat) (c0 : Nat → Nat → Int32) (w0 : Nat → Nat → Int64) (x1 : Int32) (x2 : Int64) (x4 : Int64) (x6 : Int32), ld_X9_hearings_27 F n27 c0 w0 x1 x2 x4 x6 = some (r, c0', w0') → ∀ (H : Heap) (locs : List Loc), wd (dC, dI) A s.heap (clX9 cI cJ cZ cB h0 a0 (c0 0) (c0 1) (c0 2) (c0 3) (w0 4 0) (w0 5 0) (c0 6) (c0 7) (c0 8) (c0 9) (c0 10) (c0 11) (c0 12) (c0 13) (c0 14 0) (c0 15 0) (c0 16 0) (c0 17 0) (c0 18) (c0 19) (c0 20) (c0 21 0) (c0 22 0) (c0 23 0) (c0 24 0) (c0 25 0) (c0 26) (c0 27) []) H locs → ∀ ls : Array Slot, lv_has ls 11 [(0, .ref h0), (1, .int x1), (2, .long x2), (4, .long x4), (6, .int x6)] → W p l e rmX9_hearings s m (List.toArray [.ref h0, .int p1]) below meth c H locs 0 0 (MQ below (kQ (dC, dI) (cwX9 cI cJ cZ cB h0 a0 c0' w0' []) (some (.int r)) A) (List.toArray [.ref h0, .int p1]) s 0 0 A) (F0 m 27 ls []) := by
    intro n27
    induction n27 with
    | zero => intro c0 w0 x1 x2 x4 x6 h; rw [ld_X9_hearings_27] at h; cases h
    | succ n27 ih27 =>
      intro c0 w0 x1 x2 x4 x6 h H locs hW ls hl
      rw [ld_X9_hearings_27] at h
      refine lv_iload S.1 S.2.1 dX9_hearings_27 (lv_at hl 4 rfl) ?_
      refine lv_aload_n S.1 S.2.1 dX9_hearings_29 rfl (lv_at hl 0 rfl) ?_
      obtain ⟨r46, hy47, h⟩ := bd1_e h
      refine kv0 S hK hN hZ hA hW (rest := [.int x6]) (t_X9_open l dC dI cI cJ cZ cB zz h0 a0 c0 w0 _  hy47) wl_X9_137 wv_X9_open rfl rfl ⟨Nat.le_of_ble_eq_true rfl, Nat.le_of_ble_eq_true rfl⟩ [] [] rfl 0 rfl rfl rfl rfl hl.1 rfl (Nat.le_of_ble_eq_true rfl) dX9_hearings_30 [.int r46, .int x6] rfl (fun H locs hW => ?_)
      obtain ⟨r48, hy49, h⟩ := bd1_e h
      refine ks0 S hK hN hZ hA hW (rest := [.int x6]) (t_X9_bits l dC dI cI cJ cZ cB zz F r46 _  hy49) wl_X9_197 wv_X9_bits rfl rfl ⟨Nat.le_of_ble_eq_true rfl, Nat.le_of_ble_eq_true rfl⟩ [] (clX9 cI cJ cZ cB h0 a0 (c0 0) (c0 1) (c0 2) (c0 3) (w0 4 0) (w0 5 0) (c0 6) (c0 7) (c0 8) (c0 9) (c0 10) (c0 11) (c0 12) (c0 13) (c0 14 0) (c0 15 0) (c0 16 0) (c0 17 0) (c0 18) (c0 19) (c0 20) (c0 21 0) (c0 22 0) (c0 23 0) (c0 24 0) (c0 25 0) (c0 26) (c0 27) []) rfl rfl hl.1 rfl (Nat.le_of_ble_eq_true rfl) dX9_hearings_33 [.int r48, .int x6] rfl (fun H locs hW => ?_)
      refine lv_icmp_ge (tgt := 53) S.1 S.2.1 dX9_hearings_36 (by decide) (fun u50 => ?_) (fun u50 => ?_)
      · have h := of_p u50 h
        refine lv_iconst (v := (0 : Int32)) S.1 S.2.1 dX9_hearings_53 ki_0 ?_
        refine lv_istore (lv' := [(6, .int (0 : Int32)), (0, .ref h0), (1, .int x1), (2, .long x2), (4, .long x4)]) S.1 S.2.1 dX9_hearings_54 hl (by decide) rfl (fun ls hl => ?_)
        exact hL56 F _ _ _ _ _ _ h H locs hW ls (lv_sub hl [1, 2, 3, 4, 0] rfl)
      · have h := of_n u50 h
        refine lv_lload S.1 S.2.1 dX9_hearings_39 (lv_at hl 3 rfl) ?_
        refine lv_ldc2 (v := (10 : Int64)) S.1 S.2.1 S.2.2.2.1 (S.2.2.2.2 _ wk_X9_244) dX9_hearings_41 ?_
        refine lv_lmul S.1 S.2.1 dX9_hearings_44 ?_
        refine lv_lstore (lv' := [(4, .long (x4 * (10 : Int64))), (0, .ref h0), (1, .int x1), (2, .long x2), (6, .int x6)]) S.1 S.2.1 dX9_hearings_45 hl (by decide) rfl (fun ls hl => ?_)
        refine lv_iinc (v := (x6 + (1 : Int32))) (lv' := [(6, .int (x6 + (1 : Int32))), (4, .long (x4 * (10 : Int64))), (0, .ref h0), (1, .int x1), (2, .long x2)]) S.1 S.2.1 dX9_hearings_47 hl (k := 4) rfl (congrArg (fun z => x6 + z) ki_1) (by decide) rfl (fun ls hl => ?_)
        refine lv_goto (tgt := 27) S.1 S.2.1 dX9_hearings_50 (by decide) ?_
        exact ih27 _ _ _ _ _ _ h H locs hW ls (lv_sub hl [2, 3, 4, 1, 0] rfl)
  refine lv_iload_n S.1 S.2.1 dX9_hearings_0 rfl (lv_at hl 1 rfl) ?_
  refine lv_i2l S.1 S.2.1 dX9_hearings_1 rfl ?_
  refine lv_lconst (v := (0 : Int64)) S.1 S.2.1 dX9_hearings_2 rfl ?_
  refine lv_ldc2 (v := (10 : Int64)) S.1 S.2.1 S.2.2.2.1 (S.2.2.2.2 _ wk_X9_244) dX9_hearings_3 ?_
  obtain ⟨r51, hy52, h⟩ := bd1_e h
  refine ks0 S hK hN hZ hA hW (rest := []) (t_X9_in l dC dI cI cJ cZ cB zz p1.toInt64 (0 : Int64) (10 : Int64) _  hy52) wl_X9_74 wv_X9_in rfl rfl ⟨Nat.le_of_ble_eq_true rfl, Nat.le_of_ble_eq_true rfl⟩ [] (clX9 cI cJ cZ cB h0 a0 (c0 0) (c0 1) (c0 2) (c0 3) (w0 4 0) (w0 5 0) (c0 6) (c0 7) (c0 8) (c0 9) (c0 10) (c0 11) (c0 12) (c0 13) (c0 14 0) (c0 15 0) (c0 16 0) (c0 17 0) (c0 18) (c0 19) (c0 20) (c0 21 0) (c0 22 0) (c0 23 0) (c0 24 0) (c0 25 0) (c0 26) (c0 27) []) rfl rfl hl.1 rfl (Nat.le_of_ble_eq_true rfl) dX9_hearings_6 [.int r51] rfl (fun H locs hW => ?_)
  refine lv_if_ne (tgt := 19) S.1 S.2.1 dX9_hearings_9 (by decide) (fun u53 => ?_) (fun u53 => ?_)
  · have h := of_n u53 h
    refine lv_lconst (v := (0 : Int64)) S.1 S.2.1 dX9_hearings_19 rfl ?_
    refine lv_lstore_n (lv' := [(2, .long (0 : Int64)), (0, .ref h0), (1, .int p1)]) S.1 S.2.1 dX9_hearings_20 rfl hl (by decide) rfl (fun ls hl => ?_)
    refine lv_lconst (v := (1 : Int64)) S.1 S.2.1 dX9_hearings_21 rfl ?_
    refine lv_lstore (lv' := [(4, .long (1 : Int64)), (2, .long (0 : Int64)), (0, .ref h0), (1, .int p1)]) S.1 S.2.1 dX9_hearings_22 hl (by decide) rfl (fun ls hl => ?_)
    refine lv_iconst (v := (0 : Int32)) S.1 S.2.1 dX9_hearings_24 ki_0 ?_
    refine lv_istore (lv' := [(6, .int (0 : Int32)), (4, .long (1 : Int64)), (2, .long (0 : Int64)), (0, .ref h0), (1, .int p1)]) S.1 S.2.1 dX9_hearings_25 hl (by decide) rfl (fun ls hl => ?_)
    exact hL27 F _ _ _ _ _ _ h H locs hW ls (lv_sub hl [3, 4, 2, 1, 0] rfl)
  · have h := of_p u53 h
    refine lv_aload_n S.1 S.2.1 dX9_hearings_12 rfl (lv_at hl 0 rfl) ?_
    refine lv_bipush (v := (-2 : Int32)) S.1 S.2.1 dX9_hearings_13 kb_m2 ?_
    obtain ⟨r54, cv55, hy56, h⟩ := bd2_e h
    refine kv (clX9 cI cJ cZ cB h0 a0 (cv55 0) (cv55 1) (cv55 2) (cv55 3) (w0 4 0) (w0 5 0) (cv55 6) (cv55 7) (cv55 8) (cv55 9) (cv55 10) (cv55 11) (cv55 12) (cv55 13) (cv55 14 0) (cv55 15 0) (cv55 16 0) (cv55 17 0) (cv55 18) (cv55 19) (cv55 20) (cv55 21 0) (cv55 22 0) (cv55 23 0) (cv55 24 0) (cv55 25 0) (cv55 26) (cv55 27) []) S hK hN hZ hA hW (rest := []) (t_X9_bad l dC dI cI cJ cZ cB zz h0 a0 c0 w0 (-2 : Int32) _ _  hy56) wl_X9_84 wv_X9_bad rfl rfl ⟨Nat.le_of_ble_eq_true rfl, Nat.le_of_ble_eq_true rfl⟩ [] [] rfl rfl rfl 0 rfl rfl rfl rfl hl.1 rfl (Nat.le_of_ble_eq_true rfl) dX9_hearings_15 [.int r54] rfl (fun H locs hW => ?_)
    have f57 := Option.some.inj h
    obtain ⟨f58, f59⟩ := Prod.mk.inj f57
    obtain ⟨f60, f61⟩ := Prod.mk.inj f59
    subst f58
    subst f60
    subst f61
    exact ri S hr hlocks hW dX9_hearings_18
abbrev rmX9_days : Room := { frames := 4, cells := 0, slots := 0, locals := 99 }
set_option maxHeartbeats 4000000 in
set_option maxRecDepth 100000 in
theorem t_X9_days (l : Launch) (dC : Nat → ClassId) (dI : Nat → Nat → Nat) (cI cJ cZ cB : ClassId) (zz : ZT)  (h0 : Nat) (a0 : Nat → Nat) (F : Nat) (c0 : Nat → Nat → Int32) (w0 : Nat → Nat → Int64) (p1 : Int32) (p2 : Int32) (r : Int32) (c0' : Nat → Nat → Int32) (hm : md_X9_days F c0 w0 p1 p2 = some (r, c0')) : ct l (dC, dI) zz (ty4 cI cJ cZ cB) yX9_days cX9_days 8 (some .int) rmX9_days [.ref h0, .int p1, .int p2] (cwX9 cI cJ cZ cB h0 a0 c0 w0 []) (cwX9 cI cJ cZ cB h0 a0 c0' w0 []) (some (.int r)) := by
  refine ct_of (cc := cX9_days) (maxL := 8) (ret := (some .int)) (by decide) (Nat.le_of_ble_eq_true rfl) ?_
  intro p e s m below meth c A S hr hlocks hK hN hZ hA H locs hW ls hl
  have S : CallFix p m c cX9_days 8 s (List.toArray [.ref h0, .int p1, .int p2]) G RX9 := S
  have hl : lv_has ls 8 [(0, .ref h0), (1, .int p1), (2, .int p2)] := hl
  have h := hm
  rw [md_X9_days] at h
  have hW : wd (dC, dI) A s.heap (clX9 cI cJ cZ cB h0 a0 (c0 0) (c0 1) (c0 2) (c0 3) (w0 4 0) (w0 5 0) (c0 6) (c0 7) (c0 8) (c0 9) (c0 10) (c0 11) (c0 12) (c0 13) (c0 14 0) (c0 15 0) (c0 16 0) (c0 17 0) (c0 18) (c0 19) (c0 20) (c0 21 0) (c0 22 0) (c0 23 0) (c0 24 0) (c0 25 0) (c0 26) (c0 27) []) H locs := hW
  have hL40 : ∀ (n40 : Nat) (c0 : Nat → Nat → Int32) (x2 : Int32) (x3 : Int64) (x5 : Int32) (x6 : Int32), ld_X9_days_40 F w0 n40 c0 x2 x3 x5 x6 = some (r, c0') → ∀ (H : Heap) (locs : List Loc), wd (dC, dI) A s.heap (clX9 cI cJ cZ cB h0 a0 (c0 0) (c0 1) (c0 2) (c0 3) (w0 4 0) (w0 5 0) (c0 6) (c0 7) (c0 8) (c0 9) (c0 10) (c0 11) (c0 12) (c0 13) (c0 14 0) (c0 15 0) (c0 16 0) (c0 17 0) (c0 18) (c0 19) (c0 20) (c0 21 0) (c0 22 0) (c0 23 0) (c0 24 0) (c0 25 0) (c0 26) (c0 27) []) H locs → ∀ ls : Array Slot, lv_has ls 8 [(0, .ref h0), (2, .int x2), (3, .long x3), (5, .int x5), (6, .int x6)] → W p l e rmX9_days s m (List.toArray [.ref h0, .int p1, .int p2]) below meth c H locs 0 0 (MQ below (kQ (dC, dI) (cwX9 cI cJ cZ cB h0 a0 c0' w0 []) (some (.int r)) A) (List.toArray [.ref h0, .int p1, .int p2]) s 0 0 A) (F0 m 40 ls []) := by
    intro n40
    induction n40 with
    | zero => intro c0 x2 x3 x5 x6 h; rw [ld_X9_days_40] at h; cases h
    | succ n40 ih40 =>
      intro c0 x2 x3 x5 x6 h H locs hW ls hl
      rw [ld_X9_days_40] at h
      have hL53 : ∀ (n53 : Nat) (c0 : Nat → Nat → Int32) (x2 : Int32) (x3 : Int64) (x5 : Int32) (x6 : Int32) (x7 : Int32), ld_X9_days_53 F w0 (ld_X9_days_40 F w0 n40) n53 c0 x2 x3 x5 x6 x7 = some (r, c0') → ∀ (H : Heap) (locs : List Loc), wd (dC, dI) A s.heap (clX9 cI cJ cZ cB h0 a0 (c0 0) (c0 1) (c0 2) (c0 3) (w0 4 0) (w0 5 0) (c0 6) (c0 7) (c0 8) (c0 9) (c0 10) (c0 11) (c0 12) (c0 13) (c0 14 0) (c0 15 0) (c0 16 0) (c0 17 0) (c0 18) (c0 19) (c0 20) (c0 21 0) (c0 22 0) (c0 23 0) (c0 24 0) (c0 25 0) (c0 26) (c0 27) []) H locs → ∀ ls : Array Slot, lv_has ls 8 [(0, .ref h0), (2, .int x2), (3, .long x3), (5, .int x5), (6, .int x6), (7, .int x7)] → W p l e rmX9_days s m (List.toArray [.ref h0, .int p1, .int p2]) below meth c H locs 0 0 (MQ below (kQ (dC, dI) (cwX9 cI cJ cZ cB h0 a0 c0' w0 []) (some (.int r)) A) (List.toArray [.ref h0, .int p1, .int p2]) s 0 0 A) (F0 m 53 ls []) := by
        intro n53
        induction n53 with
        | zero => intro c0 x2 x3 x5 x6 x7 h; rw [ld_X9_days_53] at h; cases h
        | succ n53 ih53 =>
          intro c0 x2 x3 x5 x6 x7 h H locs hW ls hl
          rw [ld_X9_days_53] at h
          refine lv_iload S.1 S.2.1 dX9_days_53 (lv_at hl 5 rfl) ?_
          refine lv_aload_n S.1 S.2.1 dX9_days_55 rfl (lv_at hl 0 rfl) ?_
          obtain ⟨r1, hy2, h⟩ := bd1_e h
          refine kv0 S hK hN hZ hA hW (rest := [.int x7]) (t_X9_many l dC dI cI cJ cZ cB zz h0 a0 c0 w0 _  hy2) wl_X9_70 wv_X9_many rfl rfl ⟨Nat.le_of_ble_eq_true rfl, Nat.le_of_ble_eq_true rfl⟩ [] [] rfl 0 rfl rfl rfl rfl hl.1 rfl (Nat.le_of_ble_eq_true rfl) dX9_days_56 [.int r1, .int x7] rfl (fun H locs hW => ?_)
          refine lv_icmp_ge (tgt := 129) S.1 S.2.1 dX9_days_59 (by decide) (fun u3 => ?_) (fun u3 => ?_)
          · have h := of_p u3 h
            refine lv_iload S.1 S.2.1 dX9_days_129 (lv_at hl 3 rfl) ?_
            refine lv_aload_n S.1 S.2.1 dX9_days_131 rfl (lv_at hl 0 rfl) ?_
            obtain ⟨r4, hy5, h⟩ := bd1_e h
            refine kv0 S hK hN hZ hA hW (rest := [.int x5]) (t_X9_isWon l dC dI cI cJ cZ cB zz h0 a0 c0 w0 _  hy5) wl_X9_246 wv_X9_isWon rfl rfl ⟨Nat.le_of_ble_eq_true rfl, Nat.le_of_ble_eq_true rfl⟩ [] [] rfl 0 rfl rfl rfl rfl hl.1 rfl (Nat.le_of_ble_eq_true rfl) dX9_days_132 [.int r4, .int x5] rfl (fun H locs hW => ?_)
            obtain ⟨y6, e7, h⟩ := lt1_e h
            suffices hM8 : ∀ ls : Array Slot, lv_has ls 8 [(0, .ref h0), (2, .int x2), (3, .long x3), (6, .int x6)] → W p l e rmX9_days s m (List.toArray [.ref h0, .int p1, .int p2]) below meth c H locs 0 0 (MQ below (kQ (dC, dI) (cwX9 cI cJ cZ cB h0 a0 c0' w0 []) (some (.int r)) A) (List.toArray [.ref h0, .int p1, .int p2]) s 0 0 A) (F0 m 143 ls [.int y6, .int x5]) by
              refine lv_if_eq (tgt := 142) S.1 S.2.1 dX9_days_135 (by decide) (fun u9 => ?_) (fun u9 => ?_)
              · refine lv_iconst (v := (0 : Int32)) S.1 S.2.1 dX9_days_142 ki_0 ?_
                have e7 := e7.trans (if_pos u9)
                subst e7
                exact hM8 ls (lv_sub hl [0, 1, 2, 4] rfl)
              · refine lv_iconst (v := (1 : Int32)) S.1 S.2.1 dX9_days_138 ki_1 ?_
                refine lv_goto (tgt := 143) S.1 S.2.1 dX9_days_139 (by decide) ?_
                have e7 := e7.trans (if_neg u9)
                subst e7
                exact hM8 ls (lv_sub hl [0, 1, 2, 4] rfl)
            intro ls hl
            refine lv_iadd S.1 S.2.1 dX9_days_143 ?_
            refine lv_istore (lv' := [(5, .int (x5 + y6)), (0, .ref h0), (2, .int x2), (3, .long x3), (6, .int x6)]) S.1 S.2.1 dX9_days_144 hl (by decide) rfl (fun ls hl => ?_)
            refine lv_iinc (v := (x6 + (1 : Int32))) (lv' := [(6, .int (x6 + (1 : Int32))), (5, .int (x5 + y6)), (0, .ref h0), (2, .int x2), (3, .long x3)]) S.1 S.2.1 dX9_days_146 hl (k := 4) rfl (congrArg (fun z => x6 + z) ki_1) (by decide) rfl (fun ls hl => ?_)
            refine lv_goto (tgt := 40) S.1 S.2.1 dX9_days_149 (by decide) ?_
            exact ih40 _ _ _ _ _ h H locs hW ls (lv_sub hl [2, 3, 4, 1, 0] rfl)
          · have h := of_n u3 h
            refine lv_aload_n S.1 S.2.1 dX9_days_62 rfl (lv_at hl 0 rfl) ?_
            refine gf (C := RX9) (T := TX9) (N := 28) (ci := 5) (k := 0) S hK hW wu_X9 rfl (by decide) wf_X9_7 0 rfl rfl dX9_days_63 ?_
            refine lv_iconst (v := (5 : Int32)) S.1 S.2.1 dX9_days_66 ki_5 ?_
            refine iaK S hK hW rfl 1 rfl b_5_194 x_5 dX9_days_67 ?_
            refine lv_iload S.1 S.2.1 dX9_days_68 (lv_at hl 5 rfl) ?_
            obtain ⟨r10, hy11, h⟩ := bd1_e h
            refine ks0 S hK hN hZ hA hW (rest := []) (t_X9_has l dC dI cI cJ cZ cB zz ((c0 0) 5) x7 _  hy11) wl_X9_120 wv_X9_has rfl rfl ⟨Nat.le_of_ble_eq_true rfl, Nat.le_of_ble_eq_true rfl⟩ [] (clX9 cI cJ cZ cB h0 a0 (c0 0) (c0 1) (c0 2) (c0 3) (w0 4 0) (w0 5 0) (c0 6) (c0 7) (c0 8) (c0 9) (c0 10) (c0 11) (c0 12) (c0 13) (c0 14 0) (c0 15 0) (c0 16 0) (c0 17 0) (c0 18) (c0 19) (c0 20) (c0 21 0) (c0 22 0) (c0 23 0) (c0 24 0) (c0 25 0) (c0 26) (c0 27) []) rfl rfl hl.1 rfl (Nat.le_of_ble_eq_true rfl) dX9_days_70 [.int r10] rfl (fun H locs hW => ?_)
            refine lv_if_ne (tgt := 123) S.1 S.2.1 dX9_days_73 (by decide) (fun u12 => ?_) (fun u12 => ?_)
            · have h := of_n u12 h
              refine lv_iinc (v := (x7 + (1 : Int32))) (lv' := [(7, .int (x7 + (1 : Int32))), (0, .ref h0), (2, .int x2), (3, .long x3), (5, .int x5), (6, .int x6)]) S.1 S.2.1 dX9_days_123 hl (k := 5) rfl (congrArg (fun z => x7 + z) ki_1) (by decide) rfl (fun ls hl => ?_)
              refine lv_goto (tgt := 53) S.1 S.2.1 dX9_days_126 (by decide) ?_
              exact ih53 _ _ _ _ _ _ h H locs hW ls (lv_sub hl [1, 2, 3, 4, 5, 0] rfl)
            · have h := of_p u12 h
              refine lv_lload_n S.1 S.2.1 dX9_days_76 rfl (lv_at hl 2 rfl) ?_
              refine lv_ldc2 (v := (1103515245 : Int64)) S.1 S.2.1 S.2.2.2.1 (S.2.2.2.2 _ wk_X9_257) dX9_days_77 ?_
              refine lv_lmul S.1 S.2.1 dX9_days_80 ?_
              refine lv_ldc2 (v := (12345 : Int64)) S.1 S.2.1 S.2.2.2.1 (S.2.2.2.2 _ wk_X9_259) dX9_days_81 ?_
              refine lv_ladd S.1 S.2.1 dX9_days_84 ?_
              refine lv_ldc2 (v := (2147483648 : Int64)) S.1 S.2.1 S.2.2.2.1 (S.2.2.2.2 _ wk_X9_261) dX9_days_85 ?_
              refine lv_lrem S.1 S.2.1 dX9_days_88 (by decide) ?_
              obtain ⟨y13, e14, h⟩ := lt1_e h
              refine nml e14 ?_
              refine lv_lstore_n (lv' := [(3, .long y13), (0, .ref h0), (2, .int x2), (5, .int x5), (6, .int x6), (7, .int x7)]) S.1 S.2.1 dX9_days_89 rfl hl (by decide) rfl (fun ls hl => ?_)
              refine lv_aload_n S.1 S.2.1 dX9_days_90 rfl (lv_at hl 1 rfl) ?_
              refine lv_iload S.1 S.2.1 dX9_days_91 (lv_at hl 5 rfl) ?_
              obtain ⟨cv15, hy16, h⟩ := bd1_e h
              refine kv (clX9 cI cJ cZ cB h0 a0 (cv15 0) (cv15 1) (cv15 2) (cv15 3) (w0 4 0) (w0 5 0) (cv15 6) (cv15 7) (cv15 8) (cv15 9) (cv15 10) (cv15 11) (cv15 12) (cv15 13) (cv15 14 0) (cv15 15 0) (cv15 16 0) (cv15 17 0) (cv15 18) (cv15 19) (cv15 20) (cv15 21 0) (cv15 22 0) (cv15 23 0) (cv15 24 0) (cv15 25 0) (cv15 26) (cv15 27) []) S hK hN hZ hA hW (rest := []) (t_X9_goSaying l dC dI cI cJ cZ cB zz h0 a0 c0 w0 x7 _  hy16) wl_X9_203 wv_X9_goSaying rfl rfl ⟨Nat.le_of_ble_eq_true rfl, Nat.le_of_ble_eq_true rfl⟩ [] [] rfl rfl rfl 0 rfl rfl rfl rfl hl.1 rfl (Nat.le_of_ble_eq_true rfl) dX9_days_93 [] rfl (fun H locs hW => ?_)
              refine lv_lload_n S.1 S.2.1 dX9_days_96 rfl (lv_at hl 0 rfl) ?_
              refine lv_ldc2 (v := (65536 : Int64)) S.1 S.2.1 S.2.2.2.1 (S.2.2.2.2 _ wk_X9_263) dX9_days_97 ?_
              refine lv_ldiv S.1 S.2.1 dX9_days_100 (by decide) ?_
              refine lv_ldc2 (v := (2 : Int64)) S.1 S.2.1 S.2.2.2.1 (S.2.2.2.2 _ wk_X9_143) dX9_days_101 ?_
              refine lv_lrem S.1 S.2.1 dX9_days_104 (by decide) ?_
              refine lv_lconst (v := (1 : Int64)) S.1 S.2.1 dX9_days_105 rfl ?_
              refine W.lcmp S.1 S.2.1 dX9_days_106 ?_
              refine lv_if_ne (tgt := 123) S.1 S.2.1 dX9_days_107 (by decide) (fun u17 => ?_) (fun u17 => ?_)
              · have h := of_n u17 h
                refine lv_iinc (v := (x7 + (1 : Int32))) (lv' := [(7, .int (x7 + (1 : Int32))), (3, .long y13), (0, .ref h0), (2, .int x2), (5, .int x5), (6, .int x6)]) S.1 S.2.1 dX9_days_123 hl (k := 5) rfl (congrArg (fun z => x7 + z) ki_1) (by decide) rfl (fun ls hl => ?_)
                refine lv_goto (tgt := 53) S.1 S.2.1 dX9_days_126 (by decide) ?_
                exact ih53 _ _ _ _ _ _ h H locs hW ls (lv_sub hl [2, 3, 1, 4, 5, 0] rfl)
              · have h := of_p u17 h
                refine lv_aload_n S.1 S.2.1 dX9_days_110 rfl (lv_at hl 1 rfl) ?_
                refine lv_iload S.1 S.2.1 dX9_days_111 (lv_at hl 5 rfl) ?_
                obtain ⟨r18, hy19, h⟩ := bd1_e h
                refine kv0 S hK hN hZ hA hW (rest := []) (t_X9_mayTo l dC dI cI cJ cZ cB zz h0 a0 cv15 w0 x7 _  hy19) wl_X9_210 wv_X9_mayTo rfl rfl ⟨Nat.le_of_ble_eq_true rfl, Nat.le_of_ble_eq_true rfl⟩ [] [] rfl 0 rfl rfl rfl rfl hl.1 rfl (Nat.le_of_ble_eq_true rfl) dX9_days_113 [.int r18] rfl (fun H locs hW => ?_)
                refine lv_if_eq (tgt := 123) S.1 S.2.1 dX9_days_116 (by decide) (fun u20 => ?_) (fun u20 => ?_)
                · have h := of_p u20 h
                  refine lv_iinc (v := (x7 + (1 : Int32))) (lv' := [(7, .int (x7 + (1 : Int32))), (3, .long y13), (0, .ref h0), (2, .int x2), (5, .int x5), (6, .int x6)]) S.1 S.2.1 dX9_days_123 hl (k := 5) rfl (congrArg (fun z => x7 + z) ki_1) (by decide) rfl (fun ls hl => ?_)
                  refine lv_goto (tgt := 53) S.1 S.2.1 dX9_days_126 (by decide) ?_
                  exact ih53 _ _ _ _ _ _ h H locs hW ls (lv_sub hl [2, 3, 1, 4, 5, 0] rfl)
                · have h := of_n u20 h
                  refine lv_aload_n S.1 S.2.1 dX9_days_119 rfl (lv_at hl 1 rfl) ?_
                  obtain ⟨cv21, hy22, h⟩ := bd1_e h
                  refine kv (clX9 cI cJ cZ cB h0 a0 (cv21 0) (cv21 1) (cv21 2) (cv21 3) (w0 4 0) (w0 5 0) (cv21 6) (cv21 7) (cv21 8) (cv21 9) (cv21 10) (cv21 11) (cv21 12) (cv21 13) (cv21 14 0) (cv21 15 0) (cv21 16 0) (cv21 17 0) (cv21 18) (cv21 19) (cv21 20) (cv21 21 0) (cv21 22 0) (cv21 23 0) (cv21 24 0) (cv21 25 0) (cv21 26) (cv21 27) []) S hK hN hZ hA hW (rest := []) (t_X9_goObjecting l dC dI cI cJ cZ cB zz h0 a0 cv15 w0 _  hy22) wl_X9_213 wv_X9_goObjecting rfl rfl ⟨Nat.le_of_ble_eq_true rfl, Nat.le_of_ble_eq_true rfl⟩ [] [] rfl rfl rfl 0 rfl rfl rfl rfl hl.1 rfl (Nat.le_of_ble_eq_true rfl) dX9_days_120 [] rfl (fun H locs hW => ?_)
                  refine lv_iinc (v := (x7 + (1 : Int32))) (lv' := [(7, .int (x7 + (1 : Int32))), (3, .long y13), (0, .ref h0), (2, .int x2), (5, .int x5), (6, .int x6)]) S.1 S.2.1 dX9_days_123 hl (k := 5) rfl (congrArg (fun z => x7 + z) ki_1) (by decide) rfl (fun ls hl => ?_)
                  refine lv_goto (tgt := 53) S.1 S.2.1 dX9_days_126 (by decide) ?_
                  exact ih53 _ _ _ _ _ _ h H locs hW ls (lv_sub hl [2, 3, 1, 4, 5, 0] rfl)
      refine lv_iload S.1 S.2.1 dX9_days_40 (lv_at hl 4 rfl) ?_
      refine lv_iload_n S.1 S.2.1 dX9_days_42 rfl (lv_at hl 1 rfl) ?_
      refine lv_icmp_ge (tgt := 152) S.1 S.2.1 dX9_days_43 (by decide) (fun u23 => ?_) (fun u23 => ?_)
      · have h := of_p u23 h
        refine lv_iload S.1 S.2.1 dX9_days_152 (lv_at hl 3 rfl) ?_
        have f24 := Option.some.inj h
        obtain ⟨f25, f26⟩ := Prod.mk.inj f24
        subst f25
        subst f26
        exact ri S hr hlocks hW dX9_days_154
      · have h := of_n u23 h
        refine lv_aload_n S.1 S.2.1 dX9_days_46 rfl (lv_at hl 0 rfl) ?_
        obtain ⟨cv27, hy28, h⟩ := bd1_e h
        refine kv (clX9 cI cJ cZ cB h0 a0 (cv27 0) (cv27 1) (cv27 2) (cv27 3) (w0 4 0) (w0 5 0) (cv27 6) (cv27 7) (cv27 8) (cv27 9) (cv27 10) (cv27 11) (cv27 12) (cv27 13) (cv27 14 0) (cv27 15 0) (cv27 16 0) (cv27 17 0) (cv27 18) (cv27 19) (cv27 20) (cv27 21 0) (cv27 22 0) (cv27 23 0) (cv27 24 0) (cv27 25 0) (cv27 26) (cv27 27) []) S hK hN hZ hA hW (rest := []) (t_X9_layNow l dC dI cI cJ cZ cB zz h0 a0 c0 w0 _  hy28) wl_X9_200 wv_X9_layNow rfl rfl ⟨Nat.le_of_ble_eq_true rfl, Nat.le_of_ble_eq_true rfl⟩ [] [] rfl rfl rfl 0 rfl rfl rfl rfl hl.1 rfl (Nat.le_of_ble_eq_true rfl) dX9_days_47 [] rfl (fun H locs hW => ?_)
        refine lv_iconst (v := (0 : Int32)) S.1 S.2.1 dX9_days_50 ki_0 ?_
        refine lv_istore (lv' := [(7, .int (0 : Int32)), (0, .ref h0), (2, .int x2), (3, .long x3), (5, .int x5), (6, .int x6)]) S.1 S.2.1 dX9_days_51 hl (by decide) rfl (fun ls hl => ?_)
        exact hL53 F _ _ _ _ _ _ h H locs hW ls (lv_sub hl [1, 2, 3, 4, 5, 0] rfl)
  have hJ24 : ∀ (c0 : Nat → Nat → Int32), jd_X9_days_24 F w0 c0 = some (r, c0') → ∀ (H : Heap) (locs : List Loc), wd (dC, dI) A s.heap (clX9 cI cJ cZ cB h0 a0 (c0 0) (c0 1) (c0 2) (c0 3) (w0 4 0) (w0 5 0) (c0 6) (c0 7) (c0 8) (c0 9) (c0 10) (c0 11) (c0 12) (c0 13) (c0 14 0) (c0 15 0) (c0 16 0) (c0 17 0) (c0 18) (c0 19) (c0 20) (c0 21 0) (c0 22 0) (c0 23 0) (c0 24 0) (c0 25 0) (c0 26) (c0 27) []) H locs → ∀ ls : Array Slot, lv_has ls 8 [(0, .ref h0)] → W p l e rmX9_days s m (List.toArray [.ref h0, .int p1, .int p2]) below meth c H locs 0 0 (MQ below (kQ (dC, dI) (cwX9 cI cJ cZ cB h0 a0 c0' w0 []) (some (.int r)) A) (List.toArray [.ref h0, .int p1, .int p2]) s 0 0 A) (F0 m 24 ls []) := by
    intro c0 h H locs hW ls hl
    rw [jd_X9_days_24] at h
    refine lv_aload_n S.1 S.2.1 dX9_days_24 rfl (lv_at hl 0 rfl) ?_
    refine lv_bipush (v := (-2 : Int32)) S.1 S.2.1 dX9_days_25 kb_m2 ?_
    obtain ⟨r29, cv30, hy31, h⟩ := bd2_e h
    refine kv (clX9 cI cJ cZ cB h0 a0 (cv30 0) (cv30 1) (cv30 2) (cv30 3) (w0 4 0) (w0 5 0) (cv30 6) (cv30 7) (cv30 8) (cv30 9) (cv30 10) (cv30 11) (cv30 12) (cv30 13) (cv30 14 0) (cv30 15 0) (cv30 16 0) (cv30 17 0) (cv30 18) (cv30 19) (cv30 20) (cv30 21 0) (cv30 22 0) (cv30 23 0) (cv30 24 0) (cv30 25 0) (cv30 26) (cv30 27) []) S hK hN hZ hA hW (rest := []) (t_X9_bad l dC dI cI cJ cZ cB zz h0 a0 c0 w0 (-2 : Int32) _ _  hy31) wl_X9_84 wv_X9_bad rfl rfl ⟨Nat.le_of_ble_eq_true rfl, Nat.le_of_ble_eq_true rfl⟩ [] [] rfl rfl rfl 0 rfl rfl rfl rfl hl.1 rfl (Nat.le_of_ble_eq_true rfl) dX9_days_27 [.int r29] rfl (fun H locs hW => ?_)
    have f32 := Option.some.inj h
    obtain ⟨f33, f34⟩ := Prod.mk.inj f32
    subst f33
    subst f34
    exact ri S hr hlocks hW dX9_days_30
  refine lv_iload_n S.1 S.2.1 dX9_days_0 rfl (lv_at hl 1 rfl) ?_
  refine lv_i2l S.1 S.2.1 dX9_days_1 rfl ?_
  refine lv_lconst (v := (0 : Int64)) S.1 S.2.1 dX9_days_2 rfl ?_
  refine lv_ldc2 (v := (999999 : Int64)) S.1 S.2.1 S.2.2.2.1 (S.2.2.2.2 _ wk_X9_253) dX9_days_3 ?_
  obtain ⟨r35, hy36, h⟩ := bd1_e h
  refine ks0 S hK hN hZ hA hW (rest := []) (t_X9_in l dC dI cI cJ cZ cB zz p1.toInt64 (0 : Int64) (999999 : Int64) _  hy36) wl_X9_74 wv_X9_in rfl rfl ⟨Nat.le_of_ble_eq_true rfl, Nat.le_of_ble_eq_true rfl⟩ [] (clX9 cI cJ cZ cB h0 a0 (c0 0) (c0 1) (c0 2) (c0 3) (w0 4 0) (w0 5 0) (c0 6) (c0 7) (c0 8) (c0 9) (c0 10) (c0 11) (c0 12) (c0 13) (c0 14 0) (c0 15 0) (c0 16 0) (c0 17 0) (c0 18) (c0 19) (c0 20) (c0 21 0) (c0 22 0) (c0 23 0) (c0 24 0) (c0 25 0) (c0 26) (c0 27) []) rfl rfl hl.1 rfl (Nat.le_of_ble_eq_true rfl) dX9_days_6 [.int r35] rfl (fun H locs hW => ?_)
  refine lv_if_eq (tgt := 24) S.1 S.2.1 dX9_days_9 (by decide) (fun u37 => ?_) (fun u37 => ?_)
  · have h := of_p u37 h
    exact hJ24 _ h H locs hW ls (lv_sub hl [0] rfl)
  · have h := of_n u37 h
    refine lv_iload_n S.1 S.2.1 dX9_days_12 rfl (lv_at hl 2 rfl) ?_
    refine lv_i2l S.1 S.2.1 dX9_days_13 rfl ?_
    refine lv_lconst (v := (0 : Int64)) S.1 S.2.1 dX9_days_14 rfl ?_
    refine lv_ldc2 (v := (60 : Int64)) S.1 S.2.1 S.2.2.2.1 (S.2.2.2.2 _ wk_X9_255) dX9_days_15 ?_
    obtain ⟨r38, hy39, h⟩ := bd1_e h
    refine ks0 S hK hN hZ hA hW (rest := []) (t_X9_in l dC dI cI cJ cZ cB zz p2.toInt64 (0 : Int64) (60 : Int64) _  hy39) wl_X9_74 wv_X9_in rfl rfl ⟨Nat.le_of_ble_eq_true rfl, Nat.le_of_ble_eq_true rfl⟩ [] (clX9 cI cJ cZ cB h0 a0 (c0 0) (c0 1) (c0 2) (c0 3) (w0 4 0) (w0 5 0) (c0 6) (c0 7) (c0 8) (c0 9) (c0 10) (c0 11) (c0 12) (c0 13) (c0 14 0) (c0 15 0) (c0 16 0) (c0 17 0) (c0 18) (c0 19) (c0 20) (c0 21 0) (c0 22 0) (c0 23 0) (c0 24 0) (c0 25 0) (c0 26) (c0 27) []) rfl rfl hl.1 rfl (Nat.le_of_ble_eq_true rfl) dX9_days_18 [.int r38] rfl (fun H locs hW => ?_)
    refine lv_if_ne (tgt := 31) S.1 S.2.1 dX9_days_21 (by decide) (fun u40 => ?_) (fun u40 => ?_)
    · have h := of_n u40 h
      refine lv_iload_n S.1 S.2.1 dX9_days_31 rfl (lv_at hl 1 rfl) ?_
      refine lv_i2l S.1 S.2.1 dX9_days_32 rfl ?_
      refine lv_lstore_n (lv' := [(3, .long p1.toInt64), (0, .ref h0), (1, .int p1), (2, .int p2)]) S.1 S.2.1 dX9_days_33 rfl hl (by decide) rfl (fun ls hl => ?_)
      refine lv_iconst (v := (0 : Int32)) S.1 S.2.1 dX9_days_34 ki_0 ?_
      refine lv_istore (lv' := [(5, .int (0 : Int32)), (3, .long p1.toInt64), (0, .ref h0), (1, .int p1), (2, .int p2)]) S.1 S.2.1 dX9_days_35 hl (by decide) rfl (fun ls hl => ?_)
      refine lv_iconst (v := (0 : Int32)) S.1 S.2.1 dX9_days_37 ki_0 ?_
      refine lv_istore (lv' := [(6, .int (0 : Int32)), (5, .int (0 : Int32)), (3, .long p1.toInt64), (0, .ref h0), (1, .int p1), (2, .int p2)]) S.1 S.2.1 dX9_days_38 hl (by decide) rfl (fun ls hl => ?_)
      exact hL40 F _ _ _ _ _ h H locs hW ls (lv_sub hl [3, 5, 2, 1, 0] rfl)
    · have h := of_p u40 h
      exact hJ24 _ h H locs hW ls (lv_sub hl [0] rfl)
abbrev rmX9_type : Room := { frames := 1, cells := 0, slots := 0, locals := 25 }
set_option maxHeartbeats 4000000 in
set_option maxRecDepth 100000 in
theorem t_X9_type (l : Launch) (dC : Nat → ClassId) (dI : Nat → Nat → Nat) (cI cJ cZ cB : ClassId) (zz : ZT)  (h0 : Nat) (a0 : Nat → Nat) (c0 : Nat → Nat → Int32) (w0 : Nat → Nat → Int64) (p1 : Int32) (r : Int32) (c0' : Nat → Nat → Int32) (hm : md_X9_type c0 w0 p1 = some (r, c0')) : ct l (dC, dI) zz (ty4 cI cJ cZ cB) yX9_type cX9_type 2 (some .int) rmX9_type [.ref h0, .int p1] (cwX9 cI cJ cZ cB h0 a0 c0 w0 []) (cwX9 cI cJ cZ cB h0 a0 c0' w0 []) (some (.int r)) := by
  refine ct_of (cc := cX9_type) (maxL := 2) (ret := (some .int)) (by decide) (Nat.le_of_ble_eq_true rfl) ?_
  intro p e s m below meth c A S hr hlocks hK hN hZ hA H locs hW ls hl
  have S : CallFix p m c cX9_type 2 s (List.toArray [.ref h0, .int p1]) G RX9 := S
  have hl : lv_has ls 2 [(0, .ref h0), (1, .int p1)] := hl
  have h := hm
  rw [md_X9_type] at h
  have hW : wd (dC, dI) A s.heap (clX9 cI cJ cZ cB h0 a0 (c0 0) (c0 1) (c0 2) (c0 3) (w0 4 0) (w0 5 0) (c0 6) (c0 7) (c0 8) (c0 9) (c0 10) (c0 11) (c0 12) (c0 13) (c0 14 0) (c0 15 0) (c0 16 0) (c0 17 0) (c0 18) (c0 19) (c0 20) (c0 21 0) (c0 22 0) (c0 23 0) (c0 24 0) (c0 25 0) (c0 26) (c0 27) []) H locs := hW
  refine lv_iload_n S.1 S.2.1 dX9_type_0 rfl (lv_at hl 1 rfl) ?_
  refine lv_i2l S.1 S.2.1 dX9_type_1 rfl ?_
  refine lv_lconst (v := (0 : Int64)) S.1 S.2.1 dX9_type_2 rfl ?_
  refine lv_ldc2 (v := (127 : Int64)) S.1 S.2.1 S.2.2.2.1 (S.2.2.2.2 _ wk_X9_265) dX9_type_3 ?_
  obtain ⟨r1, hy2, h⟩ := bd1_e h
  refine ks0 S hK hN hZ hA hW (rest := []) (t_X9_in l dC dI cI cJ cZ cB zz p1.toInt64 (0 : Int64) (127 : Int64) _  hy2) wl_X9_74 wv_X9_in rfl rfl ⟨Nat.le_of_ble_eq_true rfl, Nat.le_of_ble_eq_true rfl⟩ [] (clX9 cI cJ cZ cB h0 a0 (c0 0) (c0 1) (c0 2) (c0 3) (w0 4 0) (w0 5 0) (c0 6) (c0 7) (c0 8) (c0 9) (c0 10) (c0 11) (c0 12) (c0 13) (c0 14 0) (c0 15 0) (c0 16 0) (c0 17 0) (c0 18) (c0 19) (c0 20) (c0 21 0) (c0 22 0) (c0 23 0) (c0 24 0) (c0 25 0) (c0 26) (c0 27) []) rfl rfl hl.1 rfl (Nat.le_of_ble_eq_true rfl) dX9_type_6 [.int r1] rfl (fun H locs hW => ?_)
  refine lv_if_ne (tgt := 19) S.1 S.2.1 dX9_type_9 (by decide) (fun u3 => ?_) (fun u3 => ?_)
  · have h := of_n u3 h
    refine lv_aload_n S.1 S.2.1 dX9_type_19 rfl (lv_at hl 0 rfl) ?_
    refine gf (C := RX9) (T := TX9) (N := 28) (ci := 5) (k := 21) S hK hW wu_X9 rfl (by decide) wf_X9_267 0 rfl rfl dX9_type_20 ?_
    refine lv_sipush (v := (150 : Int32)) S.1 S.2.1 dX9_type_23 ks_150 ?_
    refine lv_icmp_ne (tgt := 34) S.1 S.2.1 dX9_type_26 (by decide) (fun u4 => ?_) (fun u4 => ?_)
    · have h := of_n u4 h
      refine lv_aload_n S.1 S.2.1 dX9_type_34 rfl (lv_at hl 0 rfl) ?_
      refine gf (C := RX9) (T := TX9) (N := 28) (ci := 5) (k := 20) S hK hW wu_X9 rfl (by decide) wf_X9_57 0 rfl rfl dX9_type_35 ?_
      refine lv_aload_n S.1 S.2.1 dX9_type_38 rfl (lv_at hl 0 rfl) ?_
      refine gf (C := RX9) (T := TX9) (N := 28) (ci := 5) (k := 21) S hK hW wu_X9 rfl (by decide) wf_X9_267 0 rfl rfl dX9_type_39 ?_
      refine lv_iload_n S.1 S.2.1 dX9_type_42 rfl (lv_at hl 1 rfl) ?_
      obtain ⟨z5, h⟩ := of_g h
      refine ist S hK hW rfl 15 rfl z5 dX9_type_43 (fun H locs hW => ?_)
      have hW : wd (dC, dI) A s.heap (clX9 cI cJ cZ cB h0 a0 (c0 0) (c0 1) (c0 2) (c0 3) (w0 4 0) (w0 5 0) (c0 6) (c0 7) (c0 8) (c0 9) (c0 10) (c0 11) (c0 12) (c0 13) (c0 14 0) (c0 15 0) (c0 16 0) (c0 17 0) (c0 18) (c0 19) (upd (c0 20) (ix (c0 21 0)) p1) (c0 21 0) (c0 22 0) (c0 23 0) (c0 24 0) (c0 25 0) (c0 26) (c0 27) []) H locs := hW
      refine lv_aload_n S.1 S.2.1 dX9_type_44 rfl (lv_at hl 0 rfl) ?_
      refine lv_dup S.1 S.2.1 dX9_type_45 rfl ?_
      refine gf (C := RX9) (T := TX9) (N := 28) (ci := 5) (k := 21) S hK hW wu_X9 rfl (by decide) wf_X9_267 0 rfl rfl dX9_type_46 ?_
      refine lv_iconst (v := (1 : Int32)) S.1 S.2.1 dX9_type_49 ki_1 ?_
      refine lv_iadd S.1 S.2.1 dX9_type_50 ?_
      refine pf (C := RX9) (T := TX9) (N := 28) (ci := 5) (k := 21) (ty := .int) S hK hW wu_X9 rfl (by decide) tyX9 tyX9_ok nmX9 wf_X9_267 0 rfl rfl rfl rfl rfl (Nat.le_of_ble_eq_true rfl) dX9_type_51 (fun H locs hW => ?_)
      have hW : wd (dC, dI) A s.heap (clX9 cI cJ cZ cB h0 a0 (c0 0) (c0 1) (c0 2) (c0 3) (w0 4 0) (w0 5 0) (c0 6) (c0 7) (c0 8) (c0 9) (c0 10) (c0 11) (c0 12) (c0 13) (c0 14 0) (c0 15 0) (c0 16 0) (c0 17 0) (c0 18) (c0 19) (upd (c0 20) (ix (c0 21 0)) p1) ((c0 21 0) + (1 : Int32)) (c0 22 0) (c0 23 0) (c0 24 0) (c0 25 0) (c0 26) (c0 27) []) H locs := hW
      refine lv_aload_n S.1 S.2.1 dX9_type_54 rfl (lv_at hl 0 rfl) ?_
      refine gf (C := RX9) (T := TX9) (N := 28) (ci := 5) (k := 21) S hK hW wu_X9 rfl (by decide) wf_X9_267 0 rfl rfl dX9_type_55 ?_
      have f6 := Option.some.inj h
      obtain ⟨f7, f8⟩ := Prod.mk.inj f6
      subst f7
      subst f8
      exact ri S hr hlocks hW dX9_type_58
    · have h := of_p u4 h
      refine lv_aload_n S.1 S.2.1 dX9_type_29 rfl (lv_at hl 0 rfl) ?_
      obtain ⟨r9, cv10, hy11, h⟩ := bd2_e h
      refine kv (clX9 cI cJ cZ cB h0 a0 (cv10 0) (cv10 1) (cv10 2) (cv10 3) (w0 4 0) (w0 5 0) (cv10 6) (cv10 7) (cv10 8) (cv10 9) (cv10 10) (cv10 11) (cv10 12) (cv10 13) (cv10 14 0) (cv10 15 0) (cv10 16 0) (cv10 17 0) (cv10 18) (cv10 19) (cv10 20) (cv10 21 0) (cv10 22 0) (cv10 23 0) (cv10 24 0) (cv10 25 0) (cv10 26) (cv10 27) []) S hK hN hZ hA hW (rest := []) (t_X9_full l dC dI cI cJ cZ cB zz h0 a0 c0 w0 _ _  hy11) wl_X9_95 wv_X9_full rfl rfl ⟨Nat.le_of_ble_eq_true rfl, Nat.le_of_ble_eq_true rfl⟩ [] [] rfl rfl rfl 0 rfl rfl rfl rfl hl.1 rfl (Nat.le_of_ble_eq_true rfl) dX9_type_30 [.int r9] rfl (fun H locs hW => ?_)
      have f12 := Option.some.inj h
      obtain ⟨f13, f14⟩ := Prod.mk.inj f12
      subst f13
      subst f14
      exact ri S hr hlocks hW dX9_type_33
  · have h := of_p u3 h
    refine lv_aload_n S.1 S.2.1 dX9_type_12 rfl (lv_at hl 0 rfl) ?_
    refine lv_bipush (v := (-2 : Int32)) S.1 S.2.1 dX9_type_13 kb_m2 ?_
    obtain ⟨r15, cv16, hy17, h⟩ := bd2_e h
    refine kv (clX9 cI cJ cZ cB h0 a0 (cv16 0) (cv16 1) (cv16 2) (cv16 3) (w0 4 0) (w0 5 0) (cv16 6) (cv16 7) (cv16 8) (cv16 9) (cv16 10) (cv16 11) (cv16 12) (cv16 13) (cv16 14 0) (cv16 15 0) (cv16 16 0) (cv16 17 0) (cv16 18) (cv16 19) (cv16 20) (cv16 21 0) (cv16 22 0) (cv16 23 0) (cv16 24 0) (cv16 25 0) (cv16 26) (cv16 27) []) S hK hN hZ hA hW (rest := []) (t_X9_bad l dC dI cI cJ cZ cB zz h0 a0 c0 w0 (-2 : Int32) _ _  hy17) wl_X9_84 wv_X9_bad rfl rfl ⟨Nat.le_of_ble_eq_true rfl, Nat.le_of_ble_eq_true rfl⟩ [] [] rfl rfl rfl 0 rfl rfl rfl rfl hl.1 rfl (Nat.le_of_ble_eq_true rfl) dX9_type_15 [.int r15] rfl (fun H locs hW => ?_)
    have f18 := Option.some.inj h
    obtain ⟨f19, f20⟩ := Prod.mk.inj f18
    subst f19
    subst f20
    exact ri S hr hlocks hW dX9_type_18
abbrev rmX9_clear : Room := { frames := 0, cells := 0, slots := 0, locals := 0 }
set_option maxHeartbeats 4000000 in
set_option maxRecDepth 100000 in
theorem t_X9_clear (l : Launch) (dC : Nat → ClassId) (dI : Nat → Nat → Nat) (cI cJ cZ cB : ClassId) (zz : ZT)  (h0 : Nat) (a0 : Nat → Nat) (c0 : Nat → Nat → Int32) (w0 : Nat → Nat → Int64) (r : Int32) (c0' : Nat → Nat → Int32) (hm : md_X9_clear c0 w0 = some (r, c0')) : ct l (dC, dI) zz (ty4 cI cJ cZ cB) yX9_clear cX9_clear 2 (some .int) rmX9_clear [.ref h0] (cwX9 cI cJ cZ cB h0 a0 c0 w0 []) (cwX9 cI cJ cZ cB h0 a0 c0' w0 []) (some (.int r)) := by
  refine ct_of (cc := cX9_clear) (maxL := 2) (ret := (some .int)) (by decide) (Nat.le_of_ble_eq_true rfl) ?_
  intro p e s m below meth c A S hr hlocks hK hN hZ hA H locs hW ls hl
  have S : CallFix p m c cX9_clear 2 s (List.toArray [.ref h0]) G RX9 := S
  have hl : lv_has ls 2 [(0, .ref h0)] := hl
  have h := hm
  rw [md_X9_clear] at h
  have hW : wd (dC, dI) A s.heap (clX9 cI cJ cZ cB h0 a0 (c0 0) (c0 1) (c0 2) (c0 3) (w0 4 0) (w0 5 0) (c0 6) (c0 7) (c0 8) (c0 9) (c0 10) (c0 11) (c0 12) (c0 13) (c0 14 0) (c0 15 0) (c0 16 0) (c0 17 0) (c0 18) (c0 19) (c0 20) (c0 21 0) (c0 22 0) (c0 23 0) (c0 24 0) (c0 25 0) (c0 26) (c0 27) []) H locs := hW
  refine lv_aload_n S.1 S.2.1 dX9_clear_0 rfl (lv_at hl 0 rfl) ?_
  refine gf (C := RX9) (T := TX9) (N := 28) (ci := 5) (k := 21) S hK hW wu_X9 rfl (by decide) wf_X9_267 0 rfl rfl dX9_clear_1 ?_
  refine lv_istore_n (lv' := [(1, .int (c0 21 0)), (0, .ref h0)]) S.1 S.2.1 dX9_clear_4 rfl hl (by decide) rfl (fun ls hl => ?_)
  refine lv_aload_n S.1 S.2.1 dX9_clear_5 rfl (lv_at hl 1 rfl) ?_
  refine lv_iconst (v := (0 : Int32)) S.1 S.2.1 dX9_clear_6 ki_0 ?_
  refine pf (C := RX9) (T := TX9) (N := 28) (ci := 5) (k := 21) (ty := .int) S hK hW wu_X9 rfl (by decide) tyX9 tyX9_ok nmX9 wf_X9_267 0 rfl rfl rfl rfl rfl (Nat.le_of_ble_eq_true rfl) dX9_clear_7 (fun H locs hW => ?_)
  have hW : wd (dC, dI) A s.heap (clX9 cI cJ cZ cB h0 a0 (c0 0) (c0 1) (c0 2) (c0 3) (w0 4 0) (w0 5 0) (c0 6) (c0 7) (c0 8) (c0 9) (c0 10) (c0 11) (c0 12) (c0 13) (c0 14 0) (c0 15 0) (c0 16 0) (c0 17 0) (c0 18) (c0 19) (c0 20) (0 : Int32) (c0 22 0) (c0 23 0) (c0 24 0) (c0 25 0) (c0 26) (c0 27) []) H locs := hW
  refine lv_iload_n S.1 S.2.1 dX9_clear_10 rfl (lv_at hl 0 rfl) ?_
  have f1 := Option.some.inj h
  obtain ⟨f2, f3⟩ := Prod.mk.inj f1
  subst f2
  subst f3
  exact ri S hr hlocks hW dX9_clear_11
abbrev rmX9_isSmall : Room := { frames := 1, cells := 0, slots := 0, locals := 25 }
set_option maxHeartbeats 4000000 in
set_option maxRecDepth 100000 in
theorem t_X9_isSmall (l : Launch) (dC : Nat → ClassId) (dI : Nat → Nat → Nat) (cI cJ cZ cB : ClassId) (zz : ZT)   (p0 : Int32) (r : Int32) (hm : md_X9_isSmall p0 = some (r)) : ct l (dC, dI) zz (ty4 cI cJ cZ cB) yX9_isSmall cX9_isSmall 1 (some .boolean) rmX9_isSmall [.int p0] [] [] (some (.int r)) := by
  refine ct_of (cc := cX9_isSmall) (maxL := 1) (ret := (some .boolean)) (by decide) (Nat.le_of_ble_eq_true rfl) ?_
  intro p e s m below meth c A S hr hlocks hK hN hZ hA H locs hW ls hl
  have S : CallFix p m c cX9_isSmall 1 s (List.toArray [.int p0]) G RX9 := S
  have hl : lv_has ls 1 [(0, .int p0)] := hl
  have h := hm
  rw [md_X9_isSmall] at h
  have hW : wd (dC, dI) A s.heap [] H locs := hW
  refine lv_iload_n S.1 S.2.1 dX9_isSmall_0 rfl (lv_at hl 0 rfl) ?_
  refine lv_i2l S.1 S.2.1 dX9_isSmall_1 rfl ?_
  refine lv_ldc2 (v := (97 : Int64)) S.1 S.2.1 S.2.2.2.1 (S.2.2.2.2 _ wk_X9_270) dX9_isSmall_2 ?_
  refine lv_ldc2 (v := (122 : Int64)) S.1 S.2.1 S.2.2.2.1 (S.2.2.2.2 _ wk_X9_272) dX9_isSmall_5 ?_
  obtain ⟨r1, hy2, h⟩ := bd1_e h
  refine ks0 S hK hN hZ hA hW (rest := []) (t_X9_in l dC dI cI cJ cZ cB zz p0.toInt64 (97 : Int64) (122 : Int64) _  hy2) wl_X9_74 wv_X9_in rfl rfl ⟨Nat.le_of_ble_eq_true rfl, Nat.le_of_ble_eq_true rfl⟩ [] [] rfl rfl hl.1 rfl (Nat.le_of_ble_eq_true rfl) dX9_isSmall_8 [.int r1] rfl (fun H locs hW => ?_)
  obtain ⟨z3, h⟩ := of_g h
  have f4 := Option.some.inj h
  subst f4
  exact rz S hr hlocks hW (nz z3) dX9_isSmall_11
abbrev rmX9_isFigure : Room := { frames := 1, cells := 0, slots := 0, locals := 25 }
set_option maxHeartbeats 4000000 in
set_option maxRecDepth 100000 in
theorem t_X9_isFigure (l : Launch) (dC : Nat → ClassId) (dI : Nat → Nat → Nat) (cI cJ cZ cB : ClassId) (zz : ZT)   (p0 : Int32) (r : Int32) (hm : md_X9_isFigure p0 = some (r)) : ct l (dC, dI) zz (ty4 cI cJ cZ cB) yX9_isFigure cX9_isFigure 1 (some .boolean) rmX9_isFigure [.int p0] [] [] (some (.int r)) := by
  refine ct_of (cc := cX9_isFigure) (maxL := 1) (ret := (some .boolean)) (by decide) (Nat.le_of_ble_eq_true rfl) ?_
  intro p e s m below meth c A S hr hlocks hK hN hZ hA H locs hW ls hl
  have S : CallFix p m c cX9_isFigure 1 s (List.toArray [.int p0]) G RX9 := S
  have hl : lv_has ls 1 [(0, .int p0)] := hl
  have h := hm
  rw [md_X9_isFigure] at h
  have hW : wd (dC, dI) A s.heap [] H locs := hW
  refine lv_iload_n S.1 S.2.1 dX9_isFigure_0 rfl (lv_at hl 0 rfl) ?_
  refine lv_i2l S.1 S.2.1 dX9_isFigure_1 rfl ?_
  refine lv_ldc2 (v := (48 : Int64)) S.1 S.2.1 S.2.2.2.1 (S.2.2.2.2 _ wk_X9_274) dX9_isFigure_2 ?_
  refine lv_ldc2 (v := (57 : Int64)) S.1 S.2.1 S.2.2.2.1 (S.2.2.2.2 _ wk_X9_276) dX9_isFigure_5 ?_
  obtain ⟨r1, hy2, h⟩ := bd1_e h
  refine ks0 S hK hN hZ hA hW (rest := []) (t_X9_in l dC dI cI cJ cZ cB zz p0.toInt64 (48 : Int64) (57 : Int64) _  hy2) wl_X9_74 wv_X9_in rfl rfl ⟨Nat.le_of_ble_eq_true rfl, Nat.le_of_ble_eq_true rfl⟩ [] [] rfl rfl hl.1 rfl (Nat.le_of_ble_eq_true rfl) dX9_isFigure_8 [.int r1] rfl (fun H locs hW => ?_)
  obtain ⟨z3, h⟩ := of_g h
  have f4 := Option.some.inj h
  subst f4
  exact rz S hr hlocks hW (nz z3) dX9_isFigure_11
abbrev rmX9_lookAt : Room := { frames := 2, cells := 0, slots := 0, locals := 45 }
set_option maxHeartbeats 4000000 in
set_option maxRecDepth 100000 in
theorem t_X9_lookAt (l : Launch) (dC : Nat → ClassId) (dI : Nat → Nat → Nat) (cI cJ cZ cB : ClassId) (zz : ZT)  (h0 : Nat) (a0 : Nat → Nat) (F : Nat) (c0 : Nat → Nat → Int32) (w0 : Nat → Nat → Int64) (p1 : Int32) (c0' : Nat → Nat → Int32) (hm : md_X9_lookAt F c0 w0 p1 = some (c0')) : ct l (dC, dI) zz (ty4 cI cJ cZ cB) yX9_lookAt cX9_lookAt 5 none rmX9_lookAt [.ref h0, .int p1] (cwX9 cI cJ cZ cB h0 a0 c0 w0 []) (cwX9 cI cJ cZ cB h0 a0 c0' w0 []) none := by
  refine ct_of (cc := cX9_lookAt) (maxL := 5) (ret := none) (by decide) (Nat.le_of_ble_eq_true rfl) ?_
  intro p e s m below meth c A S hr hlocks hK hN hZ hA H locs hW ls hl
  have S : CallFix p m c cX9_lookAt 5 s (List.toArray [.ref h0, .int p1]) G RX9 := S
  have hl : lv_has ls 5 [(0, .ref h0), (1, .int p1)] := hl
  have h := hm
  rw [md_X9_lookAt] at h
  have hW : wd (dC, dI) A s.heap (clX9 cI cJ cZ cB h0 a0 (c0 0) (c0 1) (c0 2) (c0 3) (w0 4 0) (w0 5 0) (c0 6) (c0 7) (c0 8) (c0 9) (c0 10) (c0 11) (c0 12) (c0 13) (c0 14 0) (c0 15 0) (c0 16 0) (c0 17 0) (c0 18) (c0 19) (c0 20) (c0 21 0) (c0 22 0) (c0 23 0) (c0 24 0) (c0 25 0) (c0 26) (c0 27) []) H locs := hW
  have hJ274 : ∀ (c0 : Nat → Nat → Int32), jd_X9_lookAt_274 F w0 c0 = some (c0') → ∀ (H : Heap) (locs : List Loc), wd (dC, dI) A s.heap (clX9 cI cJ cZ cB h0 a0 (c0 0) (c0 1) (c0 2) (c0 3) (w0 4 0) (w0 5 0) (c0 6) (c0 7) (c0 8) (c0 9) (c0 10) (c0 11) (c0 12) (c0 13) (c0 14 0) (c0 15 0) (c0 16 0) (c0 17 0) (c0 18) (c0 19) (c0 20) (c0 21 0) (c0 22 0) (c0 23 0) (c0 24 0) (c0 25 0) (c0 26) (c0 27) []) H locs → ∀ ls : Array Slot, lv_has ls 5 [(0, .ref h0)] → W p l e rmX9_lookAt s m (List.toArray [.ref h0, .int p1]) below meth c H locs 0 0 (MQ below (kQ (dC, dI) (cwX9 cI cJ cZ cB h0 a0 c0' w0 []) none A) (List.toArray [.ref h0, .int p1]) s 0 0 A) (F0 m 274 ls []) := by
    intro c0 h H locs hW ls hl
    rw [jd_X9_lookAt_274] at h
    refine lv_aload_n S.1 S.2.1 dX9_lookAt_274 rfl (lv_at hl 0 rfl) ?_
    refine lv_aload_n S.1 S.2.1 dX9_lookAt_275 rfl (lv_at hl 0 rfl) ?_
    refine gf (C := RX9) (T := TX9) (N := 28) (ci := 5) (k := 24) S hK hW wu_X9 rfl (by decide) wf_X9_284 0 rfl rfl dX9_lookAt_276 ?_
    refine lv_iconst (v := (2 : Int32)) S.1 S.2.1 dX9_lookAt_279 ki_2 ?_
    obtain ⟨y1, e2, h⟩ := lt1_e h
    suffices hM3 : ∀ ls : Array Slot, lv_has ls 5 [] → W p l e rmX9_lookAt s m (List.toArray [.ref h0, .int p1]) below meth c H locs 0 0 (MQ below (kQ (dC, dI) (cwX9 cI cJ cZ cB h0 a0 c0' w0 []) none A) (List.toArray [.ref h0, .int p1]) s 0 0 A) (F0 m 299 ls [.int y1, .ref h0]) by
      refine lv_icmp_ne (tgt := 295) S.1 S.2.1 dX9_lookAt_280 (by decide) (fun u4 => ?_) (fun u4 => ?_)
      · refine lv_aload_n S.1 S.2.1 dX9_lookAt_295 rfl (lv_at hl 0 rfl) ?_
        refine gf (C := RX9) (T := TX9) (N := 28) (ci := 5) (k := 24) S hK hW wu_X9 rfl (by decide) wf_X9_284 0 rfl rfl dX9_lookAt_296 ?_
        have e2 := e2.trans (if_neg u4)
        subst e2
        exact hM3 ls (lv_sub hl [] rfl)
      · refine lv_aload_n S.1 S.2.1 dX9_lookAt_283 rfl (lv_at hl 0 rfl) ?_
        refine gf (C := RX9) (T := TX9) (N := 28) (ci := 5) (k := 23) S hK hW wu_X9 rfl (by decide) wf_X9_281 0 rfl rfl dX9_lookAt_284 ?_
        refine lv_iconst (v := (2 : Int32)) S.1 S.2.1 dX9_lookAt_287 ki_2 ?_
        refine lv_icmp_le (tgt := 295) S.1 S.2.1 dX9_lookAt_288 (by decide) (fun u5 => ?_) (fun u5 => ?_)
        · refine lv_aload_n S.1 S.2.1 dX9_lookAt_295 rfl (lv_at hl 0 rfl) ?_
          refine gf (C := RX9) (T := TX9) (N := 28) (ci := 5) (k := 24) S hK hW wu_X9 rfl (by decide) wf_X9_284 0 rfl rfl dX9_lookAt_296 ?_
          have e2 := e2.trans ((if_pos u4).trans (if_pos u5))
          subst e2
          exact hM3 ls (lv_sub hl [] rfl)
        · refine lv_iconst (v := (4 : Int32)) S.1 S.2.1 dX9_lookAt_291 ki_4 ?_
          refine lv_goto (tgt := 299) S.1 S.2.1 dX9_lookAt_292 (by decide) ?_
          have e2 := e2.trans ((if_pos u4).trans (if_neg u5))
          subst e2
          exact hM3 ls (lv_sub hl [] rfl)
    intro ls hl
    refine pf (C := RX9) (T := TX9) (N := 28) (ci := 5) (k := 24) (ty := .int) S hK hW wu_X9 rfl (by decide) tyX9 tyX9_ok nmX9 wf_X9_284 0 rfl rfl rfl rfl rfl (Nat.le_of_ble_eq_true rfl) dX9_lookAt_299 (fun H locs hW => ?_)
    have hW : wd (dC, dI) A s.heap (clX9 cI cJ cZ cB h0 a0 (c0 0) (c0 1) (c0 2) (c0 3) (w0 4 0) (w0 5 0) (c0 6) (c0 7) (c0 8) (c0 9) (c0 10) (c0 11) (c0 12) (c0 13) (c0 14 0) (c0 15 0) (c0 16 0) (c0 17 0) (c0 18) (c0 19) (c0 20) (c0 21 0) (c0 22 0) (c0 23 0) y1 (c0 25 0) (c0 26) (c0 27) []) H locs := hW
    have f6 := Option.some.inj h
    subst f6
    exact rv S hr hlocks hW dX9_lookAt_302
  have hL218 : ∀ (n218 : Nat) (c0 : Nat → Nat → Int32) (x4 : Int32), ld_X9_lookAt_218 F w0 n218 c0 x4 = some (c0') → ∀ (H : Heap) (locs : List Loc), wd (dC, dI) A s.heap (clX9 cI cJ cZ cB h0 a0 (c0 0) (c0 1) (c0 2) (c0 3) (w0 4 0) (w0 5 0) (c0 6) (c0 7) (c0 8) (c0 9) (c0 10) (c0 11) (c0 12) (c0 13) (c0 14 0) (c0 15 0) (c0 16 0) (c0 17 0) (c0 18) (c0 19) (c0 20) (c0 21 0) (c0 22 0) (c0 23 0) (c0 24 0) (c0 25 0) (c0 26) (c0 27) []) H locs → ∀ ls : Array Slot, lv_has ls 5 [(0, .ref h0), (4, .int x4)] → W p l e rmX9_lookAt s m (List.toArray [.ref h0, .int p1]) below meth c H locs 0 0 (MQ below (kQ (dC, dI) (cwX9 cI cJ cZ cB h0 a0 c0' w0 []) none A) (List.toArray [.ref h0, .int p1]) s 0 0 A) (F0 m 218 ls []) := by
    intro n218
    induction n218 with
    | zero => intro c0 x4 h; rw [ld_X9_lookAt_218] at h; cases h
    | succ n218 ih218 =>
      intro c0 x4 h H locs hW ls hl
      rw [ld_X9_lookAt_218] at h
      refine lv_iload S.1 S.2.1 dX9_lookAt_218 (lv_at hl 1 rfl) ?_
      refine lv_aload_n S.1 S.2.1 dX9_lookAt_220 rfl (lv_at hl 0 rfl) ?_
      refine gf (C := RX9) (T := TX9) (N := 28) (ci := 5) (k := 23) S hK hW wu_X9 rfl (by decide) wf_X9_281 0 rfl rfl dX9_lookAt_221 ?_
      refine lv_icmp_ge (tgt := 274) S.1 S.2.1 dX9_lookAt_224 (by decide) (fun u7 => ?_) (fun u7 => ?_)
      · have h := of_p u7 h
        exact hJ274 _ h H locs hW ls (lv_sub hl [0] rfl)
      · have h := of_n u7 h
        refine lv_iload S.1 S.2.1 dX9_lookAt_227 (lv_at hl 1 rfl) ?_
        refine lv_iconst (v := (2 : Int32)) S.1 S.2.1 dX9_lookAt_229 ki_2 ?_
        refine lv_icmp_ge (tgt := 274) S.1 S.2.1 dX9_lookAt_230 (by decide) (fun u8 => ?_) (fun u8 => ?_)
        · have h := of_p u8 h
          exact hJ274 _ h H locs hW ls (lv_sub hl [0] rfl)
        · have h := of_n u8 h
          refine lv_aload_n S.1 S.2.1 dX9_lookAt_233 rfl (lv_at hl 0 rfl) ?_
          refine gf (C := RX9) (T := TX9) (N := 28) (ci := 5) (k := 24) S hK hW wu_X9 rfl (by decide) wf_X9_284 0 rfl rfl dX9_lookAt_234 ?_
          refine lv_iconst (v := (2 : Int32)) S.1 S.2.1 dX9_lookAt_237 ki_2 ?_
          refine lv_icmp_ne (tgt := 274) S.1 S.2.1 dX9_lookAt_238 (by decide) (fun u9 => ?_) (fun u9 => ?_)
          · have h := of_n u9 h
            exact hJ274 _ h H locs hW ls (lv_sub hl [0] rfl)
          · have h := of_p u9 h
            refine lv_aload_n S.1 S.2.1 dX9_lookAt_241 rfl (lv_at hl 0 rfl) ?_
            refine lv_bipush (v := (10 : Int32)) S.1 S.2.1 dX9_lookAt_242 kb_10 ?_
            refine lv_aload_n S.1 S.2.1 dX9_lookAt_244 rfl (lv_at hl 0 rfl) ?_
            refine gf (C := RX9) (T := TX9) (N := 28) (ci := 5) (k := 25) S hK hW wu_X9 rfl (by decide) wf_X9_287 0 rfl rfl dX9_lookAt_245 ?_
            refine lv_imul S.1 S.2.1 dX9_lookAt_248 ?_
            refine lv_aload_n S.1 S.2.1 dX9_lookAt_249 rfl (lv_at hl 0 rfl) ?_
            refine gf (C := RX9) (T := TX9) (N := 28) (ci := 5) (k := 20) S hK hW wu_X9 rfl (by decide) wf_X9_57 0 rfl rfl dX9_lookAt_250 ?_
            refine lv_aload_n S.1 S.2.1 dX9_lookAt_253 rfl (lv_at hl 0 rfl) ?_
            refine gf (C := RX9) (T := TX9) (N := 28) (ci := 5) (k := 22) S hK hW wu_X9 rfl (by decide) wf_X9_278 0 rfl rfl dX9_lookAt_254 ?_
            refine lv_iload S.1 S.2.1 dX9_lookAt_257 (lv_at hl 1 rfl) ?_
            refine lv_iadd S.1 S.2.1 dX9_lookAt_259 ?_
            obtain ⟨z10, h⟩ := of_g h
            refine ia S hK hW rfl 15 rfl z10 dX9_lookAt_260 ?_
            refine lv_iadd S.1 S.2.1 dX9_lookAt_261 ?_
            refine lv_bipush (v := (48 : Int32)) S.1 S.2.1 dX9_lookAt_262 kb_48 ?_
            refine lv_isub S.1 S.2.1 dX9_lookAt_264 ?_
            obtain ⟨y11, e12, h⟩ := lt1_e h
            refine nmi e12 ?_
            refine pf (C := RX9) (T := TX9) (N := 28) (ci := 5) (k := 25) (ty := .int) S hK hW wu_X9 rfl (by decide) tyX9 tyX9_ok nmX9 wf_X9_287 0 rfl rfl rfl rfl rfl (Nat.le_of_ble_eq_true rfl) dX9_lookAt_265 (fun H locs hW => ?_)
            have hW : wd (dC, dI) A s.heap (clX9 cI cJ cZ cB h0 a0 (c0 0) (c0 1) (c0 2) (c0 3) (w0 4 0) (w0 5 0) (c0 6) (c0 7) (c0 8) (c0 9) (c0 10) (c0 11) (c0 12) (c0 13) (c0 14 0) (c0 15 0) (c0 16 0) (c0 17 0) (c0 18) (c0 19) (c0 20) (c0 21 0) (c0 22 0) (c0 23 0) (c0 24 0) y11 (c0 26) (c0 27) []) H locs := hW
            refine lv_iinc (v := (x4 + (1 : Int32))) (lv' := [(4, .int (x4 + (1 : Int32))), (0, .ref h0)]) S.1 S.2.1 dX9_lookAt_268 hl (k := 1) rfl (congrArg (fun z => x4 + z) ki_1) (by decide) rfl (fun ls hl => ?_)
            refine lv_goto (tgt := 218) S.1 S.2.1 dX9_lookAt_271 (by decide) ?_
            exact ih218 _ _ h H locs hW ls (lv_sub hl [1, 0] rfl)
  have hL136 : ∀ (n136 : Nat) (c0 : Nat → Nat → Int32) (x3 : Int32), ld_X9_lookAt_136 F w0 n136 c0 x3 = some (c0') → ∀ (H : Heap) (locs : List Loc), wd (dC, dI) A s.heap (clX9 cI cJ cZ cB h0 a0 (c0 0) (c0 1) (c0 2) (c0 3) (w0 4 0) (w0 5 0) (c0 6) (c0 7) (c0 8) (c0 9) (c0 10) (c0 11) (c0 12) (c0 13) (c0 14 0) (c0 15 0) (c0 16 0) (c0 17 0) (c0 18) (c0 19) (c0 20) (c0 21 0) (c0 22 0) (c0 23 0) (c0 24 0) (c0 25 0) (c0 26) (c0 27) []) H locs → ∀ ls : Array Slot, lv_has ls 5 [(0, .ref h0), (3, .int x3)] → W p l e rmX9_lookAt s m (List.toArray [.ref h0, .int p1]) below meth c H locs 0 0 (MQ below (kQ (dC, dI) (cwX9 cI cJ cZ cB h0 a0 c0' w0 []) none A) (List.toArray [.ref h0, .int p1]) s 0 0 A) (F0 m 136 ls []) := by
    intro n136
    induction n136 with
    | zero => intro c0 x3 h; rw [ld_X9_lookAt_136] at h; cases h
    | succ n136 ih136 =>
      intro c0 x3 h H locs hW ls hl
      rw [ld_X9_lookAt_136] at h
      have hJ193 : ∀ (c0 : Nat → Nat → Int32) (s0 : Int32), jd_X9_lookAt_193 F w0 (ld_X9_lookAt_136 F w0 n136) c0 s0 = some (c0') → ∀ (H : Heap) (locs : List Loc), wd (dC, dI) A s.heap (clX9 cI cJ cZ cB h0 a0 (c0 0) (c0 1) (c0 2) (c0 3) (w0 4 0) (w0 5 0) (c0 6) (c0 7) (c0 8) (c0 9) (c0 10) (c0 11) (c0 12) (c0 13) (c0 14 0) (c0 15 0) (c0 16 0) (c0 17 0) (c0 18) (c0 19) (c0 20) (c0 21 0) (c0 22 0) (c0 23 0) (c0 24 0) (c0 25 0) (c0 26) (c0 27) []) H locs → ∀ ls : Array Slot, lv_has ls 5 [(0, .ref h0)] → W p l e rmX9_lookAt s m (List.toArray [.ref h0, .int p1]) below meth c H locs 0 0 (MQ below (kQ (dC, dI) (cwX9 cI cJ cZ cB h0 a0 c0' w0 []) none A) (List.toArray [.ref h0, .int p1]) s 0 0 A) (F0 m 193 ls [.int s0]) := by
        intro c0 s0 h H locs hW ls hl
        rw [jd_X9_lookAt_193] at h
        refine lv_istore_n (lv' := [(3, .int s0), (0, .ref h0)]) S.1 S.2.1 dX9_lookAt_193 rfl hl (by decide) rfl (fun ls hl => ?_)
        refine lv_aload_n S.1 S.2.1 dX9_lookAt_194 rfl (lv_at hl 1 rfl) ?_
        refine lv_dup S.1 S.2.1 dX9_lookAt_195 rfl ?_
        refine gf (C := RX9) (T := TX9) (N := 28) (ci := 5) (k := 23) S hK hW wu_X9 rfl (by decide) wf_X9_281 0 rfl rfl dX9_lookAt_196 ?_
        refine lv_iload_n S.1 S.2.1 dX9_lookAt_199 rfl (lv_at hl 0 rfl) ?_
        obtain ⟨y13, e14, h⟩ := lt1_e h
        suffices hM15 : ∀ ls : Array Slot, lv_has ls 5 [(0, .ref h0), (3, .int s0)] → W p l e rmX9_lookAt s m (List.toArray [.ref h0, .int p1]) below meth c H locs 0 0 (MQ below (kQ (dC, dI) (cwX9 cI cJ cZ cB h0 a0 c0' w0 []) none A) (List.toArray [.ref h0, .int p1]) s 0 0 A) (F0 m 208 ls [.int y13, .int (c0 23 0), .ref h0]) by
          refine lv_if_eq (tgt := 207) S.1 S.2.1 dX9_lookAt_200 (by decide) (fun u16 => ?_) (fun u16 => ?_)
          · refine lv_iconst (v := (0 : Int32)) S.1 S.2.1 dX9_lookAt_207 ki_0 ?_
            have e14 := e14.trans (if_pos u16)
            subst e14
            exact hM15 ls (lv_sub hl [1, 0] rfl)
          · refine lv_iconst (v := (1 : Int32)) S.1 S.2.1 dX9_lookAt_203 ki_1 ?_
            refine lv_goto (tgt := 208) S.1 S.2.1 dX9_lookAt_204 (by decide) ?_
            have e14 := e14.trans (if_neg u16)
            subst e14
            exact hM15 ls (lv_sub hl [1, 0] rfl)
        intro ls hl
        refine lv_iadd S.1 S.2.1 dX9_lookAt_208 ?_
        refine pf (C := RX9) (T := TX9) (N := 28) (ci := 5) (k := 23) (ty := .int) S hK hW wu_X9 rfl (by decide) tyX9 tyX9_ok nmX9 wf_X9_281 0 rfl rfl rfl rfl rfl (Nat.le_of_ble_eq_true rfl) dX9_lookAt_209 (fun H locs hW => ?_)
        have hW : wd (dC, dI) A s.heap (clX9 cI cJ cZ cB h0 a0 (c0 0) (c0 1) (c0 2) (c0 3) (w0 4 0) (w0 5 0) (c0 6) (c0 7) (c0 8) (c0 9) (c0 10) (c0 11) (c0 12) (c0 13) (c0 14 0) (c0 15 0) (c0 16 0) (c0 17 0) (c0 18) (c0 19) (c0 20) (c0 21 0) (c0 22 0) ((c0 23 0) + y13) (c0 24 0) (c0 25 0) (c0 26) (c0 27) []) H locs := hW
        refine lv_goto (tgt := 136) S.1 S.2.1 dX9_lookAt_212 (by decide) ?_
        exact ih136 _ _ h H locs hW ls (lv_sub hl [0, 1] rfl)
      refine lv_iload_n S.1 S.2.1 dX9_lookAt_136 rfl (lv_at hl 1 rfl) ?_
      refine lv_if_eq (tgt := 215) S.1 S.2.1 dX9_lookAt_137 (by decide) (fun u17 => ?_) (fun u17 => ?_)
      · have h := of_p u17 h
        refine lv_iconst (v := (0 : Int32)) S.1 S.2.1 dX9_lookAt_215 ki_0 ?_
        refine lv_istore (lv' := [(4, .int (0 : Int32)), (0, .ref h0), (3, .int x3)]) S.1 S.2.1 dX9_lookAt_216 hl (by decide) rfl (fun ls hl => ?_)
        exact hL218 F _ _ h H locs hW ls (lv_sub hl [1, 0] rfl)
      · have h := of_n u17 h
        refine lv_aload_n S.1 S.2.1 dX9_lookAt_140 rfl (lv_at hl 0 rfl) ?_
        refine gf (C := RX9) (T := TX9) (N := 28) (ci := 5) (k := 22) S hK hW wu_X9 rfl (by decide) wf_X9_278 0 rfl rfl dX9_lookAt_141 ?_
        refine lv_aload_n S.1 S.2.1 dX9_lookAt_144 rfl (lv_at hl 0 rfl) ?_
        refine gf (C := RX9) (T := TX9) (N := 28) (ci := 5) (k := 23) S hK hW wu_X9 rfl (by decide) wf_X9_281 0 rfl rfl dX9_lookAt_145 ?_
        refine lv_iadd S.1 S.2.1 dX9_lookAt_148 ?_
        refine lv_aload_n S.1 S.2.1 dX9_lookAt_149 rfl (lv_at hl 0 rfl) ?_
        refine gf (C := RX9) (T := TX9) (N := 28) (ci := 5) (k := 21) S hK hW wu_X9 rfl (by decide) wf_X9_267 0 rfl rfl dX9_lookAt_150 ?_
        refine lv_icmp_ge (tgt := 215) S.1 S.2.1 dX9_lookAt_153 (by decide) (fun u18 => ?_) (fun u18 => ?_)
        · have h := of_p u18 h
          refine lv_iconst (v := (0 : Int32)) S.1 S.2.1 dX9_lookAt_215 ki_0 ?_
          refine lv_istore (lv' := [(4, .int (0 : Int32)), (0, .ref h0), (3, .int x3)]) S.1 S.2.1 dX9_lookAt_216 hl (by decide) rfl (fun ls hl => ?_)
          exact hL218 F _ _ h H locs hW ls (lv_sub hl [1, 0] rfl)
        · have h := of_n u18 h
          refine lv_aload_n S.1 S.2.1 dX9_lookAt_156 rfl (lv_at hl 0 rfl) ?_
          refine gf (C := RX9) (T := TX9) (N := 28) (ci := 5) (k := 20) S hK hW wu_X9 rfl (by decide) wf_X9_57 0 rfl rfl dX9_lookAt_157 ?_
          refine lv_aload_n S.1 S.2.1 dX9_lookAt_160 rfl (lv_at hl 0 rfl) ?_
          refine gf (C := RX9) (T := TX9) (N := 28) (ci := 5) (k := 22) S hK hW wu_X9 rfl (by decide) wf_X9_278 0 rfl rfl dX9_lookAt_161 ?_
          refine lv_aload_n S.1 S.2.1 dX9_lookAt_164 rfl (lv_at hl 0 rfl) ?_
          refine gf (C := RX9) (T := TX9) (N := 28) (ci := 5) (k := 23) S hK hW wu_X9 rfl (by decide) wf_X9_281 0 rfl rfl dX9_lookAt_165 ?_
          refine lv_iadd S.1 S.2.1 dX9_lookAt_168 ?_
          obtain ⟨z19, h⟩ := of_g h
          refine ia S hK hW rfl 15 rfl z19 dX9_lookAt_169 ?_
          obtain ⟨y20, e21, h⟩ := lt1_e h
          refine nmi e21 ?_
          refine lv_istore (lv' := [(4, .int y20), (0, .ref h0), (3, .int x3)]) S.1 S.2.1 dX9_lookAt_170 hl (by decide) rfl (fun ls hl => ?_)
          refine lv_aload_n S.1 S.2.1 dX9_lookAt_172 rfl (lv_at hl 1 rfl) ?_
          refine gf (C := RX9) (T := TX9) (N := 28) (ci := 5) (k := 24) S hK hW wu_X9 rfl (by decide) wf_X9_284 0 rfl rfl dX9_lookAt_173 ?_
          refine lv_iconst (v := (1 : Int32)) S.1 S.2.1 dX9_lookAt_176 ki_1 ?_
          refine lv_icmp_ne (tgt := 188) S.1 S.2.1 dX9_lookAt_177 (by decide) (fun u22 => ?_) (fun u22 => ?_)
          · have h := of_n u22 h
            refine lv_iload S.1 S.2.1 dX9_lookAt_188 (lv_at hl 0 rfl) ?_
            obtain ⟨r23, hy24, h⟩ := bd1_e h
            refine ks0 S hK hN hZ hA hW (rest := []) (t_X9_isFigure l dC dI cI cJ cZ cB zz y20 _  hy24) wl_X9_293 wv_X9_isFigure rfl rfl ⟨Nat.le_of_ble_eq_true rfl, Nat.le_of_ble_eq_true rfl⟩ [] (clX9 cI cJ cZ cB h0 a0 (c0 0) (c0 1) (c0 2) (c0 3) (w0 4 0) (w0 5 0) (c0 6) (c0 7) (c0 8) (c0 9) (c0 10) (c0 11) (c0 12) (c0 13) (c0 14 0) (c0 15 0) (c0 16 0) (c0 17 0) (c0 18) (c0 19) (c0 20) (c0 21 0) (c0 22 0) (c0 23 0) (c0 24 0) (c0 25 0) (c0 26) (c0 27) []) rfl rfl hl.1 rfl (Nat.le_of_ble_eq_true rfl) dX9_lookAt_190 [.int r23] rfl (fun H locs hW => ?_)
            exact hJ193 _ _ h H locs hW ls (lv_sub hl [1] rfl)
          · have h := of_p u22 h
            refine lv_iload S.1 S.2.1 dX9_lookAt_180 (lv_at hl 0 rfl) ?_
            obtain ⟨r25, hy26, h⟩ := bd1_e h
            refine ks0 S hK hN hZ hA hW (rest := []) (t_X9_isSmall l dC dI cI cJ cZ cB zz y20 _  hy26) wl_X9_290 wv_X9_isSmall rfl rfl ⟨Nat.le_of_ble_eq_true rfl, Nat.le_of_ble_eq_true rfl⟩ [] (clX9 cI cJ cZ cB h0 a0 (c0 0) (c0 1) (c0 2) (c0 3) (w0 4 0) (w0 5 0) (c0 6) (c0 7) (c0 8) (c0 9) (c0 10) (c0 11) (c0 12) (c0 13) (c0 14 0) (c0 15 0) (c0 16 0) (c0 17 0) (c0 18) (c0 19) (c0 20) (c0 21 0) (c0 22 0) (c0 23 0) (c0 24 0) (c0 25 0) (c0 26) (c0 27) []) rfl rfl hl.1 rfl (Nat.le_of_ble_eq_true rfl) dX9_lookAt_182 [.int r25] rfl (fun H locs hW => ?_)
            refine lv_goto (tgt := 193) S.1 S.2.1 dX9_lookAt_185 (by decide) ?_
            exact hJ193 _ _ h H locs hW ls (lv_sub hl [1] rfl)
  have hJ114 : ∀ (c0 : Nat → Nat → Int32) (s1 : Int32), jd_X9_lookAt_114 F w0 c0 s1 = some (c0') → ∀ (H : Heap) (locs : List Loc), wd (dC, dI) A s.heap (clX9 cI cJ cZ cB h0 a0 (c0 0) (c0 1) (c0 2) (c0 3) (w0 4 0) (w0 5 0) (c0 6) (c0 7) (c0 8) (c0 9) (c0 10) (c0 11) (c0 12) (c0 13) (c0 14 0) (c0 15 0) (c0 16 0) (c0 17 0) (c0 18) (c0 19) (c0 20) (c0 21 0) (c0 22 0) (c0 23 0) (c0 24 0) (c0 25 0) (c0 26) (c0 27) []) H locs → ∀ ls : Array Slot, lv_has ls 5 [(0, .ref h0)] → W p l e rmX9_lookAt s m (List.toArray [.ref h0, .int p1]) below meth c H locs 0 0 (MQ below (kQ (dC, dI) (cwX9 cI cJ cZ cB h0 a0 c0' w0 []) none A) (List.toArray [.ref h0, .int p1]) s 0 0 A) (F0 m 114 ls [.int s1, .ref h0]) := by
    intro c0 s1 h H locs hW ls hl
    rw [jd_X9_lookAt_114] at h
    refine pf (C := RX9) (T := TX9) (N := 28) (ci := 5) (k := 24) (ty := .int) S hK hW wu_X9 rfl (by decide) tyX9 tyX9_ok nmX9 wf_X9_284 0 rfl rfl rfl rfl rfl (Nat.le_of_ble_eq_true rfl) dX9_lookAt_114 (fun H locs hW => ?_)
    have hW : wd (dC, dI) A s.heap (clX9 cI cJ cZ cB h0 a0 (c0 0) (c0 1) (c0 2) (c0 3) (w0 4 0) (w0 5 0) (c0 6) (c0 7) (c0 8) (c0 9) (c0 10) (c0 11) (c0 12) (c0 13) (c0 14 0) (c0 15 0) (c0 16 0) (c0 17 0) (c0 18) (c0 19) (c0 20) (c0 21 0) (c0 22 0) (c0 23 0) s1 (c0 25 0) (c0 26) (c0 27) []) H locs := hW
    refine lv_aload_n S.1 S.2.1 dX9_lookAt_117 rfl (lv_at hl 0 rfl) ?_
    refine lv_iconst (v := (1 : Int32)) S.1 S.2.1 dX9_lookAt_118 ki_1 ?_
    refine pf (C := RX9) (T := TX9) (N := 28) (ci := 5) (k := 23) (ty := .int) S hK hW wu_X9 rfl (by decide) tyX9 tyX9_ok nmX9 wf_X9_281 0 rfl rfl rfl rfl rfl (Nat.le_of_ble_eq_true rfl) dX9_lookAt_119 (fun H locs hW => ?_)
    have hW : wd (dC, dI) A s.heap (clX9 cI cJ cZ cB h0 a0 (c0 0) (c0 1) (c0 2) (c0 3) (w0 4 0) (w0 5 0) (c0 6) (c0 7) (c0 8) (c0 9) (c0 10) (c0 11) (c0 12) (c0 13) (c0 14 0) (c0 15 0) (c0 16 0) (c0 17 0) (c0 18) (c0 19) (c0 20) (c0 21 0) (c0 22 0) (1 : Int32) s1 (c0 25 0) (c0 26) (c0 27) []) H locs := hW
    refine lv_aload_n S.1 S.2.1 dX9_lookAt_122 rfl (lv_at hl 0 rfl) ?_
    refine gf (C := RX9) (T := TX9) (N := 28) (ci := 5) (k := 24) S hK hW wu_X9 rfl (by decide) wf_X9_284 0 rfl rfl dX9_lookAt_123 ?_
    refine lv_iconst (v := (3 : Int32)) S.1 S.2.1 dX9_lookAt_126 ki_3 ?_
    obtain ⟨y27, e28, h⟩ := lt1_e h
    suffices hM29 : ∀ ls : Array Slot, lv_has ls 5 [(0, .ref h0)] → W p l e rmX9_lookAt s m (List.toArray [.ref h0, .int p1]) below meth c H locs 0 0 (MQ below (kQ (dC, dI) (cwX9 cI cJ cZ cB h0 a0 c0' w0 []) none A) (List.toArray [.ref h0, .int p1]) s 0 0 A) (F0 m 135 ls [.int y27]) by
      refine lv_icmp_ge (tgt := 134) S.1 S.2.1 dX9_lookAt_127 (by decide) (fun u30 => ?_) (fun u30 => ?_)
      · refine lv_iconst (v := (0 : Int32)) S.1 S.2.1 dX9_lookAt_134 ki_0 ?_
        have e28 := e28.trans (if_pos u30)
        subst e28
        exact hM29 ls (lv_sub hl [0] rfl)
      · refine lv_iconst (v := (1 : Int32)) S.1 S.2.1 dX9_lookAt_130 ki_1 ?_
        refine lv_goto (tgt := 135) S.1 S.2.1 dX9_lookAt_131 (by decide) ?_
        have e28 := e28.trans (if_neg u30)
        subst e28
        exact hM29 ls (lv_sub hl [0] rfl)
    intro ls hl
    refine lv_istore_n (lv' := [(3, .int y27), (0, .ref h0)]) S.1 S.2.1 dX9_lookAt_135 rfl hl (by decide) rfl (fun ls hl => ?_)
    exact hL136 F _ _ h H locs hW ls (lv_sub hl [1, 0] rfl)
  have hJ43 : ∀ (c0 : Nat → Nat → Int32), jd_X9_lookAt_43 F w0 c0 = some (c0') → ∀ (H : Heap) (locs : List Loc), wd (dC, dI) A s.heap (clX9 cI cJ cZ cB h0 a0 (c0 0) (c0 1) (c0 2) (c0 3) (w0 4 0) (w0 5 0) (c0 6) (c0 7) (c0 8) (c0 9) (c0 10) (c0 11) (c0 12) (c0 13) (c0 14 0) (c0 15 0) (c0 16 0) (c0 17 0) (c0 18) (c0 19) (c0 20) (c0 21 0) (c0 22 0) (c0 23 0) (c0 24 0) (c0 25 0) (c0 26) (c0 27) []) H locs → ∀ ls : Array Slot, lv_has ls 5 [(0, .ref h0)] → W p l e rmX9_lookAt s m (List.toArray [.ref h0, .int p1]) below meth c H locs 0 0 (MQ below (kQ (dC, dI) (cwX9 cI cJ cZ cB h0 a0 c0' w0 []) none A) (List.toArray [.ref h0, .int p1]) s 0 0 A) (F0 m 43 ls []) := by
    intro c0 h H locs hW ls hl
    rw [jd_X9_lookAt_43] at h
    refine lv_aload_n S.1 S.2.1 dX9_lookAt_43 rfl (lv_at hl 0 rfl) ?_
    refine lv_iconst (v := (0 : Int32)) S.1 S.2.1 dX9_lookAt_44 ki_0 ?_
    refine pf (C := RX9) (T := TX9) (N := 28) (ci := 5) (k := 23) (ty := .int) S hK hW wu_X9 rfl (by decide) tyX9 tyX9_ok nmX9 wf_X9_281 0 rfl rfl rfl rfl rfl (Nat.le_of_ble_eq_true rfl) dX9_lookAt_45 (fun H locs hW => ?_)
    have hW : wd (dC, dI) A s.heap (clX9 cI cJ cZ cB h0 a0 (c0 0) (c0 1) (c0 2) (c0 3) (w0 4 0) (w0 5 0) (c0 6) (c0 7) (c0 8) (c0 9) (c0 10) (c0 11) (c0 12) (c0 13) (c0 14 0) (c0 15 0) (c0 16 0) (c0 17 0) (c0 18) (c0 19) (c0 20) (c0 21 0) (c0 22 0) (0 : Int32) (c0 24 0) (c0 25 0) (c0 26) (c0 27) []) H locs := hW
    refine lv_aload_n S.1 S.2.1 dX9_lookAt_48 rfl (lv_at hl 0 rfl) ?_
    refine lv_iconst (v := (0 : Int32)) S.1 S.2.1 dX9_lookAt_49 ki_0 ?_
    refine pf (C := RX9) (T := TX9) (N := 28) (ci := 5) (k := 24) (ty := .int) S hK hW wu_X9 rfl (by decide) tyX9 tyX9_ok nmX9 wf_X9_284 0 rfl rfl rfl rfl rfl (Nat.le_of_ble_eq_true rfl) dX9_lookAt_50 (fun H locs hW => ?_)
    have hW : wd (dC, dI) A s.heap (clX9 cI cJ cZ cB h0 a0 (c0 0) (c0 1) (c0 2) (c0 3) (w0 4 0) (w0 5 0) (c0 6) (c0 7) (c0 8) (c0 9) (c0 10) (c0 11) (c0 12) (c0 13) (c0 14 0) (c0 15 0) (c0 16 0) (c0 17 0) (c0 18) (c0 19) (c0 20) (c0 21 0) (c0 22 0) (0 : Int32) (0 : Int32) (c0 25 0) (c0 26) (c0 27) []) H locs := hW
    refine lv_aload_n S.1 S.2.1 dX9_lookAt_53 rfl (lv_at hl 0 rfl) ?_
    refine lv_iconst (v := (0 : Int32)) S.1 S.2.1 dX9_lookAt_54 ki_0 ?_
    refine pf (C := RX9) (T := TX9) (N := 28) (ci := 5) (k := 25) (ty := .int) S hK hW wu_X9 rfl (by decide) tyX9 tyX9_ok nmX9 wf_X9_287 0 rfl rfl rfl rfl rfl (Nat.le_of_ble_eq_true rfl) dX9_lookAt_55 (fun H locs hW => ?_)
    have hW : wd (dC, dI) A s.heap (clX9 cI cJ cZ cB h0 a0 (c0 0) (c0 1) (c0 2) (c0 3) (w0 4 0) (w0 5 0) (c0 6) (c0 7) (c0 8) (c0 9) (c0 10) (c0 11) (c0 12) (c0 13) (c0 14 0) (c0 15 0) (c0 16 0) (c0 17 0) (c0 18) (c0 19) (c0 20) (c0 21 0) (c0 22 0) (0 : Int32) (0 : Int32) (0 : Int32) (c0 26) (c0 27) []) H locs := hW
    refine lv_aload_n S.1 S.2.1 dX9_lookAt_58 rfl (lv_at hl 0 rfl) ?_
    refine gf (C := RX9) (T := TX9) (N := 28) (ci := 5) (k := 22) S hK hW wu_X9 rfl (by decide) wf_X9_278 0 rfl rfl dX9_lookAt_59 ?_
    refine lv_aload_n S.1 S.2.1 dX9_lookAt_62 rfl (lv_at hl 0 rfl) ?_
    refine gf (C := RX9) (T := TX9) (N := 28) (ci := 5) (k := 21) S hK hW wu_X9 rfl (by decide) wf_X9_267 0 rfl rfl dX9_lookAt_63 ?_
    refine lv_icmp_ne (tgt := 70) S.1 S.2.1 dX9_lookAt_66 (by decide) (fun u31 => ?_) (fun u31 => ?_)
    · have h := of_n u31 h
      refine lv_aload_n S.1 S.2.1 dX9_lookAt_70 rfl (lv_at hl 0 rfl) ?_
      refine gf (C := RX9) (T := TX9) (N := 28) (ci := 5) (k := 20) S hK hW wu_X9 rfl (by decide) wf_X9_57 0 rfl rfl dX9_lookAt_71 ?_
      refine lv_aload_n S.1 S.2.1 dX9_lookAt_74 rfl (lv_at hl 0 rfl) ?_
      refine gf (C := RX9) (T := TX9) (N := 28) (ci := 5) (k := 22) S hK hW wu_X9 rfl (by decide) wf_X9_278 0 rfl rfl dX9_lookAt_75 ?_
      obtain ⟨z32, h⟩ := of_g h
      refine ia S hK hW rfl 15 rfl z32 dX9_lookAt_78 ?_
      refine lv_istore_n (lv' := [(2, .int ((c0 20) (ix (c0 22 0)))), (0, .ref h0)]) S.1 S.2.1 dX9_lookAt_79 rfl hl (by decide) rfl (fun ls hl => ?_)
      refine lv_aload_n S.1 S.2.1 dX9_lookAt_80 rfl (lv_at hl 1 rfl) ?_
      refine lv_iload_n S.1 S.2.1 dX9_lookAt_81 rfl (lv_at hl 0 rfl) ?_
      obtain ⟨r33, hy34, h⟩ := bd1_e h
      refine ks0 S hK hN hZ hA hW (rest := [.ref h0]) (t_X9_isSmall l dC dI cI cJ cZ cB zz ((c0 20) (ix (c0 22 0))) _  hy34) wl_X9_290 wv_X9_isSmall rfl rfl ⟨Nat.le_of_ble_eq_true rfl, Nat.le_of_ble_eq_true rfl⟩ [] (clX9 cI cJ cZ cB h0 a0 (c0 0) (c0 1) (c0 2) (c0 3) (w0 4 0) (w0 5 0) (c0 6) (c0 7) (c0 8) (c0 9) (c0 10) (c0 11) (c0 12) (c0 13) (c0 14 0) (c0 15 0) (c0 16 0) (c0 17 0) (c0 18) (c0 19) (c0 20) (c0 21 0) (c0 22 0) (0 : Int32) (0 : Int32) (0 : Int32) (c0 26) (c0 27) []) rfl rfl hl.1 rfl (Nat.le_of_ble_eq_true rfl) dX9_lookAt_82 [.int r33, .ref h0] rfl (fun H locs hW => ?_)
      refine lv_if_eq (tgt := 92) S.1 S.2.1 dX9_lookAt_85 (by decide) (fun u35 => ?_) (fun u35 => ?_)
      · have h := of_p u35 h
        refine lv_iload_n S.1 S.2.1 dX9_lookAt_92 rfl (lv_at hl 0 rfl) ?_
        obtain ⟨r36, hy37, h⟩ := bd1_e h
        refine ks0 S hK hN hZ hA hW (rest := [.ref h0]) (t_X9_isFigure l dC dI cI cJ cZ cB zz ((c0 20) (ix (c0 22 0))) _  hy37) wl_X9_293 wv_X9_isFigure rfl rfl ⟨Nat.le_of_ble_eq_true rfl, Nat.le_of_ble_eq_true rfl⟩ [] (clX9 cI cJ cZ cB h0 a0 (c0 0) (c0 1) (c0 2) (c0 3) (w0 4 0) (w0 5 0) (c0 6) (c0 7) (c0 8) (c0 9) (c0 10) (c0 11) (c0 12) (c0 13) (c0 14 0) (c0 15 0) (c0 16 0) (c0 17 0) (c0 18) (c0 19) (c0 20) (c0 21 0) (c0 22 0) (0 : Int32) (0 : Int32) (0 : Int32) (c0 26) (c0 27) []) rfl rfl hl.1 rfl (Nat.le_of_ble_eq_true rfl) dX9_lookAt_93 [.int r36, .ref h0] rfl (fun H locs hW => ?_)
        refine lv_if_eq (tgt := 103) S.1 S.2.1 dX9_lookAt_96 (by decide) (fun u38 => ?_) (fun u38 => ?_)
        · have h := of_p u38 h
          refine lv_iload_n S.1 S.2.1 dX9_lookAt_103 rfl (lv_at hl 0 rfl) ?_
          refine lv_bipush (v := (59 : Int32)) S.1 S.2.1 dX9_lookAt_104 kb_59 ?_
          refine lv_icmp_ne (tgt := 113) S.1 S.2.1 dX9_lookAt_106 (by decide) (fun u39 => ?_) (fun u39 => ?_)
          · have h := of_n u39 h
            refine lv_iconst (v := (4 : Int32)) S.1 S.2.1 dX9_lookAt_113 ki_4 ?_
            exact hJ114 _ _ h H locs hW ls (lv_sub hl [1] rfl)
          · have h := of_p u39 h
            refine lv_iconst (v := (3 : Int32)) S.1 S.2.1 dX9_lookAt_109 ki_3 ?_
            refine lv_goto (tgt := 114) S.1 S.2.1 dX9_lookAt_110 (by decide) ?_
            exact hJ114 _ _ h H locs hW ls (lv_sub hl [1] rfl)
        · have h := of_n u38 h
          refine lv_iconst (v := (2 : Int32)) S.1 S.2.1 dX9_lookAt_99 ki_2 ?_
          refine lv_goto (tgt := 114) S.1 S.2.1 dX9_lookAt_100 (by decide) ?_
          exact hJ114 _ _ h H locs hW ls (lv_sub hl [1] rfl)
      · have h := of_n u35 h
        refine lv_iconst (v := (1 : Int32)) S.1 S.2.1 dX9_lookAt_88 ki_1 ?_
        refine lv_goto (tgt := 114) S.1 S.2.1 dX9_lookAt_89 (by decide) ?_
        exact hJ114 _ _ h H locs hW ls (lv_sub hl [1] rfl)
    · have h := of_p u31 h
      have f40 := Option.some.inj h
      subst f40
      exact rv S hr hlocks hW dX9_lookAt_69
  have hL5 : ∀ (n5 : Nat) (c0 : Nat → Nat → Int32), ld_X9_lookAt_5 F w0 n5 c0 = some (c0') → ∀ (H : Heap) (locs : List Loc), wd (dC, dI) A s.heap (clX9 cI cJ cZ cB h0 a0 (c0 0) (c0 1) (c0 2) (c0 3) (w0 4 0) (w0 5 0) (c0 6) (c0 7) (c0 8) (c0 9) (c0 10) (c0 11) (c0 12) (c0 13) (c0 14 0) (c0 15 0) (c0 16 0) (c0 17 0) (c0 18) (c0 19) (c0 20) (c0 21 0) (c0 22 0) (c0 23 0) (c0 24 0) (c0 25 0) (c0 26) (c0 27) []) H locs → ∀ ls : Array Slot, lv_has ls 5 [(0, .ref h0)] → W p l e rmX9_lookAt s m (List.toArray [.ref h0, .int p1]) below meth c H locs 0 0 (MQ below (kQ (dC, dI) (cwX9 cI cJ cZ cB h0 a0 c0' w0 []) none A) (List.toArray [.ref h0, .int p1]) s 0 0 A) (F0 m 5 ls []) := by
    intro n5
    induction n5 with
    | zero => intro c0 h; rw [ld_X9_lookAt_5] at h; cases h
    | succ n5 ih5 =>
      intro c0 h H locs hW ls hl
      rw [ld_X9_lookAt_5] at h
      refine lv_aload_n S.1 S.2.1 dX9_lookAt_5 rfl (lv_at hl 0 rfl) ?_
      refine gf (C := RX9) (T := TX9) (N := 28) (ci := 5) (k := 22) S hK hW wu_X9 rfl (by decide) wf_X9_278 0 rfl rfl dX9_lookAt_6 ?_
      refine lv_aload_n S.1 S.2.1 dX9_lookAt_9 rfl (lv_at hl 0 rfl) ?_
      refine gf (C := RX9) (T := TX9) (N := 28) (ci := 5) (k := 21) S hK hW wu_X9 rfl (by decide) wf_X9_267 0 rfl rfl dX9_lookAt_10 ?_
      refine lv_icmp_ge (tgt := 43) S.1 S.2.1 dX9_lookAt_13 (by decide) (fun u41 => ?_) (fun u41 => ?_)
      · have h := of_p u41 h
        exact hJ43 _ h H locs hW ls (lv_sub hl [0] rfl)
      · have h := of_n u41 h
        refine lv_aload_n S.1 S.2.1 dX9_lookAt_16 rfl (lv_at hl 0 rfl) ?_
        refine gf (C := RX9) (T := TX9) (N := 28) (ci := 5) (k := 20) S hK hW wu_X9 rfl (by decide) wf_X9_57 0 rfl rfl dX9_lookAt_17 ?_
        refine lv_aload_n S.1 S.2.1 dX9_lookAt_20 rfl (lv_at hl 0 rfl) ?_
        refine gf (C := RX9) (T := TX9) (N := 28) (ci := 5) (k := 22) S hK hW wu_X9 rfl (by decide) wf_X9_278 0 rfl rfl dX9_lookAt_21 ?_
        obtain ⟨z42, h⟩ := of_g h
        refine ia S hK hW rfl 15 rfl z42 dX9_lookAt_24 ?_
        refine lv_bipush (v := (32 : Int32)) S.1 S.2.1 dX9_lookAt_25 kb_32 ?_
        refine lv_icmp_ne (tgt := 43) S.1 S.2.1 dX9_lookAt_27 (by decide) (fun u43 => ?_) (fun u43 => ?_)
        · have h := of_n u43 h
          exact hJ43 _ h H locs hW ls (lv_sub hl [0] rfl)
        · have h := of_p u43 h
          refine lv_aload_n S.1 S.2.1 dX9_lookAt_30 rfl (lv_at hl 0 rfl) ?_
          refine lv_dup S.1 S.2.1 dX9_lookAt_31 rfl ?_
          refine gf (C := RX9) (T := TX9) (N := 28) (ci := 5) (k := 22) S hK hW wu_X9 rfl (by decide) wf_X9_278 0 rfl rfl dX9_lookAt_32 ?_
          refine lv_iconst (v := (1 : Int32)) S.1 S.2.1 dX9_lookAt_35 ki_1 ?_
          refine lv_iadd S.1 S.2.1 dX9_lookAt_36 ?_
          refine pf (C := RX9) (T := TX9) (N := 28) (ci := 5) (k := 22) (ty := .int) S hK hW wu_X9 rfl (by decide) tyX9 tyX9_ok nmX9 wf_X9_278 0 rfl rfl rfl rfl rfl (Nat.le_of_ble_eq_true rfl) dX9_lookAt_37 (fun H locs hW => ?_)
          have hW : wd (dC, dI) A s.heap (clX9 cI cJ cZ cB h0 a0 (c0 0) (c0 1) (c0 2) (c0 3) (w0 4 0) (w0 5 0) (c0 6) (c0 7) (c0 8) (c0 9) (c0 10) (c0 11) (c0 12) (c0 13) (c0 14 0) (c0 15 0) (c0 16 0) (c0 17 0) (c0 18) (c0 19) (c0 20) (c0 21 0) ((c0 22 0) + (1 : Int32)) (c0 23 0) (c0 24 0) (c0 25 0) (c0 26) (c0 27) []) H locs := hW
          refine lv_goto (tgt := 5) S.1 S.2.1 dX9_lookAt_40 (by decide) ?_
          exact ih5 _ h H locs hW ls (lv_sub hl [0] rfl)
  refine lv_aload_n S.1 S.2.1 dX9_lookAt_0 rfl (lv_at hl 0 rfl) ?_
  refine lv_iload_n S.1 S.2.1 dX9_lookAt_1 rfl (lv_at hl 1 rfl) ?_
  refine pf (C := RX9) (T := TX9) (N := 28) (ci := 5) (k := 22) (ty := .int) S hK hW wu_X9 rfl (by decide) tyX9 tyX9_ok nmX9 wf_X9_278 0 rfl rfl rfl rfl rfl (Nat.le_of_ble_eq_true rfl) dX9_lookAt_2 (fun H locs hW => ?_)
  have hW : wd (dC, dI) A s.heap (clX9 cI cJ cZ cB h0 a0 (c0 0) (c0 1) (c0 2) (c0 3) (w0 4 0) (w0 5 0) (c0 6) (c0 7) (c0 8) (c0 9) (c0 10) (c0 11) (c0 12) (c0 13) (c0 14 0) (c0 15 0) (c0 16 0) (c0 17 0) (c0 18) (c0 19) (c0 20) (c0 21 0) p1 (c0 23 0) (c0 24 0) (c0 25 0) (c0 26) (c0 27) []) H locs := hW
  exact hL5 F _ h H locs hW ls (lv_sub hl [0] rfl)
abbrev rmX9_goBehind : Room := { frames := 3, cells := 0, slots := 0, locals := 69 }
set_option maxHeartbeats 4000000 in
set_option maxRecDepth 100000 in
theorem t_X9_goBehind (l : Launch) (dC : Nat → ClassId) (dI : Nat → Nat → Nat) (cI cJ cZ cB : ClassId) (zz : ZT)  (h0 : Nat) (a0 : Nat → Nat) (F : Nat) (c0 : Nat → Nat → Int32) (w0 : Nat → Nat → Int64) (c0' : Nat → Nat → Int32) (hm : md_X9_goBehind F c0 w0 = some (c0')) : ct l (dC, dI) zz (ty4 cI cJ cZ cB) yX9_goBehind cX9_goBehind 1 none rmX9_goBehind [.ref h0] (cwX9 cI cJ cZ cB h0 a0 c0 w0 []) (cwX9 cI cJ cZ cB h0 a0 c0' w0 []) none := by
  refine ct_of (cc := cX9_goBehind) (maxL := 1) (ret := none) (by decide) (Nat.le_of_ble_eq_true rfl) ?_
  intro p e s m below meth c A S hr hlocks hK hN hZ hA H locs hW ls hl
  have S : CallFix p m c cX9_goBehind 1 s (List.toArray [.ref h0]) G RX9 := S
  have hl : lv_has ls 1 [(0, .ref h0)] := hl
  have h := hm
  rw [md_X9_goBehind] at h
  have hW : wd (dC, dI) A s.heap (clX9 cI cJ cZ cB h0 a0 (c0 0) (c0 1) (c0 2) (c0 3) (w0 4 0) (w0 5 0) (c0 6) (c0 7) (c0 8) (c0 9) (c0 10) (c0 11) (c0 12) (c0 13) (c0 14 0) (c0 15 0) (c0 16 0) (c0 17 0) (c0 18) (c0 19) (c0 20) (c0 21 0) (c0 22 0) (c0 23 0) (c0 24 0) (c0 25 0) (c0 26) (c0 27) []) H locs := hW
  refine lv_aload_n S.1 S.2.1 dX9_goBehind_0 rfl (lv_at hl 0 rfl) ?_
  refine lv_aload_n S.1 S.2.1 dX9_goBehind_1 rfl (lv_at hl 0 rfl) ?_
  refine gf (C := RX9) (T := TX9) (N := 28) (ci := 5) (k := 22) S hK hW wu_X9 rfl (by decide) wf_X9_278 0 rfl rfl dX9_goBehind_2 ?_
  refine lv_aload_n S.1 S.2.1 dX9_goBehind_5 rfl (lv_at hl 0 rfl) ?_
  refine gf (C := RX9) (T := TX9) (N := 28) (ci := 5) (k := 23) S hK hW wu_X9 rfl (by decide) wf_X9_281 0 rfl rfl dX9_goBehind_6 ?_
  refine lv_iadd S.1 S.2.1 dX9_goBehind_9 ?_
  obtain ⟨cv1, hy2, h⟩ := bd1_e h
  refine kv (clX9 cI cJ cZ cB h0 a0 (cv1 0) (cv1 1) (cv1 2) (cv1 3) (w0 4 0) (w0 5 0) (cv1 6) (cv1 7) (cv1 8) (cv1 9) (cv1 10) (cv1 11) (cv1 12) (cv1 13) (cv1 14 0) (cv1 15 0) (cv1 16 0) (cv1 17 0) (cv1 18) (cv1 19) (cv1 20) (cv1 21 0) (cv1 22 0) (cv1 23 0) (cv1 24 0) (cv1 25 0) (cv1 26) (cv1 27) []) S hK hN hZ hA hW (rest := []) (t_X9_lookAt l dC dI cI cJ cZ cB zz h0 a0 F c0 w0 ((c0 22 0) + (c0 23 0)) _  hy2) wl_X9_296 wv_X9_lookAt rfl rfl ⟨Nat.le_of_ble_eq_true rfl, Nat.le_of_ble_eq_true rfl⟩ [] [] rfl rfl rfl 0 rfl rfl rfl rfl hl.1 rfl (Nat.le_of_ble_eq_true rfl) dX9_goBehind_10 [] rfl (fun H locs hW => ?_)
  have f3 := Option.some.inj h
  subst f3
  exact rv S hr hlocks hW dX9_goBehind_13
abbrev rmX9_spells : Room := { frames := 0, cells := 0, slots := 0, locals := 0 }
set_option maxHeartbeats 4000000 in
set_option maxRecDepth 100000 in
theorem t_X9_spells (l : Launch) (dC : Nat → ClassId) (dI : Nat → Nat → Nat) (cI cJ cZ cB : ClassId) (zz : ZT)  (h0 : Nat) (a0 : Nat → Nat) (F : Nat) (c0 : Nat → Nat → Int32) (w0 : Nat → Nat → Int64) (p1 : Int32) (p2 : Int32) (p3 : Int32) (p4 : Int32) (p5 : Int32) (p6 : Int32) (p7 : Int32) (r : Int32) (hm : md_X9_spells F c0 w0 p1 p2 p3 p4 p5 p6 p7 = some (r)) : ct l (dC, dI) zz (ty4 cI cJ cZ cB) yX9_spells cX9_spells 10 (some .boolean) rmX9_spells [.ref h0, .int p1, .int p2, .int p3, .int p4, .int p5, .int p6, .int p7] (cwX9 cI cJ cZ cB h0 a0 c0 w0 []) (cwX9 cI cJ cZ cB h0 a0 c0 w0 []) (some (.int r)) := by
  refine ct_of (cc := cX9_spells) (maxL := 10) (ret := (some .boolean)) (by decide) (Nat.le_of_ble_eq_true rfl) ?_
  intro p e s m below meth c A S hr hlocks hK hN hZ hA H locs hW ls hl
  have S : CallFix p m c cX9_spells 10 s (List.toArray [.ref h0, .int p1, .int p2, .int p3, .int p4, .int p5, .int p6, .int p7]) G RX9 := S
  have hl : lv_has ls 10 [(0, .ref h0), (1, .int p1), (2, .int p2), (3, .int p3), (4, .int p4), (5, .int p5), (6, .int p6), (7, .int p7)] := hl
  have h := hm
  rw [md_X9_spells] at h
  have hW : wd (dC, dI) A s.heap (clX9 cI cJ cZ cB h0 a0 (c0 0) (c0 1) (c0 2) (c0 3) (w0 4 0) (w0 5 0) (c0 6) (c0 7) (c0 8) (c0 9) (c0 10) (c0 11) (c0 12) (c0 13) (c0 14 0) (c0 15 0) (c0 16 0) (c0 17 0) (c0 18) (c0 19) (c0 20) (c0 21 0) (c0 22 0) (c0 23 0) (c0 24 0) (c0 25 0) (c0 26) (c0 27) []) H locs := hW
  have hL26 : ∀ (n26 : Nat) (x1 : Int32) (x2 : Int32) (x3 : Int32) (x4 : Int32) (x5 : Int32) (x6 : Int32) (x7 : Int32) (x8 : Int32) (x9 : Int32), ld_X9_spells_26 F c0 w0 n26 x1 x2 x3 x4 x5 x6 x7 x8 x9 = some (r) → ∀ (H : Heap) (locs : List Loc), wd (dC, dI) A s.heap (clX9 cI cJ cZ cB h0 a0 (c0 0) (c0 1) (c0 2) (c0 3) (w0 4 0) (w0 5 0) (c0 6) (c0 7) (c0 8) (c0 9) (c0 10) (c0 11) (c0 12) (c0 13) (c0 14 0) (c0 15 0) (c0 16 0) (c0 17 0) (c0 18) (c0 19) (c0 20) (c0 21 0) (c0 22 0) (c0 23 0) (c0 24 0) (c0 25 0) (c0 26) (c0 27) []) H locs → ∀ ls : Array Slot, lv_has ls 10 [(0, .ref h0), (1, .int x1), (2, .int x2), (3, .int x3), (4, .int x4), (5, .int x5), (6, .int x6), (7, .int x7), (8, .int x8), (9, .int x9)] → W p l e rmX9_spells s m (List.toArray [.ref h0, .int p1, .int p2, .int p3, .int p4, .int p5, .int p6, .int p7]) below meth c H locs 0 0 (MQ below (kQ (dC, dI) (cwX9 cI cJ cZ cB h0 a0 c0 w0 []) (some (.int r)) A) (List.toArray [.ref h0, .int p1, .int p2, .int p3, .int p4, .int p5, .int p6, .int p7]) s 0 0 A) (F0 m 26 ls []) := by
    intro n26
    induction n26 with
    | zero => intro x1 x2 x3 x4 x5 x6 x7 x8 x9 h; rw [ld_X9_spells_26] at h; cases h
    | succ n26 ih26 =>
      intro x1 x2 x3 x4 x5 x6 x7 x8 x9 h H locs hW ls hl
      rw [ld_X9_spells_26] at h
      refine lv_iload S.1 S.2.1 dX9_spells_26 (lv_at hl 9 rfl) ?_
      refine lv_iload_n S.1 S.2.1 dX9_spells_28 rfl (lv_at hl 1 rfl) ?_
      refine lv_icmp_ge (tgt := 119) S.1 S.2.1 dX9_spells_29 (by decide) (fun u1 => ?_) (fun u1 => ?_)
      · have h := of_p u1 h
        refine lv_iload S.1 S.2.1 dX9_spells_119 (lv_at hl 8 rfl) ?_
        obtain ⟨z2, h⟩ := of_g h
        have f3 := Option.some.inj h
        subst f3
        exact rz S hr hlocks hW (nz z2) dX9_spells_121
      · have h := of_n u1 h
        refine lv_iload S.1 S.2.1 dX9_spells_32 (lv_at hl 8 rfl) ?_
        refine lv_if_eq (tgt := 119) S.1 S.2.1 dX9_spells_34 (by decide) (fun u4 => ?_) (fun u4 => ?_)
        · have h := of_p u4 h
          refine lv_iload S.1 S.2.1 dX9_spells_119 (lv_at hl 8 rfl) ?_
          obtain ⟨z5, h⟩ := of_g h
          have f6 := Option.some.inj h
          subst f6
          exact rz S hr hlocks hW (nz z5) dX9_spells_121
        · have h := of_n u4 h
          refine lv_aload_n S.1 S.2.1 dX9_spells_37 rfl (lv_at hl 0 rfl) ?_
          refine gf (C := RX9) (T := TX9) (N := 28) (ci := 5) (k := 20) S hK hW wu_X9 rfl (by decide) wf_X9_57 0 rfl rfl dX9_spells_38 ?_
          refine lv_aload_n S.1 S.2.1 dX9_spells_41 rfl (lv_at hl 0 rfl) ?_
          refine gf (C := RX9) (T := TX9) (N := 28) (ci := 5) (k := 22) S hK hW wu_X9 rfl (by decide) wf_X9_278 0 rfl rfl dX9_spells_42 ?_
          refine lv_iload S.1 S.2.1 dX9_spells_45 (lv_at hl 9 rfl) ?_
          refine lv_iadd S.1 S.2.1 dX9_spells_47 ?_
          obtain ⟨z7, h⟩ := of_g h
          refine ia S hK hW rfl 15 rfl z7 dX9_spells_48 ?_
          refine lv_iload S.1 S.2.1 dX9_spells_49 (lv_at hl 9 rfl) ?_
          obtain ⟨y8, e9, h⟩ := lt1_e h
          suffices hM10 : ∀ ls : Array Slot, lv_has ls 10 [(0, .ref h0), (1, .int x1), (2, .int x2), (3, .int x3), (4, .int x4), (5, .int x5), (6, .int x6), (7, .int x7), (9, .int x9)] → W p l e rmX9_spells s m (List.toArray [.ref h0, .int p1, .int p2, .int p3, .int p4, .int p5, .int p6, .int p7]) below meth c H locs 0 0 (MQ below (kQ (dC, dI) (cwX9 cI cJ cZ cB h0 a0 c0 w0 []) (some (.int r)) A) (List.toArray [.ref h0, .int p1, .int p2, .int p3, .int p4, .int p5, .int p6, .int p7]) s 0 0 A) (F0 m 103 ls [.int y8, .int ((c0 20) (ix ((c0 22 0) + x9)))]) by
            refine lv_if_ne (tgt := 58) S.1 S.2.1 dX9_spells_51 (by decide) (fun u11 => ?_) (fun u11 => ?_)
            · refine lv_iload S.1 S.2.1 dX9_spells_58 (lv_at hl 9 rfl) ?_
              refine lv_iconst (v := (1 : Int32)) S.1 S.2.1 dX9_spells_60 ki_1 ?_
              refine lv_icmp_ne (tgt := 68) S.1 S.2.1 dX9_spells_61 (by decide) (fun u12 => ?_) (fun u12 => ?_)
              · refine lv_iload S.1 S.2.1 dX9_spells_68 (lv_at hl 9 rfl) ?_
                refine lv_iconst (v := (2 : Int32)) S.1 S.2.1 dX9_spells_70 ki_2 ?_
                refine lv_icmp_ne (tgt := 79) S.1 S.2.1 dX9_spells_71 (by decide) (fun u13 => ?_) (fun u13 => ?_)
                · refine lv_iload S.1 S.2.1 dX9_spells_79 (lv_at hl 9 rfl) ?_
                  refine lv_iconst (v := (3 : Int32)) S.1 S.2.1 dX9_spells_81 ki_3 ?_
                  refine lv_icmp_ne (tgt := 90) S.1 S.2.1 dX9_spells_82 (by decide) (fun u14 => ?_) (fun u14 => ?_)
                  · refine lv_iload S.1 S.2.1 dX9_spells_90 (lv_at hl 9 rfl) ?_
                    refine lv_iconst (v := (4 : Int32)) S.1 S.2.1 dX9_spells_92 ki_4 ?_
                    refine lv_icmp_ne (tgt := 101) S.1 S.2.1 dX9_spells_93 (by decide) (fun u15 => ?_) (fun u15 => ?_)
                    · refine lv_iload S.1 S.2.1 dX9_spells_101 (lv_at hl 7 rfl) ?_
                      have e9 := e9.trans ((if_neg u11).trans ((if_neg u12).trans ((if_neg u13).trans ((if_neg u14).trans (if_neg u15)))))
                      subst e9
                      exact hM10 ls (lv_sub hl [0, 1, 2, 3, 4, 5, 6, 7, 9] rfl)
                    · refine lv_iload S.1 S.2.1 dX9_spells_96 (lv_at hl 6 rfl) ?_
                      refine lv_goto (tgt := 103) S.1 S.2.1 dX9_spells_98 (by decide) ?_
                      have e9 := e9.trans ((if_neg u11).trans ((if_neg u12).trans ((if_neg u13).trans ((if_neg u14).trans (if_pos u15)))))
                      subst e9
                      exact hM10 ls (lv_sub hl [0, 1, 2, 3, 4, 5, 6, 7, 9] rfl)
                  · refine lv_iload S.1 S.2.1 dX9_spells_85 (lv_at hl 5 rfl) ?_
                    refine lv_goto (tgt := 103) S.1 S.2.1 dX9_spells_87 (by decide) ?_
                    have e9 := e9.trans ((if_neg u11).trans ((if_neg u12).trans ((if_neg u13).trans (if_pos u14))))
                    subst e9
                    exact hM10 ls (lv_sub hl [0, 1, 2, 3, 4, 5, 6, 7, 9] rfl)
                · refine lv_iload S.1 S.2.1 dX9_spells_74 (lv_at hl 4 rfl) ?_
                  refine lv_goto (tgt := 103) S.1 S.2.1 dX9_spells_76 (by decide) ?_
                  have e9 := e9.trans ((if_neg u11).trans ((if_neg u12).trans (if_pos u13)))
                  subst e9
                  exact hM10 ls (lv_sub hl [0, 1, 2, 3, 4, 5, 6, 7, 9] rfl)
              · refine lv_iload_n S.1 S.2.1 dX9_spells_64 rfl (lv_at hl 3 rfl) ?_
                refine lv_goto (tgt := 103) S.1 S.2.1 dX9_spells_65 (by decide) ?_
                have e9 := e9.trans ((if_neg u11).trans (if_pos u12))
                subst e9
                exact hM10 ls (lv_sub hl [0, 1, 2, 3, 4, 5, 6, 7, 9] rfl)
            · refine lv_iload_n S.1 S.2.1 dX9_spells_54 rfl (lv_at hl 2 rfl) ?_
              refine lv_goto (tgt := 103) S.1 S.2.1 dX9_spells_55 (by decide) ?_
              have e9 := e9.trans (if_pos u11)
              subst e9
              exact hM10 ls (lv_sub hl [0, 1, 2, 3, 4, 5, 6, 7, 9] rfl)
          intro ls hl
          obtain ⟨y16, e17, h⟩ := lt1_e h
          suffices hM18 : ∀ ls : Array Slot, lv_has ls 10 [(0, .ref h0), (1, .int x1), (2, .int x2), (3, .int x3), (4, .int x4), (5, .int x5), (6, .int x6), (7, .int x7), (9, .int x9)] → W p l e rmX9_spells s m (List.toArray [.ref h0, .int p1, .int p2, .int p3, .int p4, .int p5, .int p6, .int p7]) below meth c H locs 0 0 (MQ below (kQ (dC, dI) (cwX9 cI cJ cZ cB h0 a0 c0 w0 []) (some (.int r)) A) (List.toArray [.ref h0, .int p1, .int p2, .int p3, .int p4, .int p5, .int p6, .int p7]) s 0 0 A) (F0 m 111 ls [.int y16]) by
            refine lv_icmp_ne (tgt := 110) S.1 S.2.1 dX9_spells_103 (by decide) (fun u19 => ?_) (fun u19 => ?_)
            · refine lv_iconst (v := (0 : Int32)) S.1 S.2.1 dX9_spells_110 ki_0 ?_
              have e17 := e17.trans (if_neg u19)
              subst e17
              exact hM18 ls (lv_sub hl [0, 1, 2, 3, 4, 5, 6, 7, 8] rfl)
            · refine lv_iconst (v := (1 : Int32)) S.1 S.2.1 dX9_spells_106 ki_1 ?_
              refine lv_goto (tgt := 111) S.1 S.2.1 dX9_spells_107 (by decide) ?_
              have e17 := e17.trans (if_pos u19)
              subst e17
              exact hM18 ls (lv_sub hl [0, 1, 2, 3, 4, 5, 6, 7, 8] rfl)
          intro ls hl
          refine lv_istore (lv' := [(8, .int y16), (0, .ref h0), (1, .int x1), (2, .int x2), (3, .int x3), (4, .int x4), (5, .int x5), (6, .int x6), (7, .int x7), (9, .int x9)]) S.1 S.2.1 dX9_spells_111 hl (by decide) rfl (fun ls hl => ?_)
          refine lv_iinc (v := (x9 + (1 : Int32))) (lv' := [(9, .int (x9 + (1 : Int32))), (8, .int y16), (0, .ref h0), (1, .int x1), (2, .int x2), (3, .int x3), (4, .int x4), (5, .int x5), (6, .int x6), (7, .int x7)]) S.1 S.2.1 dX9_spells_113 hl (k := 9) rfl (congrArg (fun z => x9 + z) ki_1) (by decide) rfl (fun ls hl => ?_)
          refine lv_goto (tgt := 26) S.1 S.2.1 dX9_spells_116 (by decide) ?_
          exact ih26 _ _ _ _ _ _ _ _ _ h H locs hW ls (lv_sub hl [2, 3, 4, 5, 6, 7, 8, 9, 1, 0] rfl)
  refine lv_aload_n S.1 S.2.1 dX9_spells_0 rfl (lv_at hl 0 rfl) ?_
  refine gf (C := RX9) (T := TX9) (N := 28) (ci := 5) (k := 24) S hK hW wu_X9 rfl (by decide) wf_X9_284 0 rfl rfl dX9_spells_1 ?_
  refine lv_iconst (v := (1 : Int32)) S.1 S.2.1 dX9_spells_4 ki_1 ?_
  obtain ⟨y20, e21, h⟩ := lt1_e h
  suffices hM22 : ∀ ls : Array Slot, lv_has ls 10 [(0, .ref h0), (1, .int p1), (2, .int p2), (3, .int p3), (4, .int p4), (5, .int p5), (6, .int p6), (7, .int p7)] → W p l e rmX9_spells s m (List.toArray [.ref h0, .int p1, .int p2, .int p3, .int p4, .int p5, .int p6, .int p7]) below meth c H locs 0 0 (MQ below (kQ (dC, dI) (cwX9 cI cJ cZ cB h0 a0 c0 w0 []) (some (.int r)) A) (List.toArray [.ref h0, .int p1, .int p2, .int p3, .int p4, .int p5, .int p6, .int p7]) s 0 0 A) (F0 m 21 ls [.int y20]) by
    refine lv_icmp_ne (tgt := 20) S.1 S.2.1 dX9_spells_5 (by decide) (fun u23 => ?_) (fun u23 => ?_)
    · refine lv_iconst (v := (0 : Int32)) S.1 S.2.1 dX9_spells_20 ki_0 ?_
      have e21 := e21.trans (if_neg u23)
      subst e21
      exact hM22 ls (lv_sub hl [0, 1, 2, 3, 4, 5, 6, 7] rfl)
    · refine lv_aload_n S.1 S.2.1 dX9_spells_8 rfl (lv_at hl 0 rfl) ?_
      refine gf (C := RX9) (T := TX9) (N := 28) (ci := 5) (k := 23) S hK hW wu_X9 rfl (by decide) wf_X9_281 0 rfl rfl dX9_spells_9 ?_
      refine lv_iload_n S.1 S.2.1 dX9_spells_12 rfl (lv_at hl 1 rfl) ?_
      refine lv_icmp_ne (tgt := 20) S.1 S.2.1 dX9_spells_13 (by decide) (fun u24 => ?_) (fun u24 => ?_)
      · refine lv_iconst (v := (0 : Int32)) S.1 S.2.1 dX9_spells_20 ki_0 ?_
        have e21 := e21.trans ((if_pos u23).trans (if_neg u24))
        subst e21
        exact hM22 ls (lv_sub hl [0, 1, 2, 3, 4, 5, 6, 7] rfl)
      · refine lv_iconst (v := (1 : Int32)) S.1 S.2.1 dX9_spells_16 ki_1 ?_
        refine lv_goto (tgt := 21) S.1 S.2.1 dX9_spells_17 (by decide) ?_
        have e21 := e21.trans ((if_pos u23).trans (if_pos u24))
        subst e21
        exact hM22 ls (lv_sub hl [0, 1, 2, 3, 4, 5, 6, 7] rfl)
  intro ls hl
  refine lv_istore (lv' := [(8, .int y20), (0, .ref h0), (1, .int p1), (2, .int p2), (3, .int p3), (4, .int p4), (5, .int p5), (6, .int p6), (7, .int p7)]) S.1 S.2.1 dX9_spells_21 hl (by decide) rfl (fun ls hl => ?_)
  refine lv_iconst (v := (0 : Int32)) S.1 S.2.1 dX9_spells_23 ki_0 ?_
  refine lv_istore (lv' := [(9, .int (0 : Int32)), (8, .int y20), (0, .ref h0), (1, .int p1), (2, .int p2), (3, .int p3), (4, .int p4), (5, .int p5), (6, .int p6), (7, .int p7)]) S.1 S.2.1 dX9_spells_24 hl (by decide) rfl (fun ls hl => ?_)
  exact hL26 F _ _ _ _ _ _ _ _ _ h H locs hW ls (lv_sub hl [2, 3, 4, 5, 6, 7, 8, 9, 1, 0] rfl)
