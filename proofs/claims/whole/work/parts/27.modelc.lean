abbrev rmX9_mayTo : Room := { frames := 0, cells := 0, slots := 0, locals := 0 }
set_option maxHeartbeats 4000000 in
set_option maxRecDepth 100000 in
theorem t_X9_mayTo (l : Launch) (dC : Nat → ClassId) (dI : Nat → Nat → Nat) (cI cJ cZ cB : ClassId) (zz : ZT)  (h0 : Nat) (a0 : Nat → Nat) (c0 : Nat → Nat → Int32) (w0 : Nat → Nat → Int64) (p1 : Int32) (r : Int32) (hm : md_X9_mayTo c0 w0 p1 = some (r)) : ct l (dC, dI) zz (ty4 cI cJ cZ cB) yX9_mayTo cX9_mayTo 2 (some .boolean) rmX9_mayTo [.ref h0, .int p1] (cwX9 cI cJ cZ cB h0 a0 c0 w0 []) (cwX9 cI cJ cZ cB h0 a0 c0 w0 []) (some (.int r)) := by
  refine ct_of (cc := cX9_mayTo) (maxL := 2) (ret := (some .boolean)) (by decide) (Nat.le_of_ble_eq_true rfl) ?_
  intro p e s m below meth c A S hr hlocks hK hN hZ hA H locs hW ls hl
  have S : CallFix p m c cX9_mayTo 2 s (List.toArray [.ref h0, .int p1]) G RX9 := S
  have hl : lv_has ls 2 [(0, .ref h0), (1, .int p1)] := hl
  have h := hm
  rw [md_X9_mayTo] at h
  have hW : wd (dC, dI) A s.heap (clX9 cI cJ cZ cB h0 a0 (c0 0) (c0 1) (c0 2) (c0 3) (w0 4 0) (w0 5 0) (c0 6) (c0 7) (c0 8) (c0 9) (c0 10) (c0 11) (c0 12) (c0 13) (c0 14 0) (c0 15 0) (c0 16 0) (c0 17 0) (c0 18) (c0 19) (c0 20) (c0 21 0) (c0 22 0) (c0 23 0) (c0 24 0) (c0 25 0) (c0 26) (c0 27) []) H locs := hW
  refine lv_aload_n S.1 S.2.1 dX9_mayTo_0 rfl (lv_at hl 0 rfl) ?_
  refine gf (C := RX9) (T := TX9) (N := 28) (ci := 5) (k := 0) S hK hW wu_X9 rfl (by decide) wf_X9_7 0 rfl rfl dX9_mayTo_1 ?_
  refine lv_bipush (v := (6 : Int32)) S.1 S.2.1 dX9_mayTo_4 kb_6 ?_
  refine lv_iload_n S.1 S.2.1 dX9_mayTo_6 rfl (lv_at hl 1 rfl) ?_
  refine lv_iadd S.1 S.2.1 dX9_mayTo_7 ?_
  obtain ⟨z1, h⟩ := of_g h
  refine ia S hK hW rfl 1 rfl z1 dX9_mayTo_8 ?_
  refine lv_if_le (tgt := 30) S.1 S.2.1 dX9_mayTo_9 (by decide) (fun u2 => ?_) (fun u2 => ?_)
  · have h := of_p u2 h
    refine lv_iconst (v := (0 : Int32)) S.1 S.2.1 dX9_mayTo_30 ki_0 ?_
    have f3 := Option.some.inj h
    subst f3
    exact rz S hr hlocks hW (nz (Or.inl rfl)) dX9_mayTo_31
  · have h := of_n u2 h
    refine lv_aload_n S.1 S.2.1 dX9_mayTo_12 rfl (lv_at hl 0 rfl) ?_
    refine gf (C := RX9) (T := TX9) (N := 28) (ci := 5) (k := 18) S hK hW wu_X9 rfl (by decide) wf_X9_51 0 rfl rfl dX9_mayTo_13 ?_
    refine lv_aload_n S.1 S.2.1 dX9_mayTo_16 rfl (lv_at hl 0 rfl) ?_
    refine gf (C := RX9) (T := TX9) (N := 28) (ci := 5) (k := 17) S hK hW wu_X9 rfl (by decide) wf_X9_194 0 rfl rfl dX9_mayTo_17 ?_
    refine lv_iconst (v := (2 : Int32)) S.1 S.2.1 dX9_mayTo_20 ki_2 ?_
    refine lv_irem S.1 S.2.1 dX9_mayTo_21 (by decide) ?_
    obtain ⟨z4, h⟩ := of_g h
    refine ia S hK hW rfl 13 rfl z4 dX9_mayTo_22 ?_
    refine lv_if_le (tgt := 30) S.1 S.2.1 dX9_mayTo_23 (by decide) (fun u5 => ?_) (fun u5 => ?_)
    · have h := of_p u5 h
      refine lv_iconst (v := (0 : Int32)) S.1 S.2.1 dX9_mayTo_30 ki_0 ?_
      have f6 := Option.some.inj h
      subst f6
      exact rz S hr hlocks hW (nz (Or.inl rfl)) dX9_mayTo_31
    · have h := of_n u5 h
      refine lv_iconst (v := (1 : Int32)) S.1 S.2.1 dX9_mayTo_26 ki_1 ?_
      refine lv_goto (tgt := 31) S.1 S.2.1 dX9_mayTo_27 (by decide) ?_
      have f7 := Option.some.inj h
      subst f7
      exact rz S hr hlocks hW (nz (Or.inr rfl)) dX9_mayTo_31
abbrev rmX9_goObjecting : Room := { frames := 0, cells := 0, slots := 0, locals := 0 }
set_option maxHeartbeats 4000000 in
set_option maxRecDepth 100000 in
theorem t_X9_goObjecting (l : Launch) (dC : Nat → ClassId) (dI : Nat → Nat → Nat) (cI cJ cZ cB : ClassId) (zz : ZT)  (h0 : Nat) (a0 : Nat → Nat) (c0 : Nat → Nat → Int32) (w0 : Nat → Nat → Int64) (c0' : Nat → Nat → Int32) (hm : md_X9_goObjecting c0 w0 = some (c0')) : ct l (dC, dI) zz (ty4 cI cJ cZ cB) yX9_goObjecting cX9_goObjecting 1 none rmX9_goObjecting [.ref h0] (cwX9 cI cJ cZ cB h0 a0 c0 w0 []) (cwX9 cI cJ cZ cB h0 a0 c0' w0 []) none := by
  refine ct_of (cc := cX9_goObjecting) (maxL := 1) (ret := none) (by decide) (Nat.le_of_ble_eq_true rfl) ?_
  intro p e s m below meth c A S hr hlocks hK hN hZ hA H locs hW ls hl
  have S : CallFix p m c cX9_goObjecting 1 s (List.toArray [.ref h0]) G RX9 := S
  have hl : lv_has ls 1 [(0, .ref h0)] := hl
  have h := hm
  rw [md_X9_goObjecting] at h
  have hW : wd (dC, dI) A s.heap (clX9 cI cJ cZ cB h0 a0 (c0 0) (c0 1) (c0 2) (c0 3) (w0 4 0) (w0 5 0) (c0 6) (c0 7) (c0 8) (c0 9) (c0 10) (c0 11) (c0 12) (c0 13) (c0 14 0) (c0 15 0) (c0 16 0) (c0 17 0) (c0 18) (c0 19) (c0 20) (c0 21 0) (c0 22 0) (c0 23 0) (c0 24 0) (c0 25 0) (c0 26) (c0 27) []) H locs := hW
  refine lv_aload_n S.1 S.2.1 dX9_goObjecting_0 rfl (lv_at hl 0 rfl) ?_
  refine gf (C := RX9) (T := TX9) (N := 28) (ci := 5) (k := 18) S hK hW wu_X9 rfl (by decide) wf_X9_51 0 rfl rfl dX9_goObjecting_1 ?_
  refine lv_aload_n S.1 S.2.1 dX9_goObjecting_4 rfl (lv_at hl 0 rfl) ?_
  refine gf (C := RX9) (T := TX9) (N := 28) (ci := 5) (k := 17) S hK hW wu_X9 rfl (by decide) wf_X9_194 0 rfl rfl dX9_goObjecting_5 ?_
  refine lv_iconst (v := (2 : Int32)) S.1 S.2.1 dX9_goObjecting_8 ki_2 ?_
  refine lv_irem S.1 S.2.1 dX9_goObjecting_9 (by decide) ?_
  refine lv_dup2_11 S.1 S.2.1 dX9_goObjecting_10 rfl rfl ?_
  obtain ⟨z1, h⟩ := of_g h
  refine ia S hK hW rfl 13 rfl z1 dX9_goObjecting_11 ?_
  refine lv_iconst (v := (1 : Int32)) S.1 S.2.1 dX9_goObjecting_12 ki_1 ?_
  refine lv_isub S.1 S.2.1 dX9_goObjecting_13 ?_
  obtain ⟨y2, e3, h⟩ := lt1_e h
  refine nmi e3 ?_
  obtain ⟨z4, h⟩ := of_g h
  refine ist S hK hW rfl 13 rfl z4 dX9_goObjecting_14 (fun H locs hW => ?_)
  have hW : wd (dC, dI) A s.heap (clX9 cI cJ cZ cB h0 a0 (c0 0) (c0 1) (c0 2) (c0 3) (w0 4 0) (w0 5 0) (c0 6) (c0 7) (c0 8) (c0 9) (c0 10) (c0 11) (c0 12) (c0 13) (c0 14 0) (c0 15 0) (c0 16 0) (c0 17 0) (upd (c0 18) (ix ((c0 17 0) - (c0 17 0) / (2 : Int32) * (2 : Int32))) y2) (c0 19) (c0 20) (c0 21 0) (c0 22 0) (c0 23 0) (c0 24 0) (c0 25 0) (c0 26) (c0 27) []) H locs := hW
  refine lv_aload_n S.1 S.2.1 dX9_goObjecting_15 rfl (lv_at hl 0 rfl) ?_
  refine lv_iconst (v := (1 : Int32)) S.1 S.2.1 dX9_goObjecting_16 ki_1 ?_
  refine lv_aload_n S.1 S.2.1 dX9_goObjecting_17 rfl (lv_at hl 0 rfl) ?_
  refine gf (C := RX9) (T := TX9) (N := 28) (ci := 5) (k := 15) S hK hW wu_X9 rfl (by decide) wf_X9_188 0 rfl rfl dX9_goObjecting_18 ?_
  refine lv_isub S.1 S.2.1 dX9_goObjecting_21 ?_
  refine pf (C := RX9) (T := TX9) (N := 28) (ci := 5) (k := 15) (ty := .int) S hK hW wu_X9 rfl (by decide) tyX9 tyX9_ok nmX9 wf_X9_188 0 rfl rfl rfl rfl rfl (Nat.le_of_ble_eq_true rfl) dX9_goObjecting_22 (fun H locs hW => ?_)
  have hW : wd (dC, dI) A s.heap (clX9 cI cJ cZ cB h0 a0 (c0 0) (c0 1) (c0 2) (c0 3) (w0 4 0) (w0 5 0) (c0 6) (c0 7) (c0 8) (c0 9) (c0 10) (c0 11) (c0 12) (c0 13) (c0 14 0) ((1 : Int32) - (c0 15 0)) (c0 16 0) (c0 17 0) (upd (c0 18) (ix ((c0 17 0) - (c0 17 0) / (2 : Int32) * (2 : Int32))) y2) (c0 19) (c0 20) (c0 21 0) (c0 22 0) (c0 23 0) (c0 24 0) (c0 25 0) (c0 26) (c0 27) []) H locs := hW
  have f5 := Option.some.inj h
  subst f5
  exact rv S hr hlocks hW dX9_goObjecting_25
abbrev rmX9_proof : Room := { frames := 4, cells := 0, slots := 0, locals := 99 }
set_option maxHeartbeats 4000000 in
set_option maxRecDepth 100000 in
theorem t_X9_proof (l : Launch) (dC : Nat → ClassId) (dI : Nat → Nat → Nat) (cI cJ cZ cB : ClassId) (zz : ZT)  (h0 : Nat) (a0 : Nat → Nat) (F : Nat) (c0 : Nat → Nat → Int32) (w0 : Nat → Nat → Int64) (p1 : Int32) (r : Int32) (c0' : Nat → Nat → Int32) (hm : md_X9_proof F c0 w0 p1 = some (r, c0')) : ct l (dC, dI) zz (ty4 cI cJ cZ cB) yX9_proof cX9_proof 6 (some .int) rmX9_proof [.ref h0, .int p1] (cwX9 cI cJ cZ cB h0 a0 c0 w0 []) (cwX9 cI cJ cZ cB h0 a0 c0' w0 []) (some (.int r)) := by
  refine ct_of (cc := cX9_proof) (maxL := 6) (ret := (some .int)) (by decide) (Nat.le_of_ble_eq_true rfl) ?_
  intro p e s m below meth c A S hr hlocks hK hN hZ hA H locs hW ls hl
  have S : CallFix p m c cX9_proof 6 s (List.toArray [.ref h0, .int p1]) G RX9 := S
  have hl : lv_has ls 6 [(0, .ref h0), (1, .int p1)] := hl
  have h := hm
  rw [md_X9_proof] at h
  have hW : wd (dC, dI) A s.heap (clX9 cI cJ cZ cB h0 a0 (c0 0) (c0 1) (c0 2) (c0 3) (w0 4 0) (w0 5 0) (c0 6) (c0 7) (c0 8) (c0 9) (c0 10) (c0 11) (c0 12) (c0 13) (c0 14 0) (c0 15 0) (c0 16 0) (c0 17 0) (c0 18) (c0 19) (c0 20) (c0 21 0) (c0 22 0) (c0 23 0) (c0 24 0) (c0 25 0) (c0 26) (c0 27) []) H locs := hW
  have hL21 : ∀ (n21 : Nat) (c0 : Nat → Nat → Int32) (x1 : Int32) (x2 : Int32) (x3 : Int32), ld_X9_proof_21 F w0 n21 c0 x1 x2 x3 = some (r, c0') → ∀ (H : Heap) (locs : List Loc), wd (dC, dI) A s.heap (clX9 cI cJ cZ cB h0 a0 (c0 0) (c0 1) (c0 2) (c0 3) (w0 4 0) (w0 5 0) (c0 6) (c0 7) (c0 8) (c0 9) (c0 10) (c0 11) (c0 12) (c0 13) (c0 14 0) (c0 15 0) (c0 16 0) (c0 17 0) (c0 18) (c0 19) (c0 20) (c0 21 0) (c0 22 0) (c0 23 0) (c0 24 0) (c0 25 0) (c0 26) (c0 27) []) H locs → ∀ ls : Array Slot, lv_has ls 6 [(0, .ref h0), (1, .int x1), (2, .int x2), (3, .int x3)] → W p l e rmX9_proof s m (List.toArray [.ref h0, .int p1]) below meth c H locs 0 0 (MQ below (kQ (dC, dI) (cwX9 cI cJ cZ cB h0 a0 c0' w0 []) (some (.int r)) A) (List.toArray [.ref h0, .int p1]) s 0 0 A) (F0 m 21 ls []) := by
    intro n21
    induction n21 with
    | zero => intro c0 x1 x2 x3 h; rw [ld_X9_proof_21] at h; cases h
    | succ n21 ih21 =>
      intro c0 x1 x2 x3 h H locs hW ls hl
      rw [ld_X9_proof_21] at h
      have hL77 : ∀ (n77 : Nat) (c0 : Nat → Nat → Int32) (x1 : Int32) (x2 : Int32) (x3 : Int32) (x5 : Int32), ld_X9_proof_77 F w0 (ld_X9_proof_21 F w0 n21) n77 c0 x1 x2 x3 x5 = some (r, c0') → ∀ (H : Heap) (locs : List Loc), wd (dC, dI) A s.heap (clX9 cI cJ cZ cB h0 a0 (c0 0) (c0 1) (c0 2) (c0 3) (w0 4 0) (w0 5 0) (c0 6) (c0 7) (c0 8) (c0 9) (c0 10) (c0 11) (c0 12) (c0 13) (c0 14 0) (c0 15 0) (c0 16 0) (c0 17 0) (c0 18) (c0 19) (c0 20) (c0 21 0) (c0 22 0) (c0 23 0) (c0 24 0) (c0 25 0) (c0 26) (c0 27) []) H locs → ∀ ls : Array Slot, lv_has ls 6 [(0, .ref h0), (1, .int x1), (2, .int x2), (3, .int x3), (5, .int x5)] → W p l e rmX9_proof s m (List.toArray [.ref h0, .int p1]) below meth c H locs 0 0 (MQ below (kQ (dC, dI) (cwX9 cI cJ cZ cB h0 a0 c0' w0 []) (some (.int r)) A) (List.toArray [.ref h0, .int p1]) s 0 0 A) (F0 m 77 ls []) := by
        intro n77
        induction n77 with
        | zero => intro c0 x1 x2 x3 x5 h; rw [ld_X9_proof_77] at h; cases h
        | succ n77 ih77 =>
          intro c0 x1 x2 x3 x5 h H locs hW ls hl
          rw [ld_X9_proof_77] at h
          refine lv_iload S.1 S.2.1 dX9_proof_77 (lv_at hl 4 rfl) ?_
          refine lv_aload_n S.1 S.2.1 dX9_proof_79 rfl (lv_at hl 0 rfl) ?_
          obtain ⟨r1, hy2, h⟩ := bd1_e h
          refine kv0 S hK hN hZ hA hW (rest := [.int x5]) (t_X9_many l dC dI cI cJ cZ cB zz h0 a0 c0 w0 _  hy2) wl_X9_70 wv_X9_many rfl rfl ⟨Nat.le_of_ble_eq_true rfl, Nat.le_of_ble_eq_true rfl⟩ [] [] rfl 0 rfl rfl rfl rfl hl.1 rfl (Nat.le_of_ble_eq_true rfl) dX9_proof_80 [.int r1, .int x5] rfl (fun H locs hW => ?_)
          refine lv_icmp_ge (tgt := 107) S.1 S.2.1 dX9_proof_83 (by decide) (fun u3 => ?_) (fun u3 => ?_)
          · have h := of_p u3 h
            refine lv_iload_n S.1 S.2.1 dX9_proof_107 rfl (lv_at hl 1 rfl) ?_
            obtain ⟨y4, e5, h⟩ := lt1_e h
            suffices hM6 : ∀ ls : Array Slot, lv_has ls 6 [(0, .ref h0), (1, .int x1), (3, .int x3)] → W p l e rmX9_proof s m (List.toArray [.ref h0, .int p1]) below meth c H locs 0 0 (MQ below (kQ (dC, dI) (cwX9 cI cJ cZ cB h0 a0 c0' w0 []) (some (.int r)) A) (List.toArray [.ref h0, .int p1]) s 0 0 A) (F0 m 135 ls [.int y4]) by
              refine lv_if_ne (tgt := 118) S.1 S.2.1 dX9_proof_108 (by decide) (fun u7 => ?_) (fun u7 => ?_)
              · refine lv_iload_n S.1 S.2.1 dX9_proof_118 rfl (lv_at hl 1 rfl) ?_
                refine lv_iconst (v := (1 : Int32)) S.1 S.2.1 dX9_proof_119 ki_1 ?_
                refine lv_icmp_ne (tgt := 134) S.1 S.2.1 dX9_proof_120 (by decide) (fun u8 => ?_) (fun u8 => ?_)
                · refine lv_iload_n S.1 S.2.1 dX9_proof_134 rfl (lv_at hl 2 rfl) ?_
                  have e5 := e5.trans ((if_neg u7).trans (if_neg u8))
                  subst e5
                  exact hM6 ls (lv_sub hl [0, 1, 3] rfl)
                · refine lv_aload_n S.1 S.2.1 dX9_proof_123 rfl (lv_at hl 0 rfl) ?_
                  refine gf (C := RX9) (T := TX9) (N := 28) (ci := 5) (k := 16) S hK hW wu_X9 rfl (by decide) wf_X9_191 0 rfl rfl dX9_proof_124 ?_
                  refine lv_if_ge (tgt := 134) S.1 S.2.1 dX9_proof_127 (by decide) (fun u9 => ?_) (fun u9 => ?_)
                  · refine lv_iload_n S.1 S.2.1 dX9_proof_134 rfl (lv_at hl 2 rfl) ?_
                    have e5 := e5.trans ((if_neg u7).trans ((if_pos u8).trans (if_pos u9)))
                    subst e5
                    exact hM6 ls (lv_sub hl [0, 1, 3] rfl)
                  · refine lv_iload_n S.1 S.2.1 dX9_proof_130 rfl (lv_at hl 3 rfl) ?_
                    refine lv_goto (tgt := 135) S.1 S.2.1 dX9_proof_131 (by decide) ?_
                    have e5 := e5.trans ((if_neg u7).trans ((if_pos u8).trans (if_neg u9)))
                    subst e5
                    exact hM6 ls (lv_sub hl [0, 1, 3] rfl)
              · refine lv_aload_n S.1 S.2.1 dX9_proof_111 rfl (lv_at hl 0 rfl) ?_
                refine gf (C := RX9) (T := TX9) (N := 28) (ci := 5) (k := 16) S hK hW wu_X9 rfl (by decide) wf_X9_191 0 rfl rfl dX9_proof_112 ?_
                refine lv_if_gt (tgt := 130) S.1 S.2.1 dX9_proof_115 (by decide) (fun u10 => ?_) (fun u10 => ?_)
                · refine lv_iload_n S.1 S.2.1 dX9_proof_130 rfl (lv_at hl 3 rfl) ?_
                  refine lv_goto (tgt := 135) S.1 S.2.1 dX9_proof_131 (by decide) ?_
                  have e5 := e5.trans ((if_pos u7).trans (if_pos u10))
                  subst e5
                  exact hM6 ls (lv_sub hl [0, 1, 3] rfl)
                · refine lv_iload_n S.1 S.2.1 dX9_proof_118 rfl (lv_at hl 1 rfl) ?_
                  refine lv_iconst (v := (1 : Int32)) S.1 S.2.1 dX9_proof_119 ki_1 ?_
                  refine lv_icmp_ne (tgt := 134) S.1 S.2.1 dX9_proof_120 (by decide) (fun u11 => ?_) (fun u11 => ?_)
                  · refine lv_iload_n S.1 S.2.1 dX9_proof_134 rfl (lv_at hl 2 rfl) ?_
                    have e5 := e5.trans ((if_pos u7).trans ((if_neg u10).trans (if_neg u11)))
                    subst e5
                    exact hM6 ls (lv_sub hl [0, 1, 3] rfl)
                  · refine lv_aload_n S.1 S.2.1 dX9_proof_123 rfl (lv_at hl 0 rfl) ?_
                    refine gf (C := RX9) (T := TX9) (N := 28) (ci := 5) (k := 16) S hK hW wu_X9 rfl (by decide) wf_X9_191 0 rfl rfl dX9_proof_124 ?_
                    refine lv_if_ge (tgt := 134) S.1 S.2.1 dX9_proof_127 (by decide) (fun u12 => ?_) (fun u12 => ?_)
                    · refine lv_iload_n S.1 S.2.1 dX9_proof_134 rfl (lv_at hl 2 rfl) ?_
                      have e5 := e5.trans ((if_pos u7).trans ((if_neg u10).trans ((if_pos u11).trans (if_pos u12))))
                      subst e5
                      exact hM6 ls (lv_sub hl [0, 1, 3] rfl)
                    · refine lv_iload_n S.1 S.2.1 dX9_proof_130 rfl (lv_at hl 3 rfl) ?_
                      refine lv_goto (tgt := 135) S.1 S.2.1 dX9_proof_131 (by decide) ?_
                      have e5 := e5.trans ((if_pos u7).trans ((if_neg u10).trans ((if_pos u11).trans (if_neg u12))))
                      subst e5
                      exact hM6 ls (lv_sub hl [0, 1, 3] rfl)
            intro ls hl
            refine lv_istore_n (lv' := [(2, .int y4), (0, .ref h0), (1, .int x1), (3, .int x3)]) S.1 S.2.1 dX9_proof_135 rfl hl (by decide) rfl (fun ls hl => ?_)
            refine lv_iinc (v := (x3 + (1 : Int32))) (lv' := [(3, .int (x3 + (1 : Int32))), (2, .int y4), (0, .ref h0), (1, .int x1)]) S.1 S.2.1 dX9_proof_136 hl (k := 3) rfl (congrArg (fun z => x3 + z) ki_1) (by decide) rfl (fun ls hl => ?_)
            refine lv_goto (tgt := 21) S.1 S.2.1 dX9_proof_139 (by decide) ?_
            exact ih21 _ _ _ _ h H locs hW ls (lv_sub hl [2, 3, 1, 0] rfl)
          · have h := of_n u3 h
            refine lv_iload_n S.1 S.2.1 dX9_proof_86 rfl (lv_at hl 3 rfl) ?_
            refine lv_iload S.1 S.2.1 dX9_proof_87 (lv_at hl 4 rfl) ?_
            obtain ⟨r13, hy14, h⟩ := bd1_e h
            refine ks0 S hK hN hZ hA hW (rest := []) (t_X9_has l dC dI cI cJ cZ cB zz x3 x5 _  hy14) wl_X9_120 wv_X9_has rfl rfl ⟨Nat.le_of_ble_eq_true rfl, Nat.le_of_ble_eq_true rfl⟩ [] (clX9 cI cJ cZ cB h0 a0 (c0 0) (c0 1) (c0 2) (c0 3) (w0 4 0) (w0 5 0) (c0 6) (c0 7) (c0 8) (c0 9) (c0 10) (c0 11) (c0 12) (c0 13) (c0 14 0) (c0 15 0) (c0 16 0) (c0 17 0) (c0 18) (c0 19) (c0 20) (c0 21 0) (c0 22 0) (c0 23 0) (c0 24 0) (c0 25 0) (c0 26) (c0 27) []) rfl rfl hl.1 rfl (Nat.le_of_ble_eq_true rfl) dX9_proof_89 [.int r13] rfl (fun H locs hW => ?_)
            refine lv_if_eq (tgt := 101) S.1 S.2.1 dX9_proof_92 (by decide) (fun u15 => ?_) (fun u15 => ?_)
            · have h := of_p u15 h
              refine lv_iinc (v := (x5 + (1 : Int32))) (lv' := [(5, .int (x5 + (1 : Int32))), (0, .ref h0), (1, .int x1), (2, .int x2), (3, .int x3)]) S.1 S.2.1 dX9_proof_101 hl (k := 4) rfl (congrArg (fun z => x5 + z) ki_1) (by decide) rfl (fun ls hl => ?_)
              refine lv_goto (tgt := 77) S.1 S.2.1 dX9_proof_104 (by decide) ?_
              exact ih77 _ _ _ _ _ h H locs hW ls (lv_sub hl [1, 2, 3, 4, 0] rfl)
            · have h := of_n u15 h
              refine lv_aload_n S.1 S.2.1 dX9_proof_95 rfl (lv_at hl 0 rfl) ?_
              refine lv_iload S.1 S.2.1 dX9_proof_96 (lv_at hl 4 rfl) ?_
              obtain ⟨cv16, hy17, h⟩ := bd1_e h
              refine kv (clX9 cI cJ cZ cB h0 a0 (cv16 0) (cv16 1) (cv16 2) (cv16 3) (w0 4 0) (w0 5 0) (cv16 6) (cv16 7) (cv16 8) (cv16 9) (cv16 10) (cv16 11) (cv16 12) (cv16 13) (cv16 14 0) (cv16 15 0) (cv16 16 0) (cv16 17 0) (cv16 18) (cv16 19) (cv16 20) (cv16 21 0) (cv16 22 0) (cv16 23 0) (cv16 24 0) (cv16 25 0) (cv16 26) (cv16 27) []) S hK hN hZ hA hW (rest := []) (t_X9_goSaying l dC dI cI cJ cZ cB zz h0 a0 c0 w0 x5 _  hy17) wl_X9_203 wv_X9_goSaying rfl rfl ⟨Nat.le_of_ble_eq_true rfl, Nat.le_of_ble_eq_true rfl⟩ [] [] rfl rfl rfl 0 rfl rfl rfl rfl hl.1 rfl (Nat.le_of_ble_eq_true rfl) dX9_proof_98 [] rfl (fun H locs hW => ?_)
              refine lv_iinc (v := (x5 + (1 : Int32))) (lv' := [(5, .int (x5 + (1 : Int32))), (0, .ref h0), (1, .int x1), (2, .int x2), (3, .int x3)]) S.1 S.2.1 dX9_proof_101 hl (k := 4) rfl (congrArg (fun z => x5 + z) ki_1) (by decide) rfl (fun ls hl => ?_)
              refine lv_goto (tgt := 77) S.1 S.2.1 dX9_proof_104 (by decide) ?_
              exact ih77 _ _ _ _ _ h H locs hW ls (lv_sub hl [1, 2, 3, 4, 0] rfl)
      have hJ52 : ∀ (c0 : Nat → Nat → Int32) (x1 : Int32) (x2 : Int32) (x3 : Int32) (s0 : Int32), jd_X9_proof_52 F w0 (ld_X9_proof_21 F w0 n21) c0 x1 x2 x3 s0 = some (r, c0') → ∀ (H : Heap) (locs : List Loc), wd (dC, dI) A s.heap (clX9 cI cJ cZ cB h0 a0 (c0 0) (c0 1) (c0 2) (c0 3) (w0 4 0) (w0 5 0) (c0 6) (c0 7) (c0 8) (c0 9) (c0 10) (c0 11) (c0 12) (c0 13) (c0 14 0) (c0 15 0) (c0 16 0) (c0 17 0) (c0 18) (c0 19) (c0 20) (c0 21 0) (c0 22 0) (c0 23 0) (c0 24 0) (c0 25 0) (c0 26) (c0 27) []) H locs → ∀ ls : Array Slot, lv_has ls 6 [(0, .ref h0), (1, .int x1), (2, .int x2), (3, .int x3)] → W p l e rmX9_proof s m (List.toArray [.ref h0, .int p1]) below meth c H locs 0 0 (MQ below (kQ (dC, dI) (cwX9 cI cJ cZ cB h0 a0 c0' w0 []) (some (.int r)) A) (List.toArray [.ref h0, .int p1]) s 0 0 A) (F0 m 52 ls [.int s0]) := by
        intro c0 x1 x2 x3 s0 h H locs hW ls hl
        rw [jd_X9_proof_52] at h
        refine lv_istore (lv' := [(4, .int s0), (0, .ref h0), (1, .int x1), (2, .int x2), (3, .int x3)]) S.1 S.2.1 dX9_proof_52 hl (by decide) rfl (fun ls hl => ?_)
        refine lv_iload_n S.1 S.2.1 dX9_proof_54 rfl (lv_at hl 4 rfl) ?_
        refine lv_aload_n S.1 S.2.1 dX9_proof_55 rfl (lv_at hl 1 rfl) ?_
        refine gf (C := RX9) (T := TX9) (N := 28) (ci := 5) (k := 0) S hK hW wu_X9 rfl (by decide) wf_X9_7 0 rfl rfl dX9_proof_56 ?_
        refine lv_iconst (v := (5 : Int32)) S.1 S.2.1 dX9_proof_59 ki_5 ?_
        refine iaK S hK hW rfl 1 rfl b_5_194 x_5 dX9_proof_60 ?_
        refine lv_iand S.1 S.2.1 dX9_proof_61 ?_
        refine lv_if_ne (tgt := 136) S.1 S.2.1 dX9_proof_62 (by decide) (fun u18 => ?_) (fun u18 => ?_)
        · have h := of_n u18 h
          refine lv_iinc (v := (x3 + (1 : Int32))) (lv' := [(3, .int (x3 + (1 : Int32))), (4, .int s0), (0, .ref h0), (1, .int x1), (2, .int x2)]) S.1 S.2.1 dX9_proof_136 hl (k := 4) rfl (congrArg (fun z => x3 + z) ki_1) (by decide) rfl (fun ls hl => ?_)
          refine lv_goto (tgt := 21) S.1 S.2.1 dX9_proof_139 (by decide) ?_
          exact ih21 _ _ _ _ h H locs hW ls (lv_sub hl [2, 3, 4, 0] rfl)
        · have h := of_p u18 h
          refine lv_iload S.1 S.2.1 dX9_proof_65 (lv_at hl 0 rfl) ?_
          refine lv_if_eq (tgt := 136) S.1 S.2.1 dX9_proof_67 (by decide) (fun u19 => ?_) (fun u19 => ?_)
          · have h := of_p u19 h
            refine lv_iinc (v := (x3 + (1 : Int32))) (lv' := [(3, .int (x3 + (1 : Int32))), (4, .int s0), (0, .ref h0), (1, .int x1), (2, .int x2)]) S.1 S.2.1 dX9_proof_136 hl (k := 4) rfl (congrArg (fun z => x3 + z) ki_1) (by decide) rfl (fun ls hl => ?_)
            refine lv_goto (tgt := 21) S.1 S.2.1 dX9_proof_139 (by decide) ?_
            exact ih21 _ _ _ _ h H locs hW ls (lv_sub hl [2, 3, 4, 0] rfl)
          · have h := of_n u19 h
            refine lv_aload_n S.1 S.2.1 dX9_proof_70 rfl (lv_at hl 1 rfl) ?_
            obtain ⟨cv20, hy21, h⟩ := bd1_e h
            refine kv (clX9 cI cJ cZ cB h0 a0 (cv20 0) (cv20 1) (cv20 2) (cv20 3) (w0 4 0) (w0 5 0) (cv20 6) (cv20 7) (cv20 8) (cv20 9) (cv20 10) (cv20 11) (cv20 12) (cv20 13) (cv20 14 0) (cv20 15 0) (cv20 16 0) (cv20 17 0) (cv20 18) (cv20 19) (cv20 20) (cv20 21 0) (cv20 22 0) (cv20 23 0) (cv20 24 0) (cv20 25 0) (cv20 26) (cv20 27) []) S hK hN hZ hA hW (rest := []) (t_X9_layNow l dC dI cI cJ cZ cB zz h0 a0 c0 w0 _  hy21) wl_X9_200 wv_X9_layNow rfl rfl ⟨Nat.le_of_ble_eq_true rfl, Nat.le_of_ble_eq_true rfl⟩ [] [] rfl rfl rfl 0 rfl rfl rfl rfl hl.1 rfl (Nat.le_of_ble_eq_true rfl) dX9_proof_71 [] rfl (fun H locs hW => ?_)
            refine lv_iconst (v := (0 : Int32)) S.1 S.2.1 dX9_proof_74 ki_0 ?_
            refine lv_istore (lv' := [(5, .int (0 : Int32)), (4, .int s0), (0, .ref h0), (1, .int x1), (2, .int x2), (3, .int x3)]) S.1 S.2.1 dX9_proof_75 hl (by decide) rfl (fun ls hl => ?_)
            exact hL77 F _ _ _ _ _ h H locs hW ls (lv_sub hl [2, 3, 4, 5, 0] rfl)
      refine lv_iload_n S.1 S.2.1 dX9_proof_21 rfl (lv_at hl 3 rfl) ?_
      refine lv_iconst (v := (1 : Int32)) S.1 S.2.1 dX9_proof_22 ki_1 ?_
      refine lv_aload_n S.1 S.2.1 dX9_proof_23 rfl (lv_at hl 0 rfl) ?_
      obtain ⟨r22, hy23, h⟩ := bd1_e h
      refine kv0 S hK hN hZ hA hW (rest := [.int (1 : Int32), .int x3]) (t_X9_many l dC dI cI cJ cZ cB zz h0 a0 c0 w0 _  hy23) wl_X9_70 wv_X9_many rfl rfl ⟨Nat.le_of_ble_eq_true rfl, Nat.le_of_ble_eq_true rfl⟩ [] [] rfl 0 rfl rfl rfl rfl hl.1 rfl (Nat.le_of_ble_eq_true rfl) dX9_proof_24 [.int r22, .int (1 : Int32), .int x3] rfl (fun H locs hW => ?_)
      refine lv_ishl S.1 S.2.1 dX9_proof_27 ?_
      refine lv_icmp_ge (tgt := 142) S.1 S.2.1 dX9_proof_28 (by decide) (fun u24 => ?_) (fun u24 => ?_)
      · have h := of_p u24 h
        refine lv_iload_n S.1 S.2.1 dX9_proof_142 rfl (lv_at hl 2 rfl) ?_
        have f25 := Option.some.inj h
        obtain ⟨f26, f27⟩ := Prod.mk.inj f25
        subst f26
        subst f27
        exact ri S hr hlocks hW dX9_proof_143
      · have h := of_n u24 h
        refine lv_iload_n S.1 S.2.1 dX9_proof_31 rfl (lv_at hl 2 rfl) ?_
        refine lv_iconst (v := (-1 : Int32)) S.1 S.2.1 dX9_proof_32 ki_m1 ?_
        refine lv_icmp_eq (tgt := 47) S.1 S.2.1 dX9_proof_33 (by decide) (fun u28 => ?_) (fun u28 => ?_)
        · have h := of_p u28 h
          refine lv_iconst (v := (1 : Int32)) S.1 S.2.1 dX9_proof_47 ki_1 ?_
          refine lv_goto (tgt := 52) S.1 S.2.1 dX9_proof_48 (by decide) ?_
          exact hJ52 _ _ _ _ _ h H locs hW ls (lv_sub hl [0, 1, 2, 3] rfl)
        · have h := of_n u28 h
          refine lv_iload_n S.1 S.2.1 dX9_proof_36 rfl (lv_at hl 3 rfl) ?_
          obtain ⟨r29, hy30, h⟩ := bd1_e h
          refine ks0 S hK hN hZ hA hW (rest := []) (t_X9_bits l dC dI cI cJ cZ cB zz F x3 _  hy30) wl_X9_197 wv_X9_bits rfl rfl ⟨Nat.le_of_ble_eq_true rfl, Nat.le_of_ble_eq_true rfl⟩ [] (clX9 cI cJ cZ cB h0 a0 (c0 0) (c0 1) (c0 2) (c0 3) (w0 4 0) (w0 5 0) (c0 6) (c0 7) (c0 8) (c0 9) (c0 10) (c0 11) (c0 12) (c0 13) (c0 14 0) (c0 15 0) (c0 16 0) (c0 17 0) (c0 18) (c0 19) (c0 20) (c0 21 0) (c0 22 0) (c0 23 0) (c0 24 0) (c0 25 0) (c0 26) (c0 27) []) rfl rfl hl.1 rfl (Nat.le_of_ble_eq_true rfl) dX9_proof_37 [.int r29] rfl (fun H locs hW => ?_)
          refine lv_iload_n S.1 S.2.1 dX9_proof_40 rfl (lv_at hl 2 rfl) ?_
          obtain ⟨r31, hy32, h⟩ := bd1_e h
          refine ks0 S hK hN hZ hA hW (rest := [.int r29]) (t_X9_bits l dC dI cI cJ cZ cB zz F x2 _  hy32) wl_X9_197 wv_X9_bits rfl rfl ⟨Nat.le_of_ble_eq_true rfl, Nat.le_of_ble_eq_true rfl⟩ [] (clX9 cI cJ cZ cB h0 a0 (c0 0) (c0 1) (c0 2) (c0 3) (w0 4 0) (w0 5 0) (c0 6) (c0 7) (c0 8) (c0 9) (c0 10) (c0 11) (c0 12) (c0 13) (c0 14 0) (c0 15 0) (c0 16 0) (c0 17 0) (c0 18) (c0 19) (c0 20) (c0 21 0) (c0 22 0) (c0 23 0) (c0 24 0) (c0 25 0) (c0 26) (c0 27) []) rfl rfl hl.1 rfl (Nat.le_of_ble_eq_true rfl) dX9_proof_41 [.int r31, .int r29] rfl (fun H locs hW => ?_)
          refine lv_icmp_ge (tgt := 51) S.1 S.2.1 dX9_proof_44 (by decide) (fun u33 => ?_) (fun u33 => ?_)
          · have h := of_p u33 h
            refine lv_iconst (v := (0 : Int32)) S.1 S.2.1 dX9_proof_51 ki_0 ?_
            exact hJ52 _ _ _ _ _ h H locs hW ls (lv_sub hl [0, 1, 2, 3] rfl)
          · have h := of_n u33 h
            refine lv_iconst (v := (1 : Int32)) S.1 S.2.1 dX9_proof_47 ki_1 ?_
            refine lv_goto (tgt := 52) S.1 S.2.1 dX9_proof_48 (by decide) ?_
            exact hJ52 _ _ _ _ _ h H locs hW ls (lv_sub hl [0, 1, 2, 3] rfl)
  refine lv_iload_n S.1 S.2.1 dX9_proof_0 rfl (lv_at hl 1 rfl) ?_
  refine lv_i2l S.1 S.2.1 dX9_proof_1 rfl ?_
  refine lv_lconst (v := (0 : Int64)) S.1 S.2.1 dX9_proof_2 rfl ?_
  refine lv_lconst (v := (1 : Int64)) S.1 S.2.1 dX9_proof_3 rfl ?_
  obtain ⟨r34, hy35, h⟩ := bd1_e h
  refine ks0 S hK hN hZ hA hW (rest := []) (t_X9_in l dC dI cI cJ cZ cB zz p1.toInt64 (0 : Int64) (1 : Int64) _  hy35) wl_X9_74 wv_X9_in rfl rfl ⟨Nat.le_of_ble_eq_true rfl, Nat.le_of_ble_eq_true rfl⟩ [] (clX9 cI cJ cZ cB h0 a0 (c0 0) (c0 1) (c0 2) (c0 3) (w0 4 0) (w0 5 0) (c0 6) (c0 7) (c0 8) (c0 9) (c0 10) (c0 11) (c0 12) (c0 13) (c0 14 0) (c0 15 0) (c0 16 0) (c0 17 0) (c0 18) (c0 19) (c0 20) (c0 21 0) (c0 22 0) (c0 23 0) (c0 24 0) (c0 25 0) (c0 26) (c0 27) []) rfl rfl hl.1 rfl (Nat.le_of_ble_eq_true rfl) dX9_proof_4 [.int r34] rfl (fun H locs hW => ?_)
  refine lv_if_ne (tgt := 17) S.1 S.2.1 dX9_proof_7 (by decide) (fun u36 => ?_) (fun u36 => ?_)
  · have h := of_n u36 h
    refine lv_iconst (v := (-1 : Int32)) S.1 S.2.1 dX9_proof_17 ki_m1 ?_
    refine lv_istore_n (lv' := [(2, .int (-1 : Int32)), (0, .ref h0), (1, .int p1)]) S.1 S.2.1 dX9_proof_18 rfl hl (by decide) rfl (fun ls hl => ?_)
    refine lv_iconst (v := (0 : Int32)) S.1 S.2.1 dX9_proof_19 ki_0 ?_
    refine lv_istore_n (lv' := [(3, .int (0 : Int32)), (2, .int (-1 : Int32)), (0, .ref h0), (1, .int p1)]) S.1 S.2.1 dX9_proof_20 rfl hl (by decide) rfl (fun ls hl => ?_)
    exact hL21 F _ _ _ _ h H locs hW ls (lv_sub hl [2, 3, 1, 0] rfl)
  · have h := of_p u36 h
    refine lv_aload_n S.1 S.2.1 dX9_proof_10 rfl (lv_at hl 0 rfl) ?_
    refine lv_bipush (v := (-2 : Int32)) S.1 S.2.1 dX9_proof_11 kb_m2 ?_
    obtain ⟨r37, cv38, hy39, h⟩ := bd2_e h
    refine kv (clX9 cI cJ cZ cB h0 a0 (cv38 0) (cv38 1) (cv38 2) (cv38 3) (w0 4 0) (w0 5 0) (cv38 6) (cv38 7) (cv38 8) (cv38 9) (cv38 10) (cv38 11) (cv38 12) (cv38 13) (cv38 14 0) (cv38 15 0) (cv38 16 0) (cv38 17 0) (cv38 18) (cv38 19) (cv38 20) (cv38 21 0) (cv38 22 0) (cv38 23 0) (cv38 24 0) (cv38 25 0) (cv38 26) (cv38 27) []) S hK hN hZ hA hW (rest := []) (t_X9_bad l dC dI cI cJ cZ cB zz h0 a0 c0 w0 (-2 : Int32) _ _  hy39) wl_X9_84 wv_X9_bad rfl rfl ⟨Nat.le_of_ble_eq_true rfl, Nat.le_of_ble_eq_true rfl⟩ [] [] rfl rfl rfl 0 rfl rfl rfl rfl hl.1 rfl (Nat.le_of_ble_eq_true rfl) dX9_proof_13 [.int r37] rfl (fun H locs hW => ?_)
    have f40 := Option.some.inj h
    obtain ⟨f41, f42⟩ := Prod.mk.inj f40
    subst f41
    subst f42
    exact ri S hr hlocks hW dX9_proof_16
abbrev rmX9_ends : Room := { frames := 1, cells := 0, slots := 0, locals := 25 }
set_option maxHeartbeats 4000000 in
set_option maxRecDepth 100000 in
theorem t_X9_ends (l : Launch) (dC : Nat → ClassId) (dI : Nat → Nat → Nat) (cI cJ cZ cB : ClassId) (zz : ZT)  (h0 : Nat) (a0 : Nat → Nat) (c0 : Nat → Nat → Int32) (w0 : Nat → Nat → Int64) (p1 : Int32) (r : Int32) (c0' : Nat → Nat → Int32) (hm : md_X9_ends c0 w0 p1 = some (r, c0')) : ct l (dC, dI) zz (ty4 cI cJ cZ cB) yX9_ends cX9_ends 2 (some .int) rmX9_ends [.ref h0, .int p1] (cwX9 cI cJ cZ cB h0 a0 c0 w0 []) (cwX9 cI cJ cZ cB h0 a0 c0' w0 []) (some (.int r)) := by
  refine ct_of (cc := cX9_ends) (maxL := 2) (ret := (some .int)) (by decide) (Nat.le_of_ble_eq_true rfl) ?_
  intro p e s m below meth c A S hr hlocks hK hN hZ hA H locs hW ls hl
  have S : CallFix p m c cX9_ends 2 s (List.toArray [.ref h0, .int p1]) G RX9 := S
  have hl : lv_has ls 2 [(0, .ref h0), (1, .int p1)] := hl
  have h := hm
  rw [md_X9_ends] at h
  have hW : wd (dC, dI) A s.heap (clX9 cI cJ cZ cB h0 a0 (c0 0) (c0 1) (c0 2) (c0 3) (w0 4 0) (w0 5 0) (c0 6) (c0 7) (c0 8) (c0 9) (c0 10) (c0 11) (c0 12) (c0 13) (c0 14 0) (c0 15 0) (c0 16 0) (c0 17 0) (c0 18) (c0 19) (c0 20) (c0 21 0) (c0 22 0) (c0 23 0) (c0 24 0) (c0 25 0) (c0 26) (c0 27) []) H locs := hW
  refine lv_iload_n S.1 S.2.1 dX9_ends_0 rfl (lv_at hl 1 rfl) ?_
  refine lv_i2l S.1 S.2.1 dX9_ends_1 rfl ?_
  refine lv_ldc2 (v := (-99 : Int64)) S.1 S.2.1 S.2.2.2.1 (S.2.2.2.2 _ wk_X9_206) dX9_ends_2 ?_
  refine lv_ldc2 (v := (99 : Int64)) S.1 S.2.1 S.2.2.2.1 (S.2.2.2.2 _ wk_X9_208) dX9_ends_5 ?_
  obtain ⟨r1, hy2, h⟩ := bd1_e h
  refine ks0 S hK hN hZ hA hW (rest := []) (t_X9_in l dC dI cI cJ cZ cB zz p1.toInt64 (-99 : Int64) (99 : Int64) _  hy2) wl_X9_74 wv_X9_in rfl rfl ⟨Nat.le_of_ble_eq_true rfl, Nat.le_of_ble_eq_true rfl⟩ [] (clX9 cI cJ cZ cB h0 a0 (c0 0) (c0 1) (c0 2) (c0 3) (w0 4 0) (w0 5 0) (c0 6) (c0 7) (c0 8) (c0 9) (c0 10) (c0 11) (c0 12) (c0 13) (c0 14 0) (c0 15 0) (c0 16 0) (c0 17 0) (c0 18) (c0 19) (c0 20) (c0 21 0) (c0 22 0) (c0 23 0) (c0 24 0) (c0 25 0) (c0 26) (c0 27) []) rfl rfl hl.1 rfl (Nat.le_of_ble_eq_true rfl) dX9_ends_8 [.int r1] rfl (fun H locs hW => ?_)
  refine lv_if_ne (tgt := 21) S.1 S.2.1 dX9_ends_11 (by decide) (fun u3 => ?_) (fun u3 => ?_)
  · have h := of_n u3 h
    refine lv_aload_n S.1 S.2.1 dX9_ends_21 rfl (lv_at hl 0 rfl) ?_
    refine gf (C := RX9) (T := TX9) (N := 28) (ci := 5) (k := 0) S hK hW wu_X9 rfl (by decide) wf_X9_7 0 rfl rfl dX9_ends_22 ?_
    refine lv_iconst (v := (1 : Int32)) S.1 S.2.1 dX9_ends_25 ki_1 ?_
    refine iaK S hK hW rfl 1 rfl b_1_194 x_1 dX9_ends_26 ?_
    refine lv_iconst (v := (4 : Int32)) S.1 S.2.1 dX9_ends_27 ki_4 ?_
    refine lv_icmp_ne (tgt := 36) S.1 S.2.1 dX9_ends_28 (by decide) (fun u4 => ?_) (fun u4 => ?_)
    · have h := of_n u4 h
      refine lv_aload_n S.1 S.2.1 dX9_ends_36 rfl (lv_at hl 0 rfl) ?_
      refine gf (C := RX9) (T := TX9) (N := 28) (ci := 5) (k := 0) S hK hW wu_X9 rfl (by decide) wf_X9_7 0 rfl rfl dX9_ends_37 ?_
      refine lv_bipush (v := (32 : Int32)) S.1 S.2.1 dX9_ends_40 kb_32 ?_
      refine lv_aload_n S.1 S.2.1 dX9_ends_42 rfl (lv_at hl 0 rfl) ?_
      refine gf (C := RX9) (T := TX9) (N := 28) (ci := 5) (k := 0) S hK hW wu_X9 rfl (by decide) wf_X9_7 0 rfl rfl dX9_ends_43 ?_
      refine lv_iconst (v := (1 : Int32)) S.1 S.2.1 dX9_ends_46 ki_1 ?_
      refine iaK S hK hW rfl 1 rfl b_1_194 x_1 dX9_ends_47 ?_
      refine lv_iadd S.1 S.2.1 dX9_ends_48 ?_
      refine lv_iload_n S.1 S.2.1 dX9_ends_49 rfl (lv_at hl 1 rfl) ?_
      obtain ⟨z5, h⟩ := of_g h
      refine ist S hK hW rfl 1 rfl z5 dX9_ends_50 (fun H locs hW => ?_)
      have hW : wd (dC, dI) A s.heap (clX9 cI cJ cZ cB h0 a0 (upd (c0 0) (ix ((32 : Int32) + ((c0 0) 1))) p1) (c0 1) (c0 2) (c0 3) (w0 4 0) (w0 5 0) (c0 6) (c0 7) (c0 8) (c0 9) (c0 10) (c0 11) (c0 12) (c0 13) (c0 14 0) (c0 15 0) (c0 16 0) (c0 17 0) (c0 18) (c0 19) (c0 20) (c0 21 0) (c0 22 0) (c0 23 0) (c0 24 0) (c0 25 0) (c0 26) (c0 27) []) H locs := hW
      refine lv_aload_n S.1 S.2.1 dX9_ends_51 rfl (lv_at hl 0 rfl) ?_
      refine gf (C := RX9) (T := TX9) (N := 28) (ci := 5) (k := 0) S hK hW wu_X9 rfl (by decide) wf_X9_7 0 rfl rfl dX9_ends_52 ?_
      refine lv_iconst (v := (1 : Int32)) S.1 S.2.1 dX9_ends_55 ki_1 ?_
      refine lv_dup2_11 S.1 S.2.1 dX9_ends_56 rfl rfl ?_
      refine iaK S hK hW rfl 1 rfl b_1_194 x_1 dX9_ends_57 ?_
      refine lv_iconst (v := (1 : Int32)) S.1 S.2.1 dX9_ends_58 ki_1 ?_
      refine lv_iadd S.1 S.2.1 dX9_ends_59 ?_
      obtain ⟨y6, e7, h⟩ := lt1_e h
      refine nmi e7 ?_
      refine istK S hK hW rfl 1 rfl b_1_194 x_1 dX9_ends_60 (fun H locs hW => ?_)
      have hW : wd (dC, dI) A s.heap (clX9 cI cJ cZ cB h0 a0 (upd (upd (c0 0) (ix ((32 : Int32) + ((c0 0) 1))) p1) 1 y6) (c0 1) (c0 2) (c0 3) (w0 4 0) (w0 5 0) (c0 6) (c0 7) (c0 8) (c0 9) (c0 10) (c0 11) (c0 12) (c0 13) (c0 14 0) (c0 15 0) (c0 16 0) (c0 17 0) (c0 18) (c0 19) (c0 20) (c0 21 0) (c0 22 0) (c0 23 0) (c0 24 0) (c0 25 0) (c0 26) (c0 27) []) H locs := hW
      refine lv_aload_n S.1 S.2.1 dX9_ends_61 rfl (lv_at hl 0 rfl) ?_
      refine gf (C := RX9) (T := TX9) (N := 28) (ci := 5) (k := 0) S hK hW wu_X9 rfl (by decide) wf_X9_7 0 rfl rfl dX9_ends_62 ?_
      refine lv_iconst (v := (1 : Int32)) S.1 S.2.1 dX9_ends_65 ki_1 ?_
      refine iaK S hK hW rfl 1 rfl b_1_194 x_1 dX9_ends_66 ?_
      have f8 := Option.some.inj h
      obtain ⟨f9, f10⟩ := Prod.mk.inj f8
      subst f9
      subst f10
      exact ri S hr hlocks hW dX9_ends_67
    · have h := of_p u4 h
      refine lv_aload_n S.1 S.2.1 dX9_ends_31 rfl (lv_at hl 0 rfl) ?_
      obtain ⟨r11, cv12, hy13, h⟩ := bd2_e h
      refine kv (clX9 cI cJ cZ cB h0 a0 (cv12 0) (cv12 1) (cv12 2) (cv12 3) (w0 4 0) (w0 5 0) (cv12 6) (cv12 7) (cv12 8) (cv12 9) (cv12 10) (cv12 11) (cv12 12) (cv12 13) (cv12 14 0) (cv12 15 0) (cv12 16 0) (cv12 17 0) (cv12 18) (cv12 19) (cv12 20) (cv12 21 0) (cv12 22 0) (cv12 23 0) (cv12 24 0) (cv12 25 0) (cv12 26) (cv12 27) []) S hK hN hZ hA hW (rest := []) (t_X9_full l dC dI cI cJ cZ cB zz h0 a0 c0 w0 _ _  hy13) wl_X9_95 wv_X9_full rfl rfl ⟨Nat.le_of_ble_eq_true rfl, Nat.le_of_ble_eq_true rfl⟩ [] [] rfl rfl rfl 0 rfl rfl rfl rfl hl.1 rfl (Nat.le_of_ble_eq_true rfl) dX9_ends_32 [.int r11] rfl (fun H locs hW => ?_)
      have f14 := Option.some.inj h
      obtain ⟨f15, f16⟩ := Prod.mk.inj f14
      subst f15
      subst f16
      exact ri S hr hlocks hW dX9_ends_35
  · have h := of_p u3 h
    refine lv_aload_n S.1 S.2.1 dX9_ends_14 rfl (lv_at hl 0 rfl) ?_
    refine lv_bipush (v := (-2 : Int32)) S.1 S.2.1 dX9_ends_15 kb_m2 ?_
    obtain ⟨r17, cv18, hy19, h⟩ := bd2_e h
    refine kv (clX9 cI cJ cZ cB h0 a0 (cv18 0) (cv18 1) (cv18 2) (cv18 3) (w0 4 0) (w0 5 0) (cv18 6) (cv18 7) (cv18 8) (cv18 9) (cv18 10) (cv18 11) (cv18 12) (cv18 13) (cv18 14 0) (cv18 15 0) (cv18 16 0) (cv18 17 0) (cv18 18) (cv18 19) (cv18 20) (cv18 21 0) (cv18 22 0) (cv18 23 0) (cv18 24 0) (cv18 25 0) (cv18 26) (cv18 27) []) S hK hN hZ hA hW (rest := []) (t_X9_bad l dC dI cI cJ cZ cB zz h0 a0 c0 w0 (-2 : Int32) _ _  hy19) wl_X9_84 wv_X9_bad rfl rfl ⟨Nat.le_of_ble_eq_true rfl, Nat.le_of_ble_eq_true rfl⟩ [] [] rfl rfl rfl 0 rfl rfl rfl rfl hl.1 rfl (Nat.le_of_ble_eq_true rfl) dX9_ends_17 [.int r17] rfl (fun H locs hW => ?_)
    have f20 := Option.some.inj h
    obtain ⟨f21, f22⟩ := Prod.mk.inj f20
    subst f21
    subst f22
    exact ri S hr hlocks hW dX9_ends_20
abbrev rmX9_goesAll : Room := { frames := 4, cells := 0, slots := 0, locals := 99 }
set_option maxHeartbeats 4000000 in
set_option maxRecDepth 100000 in
theorem t_X9_goesAll (l : Launch) (dC : Nat → ClassId) (dI : Nat → Nat → Nat) (cI cJ cZ cB : ClassId) (zz : ZT)  (h0 : Nat) (a0 : Nat → Nat) (F : Nat) (c0 : Nat → Nat → Int32) (w0 : Nat → Nat → Int64) (p1 : Int32) (r : Int32) (c0' : Nat → Nat → Int32) (hm : md_X9_goesAll F c0 w0 p1 = some (r, c0')) : ct l (dC, dI) zz (ty4 cI cJ cZ cB) yX9_goesAll cX9_goesAll 4 (some .boolean) rmX9_goesAll [.ref h0, .int p1] (cwX9 cI cJ cZ cB h0 a0 c0 w0 []) (cwX9 cI cJ cZ cB h0 a0 c0' w0 []) (some (.int r)) := by
  refine ct_of (cc := cX9_goesAll) (maxL := 4) (ret := (some .boolean)) (by decide) (Nat.le_of_ble_eq_true rfl) ?_
  intro p e s m below meth c A S hr hlocks hK hN hZ hA H locs hW ls hl
  have S : CallFix p m c cX9_goesAll 4 s (List.toArray [.ref h0, .int p1]) G RX9 := S
  have hl : lv_has ls 4 [(0, .ref h0), (1, .int p1)] := hl
  have h := hm
  rw [md_X9_goesAll] at h
  have hW : wd (dC, dI) A s.heap (clX9 cI cJ cZ cB h0 a0 (c0 0) (c0 1) (c0 2) (c0 3) (w0 4 0) (w0 5 0) (c0 6) (c0 7) (c0 8) (c0 9) (c0 10) (c0 11) (c0 12) (c0 13) (c0 14 0) (c0 15 0) (c0 16 0) (c0 17 0) (c0 18) (c0 19) (c0 20) (c0 21 0) (c0 22 0) (c0 23 0) (c0 24 0) (c0 25 0) (c0 26) (c0 27) []) H locs := hW
  have hL8 : ∀ (n8 : Nat) (c0 : Nat → Nat → Int32) (x1 : Int32) (x2 : Int32) (x3 : Int32), ld_X9_goesAll_8 F w0 n8 c0 x1 x2 x3 = some (r, c0') → ∀ (H : Heap) (locs : List Loc), wd (dC, dI) A s.heap (clX9 cI cJ cZ cB h0 a0 (c0 0) (c0 1) (c0 2) (c0 3) (w0 4 0) (w0 5 0) (c0 6) (c0 7) (c0 8) (c0 9) (c0 10) (c0 11) (c0 12) (c0 13) (c0 14 0) (c0 15 0) (c0 16 0) (c0 17 0) (c0 18) (c0 19) (c0 20) (c0 21 0) (c0 22 0) (c0 23 0) (c0 24 0) (c0 25 0) (c0 26) (c0 27) []) H locs → ∀ ls : Array Slot, lv_has ls 4 [(0, .ref h0), (1, .int x1), (2, .int x2), (3, .int x3)] → W p l e rmX9_goesAll s m (List.toArray [.ref h0, .int p1]) below meth c H locs 0 0 (MQ below (kQ (dC, dI) (cwX9 cI cJ cZ cB h0 a0 c0' w0 []) (some (.int r)) A) (List.toArray [.ref h0, .int p1]) s 0 0 A) (F0 m 8 ls []) := by
    intro n8
    induction n8 with
    | zero => intro c0 x1 x2 x3 h; rw [ld_X9_goesAll_8] at h; cases h
    | succ n8 ih8 =>
      intro c0 x1 x2 x3 h H locs hW ls hl
      rw [ld_X9_goesAll_8] at h
      have hJ59 : ∀ (c0 : Nat → Nat → Int32) (x1 : Int32) (x3 : Int32) (s0 : Int32), jd_X9_goesAll_59 F w0 (ld_X9_goesAll_8 F w0 n8) c0 x1 x3 s0 = some (r, c0') → ∀ (H : Heap) (locs : List Loc), wd (dC, dI) A s.heap (clX9 cI cJ cZ cB h0 a0 (c0 0) (c0 1) (c0 2) (c0 3) (w0 4 0) (w0 5 0) (c0 6) (c0 7) (c0 8) (c0 9) (c0 10) (c0 11) (c0 12) (c0 13) (c0 14 0) (c0 15 0) (c0 16 0) (c0 17 0) (c0 18) (c0 19) (c0 20) (c0 21 0) (c0 22 0) (c0 23 0) (c0 24 0) (c0 25 0) (c0 26) (c0 27) []) H locs → ∀ ls : Array Slot, lv_has ls 4 [(0, .ref h0), (1, .int x1), (3, .int x3)] → W p l e rmX9_goesAll s m (List.toArray [.ref h0, .int p1]) below meth c H locs 0 0 (MQ below (kQ (dC, dI) (cwX9 cI cJ cZ cB h0 a0 c0' w0 []) (some (.int r)) A) (List.toArray [.ref h0, .int p1]) s 0 0 A) (F0 m 59 ls [.int s0]) := by
        intro c0 x1 x3 s0 h H locs hW ls hl
        rw [jd_X9_goesAll_59] at h
        refine lv_istore_n (lv' := [(2, .int s0), (0, .ref h0), (1, .int x1), (3, .int x3)]) S.1 S.2.1 dX9_goesAll_59 rfl hl (by decide) rfl (fun ls hl => ?_)
        refine lv_iload_n S.1 S.2.1 dX9_goesAll_60 rfl (lv_at hl 0 rfl) ?_
        refine lv_if_eq (tgt := 76) S.1 S.2.1 dX9_goesAll_61 (by decide) (fun u1 => ?_) (fun u1 => ?_)
        · have h := of_p u1 h
          refine lv_iinc (v := (x3 + (1 : Int32))) (lv' := [(3, .int (x3 + (1 : Int32))), (2, .int s0), (0, .ref h0), (1, .int x1)]) S.1 S.2.1 dX9_goesAll_76 hl (k := 3) rfl (congrArg (fun z => x3 + z) ki_1) (by decide) rfl (fun ls hl => ?_)
          refine lv_goto (tgt := 8) S.1 S.2.1 dX9_goesAll_79 (by decide) ?_
          exact ih8 _ _ _ _ h H locs hW ls (lv_sub hl [2, 3, 1, 0] rfl)
        · have h := of_n u1 h
          refine lv_iload_n S.1 S.2.1 dX9_goesAll_64 rfl (lv_at hl 2 rfl) ?_
          refine lv_iload_n S.1 S.2.1 dX9_goesAll_65 rfl (lv_at hl 3 rfl) ?_
          obtain ⟨r2, hy3, h⟩ := bd1_e h
          refine ks0 S hK hN hZ hA hW (rest := []) (t_X9_has l dC dI cI cJ cZ cB zz x1 x3 _  hy3) wl_X9_120 wv_X9_has rfl rfl ⟨Nat.le_of_ble_eq_true rfl, Nat.le_of_ble_eq_true rfl⟩ [] (clX9 cI cJ cZ cB h0 a0 (c0 0) (c0 1) (c0 2) (c0 3) (w0 4 0) (w0 5 0) (c0 6) (c0 7) (c0 8) (c0 9) (c0 10) (c0 11) (c0 12) (c0 13) (c0 14 0) (c0 15 0) (c0 16 0) (c0 17 0) (c0 18) (c0 19) (c0 20) (c0 21 0) (c0 22 0) (c0 23 0) (c0 24 0) (c0 25 0) (c0 26) (c0 27) []) rfl rfl hl.1 rfl (Nat.le_of_ble_eq_true rfl) dX9_goesAll_66 [.int r2] rfl (fun H locs hW => ?_)
          refine lv_if_eq (tgt := 76) S.1 S.2.1 dX9_goesAll_69 (by decide) (fun u4 => ?_) (fun u4 => ?_)
          · have h := of_p u4 h
            refine lv_iinc (v := (x3 + (1 : Int32))) (lv' := [(3, .int (x3 + (1 : Int32))), (2, .int s0), (0, .ref h0), (1, .int x1)]) S.1 S.2.1 dX9_goesAll_76 hl (k := 3) rfl (congrArg (fun z => x3 + z) ki_1) (by decide) rfl (fun ls hl => ?_)
            refine lv_goto (tgt := 8) S.1 S.2.1 dX9_goesAll_79 (by decide) ?_
            exact ih8 _ _ _ _ h H locs hW ls (lv_sub hl [2, 3, 1, 0] rfl)
          · have h := of_n u4 h
            refine lv_aload_n S.1 S.2.1 dX9_goesAll_72 rfl (lv_at hl 1 rfl) ?_
            obtain ⟨cv5, hy6, h⟩ := bd1_e h
            refine kv (clX9 cI cJ cZ cB h0 a0 (cv5 0) (cv5 1) (cv5 2) (cv5 3) (w0 4 0) (w0 5 0) (cv5 6) (cv5 7) (cv5 8) (cv5 9) (cv5 10) (cv5 11) (cv5 12) (cv5 13) (cv5 14 0) (cv5 15 0) (cv5 16 0) (cv5 17 0) (cv5 18) (cv5 19) (cv5 20) (cv5 21 0) (cv5 22 0) (cv5 23 0) (cv5 24 0) (cv5 25 0) (cv5 26) (cv5 27) []) S hK hN hZ hA hW (rest := []) (t_X9_goObjecting l dC dI cI cJ cZ cB zz h0 a0 c0 w0 _  hy6) wl_X9_213 wv_X9_goObjecting rfl rfl ⟨Nat.le_of_ble_eq_true rfl, Nat.le_of_ble_eq_true rfl⟩ [] [] rfl rfl rfl 0 rfl rfl rfl rfl hl.1 rfl (Nat.le_of_ble_eq_true rfl) dX9_goesAll_73 [] rfl (fun H locs hW => ?_)
            refine lv_iinc (v := (x3 + (1 : Int32))) (lv' := [(3, .int (x3 + (1 : Int32))), (2, .int s0), (0, .ref h0), (1, .int x1)]) S.1 S.2.1 dX9_goesAll_76 hl (k := 3) rfl (congrArg (fun z => x3 + z) ki_1) (by decide) rfl (fun ls hl => ?_)
            refine lv_goto (tgt := 8) S.1 S.2.1 dX9_goesAll_79 (by decide) ?_
            exact ih8 _ _ _ _ h H locs hW ls (lv_sub hl [2, 3, 1, 0] rfl)
      refine lv_iload_n S.1 S.2.1 dX9_goesAll_8 rfl (lv_at hl 3 rfl) ?_
      refine lv_aload_n S.1 S.2.1 dX9_goesAll_9 rfl (lv_at hl 0 rfl) ?_
      obtain ⟨r7, hy8, h⟩ := bd1_e h
      refine kv0 S hK hN hZ hA hW (rest := [.int x3]) (t_X9_many l dC dI cI cJ cZ cB zz h0 a0 c0 w0 _  hy8) wl_X9_70 wv_X9_many rfl rfl ⟨Nat.le_of_ble_eq_true rfl, Nat.le_of_ble_eq_true rfl⟩ [] [] rfl 0 rfl rfl rfl rfl hl.1 rfl (Nat.le_of_ble_eq_true rfl) dX9_goesAll_10 [.int r7, .int x3] rfl (fun H locs hW => ?_)
      refine lv_icmp_ge (tgt := 82) S.1 S.2.1 dX9_goesAll_13 (by decide) (fun u9 => ?_) (fun u9 => ?_)
      · have h := of_p u9 h
        refine lv_iload_n S.1 S.2.1 dX9_goesAll_82 rfl (lv_at hl 2 rfl) ?_
        obtain ⟨z10, h⟩ := of_g h
        have f11 := Option.some.inj h
        obtain ⟨f12, f13⟩ := Prod.mk.inj f11
        subst f12
        subst f13
        exact rz S hr hlocks hW (nz z10) dX9_goesAll_83
      · have h := of_n u9 h
        refine lv_iload_n S.1 S.2.1 dX9_goesAll_16 rfl (lv_at hl 2 rfl) ?_
        refine lv_if_eq (tgt := 82) S.1 S.2.1 dX9_goesAll_17 (by decide) (fun u14 => ?_) (fun u14 => ?_)
        · have h := of_p u14 h
          refine lv_iload_n S.1 S.2.1 dX9_goesAll_82 rfl (lv_at hl 2 rfl) ?_
          obtain ⟨z15, h⟩ := of_g h
          have f16 := Option.some.inj h
          obtain ⟨f17, f18⟩ := Prod.mk.inj f16
          subst f17
          subst f18
          exact rz S hr hlocks hW (nz z15) dX9_goesAll_83
        · have h := of_n u14 h
          refine lv_aload_n S.1 S.2.1 dX9_goesAll_20 rfl (lv_at hl 0 rfl) ?_
          refine gf (C := RX9) (T := TX9) (N := 28) (ci := 5) (k := 0) S hK hW wu_X9 rfl (by decide) wf_X9_7 0 rfl rfl dX9_goesAll_21 ?_
          refine lv_iconst (v := (5 : Int32)) S.1 S.2.1 dX9_goesAll_24 ki_5 ?_
          refine iaK S hK hW rfl 1 rfl b_5_194 x_5 dX9_goesAll_25 ?_
          refine lv_iload_n S.1 S.2.1 dX9_goesAll_26 rfl (lv_at hl 3 rfl) ?_
          obtain ⟨r19, hy20, h⟩ := bd1_e h
          refine ks0 S hK hN hZ hA hW (rest := []) (t_X9_has l dC dI cI cJ cZ cB zz ((c0 0) 5) x3 _  hy20) wl_X9_120 wv_X9_has rfl rfl ⟨Nat.le_of_ble_eq_true rfl, Nat.le_of_ble_eq_true rfl⟩ [] (clX9 cI cJ cZ cB h0 a0 (c0 0) (c0 1) (c0 2) (c0 3) (w0 4 0) (w0 5 0) (c0 6) (c0 7) (c0 8) (c0 9) (c0 10) (c0 11) (c0 12) (c0 13) (c0 14 0) (c0 15 0) (c0 16 0) (c0 17 0) (c0 18) (c0 19) (c0 20) (c0 21 0) (c0 22 0) (c0 23 0) (c0 24 0) (c0 25 0) (c0 26) (c0 27) []) rfl rfl hl.1 rfl (Nat.le_of_ble_eq_true rfl) dX9_goesAll_27 [.int r19] rfl (fun H locs hW => ?_)
          refine lv_if_ne (tgt := 76) S.1 S.2.1 dX9_goesAll_30 (by decide) (fun u21 => ?_) (fun u21 => ?_)
          · have h := of_n u21 h
            refine lv_iinc (v := (x3 + (1 : Int32))) (lv' := [(3, .int (x3 + (1 : Int32))), (0, .ref h0), (1, .int x1), (2, .int x2)]) S.1 S.2.1 dX9_goesAll_76 hl (k := 3) rfl (congrArg (fun z => x3 + z) ki_1) (by decide) rfl (fun ls hl => ?_)
            refine lv_goto (tgt := 8) S.1 S.2.1 dX9_goesAll_79 (by decide) ?_
            exact ih8 _ _ _ _ h H locs hW ls (lv_sub hl [1, 2, 3, 0] rfl)
          · have h := of_p u21 h
            refine lv_aload_n S.1 S.2.1 dX9_goesAll_33 rfl (lv_at hl 0 rfl) ?_
            refine lv_iload_n S.1 S.2.1 dX9_goesAll_34 rfl (lv_at hl 3 rfl) ?_
            obtain ⟨cv22, hy23, h⟩ := bd1_e h
            refine kv (clX9 cI cJ cZ cB h0 a0 (cv22 0) (cv22 1) (cv22 2) (cv22 3) (w0 4 0) (w0 5 0) (cv22 6) (cv22 7) (cv22 8) (cv22 9) (cv22 10) (cv22 11) (cv22 12) (cv22 13) (cv22 14 0) (cv22 15 0) (cv22 16 0) (cv22 17 0) (cv22 18) (cv22 19) (cv22 20) (cv22 21 0) (cv22 22 0) (cv22 23 0) (cv22 24 0) (cv22 25 0) (cv22 26) (cv22 27) []) S hK hN hZ hA hW (rest := []) (t_X9_goSaying l dC dI cI cJ cZ cB zz h0 a0 c0 w0 x3 _  hy23) wl_X9_203 wv_X9_goSaying rfl rfl ⟨Nat.le_of_ble_eq_true rfl, Nat.le_of_ble_eq_true rfl⟩ [] [] rfl rfl rfl 0 rfl rfl rfl rfl hl.1 rfl (Nat.le_of_ble_eq_true rfl) dX9_goesAll_35 [] rfl (fun H locs hW => ?_)
            refine lv_iload_n S.1 S.2.1 dX9_goesAll_38 rfl (lv_at hl 1 rfl) ?_
            refine lv_iload_n S.1 S.2.1 dX9_goesAll_39 rfl (lv_at hl 3 rfl) ?_
            obtain ⟨r24, hy25, h⟩ := bd1_e h
            refine ks0 S hK hN hZ hA hW (rest := []) (t_X9_has l dC dI cI cJ cZ cB zz x1 x3 _  hy25) wl_X9_120 wv_X9_has rfl rfl ⟨Nat.le_of_ble_eq_true rfl, Nat.le_of_ble_eq_true rfl⟩ [] (clX9 cI cJ cZ cB h0 a0 (cv22 0) (cv22 1) (cv22 2) (cv22 3) (w0 4 0) (w0 5 0) (cv22 6) (cv22 7) (cv22 8) (cv22 9) (cv22 10) (cv22 11) (cv22 12) (cv22 13) (cv22 14 0) (cv22 15 0) (cv22 16 0) (cv22 17 0) (cv22 18) (cv22 19) (cv22 20) (cv22 21 0) (cv22 22 0) (cv22 23 0) (cv22 24 0) (cv22 25 0) (cv22 26) (cv22 27) []) rfl rfl hl.1 rfl (Nat.le_of_ble_eq_true rfl) dX9_goesAll_40 [.int r24] rfl (fun H locs hW => ?_)
            refine lv_if_eq (tgt := 54) S.1 S.2.1 dX9_goesAll_43 (by decide) (fun u26 => ?_) (fun u26 => ?_)
            · have h := of_p u26 h
              refine lv_iconst (v := (1 : Int32)) S.1 S.2.1 dX9_goesAll_54 ki_1 ?_
              refine lv_goto (tgt := 59) S.1 S.2.1 dX9_goesAll_55 (by decide) ?_
              exact hJ59 _ _ _ _ h H locs hW ls (lv_sub hl [0, 1, 3] rfl)
            · have h := of_n u26 h
              refine lv_aload_n S.1 S.2.1 dX9_goesAll_46 rfl (lv_at hl 0 rfl) ?_
              refine lv_iload_n S.1 S.2.1 dX9_goesAll_47 rfl (lv_at hl 3 rfl) ?_
              obtain ⟨r27, hy28, h⟩ := bd1_e h
              refine kv0 S hK hN hZ hA hW (rest := []) (t_X9_mayTo l dC dI cI cJ cZ cB zz h0 a0 cv22 w0 x3 _  hy28) wl_X9_210 wv_X9_mayTo rfl rfl ⟨Nat.le_of_ble_eq_true rfl, Nat.le_of_ble_eq_true rfl⟩ [] [] rfl 0 rfl rfl rfl rfl hl.1 rfl (Nat.le_of_ble_eq_true rfl) dX9_goesAll_48 [.int r27] rfl (fun H locs hW => ?_)
              refine lv_if_eq (tgt := 58) S.1 S.2.1 dX9_goesAll_51 (by decide) (fun u29 => ?_) (fun u29 => ?_)
              · have h := of_p u29 h
                refine lv_iconst (v := (0 : Int32)) S.1 S.2.1 dX9_goesAll_58 ki_0 ?_
                exact hJ59 _ _ _ _ h H locs hW ls (lv_sub hl [0, 1, 3] rfl)
              · have h := of_n u29 h
                refine lv_iconst (v := (1 : Int32)) S.1 S.2.1 dX9_goesAll_54 ki_1 ?_
                refine lv_goto (tgt := 59) S.1 S.2.1 dX9_goesAll_55 (by decide) ?_
                exact hJ59 _ _ _ _ h H locs hW ls (lv_sub hl [0, 1, 3] rfl)
  refine lv_iconst (v := (1 : Int32)) S.1 S.2.1 dX9_goesAll_0 ki_1 ?_
  refine lv_istore_n (lv' := [(2, .int (1 : Int32)), (0, .ref h0), (1, .int p1)]) S.1 S.2.1 dX9_goesAll_1 rfl hl (by decide) rfl (fun ls hl => ?_)
  refine lv_aload_n S.1 S.2.1 dX9_goesAll_2 rfl (lv_at hl 1 rfl) ?_
  obtain ⟨cv30, hy31, h⟩ := bd1_e h
  refine kv (clX9 cI cJ cZ cB h0 a0 (cv30 0) (cv30 1) (cv30 2) (cv30 3) (w0 4 0) (w0 5 0) (cv30 6) (cv30 7) (cv30 8) (cv30 9) (cv30 10) (cv30 11) (cv30 12) (cv30 13) (cv30 14 0) (cv30 15 0) (cv30 16 0) (cv30 17 0) (cv30 18) (cv30 19) (cv30 20) (cv30 21 0) (cv30 22 0) (cv30 23 0) (cv30 24 0) (cv30 25 0) (cv30 26) (cv30 27) []) S hK hN hZ hA hW (rest := []) (t_X9_layNow l dC dI cI cJ cZ cB zz h0 a0 c0 w0 _  hy31) wl_X9_200 wv_X9_layNow rfl rfl ⟨Nat.le_of_ble_eq_true rfl, Nat.le_of_ble_eq_true rfl⟩ [] [] rfl rfl rfl 0 rfl rfl rfl rfl hl.1 rfl (Nat.le_of_ble_eq_true rfl) dX9_goesAll_3 [] rfl (fun H locs hW => ?_)
  refine lv_iconst (v := (0 : Int32)) S.1 S.2.1 dX9_goesAll_6 ki_0 ?_
  refine lv_istore_n (lv' := [(3, .int (0 : Int32)), (2, .int (1 : Int32)), (0, .ref h0), (1, .int p1)]) S.1 S.2.1 dX9_goesAll_7 rfl hl (by decide) rfl (fun ls hl => ?_)
  exact hL8 F _ _ _ _ h H locs hW ls (lv_sub hl [2, 3, 1, 0] rfl)
abbrev rmX9_bowed : Room := { frames := 5, cells := 0, slots := 0, locals := 122 }
set_option maxHeartbeats 4000000 in
set_option maxRecDepth 100000 in
theorem t_X9_bowed (l : Launch) (dC : Nat → ClassId) (dI : Nat → Nat → Nat) (cI cJ cZ cB : ClassId) (zz : ZT)  (h0 : Nat) (a0 : Nat → Nat) (F : Nat) (c0 : Nat → Nat → Int32) (w0 : Nat → Nat → Int64) (p1 : Int32) (r : Int32) (c0' : Nat → Nat → Int32) (hm : md_X9_bowed F c0 w0 p1 = some (r, c0')) : ct l (dC, dI) zz (ty4 cI cJ cZ cB) yX9_bowed cX9_bowed 8 (some .int) rmX9_bowed [.ref h0, .int p1] (cwX9 cI cJ cZ cB h0 a0 c0 w0 []) (cwX9 cI cJ cZ cB h0 a0 c0' w0 []) (some (.int r)) := by
  refine ct_of (cc := cX9_bowed) (maxL := 8) (ret := (some .int)) (by decide) (Nat.le_of_ble_eq_true rfl) ?_
  intro p e s m below meth c A S hr hlocks hK hN hZ hA H locs hW ls hl
  have S : CallFix p m c cX9_bowed 8 s (List.toArray [.ref h0, .int p1]) G RX9 := S
  have hl : lv_has ls 8 [(0, .ref h0), (1, .int p1)] := hl
  have h := hm
  rw [md_X9_bowed] at h
  have hW : wd (dC, dI) A s.heap (clX9 cI cJ cZ cB h0 a0 (c0 0) (c0 1) (c0 2) (c0 3) (w0 4 0) (w0 5 0) (c0 6) (c0 7) (c0 8) (c0 9) (c0 10) (c0 11) (c0 12) (c0 13) (c0 14 0) (c0 15 0) (c0 16 0) (c0 17 0) (c0 18) (c0 19) (c0 20) (c0 21 0) (c0 22 0) (c0 23 0) (c0 24 0) (c0 25 0) (c0 26) (c0 27) []) H locs := hW
  have hL32 : ∀ (n32 : Nat) (c0 : Nat → Nat → Int32) (x1 : Int32) (x2 : Int32) (x3 : Int32) (x4 : Int32) (x5 : Int32), ld_X9_bowed_32 F w0 n32 c0 x1 x2 x3 x4 x5 = some (r, c0') → ∀ (H : Heap) (locs : List Loc), wd (dC, dI) A s.heap (clX9 cI cJ cZ cB h0 a0 (c0 0) (c0 1) (c0 2) (c0 3) (w0 4 0) (w0 5 0) (c0 6) (c0 7) (c0 8) (c0 9) (c0 10) (c0 11) (c0 12) (c0 13) (c0 14 0) (c0 15 0) (c0 16 0) (c0 17 0) (c0 18) (c0 19) (c0 20) (c0 21 0) (c0 22 0) (c0 23 0) (c0 24 0) (c0 25 0) (c0 26) (c0 27) []) H locs → ∀ ls : Array Slot, lv_has ls 8 [(0, .ref h0), (1, .int x1), (2, .int x2), (3, .int x3), (4, .int x4), (5, .int x5)] → W p l e rmX9_bowed s m (List.toArray [.ref h0, .int p1]) below meth c H locs 0 0 (MQ below (kQ (dC, dI) (cwX9 cI cJ cZ cB h0 a0 c0' w0 []) (some (.int r)) A) (List.toArray [.ref h0, .int p1]) s 0 0 A) (F0 m 32 ls []) := by
    intro n32
    induction n32 with
    | zero => intro c0 x1 x2 x3 x4 x5 h; rw [ld_X9_bowed_32] at h; cases h
    | succ n32 ih32 =>
      intro c0 x1 x2 x3 x4 x5 h H locs hW ls hl
      rw [ld_X9_bowed_32] at h
      have hJ120 : ∀ (c0 : Nat → Nat → Int32) (x1 : Int32) (x2 : Int32) (x3 : Int32) (x4 : Int32) (x5 : Int32) (x6 : Int32), jd_X9_bowed_120 F w0 (ld_X9_bowed_32 F w0 n32) c0 x1 x2 x3 x4 x5 x6 = some (r, c0') → ∀ (H : Heap) (locs : List Loc), wd (dC, dI) A s.heap (clX9 cI cJ cZ cB h0 a0 (c0 0) (c0 1) (c0 2) (c0 3) (w0 4 0) (w0 5 0) (c0 6) (c0 7) (c0 8) (c0 9) (c0 10) (c0 11) (c0 12) (c0 13) (c0 14 0) (c0 15 0) (c0 16 0) (c0 17 0) (c0 18) (c0 19) (c0 20) (c0 21 0) (c0 22 0) (c0 23 0) (c0 24 0) (c0 25 0) (c0 26) (c0 27) []) H locs → ∀ ls : Array Slot, lv_has ls 8 [(0, .ref h0), (1, .int x1), (2, .int x2), (3, .int x3), (4, .int x4), (5, .int x5), (6, .int x6)] → W p l e rmX9_bowed s m (List.toArray [.ref h0, .int p1]) below meth c H locs 0 0 (MQ below (kQ (dC, dI) (cwX9 cI cJ cZ cB h0 a0 c0' w0 []) (some (.int r)) A) (List.toArray [.ref h0, .int p1]) s 0 0 A) (F0 m 120 ls []) := by
        intro c0 x1 x2 x3 x4 x5 x6 h H locs hW ls hl
        rw [jd_X9_bowed_120] at h
        refine lv_iload_n S.1 S.2.1 dX9_bowed_120 rfl (lv_at hl 2 rfl) ?_
        refine lv_iload S.1 S.2.1 dX9_bowed_121 (lv_at hl 6 rfl) ?_
        obtain ⟨y1, e2, h⟩ := lt1_e h
        suffices hM3 : ∀ ls : Array Slot, lv_has ls 8 [(0, .ref h0), (1, .int x1), (3, .int x3), (4, .int x4), (5, .int x5), (6, .int x6)] → W p l e rmX9_bowed s m (List.toArray [.ref h0, .int p1]) below meth c H locs 0 0 (MQ below (kQ (dC, dI) (cwX9 cI cJ cZ cB h0 a0 c0' w0 []) (some (.int r)) A) (List.toArray [.ref h0, .int p1]) s 0 0 A) (F0 m 131 ls [.int y1, .int x2]) by
          refine lv_if_eq (tgt := 130) S.1 S.2.1 dX9_bowed_123 (by decide) (fun u4 => ?_) (fun u4 => ?_)
          · refine lv_iconst (v := (0 : Int32)) S.1 S.2.1 dX9_bowed_130 ki_0 ?_
            have e2 := e2.trans (if_pos u4)
            subst e2
            exact hM3 ls (lv_sub hl [0, 1, 3, 4, 5, 6] rfl)
          · refine lv_iconst (v := (1 : Int32)) S.1 S.2.1 dX9_bowed_126 ki_1 ?_
            refine lv_goto (tgt := 131) S.1 S.2.1 dX9_bowed_127 (by decide) ?_
            have e2 := e2.trans (if_neg u4)
            subst e2
            exact hM3 ls (lv_sub hl [0, 1, 3, 4, 5, 6] rfl)
        intro ls hl
        refine lv_iadd S.1 S.2.1 dX9_bowed_131 ?_
        refine lv_istore_n (lv' := [(2, .int (x2 + y1)), (0, .ref h0), (1, .int x1), (3, .int x3), (4, .int x4), (5, .int x5), (6, .int x6)]) S.1 S.2.1 dX9_bowed_132 rfl hl (by decide) rfl (fun ls hl => ?_)
        refine lv_iload_n S.1 S.2.1 dX9_bowed_133 rfl (lv_at hl 3 rfl) ?_
        refine lv_iload S.1 S.2.1 dX9_bowed_134 (lv_at hl 6 rfl) ?_
        obtain ⟨y5, e6, h⟩ := lt1_e h
        suffices hM7 : ∀ ls : Array Slot, lv_has ls 8 [(0, .ref h0), (1, .int x1), (2, .int (x2 + y1)), (4, .int x4), (5, .int x5), (6, .int x6)] → W p l e rmX9_bowed s m (List.toArray [.ref h0, .int p1]) below meth c H locs 0 0 (MQ below (kQ (dC, dI) (cwX9 cI cJ cZ cB h0 a0 c0' w0 []) (some (.int r)) A) (List.toArray [.ref h0, .int p1]) s 0 0 A) (F0 m 145 ls [.int y5, .int x3]) by
          refine lv_if_eq (tgt := 144) S.1 S.2.1 dX9_bowed_136 (by decide) (fun u8 => ?_) (fun u8 => ?_)
          · refine lv_iload_n S.1 S.2.1 dX9_bowed_144 rfl (lv_at hl 3 rfl) ?_
            have e6 := e6.trans (if_pos u8)
            subst e6
            exact hM7 ls (lv_sub hl [1, 2, 0, 4, 5, 6] rfl)
          · refine lv_iload S.1 S.2.1 dX9_bowed_139 (lv_at hl 5 rfl) ?_
            refine lv_goto (tgt := 145) S.1 S.2.1 dX9_bowed_141 (by decide) ?_
            have e6 := e6.trans (if_neg u8)
            subst e6
            exact hM7 ls (lv_sub hl [1, 2, 0, 4, 5, 6] rfl)
        intro ls hl
        refine lv_iand S.1 S.2.1 dX9_bowed_145 ?_
        refine lv_istore_n (lv' := [(3, .int (x3 &&& y5)), (0, .ref h0), (1, .int x1), (2, .int (x2 + y1)), (4, .int x4), (5, .int x5), (6, .int x6)]) S.1 S.2.1 dX9_bowed_146 rfl hl (by decide) rfl (fun ls hl => ?_)
        refine lv_iload S.1 S.2.1 dX9_bowed_147 (lv_at hl 4 rfl) ?_
        refine lv_iload S.1 S.2.1 dX9_bowed_149 (lv_at hl 6 rfl) ?_
        obtain ⟨y9, e10, h⟩ := lt1_e h
        suffices hM11 : ∀ ls : Array Slot, lv_has ls 8 [(0, .ref h0), (1, .int x1), (2, .int (x2 + y1)), (3, .int (x3 &&& y5)), (5, .int x5)] → W p l e rmX9_bowed s m (List.toArray [.ref h0, .int p1]) below meth c H locs 0 0 (MQ below (kQ (dC, dI) (cwX9 cI cJ cZ cB h0 a0 c0' w0 []) (some (.int r)) A) (List.toArray [.ref h0, .int p1]) s 0 0 A) (F0 m 160 ls [.int y9, .int x4]) by
          refine lv_if_eq (tgt := 159) S.1 S.2.1 dX9_bowed_151 (by decide) (fun u12 => ?_) (fun u12 => ?_)
          · refine lv_iconst (v := (0 : Int32)) S.1 S.2.1 dX9_bowed_159 ki_0 ?_
            have e10 := e10.trans (if_pos u12)
            subst e10
            exact hM11 ls (lv_sub hl [1, 2, 3, 0, 5] rfl)
          · refine lv_iload S.1 S.2.1 dX9_bowed_154 (lv_at hl 5 rfl) ?_
            refine lv_goto (tgt := 160) S.1 S.2.1 dX9_bowed_156 (by decide) ?_
            have e10 := e10.trans (if_neg u12)
            subst e10
            exact hM11 ls (lv_sub hl [1, 2, 3, 0, 5] rfl)
        intro ls hl
        refine lv_ior S.1 S.2.1 dX9_bowed_160 ?_
        refine lv_istore (lv' := [(4, .int (x4 ||| y9)), (0, .ref h0), (1, .int x1), (2, .int (x2 + y1)), (3, .int (x3 &&& y5)), (5, .int x5)]) S.1 S.2.1 dX9_bowed_161 hl (by decide) rfl (fun ls hl => ?_)
        refine lv_iinc (v := (x5 + (1 : Int32))) (lv' := [(5, .int (x5 + (1 : Int32))), (4, .int (x4 ||| y9)), (0, .ref h0), (1, .int x1), (2, .int (x2 + y1)), (3, .int (x3 &&& y5))]) S.1 S.2.1 dX9_bowed_163 hl (k := 5) rfl (congrArg (fun z => x5 + z) ki_1) (by decide) rfl (fun ls hl => ?_)
        refine lv_goto (tgt := 32) S.1 S.2.1 dX9_bowed_166 (by decide) ?_
        exact ih32 _ _ _ _ _ _ h H locs hW ls (lv_sub hl [2, 3, 4, 5, 1, 0] rfl)
      have hL74 : ∀ (n74 : Nat) (c0 : Nat → Nat → Int32) (x1 : Int32) (x2 : Int32) (x3 : Int32) (x4 : Int32) (x5 : Int32) (x6 : Int32) (x7 : Int32), ld_X9_bowed_74 F w0 (ld_X9_bowed_32 F w0 n32) n74 c0 x1 x2 x3 x4 x5 x6 x7 = some (r, c0') → ∀ (H : Heap) (locs : List Loc), wd (dC, dI) A s.heap (clX9 cI cJ cZ cB h0 a0 (c0 0) (c0 1) (c0 2) (c0 3) (w0 4 0) (w0 5 0) (c0 6) (c0 7) (c0 8) (c0 9) (c0 10) (c0 11) (c0 12) (c0 13) (c0 14 0) (c0 15 0) (c0 16 0) (c0 17 0) (c0 18) (c0 19) (c0 20) (c0 21 0) (c0 22 0) (c0 23 0) (c0 24 0) (c0 25 0) (c0 26) (c0 27) []) H locs → ∀ ls : Array Slot, lv_has ls 8 [(0, .ref h0), (1, .int x1), (2, .int x2), (3, .int x3), (4, .int x4), (5, .int x5), (6, .int x6), (7, .int x7)] → W p l e rmX9_bowed s m (List.toArray [.ref h0, .int p1]) below meth c H locs 0 0 (MQ below (kQ (dC, dI) (cwX9 cI cJ cZ cB h0 a0 c0' w0 []) (some (.int r)) A) (List.toArray [.ref h0, .int p1]) s 0 0 A) (F0 m 74 ls []) := by
        intro n74
        induction n74 with
        | zero => intro c0 x1 x2 x3 x4 x5 x6 x7 h; rw [ld_X9_bowed_74] at h; cases h
        | succ n74 ih74 =>
          intro c0 x1 x2 x3 x4 x5 x6 x7 h H locs hW ls hl
          rw [ld_X9_bowed_74] at h
          refine lv_iload S.1 S.2.1 dX9_bowed_74 (lv_at hl 7 rfl) ?_
          refine lv_aload_n S.1 S.2.1 dX9_bowed_76 rfl (lv_at hl 0 rfl) ?_
          refine gf (C := RX9) (T := TX9) (N := 28) (ci := 5) (k := 0) S hK hW wu_X9 rfl (by decide) wf_X9_7 0 rfl rfl dX9_bowed_77 ?_
          refine lv_iconst (v := (1 : Int32)) S.1 S.2.1 dX9_bowed_80 ki_1 ?_
          refine iaK S hK hW rfl 1 rfl b_1_194 x_1 dX9_bowed_81 ?_
          refine lv_icmp_ge (tgt := 120) S.1 S.2.1 dX9_bowed_82 (by decide) (fun u13 => ?_) (fun u13 => ?_)
          · have h := of_p u13 h
            exact hJ120 _ _ _ _ _ _ _ h H locs hW ls (lv_sub hl [0, 1, 2, 3, 4, 5, 6] rfl)
          · have h := of_n u13 h
            refine lv_iload S.1 S.2.1 dX9_bowed_85 (lv_at hl 6 rfl) ?_
            refine lv_if_eq (tgt := 120) S.1 S.2.1 dX9_bowed_87 (by decide) (fun u14 => ?_) (fun u14 => ?_)
            · have h := of_p u14 h
              exact hJ120 _ _ _ _ _ _ _ h H locs hW ls (lv_sub hl [0, 1, 2, 3, 4, 5, 6] rfl)
            · have h := of_n u14 h
              refine lv_aload_n S.1 S.2.1 dX9_bowed_90 rfl (lv_at hl 0 rfl) ?_
              refine gf (C := RX9) (T := TX9) (N := 28) (ci := 5) (k := 16) S hK hW wu_X9 rfl (by decide) wf_X9_191 0 rfl rfl dX9_bowed_91 ?_
              refine lv_aload_n S.1 S.2.1 dX9_bowed_94 rfl (lv_at hl 0 rfl) ?_
              refine gf (C := RX9) (T := TX9) (N := 28) (ci := 5) (k := 0) S hK hW wu_X9 rfl (by decide) wf_X9_7 0 rfl rfl dX9_bowed_95 ?_
              refine lv_bipush (v := (32 : Int32)) S.1 S.2.1 dX9_bowed_98 kb_32 ?_
              refine lv_iload S.1 S.2.1 dX9_bowed_100 (lv_at hl 7 rfl) ?_
              refine lv_iadd S.1 S.2.1 dX9_bowed_102 ?_
              obtain ⟨z15, h⟩ := of_g h
              refine ia S hK hW rfl 1 rfl z15 dX9_bowed_103 ?_
              obtain ⟨y16, e17, h⟩ := lt1_e h
              suffices hM18 : ∀ ls : Array Slot, lv_has ls 8 [(0, .ref h0), (1, .int x1), (2, .int x2), (3, .int x3), (4, .int x4), (5, .int x5), (7, .int x7)] → W p l e rmX9_bowed s m (List.toArray [.ref h0, .int p1]) below meth c H locs 0 0 (MQ below (kQ (dC, dI) (cwX9 cI cJ cZ cB h0 a0 c0' w0 []) (some (.int r)) A) (List.toArray [.ref h0, .int p1]) s 0 0 A) (F0 m 112 ls [.int y16]) by
                refine lv_icmp_ne (tgt := 111) S.1 S.2.1 dX9_bowed_104 (by decide) (fun u19 => ?_) (fun u19 => ?_)
                · refine lv_iconst (v := (0 : Int32)) S.1 S.2.1 dX9_bowed_111 ki_0 ?_
                  have e17 := e17.trans (if_neg u19)
                  subst e17
                  exact hM18 ls (lv_sub hl [0, 1, 2, 3, 4, 5, 7] rfl)
                · refine lv_iconst (v := (1 : Int32)) S.1 S.2.1 dX9_bowed_107 ki_1 ?_
                  refine lv_goto (tgt := 112) S.1 S.2.1 dX9_bowed_108 (by decide) ?_
                  have e17 := e17.trans (if_pos u19)
                  subst e17
                  exact hM18 ls (lv_sub hl [0, 1, 2, 3, 4, 5, 7] rfl)
              intro ls hl
              refine lv_istore (lv' := [(6, .int y16), (0, .ref h0), (1, .int x1), (2, .int x2), (3, .int x3), (4, .int x4), (5, .int x5), (7, .int x7)]) S.1 S.2.1 dX9_bowed_112 hl (by decide) rfl (fun ls hl => ?_)
              refine lv_iinc (v := (x7 + (1 : Int32))) (lv' := [(7, .int (x7 + (1 : Int32))), (6, .int y16), (0, .ref h0), (1, .int x1), (2, .int x2), (3, .int x3), (4, .int x4), (5, .int x5)]) S.1 S.2.1 dX9_bowed_114 hl (k := 7) rfl (congrArg (fun z => x7 + z) ki_1) (by decide) rfl (fun ls hl => ?_)
              refine lv_goto (tgt := 74) S.1 S.2.1 dX9_bowed_117 (by decide) ?_
              exact ih74 _ _ _ _ _ _ _ _ h H locs hW ls (lv_sub hl [2, 3, 4, 5, 6, 7, 1, 0] rfl)
      refine lv_iload S.1 S.2.1 dX9_bowed_32 (lv_at hl 5 rfl) ?_
      refine lv_iconst (v := (1 : Int32)) S.1 S.2.1 dX9_bowed_34 ki_1 ?_
      refine lv_aload_n S.1 S.2.1 dX9_bowed_35 rfl (lv_at hl 0 rfl) ?_
      obtain ⟨r20, hy21, h⟩ := bd1_e h
      refine kv0 S hK hN hZ hA hW (rest := [.int (1 : Int32), .int x5]) (t_X9_many l dC dI cI cJ cZ cB zz h0 a0 c0 w0 _  hy21) wl_X9_70 wv_X9_many rfl rfl ⟨Nat.le_of_ble_eq_true rfl, Nat.le_of_ble_eq_true rfl⟩ [] [] rfl 0 rfl rfl rfl rfl hl.1 rfl (Nat.le_of_ble_eq_true rfl) dX9_bowed_36 [.int r20, .int (1 : Int32), .int x5] rfl (fun H locs hW => ?_)
      refine lv_ishl S.1 S.2.1 dX9_bowed_39 ?_
      refine lv_icmp_ge (tgt := 169) S.1 S.2.1 dX9_bowed_40 (by decide) (fun u22 => ?_) (fun u22 => ?_)
      · have h := of_p u22 h
        refine lv_iload_n S.1 S.2.1 dX9_bowed_169 rfl (lv_at hl 1 rfl) ?_
        obtain ⟨y23, e24, h⟩ := lt1_e h
        suffices hM25 : ∀ ls : Array Slot, lv_has ls 8 [] → W p l e rmX9_bowed s m (List.toArray [.ref h0, .int p1]) below meth c H locs 0 0 (MQ below (kQ (dC, dI) (cwX9 cI cJ cZ cB h0 a0 c0' w0 []) (some (.int r)) A) (List.toArray [.ref h0, .int p1]) s 0 0 A) (F0 m 196 ls [.int y23]) by
          refine lv_if_ne (tgt := 177) S.1 S.2.1 dX9_bowed_170 (by decide) (fun u26 => ?_) (fun u26 => ?_)
          · refine lv_iload_n S.1 S.2.1 dX9_bowed_177 rfl (lv_at hl 1 rfl) ?_
            refine lv_iconst (v := (2 : Int32)) S.1 S.2.1 dX9_bowed_178 ki_2 ?_
            refine lv_icmp_ne (tgt := 187) S.1 S.2.1 dX9_bowed_179 (by decide) (fun u27 => ?_) (fun u27 => ?_)
            · refine lv_iload_n S.1 S.2.1 dX9_bowed_187 rfl (lv_at hl 2 rfl) ?_
              refine lv_if_ne (tgt := 195) S.1 S.2.1 dX9_bowed_188 (by decide) (fun u28 => ?_) (fun u28 => ?_)
              · refine lv_iload_n S.1 S.2.1 dX9_bowed_195 rfl (lv_at hl 3 rfl) ?_
                have e24 := e24.trans ((if_neg u26).trans ((if_neg u27).trans (if_neg u28)))
                subst e24
                exact hM25 ls (lv_sub hl [] rfl)
              · refine lv_iconst (v := (-1 : Int32)) S.1 S.2.1 dX9_bowed_191 ki_m1 ?_
                refine lv_goto (tgt := 196) S.1 S.2.1 dX9_bowed_192 (by decide) ?_
                have e24 := e24.trans ((if_neg u26).trans ((if_neg u27).trans (if_pos u28)))
                subst e24
                exact hM25 ls (lv_sub hl [] rfl)
            · refine lv_iload S.1 S.2.1 dX9_bowed_182 (lv_at hl 4 rfl) ?_
              refine lv_goto (tgt := 196) S.1 S.2.1 dX9_bowed_184 (by decide) ?_
              have e24 := e24.trans ((if_neg u26).trans (if_pos u27))
              subst e24
              exact hM25 ls (lv_sub hl [] rfl)
          · refine lv_iload_n S.1 S.2.1 dX9_bowed_173 rfl (lv_at hl 2 rfl) ?_
            refine lv_goto (tgt := 196) S.1 S.2.1 dX9_bowed_174 (by decide) ?_
            have e24 := e24.trans (if_pos u26)
            subst e24
            exact hM25 ls (lv_sub hl [] rfl)
        intro ls hl
        have f29 := Option.some.inj h
        obtain ⟨f30, f31⟩ := Prod.mk.inj f29
        subst f30
        subst f31
        exact ri S hr hlocks hW dX9_bowed_196
      · have h := of_n u22 h
        refine lv_iload S.1 S.2.1 dX9_bowed_43 (lv_at hl 5 rfl) ?_
        refine lv_aload_n S.1 S.2.1 dX9_bowed_45 rfl (lv_at hl 0 rfl) ?_
        refine gf (C := RX9) (T := TX9) (N := 28) (ci := 5) (k := 0) S hK hW wu_X9 rfl (by decide) wf_X9_7 0 rfl rfl dX9_bowed_46 ?_
        refine lv_iconst (v := (5 : Int32)) S.1 S.2.1 dX9_bowed_49 ki_5 ?_
        refine iaK S hK hW rfl 1 rfl b_5_194 x_5 dX9_bowed_50 ?_
        refine lv_iand S.1 S.2.1 dX9_bowed_51 ?_
        refine lv_if_ne (tgt := 68) S.1 S.2.1 dX9_bowed_52 (by decide) (fun u32 => ?_) (fun u32 => ?_)
        · have h := of_n u32 h
          refine lv_iconst (v := (0 : Int32)) S.1 S.2.1 dX9_bowed_68 ki_0 ?_
          refine lv_istore (lv' := [(6, .int (0 : Int32)), (0, .ref h0), (1, .int x1), (2, .int x2), (3, .int x3), (4, .int x4), (5, .int x5)]) S.1 S.2.1 dX9_bowed_69 hl (by decide) rfl (fun ls hl => ?_)
          refine lv_iconst (v := (0 : Int32)) S.1 S.2.1 dX9_bowed_71 ki_0 ?_
          refine lv_istore (lv' := [(7, .int (0 : Int32)), (6, .int (0 : Int32)), (0, .ref h0), (1, .int x1), (2, .int x2), (3, .int x3), (4, .int x4), (5, .int x5)]) S.1 S.2.1 dX9_bowed_72 hl (by decide) rfl (fun ls hl => ?_)
          exact hL74 F _ _ _ _ _ _ _ _ h H locs hW ls (lv_sub hl [2, 3, 4, 5, 6, 7, 1, 0] rfl)
        · have h := of_p u32 h
          refine lv_aload_n S.1 S.2.1 dX9_bowed_55 rfl (lv_at hl 0 rfl) ?_
          refine lv_iload S.1 S.2.1 dX9_bowed_56 (lv_at hl 5 rfl) ?_
          obtain ⟨r33, cv34, hy35, h⟩ := bd2_e h
          refine kv (clX9 cI cJ cZ cB h0 a0 (cv34 0) (cv34 1) (cv34 2) (cv34 3) (w0 4 0) (w0 5 0) (cv34 6) (cv34 7) (cv34 8) (cv34 9) (cv34 10) (cv34 11) (cv34 12) (cv34 13) (cv34 14 0) (cv34 15 0) (cv34 16 0) (cv34 17 0) (cv34 18) (cv34 19) (cv34 20) (cv34 21 0) (cv34 22 0) (cv34 23 0) (cv34 24 0) (cv34 25 0) (cv34 26) (cv34 27) []) S hK hN hZ hA hW (rest := []) (t_X9_goesAll l dC dI cI cJ cZ cB zz h0 a0 F c0 w0 x5 _ _  hy35) wl_X9_216 wv_X9_goesAll rfl rfl ⟨Nat.le_of_ble_eq_true rfl, Nat.le_of_ble_eq_true rfl⟩ [] [] rfl rfl rfl 0 rfl rfl rfl rfl hl.1 rfl (Nat.le_of_ble_eq_true rfl) dX9_bowed_58 [.int r33] rfl (fun H locs hW => ?_)
          refine lv_if_eq (tgt := 68) S.1 S.2.1 dX9_bowed_61 (by decide) (fun u36 => ?_) (fun u36 => ?_)
          · have h := of_p u36 h
            refine lv_iconst (v := (0 : Int32)) S.1 S.2.1 dX9_bowed_68 ki_0 ?_
            refine lv_istore (lv' := [(6, .int (0 : Int32)), (0, .ref h0), (1, .int x1), (2, .int x2), (3, .int x3), (4, .int x4), (5, .int x5)]) S.1 S.2.1 dX9_bowed_69 hl (by decide) rfl (fun ls hl => ?_)
            refine lv_iconst (v := (0 : Int32)) S.1 S.2.1 dX9_bowed_71 ki_0 ?_
            refine lv_istore (lv' := [(7, .int (0 : Int32)), (6, .int (0 : Int32)), (0, .ref h0), (1, .int x1), (2, .int x2), (3, .int x3), (4, .int x4), (5, .int x5)]) S.1 S.2.1 dX9_bowed_72 hl (by decide) rfl (fun ls hl => ?_)
            exact hL74 F _ _ _ _ _ _ _ _ h H locs hW ls (lv_sub hl [2, 3, 4, 5, 6, 7, 1, 0] rfl)
          · have h := of_n u36 h
            refine lv_iconst (v := (1 : Int32)) S.1 S.2.1 dX9_bowed_64 ki_1 ?_
            refine lv_goto (tgt := 69) S.1 S.2.1 dX9_bowed_65 (by decide) ?_
            refine lv_istore (lv' := [(6, .int (1 : Int32)), (0, .ref h0), (1, .int x1), (2, .int x2), (3, .int x3), (4, .int x4), (5, .int x5)]) S.1 S.2.1 dX9_bowed_69 hl (by decide) rfl (fun ls hl => ?_)
            refine lv_iconst (v := (0 : Int32)) S.1 S.2.1 dX9_bowed_71 ki_0 ?_
            refine lv_istore (lv' := [(7, .int (0 : Int32)), (6, .int (1 : Int32)), (0, .ref h0), (1, .int x1), (2, .int x2), (3, .int x3), (4, .int x4), (5, .int x5)]) S.1 S.2.1 dX9_bowed_72 hl (by decide) rfl (fun ls hl => ?_)
            exact hL74 F _ _ _ _ _ _ _ _ h H locs hW ls (lv_sub hl [2, 3, 4, 5, 6, 7, 1, 0] rfl)
  refine lv_iload_n S.1 S.2.1 dX9_bowed_0 rfl (lv_at hl 1 rfl) ?_
  refine lv_i2l S.1 S.2.1 dX9_bowed_1 rfl ?_
  refine lv_lconst (v := (0 : Int64)) S.1 S.2.1 dX9_bowed_2 rfl ?_
  refine lv_ldc2 (v := (2 : Int64)) S.1 S.2.1 S.2.2.2.1 (S.2.2.2.2 _ wk_X9_143) dX9_bowed_3 ?_
  obtain ⟨r37, hy38, h⟩ := bd1_e h
  refine ks0 S hK hN hZ hA hW (rest := []) (t_X9_in l dC dI cI cJ cZ cB zz p1.toInt64 (0 : Int64) (2 : Int64) _  hy38) wl_X9_74 wv_X9_in rfl rfl ⟨Nat.le_of_ble_eq_true rfl, Nat.le_of_ble_eq_true rfl⟩ [] (clX9 cI cJ cZ cB h0 a0 (c0 0) (c0 1) (c0 2) (c0 3) (w0 4 0) (w0 5 0) (c0 6) (c0 7) (c0 8) (c0 9) (c0 10) (c0 11) (c0 12) (c0 13) (c0 14 0) (c0 15 0) (c0 16 0) (c0 17 0) (c0 18) (c0 19) (c0 20) (c0 21 0) (c0 22 0) (c0 23 0) (c0 24 0) (c0 25 0) (c0 26) (c0 27) []) rfl rfl hl.1 rfl (Nat.le_of_ble_eq_true rfl) dX9_bowed_6 [.int r37] rfl (fun H locs hW => ?_)
  refine lv_if_ne (tgt := 19) S.1 S.2.1 dX9_bowed_9 (by decide) (fun u39 => ?_) (fun u39 => ?_)
  · have h := of_n u39 h
    refine lv_iconst (v := (0 : Int32)) S.1 S.2.1 dX9_bowed_19 ki_0 ?_
    refine lv_istore_n (lv' := [(2, .int (0 : Int32)), (0, .ref h0), (1, .int p1)]) S.1 S.2.1 dX9_bowed_20 rfl hl (by decide) rfl (fun ls hl => ?_)
    refine lv_aload_n S.1 S.2.1 dX9_bowed_21 rfl (lv_at hl 1 rfl) ?_
    obtain ⟨r40, hy41, h⟩ := bd1_e h
    refine kv0 S hK hN hZ hA hW (rest := []) (t_X9_open l dC dI cI cJ cZ cB zz h0 a0 c0 w0 _  hy41) wl_X9_137 wv_X9_open rfl rfl ⟨Nat.le_of_ble_eq_true rfl, Nat.le_of_ble_eq_true rfl⟩ [] [] rfl 0 rfl rfl rfl rfl hl.1 rfl (Nat.le_of_ble_eq_true rfl) dX9_bowed_22 [.int r40] rfl (fun H locs hW => ?_)
    refine lv_istore_n (lv' := [(3, .int r40), (2, .int (0 : Int32)), (0, .ref h0), (1, .int p1)]) S.1 S.2.1 dX9_bowed_25 rfl hl (by decide) rfl (fun ls hl => ?_)
    refine lv_iconst (v := (0 : Int32)) S.1 S.2.1 dX9_bowed_26 ki_0 ?_
    refine lv_istore (lv' := [(4, .int (0 : Int32)), (3, .int r40), (2, .int (0 : Int32)), (0, .ref h0), (1, .int p1)]) S.1 S.2.1 dX9_bowed_27 hl (by decide) rfl (fun ls hl => ?_)
    refine lv_iconst (v := (0 : Int32)) S.1 S.2.1 dX9_bowed_29 ki_0 ?_
    refine lv_istore (lv' := [(5, .int (0 : Int32)), (4, .int (0 : Int32)), (3, .int r40), (2, .int (0 : Int32)), (0, .ref h0), (1, .int p1)]) S.1 S.2.1 dX9_bowed_30 hl (by decide) rfl (fun ls hl => ?_)
    exact hL32 F _ _ _ _ _ _ h H locs hW ls (lv_sub hl [4, 5, 3, 2, 1, 0] rfl)
  · have h := of_p u39 h
    refine lv_aload_n S.1 S.2.1 dX9_bowed_12 rfl (lv_at hl 0 rfl) ?_
    refine lv_bipush (v := (-2 : Int32)) S.1 S.2.1 dX9_bowed_13 kb_m2 ?_
    obtain ⟨r42, cv43, hy44, h⟩ := bd2_e h
    refine kv (clX9 cI cJ cZ cB h0 a0 (cv43 0) (cv43 1) (cv43 2) (cv43 3) (w0 4 0) (w0 5 0) (cv43 6) (cv43 7) (cv43 8) (cv43 9) (cv43 10) (cv43 11) (cv43 12) (cv43 13) (cv43 14 0) (cv43 15 0) (cv43 16 0) (cv43 17 0) (cv43 18) (cv43 19) (cv43 20) (cv43 21 0) (cv43 22 0) (cv43 23 0) (cv43 24 0) (cv43 25 0) (cv43 26) (cv43 27) []) S hK hN hZ hA hW (rest := []) (t_X9_bad l dC dI cI cJ cZ cB zz h0 a0 c0 w0 (-2 : Int32) _ _  hy44) wl_X9_84 wv_X9_bad rfl rfl ⟨Nat.le_of_ble_eq_true rfl, Nat.le_of_ble_eq_true rfl⟩ [] [] rfl rfl rfl 0 rfl rfl rfl rfl hl.1 rfl (Nat.le_of_ble_eq_true rfl) dX9_bowed_15 [.int r42] rfl (fun H locs hW => ?_)
    have f45 := Option.some.inj h
    obtain ⟨f46, f47⟩ := Prod.mk.inj f45
    subst f46
    subst f47
    exact ri S hr hlocks hW dX9_bowed_18
abbrev rmX9_note : Room := { frames := 2, cells := 0, slots := 0, locals := 46 }
set_option maxHeartbeats 4000000 in
set_option maxRecDepth 100000 in
theorem t_X9_note (l : Launch) (dC : Nat → ClassId) (dI : Nat → Nat → Nat) (cI cJ cZ cB : ClassId) (zz : ZT)  (h0 : Nat) (a0 : Nat → Nat) (c0 : Nat → Nat → Int32) (w0 : Nat → Nat → Int64) (p1 : Int32) (p2 : Int32) (p3 : Int32) (p4 : Int32) (p5 : Int32) (r : Int32) (c0' : Nat → Nat → Int32) (hm : md_X9_note c0 w0 p1 p2 p3 p4 p5 = some (r, c0')) : ct l (dC, dI) zz (ty4 cI cJ cZ cB) yX9_note cX9_note 7 (some .int) rmX9_note [.ref h0, .int p1, .int p2, .int p3, .int p4, .int p5] (cwX9 cI cJ cZ cB h0 a0 c0 w0 []) (cwX9 cI cJ cZ cB h0 a0 c0' w0 []) (some (.int r)) := by
  refine ct_of (cc := cX9_note) (maxL := 7) (ret := (some .int)) (by decide) (Nat.le_of_ble_eq_true rfl) ?_
  intro p e s m below meth c A S hr hlocks hK hN hZ hA H locs hW ls hl
  have S : CallFix p m c cX9_note 7 s (List.toArray [.ref h0, .int p1, .int p2, .int p3, .int p4, .int p5]) G RX9 := S
  have hl : lv_has ls 7 [(0, .ref h0), (1, .int p1), (2, .int p2), (3, .int p3), (4, .int p4), (5, .int p5)] := hl
  have h := hm
  rw [md_X9_note] at h
  have hW : wd (dC, dI) A s.heap (clX9 cI cJ cZ cB h0 a0 (c0 0) (c0 1) (c0 2) (c0 3) (w0 4 0) (w0 5 0) (c0 6) (c0 7) (c0 8) (c0 9) (c0 10) (c0 11) (c0 12) (c0 13) (c0 14 0) (c0 15 0) (c0 16 0) (c0 17 0) (c0 18) (c0 19) (c0 20) (c0 21 0) (c0 22 0) (c0 23 0) (c0 24 0) (c0 25 0) (c0 26) (c0 27) []) H locs := hW
  have hJ60 : ∀ (c0 : Nat → Nat → Int32), jd_X9_note_60 w0 c0 = some (r, c0') → ∀ (H : Heap) (locs : List Loc), wd (dC, dI) A s.heap (clX9 cI cJ cZ cB h0 a0 (c0 0) (c0 1) (c0 2) (c0 3) (w0 4 0) (w0 5 0) (c0 6) (c0 7) (c0 8) (c0 9) (c0 10) (c0 11) (c0 12) (c0 13) (c0 14 0) (c0 15 0) (c0 16 0) (c0 17 0) (c0 18) (c0 19) (c0 20) (c0 21 0) (c0 22 0) (c0 23 0) (c0 24 0) (c0 25 0) (c0 26) (c0 27) []) H locs → ∀ ls : Array Slot, lv_has ls 7 [(0, .ref h0)] → W p l e rmX9_note s m (List.toArray [.ref h0, .int p1, .int p2, .int p3, .int p4, .int p5]) below meth c H locs 0 0 (MQ below (kQ (dC, dI) (cwX9 cI cJ cZ cB h0 a0 c0' w0 []) (some (.int r)) A) (List.toArray [.ref h0, .int p1, .int p2, .int p3, .int p4, .int p5]) s 0 0 A) (F0 m 60 ls []) := by
    intro c0 h H locs hW ls hl
    rw [jd_X9_note_60] at h
    refine lv_aload_n S.1 S.2.1 dX9_note_60 rfl (lv_at hl 0 rfl) ?_
    refine lv_bipush (v := (-2 : Int32)) S.1 S.2.1 dX9_note_61 kb_m2 ?_
    obtain ⟨r1, cv2, hy3, h⟩ := bd2_e h
    refine kv (clX9 cI cJ cZ cB h0 a0 (cv2 0) (cv2 1) (cv2 2) (cv2 3) (w0 4 0) (w0 5 0) (cv2 6) (cv2 7) (cv2 8) (cv2 9) (cv2 10) (cv2 11) (cv2 12) (cv2 13) (cv2 14 0) (cv2 15 0) (cv2 16 0) (cv2 17 0) (cv2 18) (cv2 19) (cv2 20) (cv2 21 0) (cv2 22 0) (cv2 23 0) (cv2 24 0) (cv2 25 0) (cv2 26) (cv2 27) []) S hK hN hZ hA hW (rest := []) (t_X9_bad l dC dI cI cJ cZ cB zz h0 a0 c0 w0 (-2 : Int32) _ _  hy3) wl_X9_84 wv_X9_bad rfl rfl ⟨Nat.le_of_ble_eq_true rfl, Nat.le_of_ble_eq_true rfl⟩ [] [] rfl rfl rfl 0 rfl rfl rfl rfl hl.1 rfl (Nat.le_of_ble_eq_true rfl) dX9_note_63 [.int r1] rfl (fun H locs hW => ?_)
    have f4 := Option.some.inj h
    obtain ⟨f5, f6⟩ := Prod.mk.inj f4
    subst f5
    subst f6
    exact ri S hr hlocks hW dX9_note_66
  refine lv_aload_n S.1 S.2.1 dX9_note_0 rfl (lv_at hl 0 rfl) ?_
  refine lv_iload_n S.1 S.2.1 dX9_note_1 rfl (lv_at hl 1 rfl) ?_
  obtain ⟨r7, hy8, h⟩ := bd1_e h
  refine kv0 S hK hN hZ hA hW (rest := []) (t_X9_isPoint l dC dI cI cJ cZ cB zz h0 a0 c0 w0 p1 _  hy8) wl_X9_117 wv_X9_isPoint rfl rfl ⟨Nat.le_of_ble_eq_true rfl, Nat.le_of_ble_eq_true rfl⟩ [] [] rfl 0 rfl rfl rfl rfl hl.1 rfl (Nat.le_of_ble_eq_true rfl) dX9_note_2 [.int r7] rfl (fun H locs hW => ?_)
  refine lv_if_eq (tgt := 60) S.1 S.2.1 dX9_note_5 (by decide) (fun u9 => ?_) (fun u9 => ?_)
  · have h := of_p u9 h
    exact hJ60 _ h H locs hW ls (lv_sub hl [0] rfl)
  · have h := of_n u9 h
    refine lv_iload_n S.1 S.2.1 dX9_note_8 rfl (lv_at hl 2 rfl) ?_
    refine lv_i2l S.1 S.2.1 dX9_note_9 rfl ?_
    refine lv_lconst (v := (1 : Int64)) S.1 S.2.1 dX9_note_10 rfl ?_
    refine lv_ldc2 (v := (9 : Int64)) S.1 S.2.1 S.2.2.2.1 (S.2.2.2.2 _ wk_X9_93) dX9_note_11 ?_
    obtain ⟨r10, hy11, h⟩ := bd1_e h
    refine ks0 S hK hN hZ hA hW (rest := []) (t_X9_in l dC dI cI cJ cZ cB zz p2.toInt64 (1 : Int64) (9 : Int64) _  hy11) wl_X9_74 wv_X9_in rfl rfl ⟨Nat.le_of_ble_eq_true rfl, Nat.le_of_ble_eq_true rfl⟩ [] (clX9 cI cJ cZ cB h0 a0 (c0 0) (c0 1) (c0 2) (c0 3) (w0 4 0) (w0 5 0) (c0 6) (c0 7) (c0 8) (c0 9) (c0 10) (c0 11) (c0 12) (c0 13) (c0 14 0) (c0 15 0) (c0 16 0) (c0 17 0) (c0 18) (c0 19) (c0 20) (c0 21 0) (c0 22 0) (c0 23 0) (c0 24 0) (c0 25 0) (c0 26) (c0 27) []) rfl rfl hl.1 rfl (Nat.le_of_ble_eq_true rfl) dX9_note_14 [.int r10] rfl (fun H locs hW => ?_)
    refine lv_if_eq (tgt := 60) S.1 S.2.1 dX9_note_17 (by decide) (fun u12 => ?_) (fun u12 => ?_)
    · have h := of_p u12 h
      exact hJ60 _ h H locs hW ls (lv_sub hl [0] rfl)
    · have h := of_n u12 h
      refine lv_iload_n S.1 S.2.1 dX9_note_20 rfl (lv_at hl 3 rfl) ?_
      refine lv_i2l S.1 S.2.1 dX9_note_21 rfl ?_
      refine lv_ldc2 (v := (-99 : Int64)) S.1 S.2.1 S.2.2.2.1 (S.2.2.2.2 _ wk_X9_206) dX9_note_22 ?_
      refine lv_ldc2 (v := (99 : Int64)) S.1 S.2.1 S.2.2.2.1 (S.2.2.2.2 _ wk_X9_208) dX9_note_25 ?_
      obtain ⟨r13, hy14, h⟩ := bd1_e h
      refine ks0 S hK hN hZ hA hW (rest := []) (t_X9_in l dC dI cI cJ cZ cB zz p3.toInt64 (-99 : Int64) (99 : Int64) _  hy14) wl_X9_74 wv_X9_in rfl rfl ⟨Nat.le_of_ble_eq_true rfl, Nat.le_of_ble_eq_true rfl⟩ [] (clX9 cI cJ cZ cB h0 a0 (c0 0) (c0 1) (c0 2) (c0 3) (w0 4 0) (w0 5 0) (c0 6) (c0 7) (c0 8) (c0 9) (c0 10) (c0 11) (c0 12) (c0 13) (c0 14 0) (c0 15 0) (c0 16 0) (c0 17 0) (c0 18) (c0 19) (c0 20) (c0 21 0) (c0 22 0) (c0 23 0) (c0 24 0) (c0 25 0) (c0 26) (c0 27) []) rfl rfl hl.1 rfl (Nat.le_of_ble_eq_true rfl) dX9_note_28 [.int r13] rfl (fun H locs hW => ?_)
      refine lv_if_eq (tgt := 60) S.1 S.2.1 dX9_note_31 (by decide) (fun u15 => ?_) (fun u15 => ?_)
      · have h := of_p u15 h
        exact hJ60 _ h H locs hW ls (lv_sub hl [0] rfl)
      · have h := of_n u15 h
        refine lv_iload S.1 S.2.1 dX9_note_34 (lv_at hl 4 rfl) ?_
        refine lv_i2l S.1 S.2.1 dX9_note_36 rfl ?_
        refine lv_lconst (v := (0 : Int64)) S.1 S.2.1 dX9_note_37 rfl ?_
        refine lv_ldc2 (v := (9 : Int64)) S.1 S.2.1 S.2.2.2.1 (S.2.2.2.2 _ wk_X9_93) dX9_note_38 ?_
        obtain ⟨r16, hy17, h⟩ := bd1_e h
        refine ks0 S hK hN hZ hA hW (rest := []) (t_X9_in l dC dI cI cJ cZ cB zz p4.toInt64 (0 : Int64) (9 : Int64) _  hy17) wl_X9_74 wv_X9_in rfl rfl ⟨Nat.le_of_ble_eq_true rfl, Nat.le_of_ble_eq_true rfl⟩ [] (clX9 cI cJ cZ cB h0 a0 (c0 0) (c0 1) (c0 2) (c0 3) (w0 4 0) (w0 5 0) (c0 6) (c0 7) (c0 8) (c0 9) (c0 10) (c0 11) (c0 12) (c0 13) (c0 14 0) (c0 15 0) (c0 16 0) (c0 17 0) (c0 18) (c0 19) (c0 20) (c0 21 0) (c0 22 0) (c0 23 0) (c0 24 0) (c0 25 0) (c0 26) (c0 27) []) rfl rfl hl.1 rfl (Nat.le_of_ble_eq_true rfl) dX9_note_41 [.int r16] rfl (fun H locs hW => ?_)
        refine lv_if_eq (tgt := 60) S.1 S.2.1 dX9_note_44 (by decide) (fun u18 => ?_) (fun u18 => ?_)
        · have h := of_p u18 h
          exact hJ60 _ h H locs hW ls (lv_sub hl [0] rfl)
        · have h := of_n u18 h
          refine lv_iload S.1 S.2.1 dX9_note_47 (lv_at hl 5 rfl) ?_
          refine lv_i2l S.1 S.2.1 dX9_note_49 rfl ?_
          refine lv_lconst (v := (0 : Int64)) S.1 S.2.1 dX9_note_50 rfl ?_
          refine lv_ldc2 (v := (40 : Int64)) S.1 S.2.1 S.2.2.2.1 (S.2.2.2.2 _ wk_X9_219) dX9_note_51 ?_
          obtain ⟨r19, hy20, h⟩ := bd1_e h
          refine ks0 S hK hN hZ hA hW (rest := []) (t_X9_in l dC dI cI cJ cZ cB zz p5.toInt64 (0 : Int64) (40 : Int64) _  hy20) wl_X9_74 wv_X9_in rfl rfl ⟨Nat.le_of_ble_eq_true rfl, Nat.le_of_ble_eq_true rfl⟩ [] (clX9 cI cJ cZ cB h0 a0 (c0 0) (c0 1) (c0 2) (c0 3) (w0 4 0) (w0 5 0) (c0 6) (c0 7) (c0 8) (c0 9) (c0 10) (c0 11) (c0 12) (c0 13) (c0 14 0) (c0 15 0) (c0 16 0) (c0 17 0) (c0 18) (c0 19) (c0 20) (c0 21 0) (c0 22 0) (c0 23 0) (c0 24 0) (c0 25 0) (c0 26) (c0 27) []) rfl rfl hl.1 rfl (Nat.le_of_ble_eq_true rfl) dX9_note_54 [.int r19] rfl (fun H locs hW => ?_)
          refine lv_if_ne (tgt := 67) S.1 S.2.1 dX9_note_57 (by decide) (fun u21 => ?_) (fun u21 => ?_)
          · have h := of_n u21 h
            refine lv_aload_n S.1 S.2.1 dX9_note_67 rfl (lv_at hl 0 rfl) ?_
            refine gf (C := RX9) (T := TX9) (N := 28) (ci := 5) (k := 0) S hK hW wu_X9 rfl (by decide) wf_X9_7 0 rfl rfl dX9_note_68 ?_
            refine lv_iconst (v := (2 : Int32)) S.1 S.2.1 dX9_note_71 ki_2 ?_
            refine iaK S hK hW rfl 1 rfl b_2_194 x_2 dX9_note_72 ?_
            refine lv_bipush (v := (6 : Int32)) S.1 S.2.1 dX9_note_73 kb_6 ?_
            refine lv_icmp_ne (tgt := 83) S.1 S.2.1 dX9_note_75 (by decide) (fun u22 => ?_) (fun u22 => ?_)
            · have h := of_n u22 h
              refine lv_bipush (v := (36 : Int32)) S.1 S.2.1 dX9_note_83 kb_36 ?_
              refine lv_iconst (v := (5 : Int32)) S.1 S.2.1 dX9_note_85 ki_5 ?_
              refine lv_aload_n S.1 S.2.1 dX9_note_86 rfl (lv_at hl 0 rfl) ?_
              refine gf (C := RX9) (T := TX9) (N := 28) (ci := 5) (k := 0) S hK hW wu_X9 rfl (by decide) wf_X9_7 0 rfl rfl dX9_note_87 ?_
              refine lv_iconst (v := (2 : Int32)) S.1 S.2.1 dX9_note_90 ki_2 ?_
              refine iaK S hK hW rfl 1 rfl b_2_194 x_2 dX9_note_91 ?_
              refine lv_imul S.1 S.2.1 dX9_note_92 ?_
              refine lv_iadd S.1 S.2.1 dX9_note_93 ?_
              obtain ⟨y23, e24, h⟩ := lt1_e h
              refine nmi e24 ?_
              refine lv_istore (lv' := [(6, .int y23), (0, .ref h0), (1, .int p1), (2, .int p2), (3, .int p3), (4, .int p4), (5, .int p5)]) S.1 S.2.1 dX9_note_94 hl (by decide) rfl (fun ls hl => ?_)
              refine lv_aload_n S.1 S.2.1 dX9_note_96 rfl (lv_at hl 1 rfl) ?_
              refine gf (C := RX9) (T := TX9) (N := 28) (ci := 5) (k := 0) S hK hW wu_X9 rfl (by decide) wf_X9_7 0 rfl rfl dX9_note_97 ?_
              refine lv_iload S.1 S.2.1 dX9_note_100 (lv_at hl 0 rfl) ?_
              refine lv_iload_n S.1 S.2.1 dX9_note_102 rfl (lv_at hl 2 rfl) ?_
              obtain ⟨z25, h⟩ := of_g h
              refine ist S hK hW rfl 1 rfl z25 dX9_note_103 (fun H locs hW => ?_)
              have hW : wd (dC, dI) A s.heap (clX9 cI cJ cZ cB h0 a0 (upd (c0 0) (ix y23) p1) (c0 1) (c0 2) (c0 3) (w0 4 0) (w0 5 0) (c0 6) (c0 7) (c0 8) (c0 9) (c0 10) (c0 11) (c0 12) (c0 13) (c0 14 0) (c0 15 0) (c0 16 0) (c0 17 0) (c0 18) (c0 19) (c0 20) (c0 21 0) (c0 22 0) (c0 23 0) (c0 24 0) (c0 25 0) (c0 26) (c0 27) []) H locs := hW
              refine lv_aload_n S.1 S.2.1 dX9_note_104 rfl (lv_at hl 1 rfl) ?_
              refine gf (C := RX9) (T := TX9) (N := 28) (ci := 5) (k := 0) S hK hW wu_X9 rfl (by decide) wf_X9_7 0 rfl rfl dX9_note_105 ?_
              refine lv_iload S.1 S.2.1 dX9_note_108 (lv_at hl 0 rfl) ?_
              refine lv_iconst (v := (1 : Int32)) S.1 S.2.1 dX9_note_110 ki_1 ?_
              refine lv_iadd S.1 S.2.1 dX9_note_111 ?_
              refine lv_iload_n S.1 S.2.1 dX9_note_112 rfl (lv_at hl 3 rfl) ?_
              obtain ⟨z26, h⟩ := of_g h
              refine ist S hK hW rfl 1 rfl z26 dX9_note_113 (fun H locs hW => ?_)
              have hW : wd (dC, dI) A s.heap (clX9 cI cJ cZ cB h0 a0 (upd (upd (c0 0) (ix y23) p1) (ix (y23 + (1 : Int32))) p2) (c0 1) (c0 2) (c0 3) (w0 4 0) (w0 5 0) (c0 6) (c0 7) (c0 8) (c0 9) (c0 10) (c0 11) (c0 12) (c0 13) (c0 14 0) (c0 15 0) (c0 16 0) (c0 17 0) (c0 18) (c0 19) (c0 20) (c0 21 0) (c0 22 0) (c0 23 0) (c0 24 0) (c0 25 0) (c0 26) (c0 27) []) H locs := hW
              refine lv_aload_n S.1 S.2.1 dX9_note_114 rfl (lv_at hl 1 rfl) ?_
              refine gf (C := RX9) (T := TX9) (N := 28) (ci := 5) (k := 0) S hK hW wu_X9 rfl (by decide) wf_X9_7 0 rfl rfl dX9_note_115 ?_
              refine lv_iload S.1 S.2.1 dX9_note_118 (lv_at hl 0 rfl) ?_
              refine lv_iconst (v := (2 : Int32)) S.1 S.2.1 dX9_note_120 ki_2 ?_
              refine lv_iadd S.1 S.2.1 dX9_note_121 ?_
              refine lv_iload_n S.1 S.2.1 dX9_note_122 rfl (lv_at hl 4 rfl) ?_
              obtain ⟨z27, h⟩ := of_g h
              refine ist S hK hW rfl 1 rfl z27 dX9_note_123 (fun H locs hW => ?_)
              have hW : wd (dC, dI) A s.heap (clX9 cI cJ cZ cB h0 a0 (upd (upd (upd (c0 0) (ix y23) p1) (ix (y23 + (1 : Int32))) p2) (ix (y23 + (2 : Int32))) p3) (c0 1) (c0 2) (c0 3) (w0 4 0) (w0 5 0) (c0 6) (c0 7) (c0 8) (c0 9) (c0 10) (c0 11) (c0 12) (c0 13) (c0 14 0) (c0 15 0) (c0 16 0) (c0 17 0) (c0 18) (c0 19) (c0 20) (c0 21 0) (c0 22 0) (c0 23 0) (c0 24 0) (c0 25 0) (c0 26) (c0 27) []) H locs := hW
              refine lv_aload_n S.1 S.2.1 dX9_note_124 rfl (lv_at hl 1 rfl) ?_
              refine gf (C := RX9) (T := TX9) (N := 28) (ci := 5) (k := 0) S hK hW wu_X9 rfl (by decide) wf_X9_7 0 rfl rfl dX9_note_125 ?_
              refine lv_iload S.1 S.2.1 dX9_note_128 (lv_at hl 0 rfl) ?_
              refine lv_iconst (v := (3 : Int32)) S.1 S.2.1 dX9_note_130 ki_3 ?_
              refine lv_iadd S.1 S.2.1 dX9_note_131 ?_
              refine lv_iload S.1 S.2.1 dX9_note_132 (lv_at hl 5 rfl) ?_
              obtain ⟨z28, h⟩ := of_g h
              refine ist S hK hW rfl 1 rfl z28 dX9_note_134 (fun H locs hW => ?_)
              have hW : wd (dC, dI) A s.heap (clX9 cI cJ cZ cB h0 a0 (upd (upd (upd (upd (c0 0) (ix y23) p1) (ix (y23 + (1 : Int32))) p2) (ix (y23 + (2 : Int32))) p3) (ix (y23 + (3 : Int32))) p4) (c0 1) (c0 2) (c0 3) (w0 4 0) (w0 5 0) (c0 6) (c0 7) (c0 8) (c0 9) (c0 10) (c0 11) (c0 12) (c0 13) (c0 14 0) (c0 15 0) (c0 16 0) (c0 17 0) (c0 18) (c0 19) (c0 20) (c0 21 0) (c0 22 0) (c0 23 0) (c0 24 0) (c0 25 0) (c0 26) (c0 27) []) H locs := hW
              refine lv_aload_n S.1 S.2.1 dX9_note_135 rfl (lv_at hl 1 rfl) ?_
              refine gf (C := RX9) (T := TX9) (N := 28) (ci := 5) (k := 0) S hK hW wu_X9 rfl (by decide) wf_X9_7 0 rfl rfl dX9_note_136 ?_
              refine lv_iload S.1 S.2.1 dX9_note_139 (lv_at hl 0 rfl) ?_
              refine lv_iconst (v := (4 : Int32)) S.1 S.2.1 dX9_note_141 ki_4 ?_
              refine lv_iadd S.1 S.2.1 dX9_note_142 ?_
              refine lv_iload S.1 S.2.1 dX9_note_143 (lv_at hl 6 rfl) ?_
              obtain ⟨z29, h⟩ := of_g h
              refine ist S hK hW rfl 1 rfl z29 dX9_note_145 (fun H locs hW => ?_)
              have hW : wd (dC, dI) A s.heap (clX9 cI cJ cZ cB h0 a0 (upd (upd (upd (upd (upd (c0 0) (ix y23) p1) (ix (y23 + (1 : Int32))) p2) (ix (y23 + (2 : Int32))) p3) (ix (y23 + (3 : Int32))) p4) (ix (y23 + (4 : Int32))) p5) (c0 1) (c0 2) (c0 3) (w0 4 0) (w0 5 0) (c0 6) (c0 7) (c0 8) (c0 9) (c0 10) (c0 11) (c0 12) (c0 13) (c0 14 0) (c0 15 0) (c0 16 0) (c0 17 0) (c0 18) (c0 19) (c0 20) (c0 21 0) (c0 22 0) (c0 23 0) (c0 24 0) (c0 25 0) (c0 26) (c0 27) []) H locs := hW
              refine lv_aload_n S.1 S.2.1 dX9_note_146 rfl (lv_at hl 1 rfl) ?_
              refine gf (C := RX9) (T := TX9) (N := 28) (ci := 5) (k := 0) S hK hW wu_X9 rfl (by decide) wf_X9_7 0 rfl rfl dX9_note_147 ?_
              refine lv_iconst (v := (2 : Int32)) S.1 S.2.1 dX9_note_150 ki_2 ?_
              refine lv_dup2_11 S.1 S.2.1 dX9_note_151 rfl rfl ?_
              refine iaK S hK hW rfl 1 rfl b_2_194 x_2 dX9_note_152 ?_
              refine lv_iconst (v := (1 : Int32)) S.1 S.2.1 dX9_note_153 ki_1 ?_
              refine lv_iadd S.1 S.2.1 dX9_note_154 ?_
              obtain ⟨y30, e31, h⟩ := lt1_e h
              refine nmi e31 ?_
              refine istK S hK hW rfl 1 rfl b_2_194 x_2 dX9_note_155 (fun H locs hW => ?_)
              have hW : wd (dC, dI) A s.heap (clX9 cI cJ cZ cB h0 a0 (upd (upd (upd (upd (upd (upd (c0 0) (ix y23) p1) (ix (y23 + (1 : Int32))) p2) (ix (y23 + (2 : Int32))) p3) (ix (y23 + (3 : Int32))) p4) (ix (y23 + (4 : Int32))) p5) 2 y30) (c0 1) (c0 2) (c0 3) (w0 4 0) (w0 5 0) (c0 6) (c0 7) (c0 8) (c0 9) (c0 10) (c0 11) (c0 12) (c0 13) (c0 14 0) (c0 15 0) (c0 16 0) (c0 17 0) (c0 18) (c0 19) (c0 20) (c0 21 0) (c0 22 0) (c0 23 0) (c0 24 0) (c0 25 0) (c0 26) (c0 27) []) H locs := hW
              refine lv_aload_n S.1 S.2.1 dX9_note_156 rfl (lv_at hl 1 rfl) ?_
              refine gf (C := RX9) (T := TX9) (N := 28) (ci := 5) (k := 0) S hK hW wu_X9 rfl (by decide) wf_X9_7 0 rfl rfl dX9_note_157 ?_
              refine lv_iconst (v := (2 : Int32)) S.1 S.2.1 dX9_note_160 ki_2 ?_
              refine iaK S hK hW rfl 1 rfl b_2_194 x_2 dX9_note_161 ?_
              have f32 := Option.some.inj h
              obtain ⟨f33, f34⟩ := Prod.mk.inj f32
              subst f33
              subst f34
              exact ri S hr hlocks hW dX9_note_162
            · have h := of_p u22 h
              refine lv_aload_n S.1 S.2.1 dX9_note_78 rfl (lv_at hl 0 rfl) ?_
              obtain ⟨r35, cv36, hy37, h⟩ := bd2_e h
              refine kv (clX9 cI cJ cZ cB h0 a0 (cv36 0) (cv36 1) (cv36 2) (cv36 3) (w0 4 0) (w0 5 0) (cv36 6) (cv36 7) (cv36 8) (cv36 9) (cv36 10) (cv36 11) (cv36 12) (cv36 13) (cv36 14 0) (cv36 15 0) (cv36 16 0) (cv36 17 0) (cv36 18) (cv36 19) (cv36 20) (cv36 21 0) (cv36 22 0) (cv36 23 0) (cv36 24 0) (cv36 25 0) (cv36 26) (cv36 27) []) S hK hN hZ hA hW (rest := []) (t_X9_full l dC dI cI cJ cZ cB zz h0 a0 c0 w0 _ _  hy37) wl_X9_95 wv_X9_full rfl rfl ⟨Nat.le_of_ble_eq_true rfl, Nat.le_of_ble_eq_true rfl⟩ [] [] rfl rfl rfl 0 rfl rfl rfl rfl hl.1 rfl (Nat.le_of_ble_eq_true rfl) dX9_note_79 [.int r35] rfl (fun H locs hW => ?_)
              have f38 := Option.some.inj h
              obtain ⟨f39, f40⟩ := Prod.mk.inj f38
              subst f39
              subst f40
              exact ri S hr hlocks hW dX9_note_82
          · have h := of_p u21 h
            exact hJ60 _ h H locs hW ls (lv_sub hl [0] rfl)
abbrev rmX9_mark : Room := { frames := 2, cells := 0, slots := 0, locals := 45 }
set_option maxHeartbeats 4000000 in
set_option maxRecDepth 100000 in
theorem t_X9_mark (l : Launch) (dC : Nat → ClassId) (dI : Nat → Nat → Nat) (cI cJ cZ cB : ClassId) (zz : ZT)  (h0 : Nat) (a0 : Nat → Nat) (c0 : Nat → Nat → Int32) (w0 : Nat → Nat → Int64) (p1 : Int32) (p2 : Int32) (p3 : Int32) (p4 : Int32) (r : Int32) (c0' : Nat → Nat → Int32) (hm : md_X9_mark c0 w0 p1 p2 p3 p4 = some (r, c0')) : ct l (dC, dI) zz (ty4 cI cJ cZ cB) yX9_mark cX9_mark 6 (some .int) rmX9_mark [.ref h0, .int p1, .int p2, .int p3, .int p4] (cwX9 cI cJ cZ cB h0 a0 c0 w0 []) (cwX9 cI cJ cZ cB h0 a0 c0' w0 []) (some (.int r)) := by
  refine ct_of (cc := cX9_mark) (maxL := 6) (ret := (some .int)) (by decide) (Nat.le_of_ble_eq_true rfl) ?_
  intro p e s m below meth c A S hr hlocks hK hN hZ hA H locs hW ls hl
  have S : CallFix p m c cX9_mark 6 s (List.toArray [.ref h0, .int p1, .int p2, .int p3, .int p4]) G RX9 := S
  have hl : lv_has ls 6 [(0, .ref h0), (1, .int p1), (2, .int p2), (3, .int p3), (4, .int p4)] := hl
  have h := hm
  rw [md_X9_mark] at h
  have hW : wd (dC, dI) A s.heap (clX9 cI cJ cZ cB h0 a0 (c0 0) (c0 1) (c0 2) (c0 3) (w0 4 0) (w0 5 0) (c0 6) (c0 7) (c0 8) (c0 9) (c0 10) (c0 11) (c0 12) (c0 13) (c0 14 0) (c0 15 0) (c0 16 0) (c0 17 0) (c0 18) (c0 19) (c0 20) (c0 21 0) (c0 22 0) (c0 23 0) (c0 24 0) (c0 25 0) (c0 26) (c0 27) []) H locs := hW
  have hJ44 : ∀ (c0 : Nat → Nat → Int32), jd_X9_mark_44 w0 c0 = some (r, c0') → ∀ (H : Heap) (locs : List Loc), wd (dC, dI) A s.heap (clX9 cI cJ cZ cB h0 a0 (c0 0) (c0 1) (c0 2) (c0 3) (w0 4 0) (w0 5 0) (c0 6) (c0 7) (c0 8) (c0 9) (c0 10) (c0 11) (c0 12) (c0 13) (c0 14 0) (c0 15 0) (c0 16 0) (c0 17 0) (c0 18) (c0 19) (c0 20) (c0 21 0) (c0 22 0) (c0 23 0) (c0 24 0) (c0 25 0) (c0 26) (c0 27) []) H locs → ∀ ls : Array Slot, lv_has ls 6 [(0, .ref h0)] → W p l e rmX9_mark s m (List.toArray [.ref h0, .int p1, .int p2, .int p3, .int p4]) below meth c H locs 0 0 (MQ below (kQ (dC, dI) (cwX9 cI cJ cZ cB h0 a0 c0' w0 []) (some (.int r)) A) (List.toArray [.ref h0, .int p1, .int p2, .int p3, .int p4]) s 0 0 A) (F0 m 44 ls []) := by
    intro c0 h H locs hW ls hl
    rw [jd_X9_mark_44] at h
    refine lv_aload_n S.1 S.2.1 dX9_mark_44 rfl (lv_at hl 0 rfl) ?_
    refine lv_bipush (v := (-2 : Int32)) S.1 S.2.1 dX9_mark_45 kb_m2 ?_
    obtain ⟨r1, cv2, hy3, h⟩ := bd2_e h
    refine kv (clX9 cI cJ cZ cB h0 a0 (cv2 0) (cv2 1) (cv2 2) (cv2 3) (w0 4 0) (w0 5 0) (cv2 6) (cv2 7) (cv2 8) (cv2 9) (cv2 10) (cv2 11) (cv2 12) (cv2 13) (cv2 14 0) (cv2 15 0) (cv2 16 0) (cv2 17 0) (cv2 18) (cv2 19) (cv2 20) (cv2 21 0) (cv2 22 0) (cv2 23 0) (cv2 24 0) (cv2 25 0) (cv2 26) (cv2 27) []) S hK hN hZ hA hW (rest := []) (t_X9_bad l dC dI cI cJ cZ cB zz h0 a0 c0 w0 (-2 : Int32) _ _  hy3) wl_X9_84 wv_X9_bad rfl rfl ⟨Nat.le_of_ble_eq_true rfl, Nat.le_of_ble_eq_true rfl⟩ [] [] rfl rfl rfl 0 rfl rfl rfl rfl hl.1 rfl (Nat.le_of_ble_eq_true rfl) dX9_mark_47 [.int r1] rfl (fun H locs hW => ?_)
    have f4 := Option.some.inj h
    obtain ⟨f5, f6⟩ := Prod.mk.inj f4
    subst f5
    subst f6
    exact ri S hr hlocks hW dX9_mark_50
  refine lv_iload_n S.1 S.2.1 dX9_mark_0 rfl (lv_at hl 1 rfl) ?_
  obtain ⟨r7, hy8, h⟩ := bd1_e h
  refine ks0 S hK hN hZ hA hW (rest := []) (t_X9_isCounsel l dC dI cI cJ cZ cB zz p1 _  hy8) wl_X9_88 wv_X9_isCounsel rfl rfl ⟨Nat.le_of_ble_eq_true rfl, Nat.le_of_ble_eq_true rfl⟩ [] (clX9 cI cJ cZ cB h0 a0 (c0 0) (c0 1) (c0 2) (c0 3) (w0 4 0) (w0 5 0) (c0 6) (c0 7) (c0 8) (c0 9) (c0 10) (c0 11) (c0 12) (c0 13) (c0 14 0) (c0 15 0) (c0 16 0) (c0 17 0) (c0 18) (c0 19) (c0 20) (c0 21 0) (c0 22 0) (c0 23 0) (c0 24 0) (c0 25 0) (c0 26) (c0 27) []) rfl rfl hl.1 rfl (Nat.le_of_ble_eq_true rfl) dX9_mark_1 [.int r7] rfl (fun H locs hW => ?_)
  refine lv_if_eq (tgt := 44) S.1 S.2.1 dX9_mark_4 (by decide) (fun u9 => ?_) (fun u9 => ?_)
  · have h := of_p u9 h
    exact hJ44 _ h H locs hW ls (lv_sub hl [0] rfl)
  · have h := of_n u9 h
    refine lv_iload_n S.1 S.2.1 dX9_mark_7 rfl (lv_at hl 2 rfl) ?_
    refine lv_i2l S.1 S.2.1 dX9_mark_8 rfl ?_
    refine lv_lconst (v := (0 : Int64)) S.1 S.2.1 dX9_mark_9 rfl ?_
    refine lv_ldc2 (v := (40 : Int64)) S.1 S.2.1 S.2.2.2.1 (S.2.2.2.2 _ wk_X9_219) dX9_mark_10 ?_
    obtain ⟨r10, hy11, h⟩ := bd1_e h
    refine ks0 S hK hN hZ hA hW (rest := []) (t_X9_in l dC dI cI cJ cZ cB zz p2.toInt64 (0 : Int64) (40 : Int64) _  hy11) wl_X9_74 wv_X9_in rfl rfl ⟨Nat.le_of_ble_eq_true rfl, Nat.le_of_ble_eq_true rfl⟩ [] (clX9 cI cJ cZ cB h0 a0 (c0 0) (c0 1) (c0 2) (c0 3) (w0 4 0) (w0 5 0) (c0 6) (c0 7) (c0 8) (c0 9) (c0 10) (c0 11) (c0 12) (c0 13) (c0 14 0) (c0 15 0) (c0 16 0) (c0 17 0) (c0 18) (c0 19) (c0 20) (c0 21 0) (c0 22 0) (c0 23 0) (c0 24 0) (c0 25 0) (c0 26) (c0 27) []) rfl rfl hl.1 rfl (Nat.le_of_ble_eq_true rfl) dX9_mark_13 [.int r10] rfl (fun H locs hW => ?_)
    refine lv_if_eq (tgt := 44) S.1 S.2.1 dX9_mark_16 (by decide) (fun u12 => ?_) (fun u12 => ?_)
    · have h := of_p u12 h
      exact hJ44 _ h H locs hW ls (lv_sub hl [0] rfl)
    · have h := of_n u12 h
      refine lv_iload_n S.1 S.2.1 dX9_mark_19 rfl (lv_at hl 3 rfl) ?_
      refine lv_i2l S.1 S.2.1 dX9_mark_20 rfl ?_
      refine lv_lconst (v := (0 : Int64)) S.1 S.2.1 dX9_mark_21 rfl ?_
      refine lv_lconst (v := (1 : Int64)) S.1 S.2.1 dX9_mark_22 rfl ?_
      obtain ⟨r13, hy14, h⟩ := bd1_e h
      refine ks0 S hK hN hZ hA hW (rest := []) (t_X9_in l dC dI cI cJ cZ cB zz p3.toInt64 (0 : Int64) (1 : Int64) _  hy14) wl_X9_74 wv_X9_in rfl rfl ⟨Nat.le_of_ble_eq_true rfl, Nat.le_of_ble_eq_true rfl⟩ [] (clX9 cI cJ cZ cB h0 a0 (c0 0) (c0 1) (c0 2) (c0 3) (w0 4 0) (w0 5 0) (c0 6) (c0 7) (c0 8) (c0 9) (c0 10) (c0 11) (c0 12) (c0 13) (c0 14 0) (c0 15 0) (c0 16 0) (c0 17 0) (c0 18) (c0 19) (c0 20) (c0 21 0) (c0 22 0) (c0 23 0) (c0 24 0) (c0 25 0) (c0 26) (c0 27) []) rfl rfl hl.1 rfl (Nat.le_of_ble_eq_true rfl) dX9_mark_23 [.int r13] rfl (fun H locs hW => ?_)
      refine lv_if_eq (tgt := 44) S.1 S.2.1 dX9_mark_26 (by decide) (fun u15 => ?_) (fun u15 => ?_)
      · have h := of_p u15 h
        exact hJ44 _ h H locs hW ls (lv_sub hl [0] rfl)
      · have h := of_n u15 h
        refine lv_iload S.1 S.2.1 dX9_mark_29 (lv_at hl 4 rfl) ?_
        refine lv_i2l S.1 S.2.1 dX9_mark_31 rfl ?_
        refine lv_ldc2 (v := (-50 : Int64)) S.1 S.2.1 S.2.2.2.1 (S.2.2.2.2 _ wk_X9_221) dX9_mark_32 ?_
        refine lv_ldc2 (v := (50 : Int64)) S.1 S.2.1 S.2.2.2.1 (S.2.2.2.2 _ wk_X9_223) dX9_mark_35 ?_
        obtain ⟨r16, hy17, h⟩ := bd1_e h
        refine ks0 S hK hN hZ hA hW (rest := []) (t_X9_in l dC dI cI cJ cZ cB zz p4.toInt64 (-50 : Int64) (50 : Int64) _  hy17) wl_X9_74 wv_X9_in rfl rfl ⟨Nat.le_of_ble_eq_true rfl, Nat.le_of_ble_eq_true rfl⟩ [] (clX9 cI cJ cZ cB h0 a0 (c0 0) (c0 1) (c0 2) (c0 3) (w0 4 0) (w0 5 0) (c0 6) (c0 7) (c0 8) (c0 9) (c0 10) (c0 11) (c0 12) (c0 13) (c0 14 0) (c0 15 0) (c0 16 0) (c0 17 0) (c0 18) (c0 19) (c0 20) (c0 21 0) (c0 22 0) (c0 23 0) (c0 24 0) (c0 25 0) (c0 26) (c0 27) []) rfl rfl hl.1 rfl (Nat.le_of_ble_eq_true rfl) dX9_mark_38 [.int r16] rfl (fun H locs hW => ?_)
        refine lv_if_ne (tgt := 51) S.1 S.2.1 dX9_mark_41 (by decide) (fun u18 => ?_) (fun u18 => ?_)
        · have h := of_n u18 h
          refine lv_aload_n S.1 S.2.1 dX9_mark_51 rfl (lv_at hl 0 rfl) ?_
          refine gf (C := RX9) (T := TX9) (N := 28) (ci := 5) (k := 0) S hK hW wu_X9 rfl (by decide) wf_X9_7 0 rfl rfl dX9_mark_52 ?_
          refine lv_iconst (v := (3 : Int32)) S.1 S.2.1 dX9_mark_55 ki_3 ?_
          refine iaK S hK hW rfl 1 rfl b_3_194 x_3 dX9_mark_56 ?_
          refine lv_bipush (v := (6 : Int32)) S.1 S.2.1 dX9_mark_57 kb_6 ?_
          refine lv_icmp_ne (tgt := 67) S.1 S.2.1 dX9_mark_59 (by decide) (fun u19 => ?_) (fun u19 => ?_)
          · have h := of_n u19 h
            refine lv_bipush (v := (66 : Int32)) S.1 S.2.1 dX9_mark_67 kb_66 ?_
            refine lv_iconst (v := (4 : Int32)) S.1 S.2.1 dX9_mark_69 ki_4 ?_
            refine lv_aload_n S.1 S.2.1 dX9_mark_70 rfl (lv_at hl 0 rfl) ?_
            refine gf (C := RX9) (T := TX9) (N := 28) (ci := 5) (k := 0) S hK hW wu_X9 rfl (by decide) wf_X9_7 0 rfl rfl dX9_mark_71 ?_
            refine lv_iconst (v := (3 : Int32)) S.1 S.2.1 dX9_mark_74 ki_3 ?_
            refine iaK S hK hW rfl 1 rfl b_3_194 x_3 dX9_mark_75 ?_
            refine lv_imul S.1 S.2.1 dX9_mark_76 ?_
            refine lv_iadd S.1 S.2.1 dX9_mark_77 ?_
            obtain ⟨y20, e21, h⟩ := lt1_e h
            refine nmi e21 ?_
            refine lv_istore (lv' := [(5, .int y20), (0, .ref h0), (1, .int p1), (2, .int p2), (3, .int p3), (4, .int p4)]) S.1 S.2.1 dX9_mark_78 hl (by decide) rfl (fun ls hl => ?_)
            refine lv_aload_n S.1 S.2.1 dX9_mark_80 rfl (lv_at hl 1 rfl) ?_
            refine gf (C := RX9) (T := TX9) (N := 28) (ci := 5) (k := 0) S hK hW wu_X9 rfl (by decide) wf_X9_7 0 rfl rfl dX9_mark_81 ?_
            refine lv_iload S.1 S.2.1 dX9_mark_84 (lv_at hl 0 rfl) ?_
            refine lv_iload_n S.1 S.2.1 dX9_mark_86 rfl (lv_at hl 2 rfl) ?_
            obtain ⟨z22, h⟩ := of_g h
            refine ist S hK hW rfl 1 rfl z22 dX9_mark_87 (fun H locs hW => ?_)
            have hW : wd (dC, dI) A s.heap (clX9 cI cJ cZ cB h0 a0 (upd (c0 0) (ix y20) p1) (c0 1) (c0 2) (c0 3) (w0 4 0) (w0 5 0) (c0 6) (c0 7) (c0 8) (c0 9) (c0 10) (c0 11) (c0 12) (c0 13) (c0 14 0) (c0 15 0) (c0 16 0) (c0 17 0) (c0 18) (c0 19) (c0 20) (c0 21 0) (c0 22 0) (c0 23 0) (c0 24 0) (c0 25 0) (c0 26) (c0 27) []) H locs := hW
            refine lv_aload_n S.1 S.2.1 dX9_mark_88 rfl (lv_at hl 1 rfl) ?_
            refine gf (C := RX9) (T := TX9) (N := 28) (ci := 5) (k := 0) S hK hW wu_X9 rfl (by decide) wf_X9_7 0 rfl rfl dX9_mark_89 ?_
            refine lv_iload S.1 S.2.1 dX9_mark_92 (lv_at hl 0 rfl) ?_
            refine lv_iconst (v := (1 : Int32)) S.1 S.2.1 dX9_mark_94 ki_1 ?_
            refine lv_iadd S.1 S.2.1 dX9_mark_95 ?_
            refine lv_iload_n S.1 S.2.1 dX9_mark_96 rfl (lv_at hl 3 rfl) ?_
            obtain ⟨z23, h⟩ := of_g h
            refine ist S hK hW rfl 1 rfl z23 dX9_mark_97 (fun H locs hW => ?_)
            have hW : wd (dC, dI) A s.heap (clX9 cI cJ cZ cB h0 a0 (upd (upd (c0 0) (ix y20) p1) (ix (y20 + (1 : Int32))) p2) (c0 1) (c0 2) (c0 3) (w0 4 0) (w0 5 0) (c0 6) (c0 7) (c0 8) (c0 9) (c0 10) (c0 11) (c0 12) (c0 13) (c0 14 0) (c0 15 0) (c0 16 0) (c0 17 0) (c0 18) (c0 19) (c0 20) (c0 21 0) (c0 22 0) (c0 23 0) (c0 24 0) (c0 25 0) (c0 26) (c0 27) []) H locs := hW
            refine lv_aload_n S.1 S.2.1 dX9_mark_98 rfl (lv_at hl 1 rfl) ?_
            refine gf (C := RX9) (T := TX9) (N := 28) (ci := 5) (k := 0) S hK hW wu_X9 rfl (by decide) wf_X9_7 0 rfl rfl dX9_mark_99 ?_
            refine lv_iload S.1 S.2.1 dX9_mark_102 (lv_at hl 0 rfl) ?_
            refine lv_iconst (v := (2 : Int32)) S.1 S.2.1 dX9_mark_104 ki_2 ?_
            refine lv_iadd S.1 S.2.1 dX9_mark_105 ?_
            refine lv_iload_n S.1 S.2.1 dX9_mark_106 rfl (lv_at hl 4 rfl) ?_
            obtain ⟨z24, h⟩ := of_g h
            refine ist S hK hW rfl 1 rfl z24 dX9_mark_107 (fun H locs hW => ?_)
            have hW : wd (dC, dI) A s.heap (clX9 cI cJ cZ cB h0 a0 (upd (upd (upd (c0 0) (ix y20) p1) (ix (y20 + (1 : Int32))) p2) (ix (y20 + (2 : Int32))) p3) (c0 1) (c0 2) (c0 3) (w0 4 0) (w0 5 0) (c0 6) (c0 7) (c0 8) (c0 9) (c0 10) (c0 11) (c0 12) (c0 13) (c0 14 0) (c0 15 0) (c0 16 0) (c0 17 0) (c0 18) (c0 19) (c0 20) (c0 21 0) (c0 22 0) (c0 23 0) (c0 24 0) (c0 25 0) (c0 26) (c0 27) []) H locs := hW
            refine lv_aload_n S.1 S.2.1 dX9_mark_108 rfl (lv_at hl 1 rfl) ?_
            refine gf (C := RX9) (T := TX9) (N := 28) (ci := 5) (k := 0) S hK hW wu_X9 rfl (by decide) wf_X9_7 0 rfl rfl dX9_mark_109 ?_
            refine lv_iload S.1 S.2.1 dX9_mark_112 (lv_at hl 0 rfl) ?_
            refine lv_iconst (v := (3 : Int32)) S.1 S.2.1 dX9_mark_114 ki_3 ?_
            refine lv_iadd S.1 S.2.1 dX9_mark_115 ?_
            refine lv_iload S.1 S.2.1 dX9_mark_116 (lv_at hl 5 rfl) ?_
            obtain ⟨z25, h⟩ := of_g h
            refine ist S hK hW rfl 1 rfl z25 dX9_mark_118 (fun H locs hW => ?_)
            have hW : wd (dC, dI) A s.heap (clX9 cI cJ cZ cB h0 a0 (upd (upd (upd (upd (c0 0) (ix y20) p1) (ix (y20 + (1 : Int32))) p2) (ix (y20 + (2 : Int32))) p3) (ix (y20 + (3 : Int32))) p4) (c0 1) (c0 2) (c0 3) (w0 4 0) (w0 5 0) (c0 6) (c0 7) (c0 8) (c0 9) (c0 10) (c0 11) (c0 12) (c0 13) (c0 14 0) (c0 15 0) (c0 16 0) (c0 17 0) (c0 18) (c0 19) (c0 20) (c0 21 0) (c0 22 0) (c0 23 0) (c0 24 0) (c0 25 0) (c0 26) (c0 27) []) H locs := hW
            refine lv_aload_n S.1 S.2.1 dX9_mark_119 rfl (lv_at hl 1 rfl) ?_
            refine gf (C := RX9) (T := TX9) (N := 28) (ci := 5) (k := 0) S hK hW wu_X9 rfl (by decide) wf_X9_7 0 rfl rfl dX9_mark_120 ?_
            refine lv_iconst (v := (3 : Int32)) S.1 S.2.1 dX9_mark_123 ki_3 ?_
            refine lv_dup2_11 S.1 S.2.1 dX9_mark_124 rfl rfl ?_
            refine iaK S hK hW rfl 1 rfl b_3_194 x_3 dX9_mark_125 ?_
            refine lv_iconst (v := (1 : Int32)) S.1 S.2.1 dX9_mark_126 ki_1 ?_
            refine lv_iadd S.1 S.2.1 dX9_mark_127 ?_
            obtain ⟨y26, e27, h⟩ := lt1_e h
            refine nmi e27 ?_
            refine istK S hK hW rfl 1 rfl b_3_194 x_3 dX9_mark_128 (fun H locs hW => ?_)
            have hW : wd (dC, dI) A s.heap (clX9 cI cJ cZ cB h0 a0 (upd (upd (upd (upd (upd (c0 0) (ix y20) p1) (ix (y20 + (1 : Int32))) p2) (ix (y20 + (2 : Int32))) p3) (ix (y20 + (3 : Int32))) p4) 3 y26) (c0 1) (c0 2) (c0 3) (w0 4 0) (w0 5 0) (c0 6) (c0 7) (c0 8) (c0 9) (c0 10) (c0 11) (c0 12) (c0 13) (c0 14 0) (c0 15 0) (c0 16 0) (c0 17 0) (c0 18) (c0 19) (c0 20) (c0 21 0) (c0 22 0) (c0 23 0) (c0 24 0) (c0 25 0) (c0 26) (c0 27) []) H locs := hW
            refine lv_aload_n S.1 S.2.1 dX9_mark_129 rfl (lv_at hl 1 rfl) ?_
            refine gf (C := RX9) (T := TX9) (N := 28) (ci := 5) (k := 0) S hK hW wu_X9 rfl (by decide) wf_X9_7 0 rfl rfl dX9_mark_130 ?_
            refine lv_iconst (v := (3 : Int32)) S.1 S.2.1 dX9_mark_133 ki_3 ?_
            refine iaK S hK hW rfl 1 rfl b_3_194 x_3 dX9_mark_134 ?_
            have f28 := Option.some.inj h
            obtain ⟨f29, f30⟩ := Prod.mk.inj f28
            subst f29
            subst f30
            exact ri S hr hlocks hW dX9_mark_135
          · have h := of_p u19 h
            refine lv_aload_n S.1 S.2.1 dX9_mark_62 rfl (lv_at hl 0 rfl) ?_
            obtain ⟨r31, cv32, hy33, h⟩ := bd2_e h
            refine kv (clX9 cI cJ cZ cB h0 a0 (cv32 0) (cv32 1) (cv32 2) (cv32 3) (w0 4 0) (w0 5 0) (cv32 6) (cv32 7) (cv32 8) (cv32 9) (cv32 10) (cv32 11) (cv32 12) (cv32 13) (cv32 14 0) (cv32 15 0) (cv32 16 0) (cv32 17 0) (cv32 18) (cv32 19) (cv32 20) (cv32 21 0) (cv32 22 0) (cv32 23 0) (cv32 24 0) (cv32 25 0) (cv32 26) (cv32 27) []) S hK hN hZ hA hW (rest := []) (t_X9_full l dC dI cI cJ cZ cB zz h0 a0 c0 w0 _ _  hy33) wl_X9_95 wv_X9_full rfl rfl ⟨Nat.le_of_ble_eq_true rfl, Nat.le_of_ble_eq_true rfl⟩ [] [] rfl rfl rfl 0 rfl rfl rfl rfl hl.1 rfl (Nat.le_of_ble_eq_true rfl) dX9_mark_63 [.int r31] rfl (fun H locs hW => ?_)
            have f34 := Option.some.inj h
            obtain ⟨f35, f36⟩ := Prod.mk.inj f34
            subst f35
            subst f36
            exact ri S hr hlocks hW dX9_mark_66
        · have h := of_p u18 h
          exact hJ44 _ h H locs hW ls (lv_sub hl [0] rfl)
abbrev rmX9_forget : Room := { frames := 1, cells := 0, slots := 0, locals := 25 }
set_option maxHeartbeats 4000000 in
set_option maxRecDepth 100000 in
theorem t_X9_forget (l : Launch) (dC : Nat → ClassId) (dI : Nat → Nat → Nat) (cI cJ cZ cB : ClassId) (zz : ZT)  (h0 : Nat) (a0 : Nat → Nat) (c0 : Nat → Nat → Int32) (w0 : Nat → Nat → Int64) (p1 : Int32) (r : Int32) (c0' : Nat → Nat → Int32) (hm : md_X9_forget c0 w0 p1 = some (r, c0')) : ct l (dC, dI) zz (ty4 cI cJ cZ cB) yX9_forget cX9_forget 3 (some .int) rmX9_forget [.ref h0, .int p1] (cwX9 cI cJ cZ cB h0 a0 c0 w0 []) (cwX9 cI cJ cZ cB h0 a0 c0' w0 []) (some (.int r)) := by
  refine ct_of (cc := cX9_forget) (maxL := 3) (ret := (some .int)) (by decide) (Nat.le_of_ble_eq_true rfl) ?_
  intro p e s m below meth c A S hr hlocks hK hN hZ hA H locs hW ls hl
  have S : CallFix p m c cX9_forget 3 s (List.toArray [.ref h0, .int p1]) G RX9 := S
  have hl : lv_has ls 3 [(0, .ref h0), (1, .int p1)] := hl
  have h := hm
  rw [md_X9_forget] at h
  have hW : wd (dC, dI) A s.heap (clX9 cI cJ cZ cB h0 a0 (c0 0) (c0 1) (c0 2) (c0 3) (w0 4 0) (w0 5 0) (c0 6) (c0 7) (c0 8) (c0 9) (c0 10) (c0 11) (c0 12) (c0 13) (c0 14 0) (c0 15 0) (c0 16 0) (c0 17 0) (c0 18) (c0 19) (c0 20) (c0 21 0) (c0 22 0) (c0 23 0) (c0 24 0) (c0 25 0) (c0 26) (c0 27) []) H locs := hW
  refine lv_iload_n S.1 S.2.1 dX9_forget_0 rfl (lv_at hl 1 rfl) ?_
  refine lv_i2l S.1 S.2.1 dX9_forget_1 rfl ?_
  refine lv_lconst (v := (0 : Int64)) S.1 S.2.1 dX9_forget_2 rfl ?_
  refine lv_ldc2 (v := (2 : Int64)) S.1 S.2.1 S.2.2.2.1 (S.2.2.2.2 _ wk_X9_143) dX9_forget_3 ?_
  obtain ⟨r1, hy2, h⟩ := bd1_e h
  refine ks0 S hK hN hZ hA hW (rest := []) (t_X9_in l dC dI cI cJ cZ cB zz p1.toInt64 (0 : Int64) (2 : Int64) _  hy2) wl_X9_74 wv_X9_in rfl rfl ⟨Nat.le_of_ble_eq_true rfl, Nat.le_of_ble_eq_true rfl⟩ [] (clX9 cI cJ cZ cB h0 a0 (c0 0) (c0 1) (c0 2) (c0 3) (w0 4 0) (w0 5 0) (c0 6) (c0 7) (c0 8) (c0 9) (c0 10) (c0 11) (c0 12) (c0 13) (c0 14 0) (c0 15 0) (c0 16 0) (c0 17 0) (c0 18) (c0 19) (c0 20) (c0 21 0) (c0 22 0) (c0 23 0) (c0 24 0) (c0 25 0) (c0 26) (c0 27) []) rfl rfl hl.1 rfl (Nat.le_of_ble_eq_true rfl) dX9_forget_6 [.int r1] rfl (fun H locs hW => ?_)
  refine lv_if_ne (tgt := 19) S.1 S.2.1 dX9_forget_9 (by decide) (fun u3 => ?_) (fun u3 => ?_)
  · have h := of_n u3 h
    refine lv_aload_n S.1 S.2.1 dX9_forget_19 rfl (lv_at hl 0 rfl) ?_
    refine gf (C := RX9) (T := TX9) (N := 28) (ci := 5) (k := 0) S hK hW wu_X9 rfl (by decide) wf_X9_7 0 rfl rfl dX9_forget_20 ?_
    refine lv_iconst (v := (1 : Int32)) S.1 S.2.1 dX9_forget_23 ki_1 ?_
    refine lv_iload_n S.1 S.2.1 dX9_forget_24 rfl (lv_at hl 1 rfl) ?_
    refine lv_iadd S.1 S.2.1 dX9_forget_25 ?_
    obtain ⟨z4, h⟩ := of_g h
    refine ia S hK hW rfl 1 rfl z4 dX9_forget_26 ?_
    obtain ⟨y5, e6, h⟩ := lt1_e h
    refine nmi e6 ?_
    refine lv_istore_n (lv' := [(2, .int y5), (0, .ref h0), (1, .int p1)]) S.1 S.2.1 dX9_forget_27 rfl hl (by decide) rfl (fun ls hl => ?_)
    refine lv_aload_n S.1 S.2.1 dX9_forget_28 rfl (lv_at hl 1 rfl) ?_
    refine gf (C := RX9) (T := TX9) (N := 28) (ci := 5) (k := 0) S hK hW wu_X9 rfl (by decide) wf_X9_7 0 rfl rfl dX9_forget_29 ?_
    refine lv_iconst (v := (1 : Int32)) S.1 S.2.1 dX9_forget_32 ki_1 ?_
    refine lv_iload_n S.1 S.2.1 dX9_forget_33 rfl (lv_at hl 2 rfl) ?_
    refine lv_iadd S.1 S.2.1 dX9_forget_34 ?_
    refine lv_iconst (v := (0 : Int32)) S.1 S.2.1 dX9_forget_35 ki_0 ?_
    obtain ⟨z7, h⟩ := of_g h
    refine ist S hK hW rfl 1 rfl z7 dX9_forget_36 (fun H locs hW => ?_)
    have hW : wd (dC, dI) A s.heap (clX9 cI cJ cZ cB h0 a0 (upd (c0 0) (ix ((1 : Int32) + p1)) (0 : Int32)) (c0 1) (c0 2) (c0 3) (w0 4 0) (w0 5 0) (c0 6) (c0 7) (c0 8) (c0 9) (c0 10) (c0 11) (c0 12) (c0 13) (c0 14 0) (c0 15 0) (c0 16 0) (c0 17 0) (c0 18) (c0 19) (c0 20) (c0 21 0) (c0 22 0) (c0 23 0) (c0 24 0) (c0 25 0) (c0 26) (c0 27) []) H locs := hW
    refine lv_iload_n S.1 S.2.1 dX9_forget_37 rfl (lv_at hl 0 rfl) ?_
    have f8 := Option.some.inj h
    obtain ⟨f9, f10⟩ := Prod.mk.inj f8
    subst f9
    subst f10
    exact ri S hr hlocks hW dX9_forget_38
  · have h := of_p u3 h
    refine lv_aload_n S.1 S.2.1 dX9_forget_12 rfl (lv_at hl 0 rfl) ?_
    refine lv_bipush (v := (-2 : Int32)) S.1 S.2.1 dX9_forget_13 kb_m2 ?_
    obtain ⟨r11, cv12, hy13, h⟩ := bd2_e h
    refine kv (clX9 cI cJ cZ cB h0 a0 (cv12 0) (cv12 1) (cv12 2) (cv12 3) (w0 4 0) (w0 5 0) (cv12 6) (cv12 7) (cv12 8) (cv12 9) (cv12 10) (cv12 11) (cv12 12) (cv12 13) (cv12 14 0) (cv12 15 0) (cv12 16 0) (cv12 17 0) (cv12 18) (cv12 19) (cv12 20) (cv12 21 0) (cv12 22 0) (cv12 23 0) (cv12 24 0) (cv12 25 0) (cv12 26) (cv12 27) []) S hK hN hZ hA hW (rest := []) (t_X9_bad l dC dI cI cJ cZ cB zz h0 a0 c0 w0 (-2 : Int32) _ _  hy13) wl_X9_84 wv_X9_bad rfl rfl ⟨Nat.le_of_ble_eq_true rfl, Nat.le_of_ble_eq_true rfl⟩ [] [] rfl rfl rfl 0 rfl rfl rfl rfl hl.1 rfl (Nat.le_of_ble_eq_true rfl) dX9_forget_15 [.int r11] rfl (fun H locs hW => ?_)
    have f14 := Option.some.inj h
    obtain ⟨f15, f16⟩ := Prod.mk.inj f14
    subst f15
    subst f16
    exact ri S hr hlocks hW dX9_forget_18
abbrev rmX9_kindsOf : Room := { frames := 1, cells := 0, slots := 0, locals := 25 }
set_option maxHeartbeats 4000000 in
set_option maxRecDepth 100000 in
theorem t_X9_kindsOf (l : Launch) (dC : Nat → ClassId) (dI : Nat → Nat → Nat) (cI cJ cZ cB : ClassId) (zz : ZT)  (h0 : Nat) (a0 : Nat → Nat) (F : Nat) (c0 : Nat → Nat → Int32) (w0 : Nat → Nat → Int64) (p1 : Int32) (r : Int32) (hm : md_X9_kindsOf F c0 w0 p1 = some (r)) : ct l (dC, dI) zz (ty4 cI cJ cZ cB) yX9_kindsOf cX9_kindsOf 7 (some .int) rmX9_kindsOf [.ref h0, .int p1] (cwX9 cI cJ cZ cB h0 a0 c0 w0 []) (cwX9 cI cJ cZ cB h0 a0 c0 w0 []) (some (.int r)) := by
  refine ct_of (cc := cX9_kindsOf) (maxL := 7) (ret := (some .int)) (by decide) (Nat.le_of_ble_eq_true rfl) ?_
  intro p e s m below meth c A S hr hlocks hK hN hZ hA H locs hW ls hl
  have S : CallFix p m c cX9_kindsOf 7 s (List.toArray [.ref h0, .int p1]) G RX9 := S
  have hl : lv_has ls 7 [(0, .ref h0), (1, .int p1)] := hl
  have h := hm
  rw [md_X9_kindsOf] at h
  have hW : wd (dC, dI) A s.heap (clX9 cI cJ cZ cB h0 a0 (c0 0) (c0 1) (c0 2) (c0 3) (w0 4 0) (w0 5 0) (c0 6) (c0 7) (c0 8) (c0 9) (c0 10) (c0 11) (c0 12) (c0 13) (c0 14 0) (c0 15 0) (c0 16 0) (c0 17 0) (c0 18) (c0 19) (c0 20) (c0 21 0) (c0 22 0) (c0 23 0) (c0 24 0) (c0 25 0) (c0 26) (c0 27) []) H locs := hW
  have hL4 : ∀ (n4 : Nat) (x1 : Int32) (x2 : Int32) (x3 : Int32), ld_X9_kindsOf_4 F c0 w0 n4 x1 x2 x3 = some (r) → ∀ (H : Heap) (locs : List Loc), wd (dC, dI) A s.heap (clX9 cI cJ cZ cB h0 a0 (c0 0) (c0 1) (c0 2) (c0 3) (w0 4 0) (w0 5 0) (c0 6) (c0 7) (c0 8) (c0 9) (c0 10) (c0 11) (c0 12) (c0 13) (c0 14 0) (c0 15 0) (c0 16 0) (c0 17 0) (c0 18) (c0 19) (c0 20) (c0 21 0) (c0 22 0) (c0 23 0) (c0 24 0) (c0 25 0) (c0 26) (c0 27) []) H locs → ∀ ls : Array Slot, lv_has ls 7 [(0, .ref h0), (1, .int x1), (2, .int x2), (3, .int x3)] → W p l e rmX9_kindsOf s m (List.toArray [.ref h0, .int p1]) below meth c H locs 0 0 (MQ below (kQ (dC, dI) (cwX9 cI cJ cZ cB h0 a0 c0 w0 []) (some (.int r)) A) (List.toArray [.ref h0, .int p1]) s 0 0 A) (F0 m 4 ls []) := by
    intro n4
    induction n4 with
    | zero => intro x1 x2 x3 h; rw [ld_X9_kindsOf_4] at h; cases h
    | succ n4 ih4 =>
      intro x1 x2 x3 h H locs hW ls hl
      rw [ld_X9_kindsOf_4] at h
      have hL16 : ∀ (n16 : Nat) (x1 : Int32) (x2 : Int32) (x3 : Int32) (x4 : Int32) (x5 : Int32), ld_X9_kindsOf_16 F c0 w0 (ld_X9_kindsOf_4 F c0 w0 n4) n16 x1 x2 x3 x4 x5 = some (r) → ∀ (H : Heap) (locs : List Loc), wd (dC, dI) A s.heap (clX9 cI cJ cZ cB h0 a0 (c0 0) (c0 1) (c0 2) (c0 3) (w0 4 0) (w0 5 0) (c0 6) (c0 7) (c0 8) (c0 9) (c0 10) (c0 11) (c0 12) (c0 13) (c0 14 0) (c0 15 0) (c0 16 0) (c0 17 0) (c0 18) (c0 19) (c0 20) (c0 21 0) (c0 22 0) (c0 23 0) (c0 24 0) (c0 25 0) (c0 26) (c0 27) []) H locs → ∀ ls : Array Slot, lv_has ls 7 [(0, .ref h0), (1, .int x1), (2, .int x2), (3, .int x3), (4, .int x4), (5, .int x5)] → W p l e rmX9_kindsOf s m (List.toArray [.ref h0, .int p1]) below meth c H locs 0 0 (MQ below (kQ (dC, dI) (cwX9 cI cJ cZ cB h0 a0 c0 w0 []) (some (.int r)) A) (List.toArray [.ref h0, .int p1]) s 0 0 A) (F0 m 16 ls []) := by
        intro n16
        induction n16 with
        | zero => intro x1 x2 x3 x4 x5 h; rw [ld_X9_kindsOf_16] at h; cases h
        | succ n16 ih16 =>
          intro x1 x2 x3 x4 x5 h H locs hW ls hl
          rw [ld_X9_kindsOf_16] at h
          refine lv_iload S.1 S.2.1 dX9_kindsOf_16 (lv_at hl 5 rfl) ?_
          refine lv_aload_n S.1 S.2.1 dX9_kindsOf_18 rfl (lv_at hl 0 rfl) ?_
          refine gf (C := RX9) (T := TX9) (N := 28) (ci := 5) (k := 0) S hK hW wu_X9 rfl (by decide) wf_X9_7 0 rfl rfl dX9_kindsOf_19 ?_
          refine lv_iconst (v := (2 : Int32)) S.1 S.2.1 dX9_kindsOf_22 ki_2 ?_
          refine iaK S hK hW rfl 1 rfl b_2_194 x_2 dX9_kindsOf_23 ?_
          refine lv_icmp_ge (tgt := 108) S.1 S.2.1 dX9_kindsOf_24 (by decide) (fun u1 => ?_) (fun u1 => ?_)
          · have h := of_p u1 h
            refine lv_iload_n S.1 S.2.1 dX9_kindsOf_108 rfl (lv_at hl 2 rfl) ?_
            refine lv_iload S.1 S.2.1 dX9_kindsOf_109 (lv_at hl 4 rfl) ?_
            obtain ⟨y2, e3, h⟩ := lt1_e h
            suffices hM4 : ∀ ls : Array Slot, lv_has ls 7 [(0, .ref h0), (1, .int x1), (3, .int x3)] → W p l e rmX9_kindsOf s m (List.toArray [.ref h0, .int p1]) below meth c H locs 0 0 (MQ below (kQ (dC, dI) (cwX9 cI cJ cZ cB h0 a0 c0 w0 []) (some (.int r)) A) (List.toArray [.ref h0, .int p1]) s 0 0 A) (F0 m 121 ls [.int y2, .int x2]) by
              refine lv_if_eq (tgt := 120) S.1 S.2.1 dX9_kindsOf_111 (by decide) (fun u5 => ?_) (fun u5 => ?_)
              · refine lv_iconst (v := (0 : Int32)) S.1 S.2.1 dX9_kindsOf_120 ki_0 ?_
                have e3 := e3.trans (if_pos u5)
                subst e3
                exact hM4 ls (lv_sub hl [0, 1, 3] rfl)
              · refine lv_iconst (v := (1 : Int32)) S.1 S.2.1 dX9_kindsOf_114 ki_1 ?_
                refine lv_iload_n S.1 S.2.1 dX9_kindsOf_115 rfl (lv_at hl 3 rfl) ?_
                refine lv_ishl S.1 S.2.1 dX9_kindsOf_116 ?_
                refine lv_goto (tgt := 121) S.1 S.2.1 dX9_kindsOf_117 (by decide) ?_
                have e3 := e3.trans (if_neg u5)
                subst e3
                exact hM4 ls (lv_sub hl [0, 1, 3] rfl)
            intro ls hl
            refine lv_ior S.1 S.2.1 dX9_kindsOf_121 ?_
            refine lv_istore_n (lv' := [(2, .int (x2 ||| y2)), (0, .ref h0), (1, .int x1), (3, .int x3)]) S.1 S.2.1 dX9_kindsOf_122 rfl hl (by decide) rfl (fun ls hl => ?_)
            refine lv_iinc (v := (x3 + (1 : Int32))) (lv' := [(3, .int (x3 + (1 : Int32))), (2, .int (x2 ||| y2)), (0, .ref h0), (1, .int x1)]) S.1 S.2.1 dX9_kindsOf_123 hl (k := 3) rfl (congrArg (fun z => x3 + z) ki_1) (by decide) rfl (fun ls hl => ?_)
            refine lv_goto (tgt := 4) S.1 S.2.1 dX9_kindsOf_126 (by decide) ?_
            exact ih4 _ _ _ h H locs hW ls (lv_sub hl [2, 3, 1, 0] rfl)
          · have h := of_n u1 h
            refine lv_bipush (v := (36 : Int32)) S.1 S.2.1 dX9_kindsOf_27 kb_36 ?_
            refine lv_iconst (v := (5 : Int32)) S.1 S.2.1 dX9_kindsOf_29 ki_5 ?_
            refine lv_iload S.1 S.2.1 dX9_kindsOf_30 (lv_at hl 5 rfl) ?_
            refine lv_imul S.1 S.2.1 dX9_kindsOf_32 ?_
            refine lv_iadd S.1 S.2.1 dX9_kindsOf_33 ?_
            obtain ⟨y6, e7, h⟩ := lt1_e h
            refine nmi e7 ?_
            refine lv_istore (lv' := [(6, .int y6), (0, .ref h0), (1, .int x1), (2, .int x2), (3, .int x3), (4, .int x4), (5, .int x5)]) S.1 S.2.1 dX9_kindsOf_34 hl (by decide) rfl (fun ls hl => ?_)
            refine lv_iload S.1 S.2.1 dX9_kindsOf_36 (lv_at hl 5 rfl) ?_
            refine lv_if_eq (tgt := 99) S.1 S.2.1 dX9_kindsOf_38 (by decide) (fun u8 => ?_) (fun u8 => ?_)
            · have h := of_p u8 h
              refine lv_iconst (v := (0 : Int32)) S.1 S.2.1 dX9_kindsOf_99 ki_0 ?_
              refine lv_istore (lv' := [(4, .int (0 : Int32)), (6, .int y6), (0, .ref h0), (1, .int x1), (2, .int x2), (3, .int x3), (5, .int x5)]) S.1 S.2.1 dX9_kindsOf_100 hl (by decide) rfl (fun ls hl => ?_)
              refine lv_iinc (v := (x5 + (1 : Int32))) (lv' := [(5, .int (x5 + (1 : Int32))), (4, .int (0 : Int32)), (6, .int y6), (0, .ref h0), (1, .int x1), (2, .int x2), (3, .int x3)]) S.1 S.2.1 dX9_kindsOf_102 hl (k := 6) rfl (congrArg (fun z => x5 + z) ki_1) (by decide) rfl (fun ls hl => ?_)
              refine lv_goto (tgt := 16) S.1 S.2.1 dX9_kindsOf_105 (by decide) ?_
              exact ih16 _ _ _ _ _ h H locs hW ls (lv_sub hl [3, 4, 5, 6, 1, 0] rfl)
            · have h := of_n u8 h
              refine lv_aload_n S.1 S.2.1 dX9_kindsOf_41 rfl (lv_at hl 1 rfl) ?_
              refine gf (C := RX9) (T := TX9) (N := 28) (ci := 5) (k := 0) S hK hW wu_X9 rfl (by decide) wf_X9_7 0 rfl rfl dX9_kindsOf_42 ?_
              refine lv_iload S.1 S.2.1 dX9_kindsOf_45 (lv_at hl 0 rfl) ?_
              obtain ⟨z9, h⟩ := of_g h
              refine ia S hK hW rfl 1 rfl z9 dX9_kindsOf_47 ?_
              refine lv_iload_n S.1 S.2.1 dX9_kindsOf_48 rfl (lv_at hl 2 rfl) ?_
              refine lv_icmp_ne (tgt := 95) S.1 S.2.1 dX9_kindsOf_49 (by decide) (fun u10 => ?_) (fun u10 => ?_)
              · have h := of_n u10 h
                refine lv_iconst (v := (1 : Int32)) S.1 S.2.1 dX9_kindsOf_95 ki_1 ?_
                refine lv_goto (tgt := 100) S.1 S.2.1 dX9_kindsOf_96 (by decide) ?_
                refine lv_istore (lv' := [(4, .int (1 : Int32)), (6, .int y6), (0, .ref h0), (1, .int x1), (2, .int x2), (3, .int x3), (5, .int x5)]) S.1 S.2.1 dX9_kindsOf_100 hl (by decide) rfl (fun ls hl => ?_)
                refine lv_iinc (v := (x5 + (1 : Int32))) (lv' := [(5, .int (x5 + (1 : Int32))), (4, .int (1 : Int32)), (6, .int y6), (0, .ref h0), (1, .int x1), (2, .int x2), (3, .int x3)]) S.1 S.2.1 dX9_kindsOf_102 hl (k := 6) rfl (congrArg (fun z => x5 + z) ki_1) (by decide) rfl (fun ls hl => ?_)
                refine lv_goto (tgt := 16) S.1 S.2.1 dX9_kindsOf_105 (by decide) ?_
                exact ih16 _ _ _ _ _ h H locs hW ls (lv_sub hl [3, 4, 5, 6, 1, 0] rfl)
              · have h := of_p u10 h
                refine lv_iload_n S.1 S.2.1 dX9_kindsOf_52 rfl (lv_at hl 4 rfl) ?_
                refine lv_aload_n S.1 S.2.1 dX9_kindsOf_53 rfl (lv_at hl 1 rfl) ?_
                refine gf (C := RX9) (T := TX9) (N := 28) (ci := 5) (k := 0) S hK hW wu_X9 rfl (by decide) wf_X9_7 0 rfl rfl dX9_kindsOf_54 ?_
                refine lv_iload S.1 S.2.1 dX9_kindsOf_57 (lv_at hl 0 rfl) ?_
                refine lv_iconst (v := (1 : Int32)) S.1 S.2.1 dX9_kindsOf_59 ki_1 ?_
                refine lv_iadd S.1 S.2.1 dX9_kindsOf_60 ?_
                obtain ⟨z11, h⟩ := of_g h
                refine ia S hK hW rfl 1 rfl z11 dX9_kindsOf_61 ?_
                refine lv_aload_n S.1 S.2.1 dX9_kindsOf_62 rfl (lv_at hl 1 rfl) ?_
                refine gf (C := RX9) (T := TX9) (N := 28) (ci := 5) (k := 0) S hK hW wu_X9 rfl (by decide) wf_X9_7 0 rfl rfl dX9_kindsOf_63 ?_
                refine lv_iload S.1 S.2.1 dX9_kindsOf_66 (lv_at hl 0 rfl) ?_
                refine lv_iconst (v := (2 : Int32)) S.1 S.2.1 dX9_kindsOf_68 ki_2 ?_
                refine lv_iadd S.1 S.2.1 dX9_kindsOf_69 ?_
                obtain ⟨z12, h⟩ := of_g h
                refine ia S hK hW rfl 1 rfl z12 dX9_kindsOf_70 ?_
                refine lv_aload_n S.1 S.2.1 dX9_kindsOf_71 rfl (lv_at hl 1 rfl) ?_
                refine gf (C := RX9) (T := TX9) (N := 28) (ci := 5) (k := 0) S hK hW wu_X9 rfl (by decide) wf_X9_7 0 rfl rfl dX9_kindsOf_72 ?_
                refine lv_iload S.1 S.2.1 dX9_kindsOf_75 (lv_at hl 0 rfl) ?_
                refine lv_iconst (v := (3 : Int32)) S.1 S.2.1 dX9_kindsOf_77 ki_3 ?_
                refine lv_iadd S.1 S.2.1 dX9_kindsOf_78 ?_
                obtain ⟨z13, h⟩ := of_g h
                refine ia S hK hW rfl 1 rfl z13 dX9_kindsOf_79 ?_
                obtain ⟨r14, hy15, h⟩ := bd1_e h
                refine ks0 S hK hN hZ hA hW (rest := []) (t_X9_movesAs l dC dI cI cJ cZ cB zz x3 ((c0 0) (ix (y6 + (1 : Int32)))) ((c0 0) (ix (y6 + (2 : Int32)))) ((c0 0) (ix (y6 + (3 : Int32)))) _  hy15) wl_X9_106 wv_X9_movesAs rfl rfl ⟨Nat.le_of_ble_eq_true rfl, Nat.le_of_ble_eq_true rfl⟩ [] (clX9 cI cJ cZ cB h0 a0 (c0 0) (c0 1) (c0 2) (c0 3) (w0 4 0) (w0 5 0) (c0 6) (c0 7) (c0 8) (c0 9) (c0 10) (c0 11) (c0 12) (c0 13) (c0 14 0) (c0 15 0) (c0 16 0) (c0 17 0) (c0 18) (c0 19) (c0 20) (c0 21 0) (c0 22 0) (c0 23 0) (c0 24 0) (c0 25 0) (c0 26) (c0 27) []) rfl rfl hl.1 rfl (Nat.le_of_ble_eq_true rfl) dX9_kindsOf_80 [.int r14] rfl (fun H locs hW => ?_)
                refine lv_aload_n S.1 S.2.1 dX9_kindsOf_83 rfl (lv_at hl 1 rfl) ?_
                refine gf (C := RX9) (T := TX9) (N := 28) (ci := 5) (k := 0) S hK hW wu_X9 rfl (by decide) wf_X9_7 0 rfl rfl dX9_kindsOf_84 ?_
                refine lv_iload S.1 S.2.1 dX9_kindsOf_87 (lv_at hl 0 rfl) ?_
                refine lv_iconst (v := (4 : Int32)) S.1 S.2.1 dX9_kindsOf_89 ki_4 ?_
                refine lv_iadd S.1 S.2.1 dX9_kindsOf_90 ?_
                obtain ⟨z16, h⟩ := of_g h
                refine ia S hK hW rfl 1 rfl z16 dX9_kindsOf_91 ?_
                refine lv_icmp_ne (tgt := 99) S.1 S.2.1 dX9_kindsOf_92 (by decide) (fun u17 => ?_) (fun u17 => ?_)
                · have h := of_n u17 h
                  refine lv_iconst (v := (0 : Int32)) S.1 S.2.1 dX9_kindsOf_99 ki_0 ?_
                  refine lv_istore (lv' := [(4, .int (0 : Int32)), (6, .int y6), (0, .ref h0), (1, .int x1), (2, .int x2), (3, .int x3), (5, .int x5)]) S.1 S.2.1 dX9_kindsOf_100 hl (by decide) rfl (fun ls hl => ?_)
                  refine lv_iinc (v := (x5 + (1 : Int32))) (lv' := [(5, .int (x5 + (1 : Int32))), (4, .int (0 : Int32)), (6, .int y6), (0, .ref h0), (1, .int x1), (2, .int x2), (3, .int x3)]) S.1 S.2.1 dX9_kindsOf_102 hl (k := 6) rfl (congrArg (fun z => x5 + z) ki_1) (by decide) rfl (fun ls hl => ?_)
                  refine lv_goto (tgt := 16) S.1 S.2.1 dX9_kindsOf_105 (by decide) ?_
                  exact ih16 _ _ _ _ _ h H locs hW ls (lv_sub hl [3, 4, 5, 6, 1, 0] rfl)
                · have h := of_p u17 h
                  refine lv_iconst (v := (1 : Int32)) S.1 S.2.1 dX9_kindsOf_95 ki_1 ?_
                  refine lv_goto (tgt := 100) S.1 S.2.1 dX9_kindsOf_96 (by decide) ?_
                  refine lv_istore (lv' := [(4, .int (1 : Int32)), (6, .int y6), (0, .ref h0), (1, .int x1), (2, .int x2), (3, .int x3), (5, .int x5)]) S.1 S.2.1 dX9_kindsOf_100 hl (by decide) rfl (fun ls hl => ?_)
                  refine lv_iinc (v := (x5 + (1 : Int32))) (lv' := [(5, .int (x5 + (1 : Int32))), (4, .int (1 : Int32)), (6, .int y6), (0, .ref h0), (1, .int x1), (2, .int x2), (3, .int x3)]) S.1 S.2.1 dX9_kindsOf_102 hl (k := 6) rfl (congrArg (fun z => x5 + z) ki_1) (by decide) rfl (fun ls hl => ?_)
                  refine lv_goto (tgt := 16) S.1 S.2.1 dX9_kindsOf_105 (by decide) ?_
                  exact ih16 _ _ _ _ _ h H locs hW ls (lv_sub hl [3, 4, 5, 6, 1, 0] rfl)
      refine lv_iload_n S.1 S.2.1 dX9_kindsOf_4 rfl (lv_at hl 3 rfl) ?_
      refine lv_bipush (v := (6 : Int32)) S.1 S.2.1 dX9_kindsOf_5 kb_6 ?_
      refine lv_icmp_ge (tgt := 129) S.1 S.2.1 dX9_kindsOf_7 (by decide) (fun u18 => ?_) (fun u18 => ?_)
      · have h := of_p u18 h
        refine lv_iload_n S.1 S.2.1 dX9_kindsOf_129 rfl (lv_at hl 2 rfl) ?_
        have f19 := Option.some.inj h
        subst f19
        exact ri S hr hlocks hW dX9_kindsOf_130
      · have h := of_n u18 h
        refine lv_iconst (v := (1 : Int32)) S.1 S.2.1 dX9_kindsOf_10 ki_1 ?_
        refine lv_istore (lv' := [(4, .int (1 : Int32)), (0, .ref h0), (1, .int x1), (2, .int x2), (3, .int x3)]) S.1 S.2.1 dX9_kindsOf_11 hl (by decide) rfl (fun ls hl => ?_)
        refine lv_iconst (v := (0 : Int32)) S.1 S.2.1 dX9_kindsOf_13 ki_0 ?_
        refine lv_istore (lv' := [(5, .int (0 : Int32)), (4, .int (1 : Int32)), (0, .ref h0), (1, .int x1), (2, .int x2), (3, .int x3)]) S.1 S.2.1 dX9_kindsOf_14 hl (by decide) rfl (fun ls hl => ?_)
        exact hL16 F _ _ _ _ _ h H locs hW ls (lv_sub hl [2, 3, 4, 5, 1, 0] rfl)
  refine lv_iconst (v := (0 : Int32)) S.1 S.2.1 dX9_kindsOf_0 ki_0 ?_
  refine lv_istore_n (lv' := [(2, .int (0 : Int32)), (0, .ref h0), (1, .int p1)]) S.1 S.2.1 dX9_kindsOf_1 rfl hl (by decide) rfl (fun ls hl => ?_)
  refine lv_iconst (v := (0 : Int32)) S.1 S.2.1 dX9_kindsOf_2 ki_0 ?_
  refine lv_istore_n (lv' := [(3, .int (0 : Int32)), (2, .int (0 : Int32)), (0, .ref h0), (1, .int p1)]) S.1 S.2.1 dX9_kindsOf_3 rfl hl (by decide) rfl (fun ls hl => ?_)
  exact hL4 F _ _ _ h H locs hW ls (lv_sub hl [2, 3, 1, 0] rfl)
abbrev rmX9_kindsOfCounsel : Room := { frames := 1, cells := 0, slots := 0, locals := 23 }
set_option maxHeartbeats 4000000 in
set_option maxRecDepth 100000 in
theorem t_X9_kindsOfCounsel (l : Launch) (dC : Nat → ClassId) (dI : Nat → Nat → Nat) (cI cJ cZ cB : ClassId) (zz : ZT)  (h0 : Nat) (a0 : Nat → Nat) (F : Nat) (c0 : Nat → Nat → Int32) (w0 : Nat → Nat → Int64) (p1 : Int32) (r : Int32) (hm : md_X9_kindsOfCounsel F c0 w0 p1 = some (r)) : ct l (dC, dI) zz (ty4 cI cJ cZ cB) yX9_kindsOfCounsel cX9_kindsOfCounsel 7 (some .int) rmX9_kindsOfCounsel [.ref h0, .int p1] (cwX9 cI cJ cZ cB h0 a0 c0 w0 []) (cwX9 cI cJ cZ cB h0 a0 c0 w0 []) (some (.int r)) := by
  refine ct_of (cc := cX9_kindsOfCounsel) (maxL := 7) (ret := (some .int)) (by decide) (Nat.le_of_ble_eq_true rfl) ?_
  intro p e s m below meth c A S hr hlocks hK hN hZ hA H locs hW ls hl
  have S : CallFix p m c cX9_kindsOfCounsel 7 s (List.toArray [.ref h0, .int p1]) G RX9 := S
  have hl : lv_has ls 7 [(0, .ref h0), (1, .int p1)] := hl
  have h := hm
  rw [md_X9_kindsOfCounsel] at h
  have hW : wd (dC, dI) A s.heap (clX9 cI cJ cZ cB h0 a0 (c0 0) (c0 1) (c0 2) (c0 3) (w0 4 0) (w0 5 0) (c0 6) (c0 7) (c0 8) (c0 9) (c0 10) (c0 11) (c0 12) (c0 13) (c0 14 0) (c0 15 0) (c0 16 0) (c0 17 0) (c0 18) (c0 19) (c0 20) (c0 21 0) (c0 22 0) (c0 23 0) (c0 24 0) (c0 25 0) (c0 26) (c0 27) []) H locs := hW
  have hL4 : ∀ (n4 : Nat) (x1 : Int32) (x2 : Int32) (x3 : Int32), ld_X9_kindsOfCounsel_4 F c0 w0 n4 x1 x2 x3 = some (r) → ∀ (H : Heap) (locs : List Loc), wd (dC, dI) A s.heap (clX9 cI cJ cZ cB h0 a0 (c0 0) (c0 1) (c0 2) (c0 3) (w0 4 0) (w0 5 0) (c0 6) (c0 7) (c0 8) (c0 9) (c0 10) (c0 11) (c0 12) (c0 13) (c0 14 0) (c0 15 0) (c0 16 0) (c0 17 0) (c0 18) (c0 19) (c0 20) (c0 21 0) (c0 22 0) (c0 23 0) (c0 24 0) (c0 25 0) (c0 26) (c0 27) []) H locs → ∀ ls : Array Slot, lv_has ls 7 [(0, .ref h0), (1, .int x1), (2, .int x2), (3, .int x3)] → W p l e rmX9_kindsOfCounsel s m (List.toArray [.ref h0, .int p1]) below meth c H locs 0 0 (MQ below (kQ (dC, dI) (cwX9 cI cJ cZ cB h0 a0 c0 w0 []) (some (.int r)) A) (List.toArray [.ref h0, .int p1]) s 0 0 A) (F0 m 4 ls []) := by
    intro n4
    induction n4 with
    | zero => intro x1 x2 x3 h; rw [ld_X9_kindsOfCounsel_4] at h; cases h
    | succ n4 ih4 =>
      intro x1 x2 x3 h H locs hW ls hl
      rw [ld_X9_kindsOfCounsel_4] at h
      have hL16 : ∀ (n16 : Nat) (x1 : Int32) (x2 : Int32) (x3 : Int32) (x4 : Int32) (x5 : Int32), ld_X9_kindsOfCounsel_16 F c0 w0 (ld_X9_kindsOfCounsel_4 F c0 w0 n4) n16 x1 x2 x3 x4 x5 = some (r) → ∀ (H : Heap) (locs : List Loc), wd (dC, dI) A s.heap (clX9 cI cJ cZ cB h0 a0 (c0 0) (c0 1) (c0 2) (c0 3) (w0 4 0) (w0 5 0) (c0 6) (c0 7) (c0 8) (c0 9) (c0 10) (c0 11) (c0 12) (c0 13) (c0 14 0) (c0 15 0) (c0 16 0) (c0 17 0) (c0 18) (c0 19) (c0 20) (c0 21 0) (c0 22 0) (c0 23 0) (c0 24 0) (c0 25 0) (c0 26) (c0 27) []) H locs → ∀ ls : Array Slot, lv_has ls 7 [(0, .ref h0), (1, .int x1), (2, .int x2), (3, .int x3), (4, .int x4), (5, .int x5)] → W p l e rmX9_kindsOfCounsel s m (List.toArray [.ref h0, .int p1]) below meth c H locs 0 0 (MQ below (kQ (dC, dI) (cwX9 cI cJ cZ cB h0 a0 c0 w0 []) (some (.int r)) A) (List.toArray [.ref h0, .int p1]) s 0 0 A) (F0 m 16 ls []) := by
        intro n16
        induction n16 with
        | zero => intro x1 x2 x3 x4 x5 h; rw [ld_X9_kindsOfCounsel_16] at h; cases h
        | succ n16 ih16 =>
          intro x1 x2 x3 x4 x5 h H locs hW ls hl
          rw [ld_X9_kindsOfCounsel_16] at h
          refine lv_iload S.1 S.2.1 dX9_kindsOfCounsel_16 (lv_at hl 5 rfl) ?_
          refine lv_aload_n S.1 S.2.1 dX9_kindsOfCounsel_18 rfl (lv_at hl 0 rfl) ?_
          refine gf (C := RX9) (T := TX9) (N := 28) (ci := 5) (k := 0) S hK hW wu_X9 rfl (by decide) wf_X9_7 0 rfl rfl dX9_kindsOfCounsel_19 ?_
          refine lv_iconst (v := (3 : Int32)) S.1 S.2.1 dX9_kindsOfCounsel_22 ki_3 ?_
          refine iaK S hK hW rfl 1 rfl b_3_194 x_3 dX9_kindsOfCounsel_23 ?_
          refine lv_icmp_ge (tgt := 99) S.1 S.2.1 dX9_kindsOfCounsel_24 (by decide) (fun u1 => ?_) (fun u1 => ?_)
          · have h := of_p u1 h
            refine lv_iload_n S.1 S.2.1 dX9_kindsOfCounsel_99 rfl (lv_at hl 2 rfl) ?_
            refine lv_iload S.1 S.2.1 dX9_kindsOfCounsel_100 (lv_at hl 4 rfl) ?_
            obtain ⟨y2, e3, h⟩ := lt1_e h
            suffices hM4 : ∀ ls : Array Slot, lv_has ls 7 [(0, .ref h0), (1, .int x1), (3, .int x3)] → W p l e rmX9_kindsOfCounsel s m (List.toArray [.ref h0, .int p1]) below meth c H locs 0 0 (MQ below (kQ (dC, dI) (cwX9 cI cJ cZ cB h0 a0 c0 w0 []) (some (.int r)) A) (List.toArray [.ref h0, .int p1]) s 0 0 A) (F0 m 112 ls [.int y2, .int x2]) by
              refine lv_if_eq (tgt := 111) S.1 S.2.1 dX9_kindsOfCounsel_102 (by decide) (fun u5 => ?_) (fun u5 => ?_)
              · refine lv_iconst (v := (0 : Int32)) S.1 S.2.1 dX9_kindsOfCounsel_111 ki_0 ?_
                have e3 := e3.trans (if_pos u5)
                subst e3
                exact hM4 ls (lv_sub hl [0, 1, 3] rfl)
              · refine lv_iconst (v := (1 : Int32)) S.1 S.2.1 dX9_kindsOfCounsel_105 ki_1 ?_
                refine lv_iload_n S.1 S.2.1 dX9_kindsOfCounsel_106 rfl (lv_at hl 3 rfl) ?_
                refine lv_ishl S.1 S.2.1 dX9_kindsOfCounsel_107 ?_
                refine lv_goto (tgt := 112) S.1 S.2.1 dX9_kindsOfCounsel_108 (by decide) ?_
                have e3 := e3.trans (if_neg u5)
                subst e3
                exact hM4 ls (lv_sub hl [0, 1, 3] rfl)
            intro ls hl
            refine lv_ior S.1 S.2.1 dX9_kindsOfCounsel_112 ?_
            refine lv_istore_n (lv' := [(2, .int (x2 ||| y2)), (0, .ref h0), (1, .int x1), (3, .int x3)]) S.1 S.2.1 dX9_kindsOfCounsel_113 rfl hl (by decide) rfl (fun ls hl => ?_)
            refine lv_iinc (v := (x3 + (1 : Int32))) (lv' := [(3, .int (x3 + (1 : Int32))), (2, .int (x2 ||| y2)), (0, .ref h0), (1, .int x1)]) S.1 S.2.1 dX9_kindsOfCounsel_114 hl (k := 3) rfl (congrArg (fun z => x3 + z) ki_1) (by decide) rfl (fun ls hl => ?_)
            refine lv_goto (tgt := 4) S.1 S.2.1 dX9_kindsOfCounsel_117 (by decide) ?_
            exact ih4 _ _ _ h H locs hW ls (lv_sub hl [2, 3, 1, 0] rfl)
          · have h := of_n u1 h
            refine lv_bipush (v := (66 : Int32)) S.1 S.2.1 dX9_kindsOfCounsel_27 kb_66 ?_
            refine lv_iconst (v := (4 : Int32)) S.1 S.2.1 dX9_kindsOfCounsel_29 ki_4 ?_
            refine lv_iload S.1 S.2.1 dX9_kindsOfCounsel_30 (lv_at hl 5 rfl) ?_
            refine lv_imul S.1 S.2.1 dX9_kindsOfCounsel_32 ?_
            refine lv_iadd S.1 S.2.1 dX9_kindsOfCounsel_33 ?_
            obtain ⟨y6, e7, h⟩ := lt1_e h
            refine nmi e7 ?_
            refine lv_istore (lv' := [(6, .int y6), (0, .ref h0), (1, .int x1), (2, .int x2), (3, .int x3), (4, .int x4), (5, .int x5)]) S.1 S.2.1 dX9_kindsOfCounsel_34 hl (by decide) rfl (fun ls hl => ?_)
            refine lv_iload S.1 S.2.1 dX9_kindsOfCounsel_36 (lv_at hl 5 rfl) ?_
            refine lv_if_eq (tgt := 90) S.1 S.2.1 dX9_kindsOfCounsel_38 (by decide) (fun u8 => ?_) (fun u8 => ?_)
            · have h := of_p u8 h
              refine lv_iconst (v := (0 : Int32)) S.1 S.2.1 dX9_kindsOfCounsel_90 ki_0 ?_
              refine lv_istore (lv' := [(4, .int (0 : Int32)), (6, .int y6), (0, .ref h0), (1, .int x1), (2, .int x2), (3, .int x3), (5, .int x5)]) S.1 S.2.1 dX9_kindsOfCounsel_91 hl (by decide) rfl (fun ls hl => ?_)
              refine lv_iinc (v := (x5 + (1 : Int32))) (lv' := [(5, .int (x5 + (1 : Int32))), (4, .int (0 : Int32)), (6, .int y6), (0, .ref h0), (1, .int x1), (2, .int x2), (3, .int x3)]) S.1 S.2.1 dX9_kindsOfCounsel_93 hl (k := 6) rfl (congrArg (fun z => x5 + z) ki_1) (by decide) rfl (fun ls hl => ?_)
              refine lv_goto (tgt := 16) S.1 S.2.1 dX9_kindsOfCounsel_96 (by decide) ?_
              exact ih16 _ _ _ _ _ h H locs hW ls (lv_sub hl [3, 4, 5, 6, 1, 0] rfl)
            · have h := of_n u8 h
              refine lv_aload_n S.1 S.2.1 dX9_kindsOfCounsel_41 rfl (lv_at hl 1 rfl) ?_
              refine gf (C := RX9) (T := TX9) (N := 28) (ci := 5) (k := 0) S hK hW wu_X9 rfl (by decide) wf_X9_7 0 rfl rfl dX9_kindsOfCounsel_42 ?_
              refine lv_iload S.1 S.2.1 dX9_kindsOfCounsel_45 (lv_at hl 0 rfl) ?_
              obtain ⟨z9, h⟩ := of_g h
              refine ia S hK hW rfl 1 rfl z9 dX9_kindsOfCounsel_47 ?_
              refine lv_iload_n S.1 S.2.1 dX9_kindsOfCounsel_48 rfl (lv_at hl 2 rfl) ?_
              refine lv_icmp_ne (tgt := 86) S.1 S.2.1 dX9_kindsOfCounsel_49 (by decide) (fun u10 => ?_) (fun u10 => ?_)
              · have h := of_n u10 h
                refine lv_iconst (v := (1 : Int32)) S.1 S.2.1 dX9_kindsOfCounsel_86 ki_1 ?_
                refine lv_goto (tgt := 91) S.1 S.2.1 dX9_kindsOfCounsel_87 (by decide) ?_
                refine lv_istore (lv' := [(4, .int (1 : Int32)), (6, .int y6), (0, .ref h0), (1, .int x1), (2, .int x2), (3, .int x3), (5, .int x5)]) S.1 S.2.1 dX9_kindsOfCounsel_91 hl (by decide) rfl (fun ls hl => ?_)
                refine lv_iinc (v := (x5 + (1 : Int32))) (lv' := [(5, .int (x5 + (1 : Int32))), (4, .int (1 : Int32)), (6, .int y6), (0, .ref h0), (1, .int x1), (2, .int x2), (3, .int x3)]) S.1 S.2.1 dX9_kindsOfCounsel_93 hl (k := 6) rfl (congrArg (fun z => x5 + z) ki_1) (by decide) rfl (fun ls hl => ?_)
                refine lv_goto (tgt := 16) S.1 S.2.1 dX9_kindsOfCounsel_96 (by decide) ?_
                exact ih16 _ _ _ _ _ h H locs hW ls (lv_sub hl [3, 4, 5, 6, 1, 0] rfl)
              · have h := of_p u10 h
                refine lv_iload_n S.1 S.2.1 dX9_kindsOfCounsel_52 rfl (lv_at hl 4 rfl) ?_
                refine lv_aload_n S.1 S.2.1 dX9_kindsOfCounsel_53 rfl (lv_at hl 1 rfl) ?_
                refine gf (C := RX9) (T := TX9) (N := 28) (ci := 5) (k := 0) S hK hW wu_X9 rfl (by decide) wf_X9_7 0 rfl rfl dX9_kindsOfCounsel_54 ?_
                refine lv_iload S.1 S.2.1 dX9_kindsOfCounsel_57 (lv_at hl 0 rfl) ?_
                refine lv_iconst (v := (1 : Int32)) S.1 S.2.1 dX9_kindsOfCounsel_59 ki_1 ?_
                refine lv_iadd S.1 S.2.1 dX9_kindsOfCounsel_60 ?_
                obtain ⟨z11, h⟩ := of_g h
                refine ia S hK hW rfl 1 rfl z11 dX9_kindsOfCounsel_61 ?_
                refine lv_aload_n S.1 S.2.1 dX9_kindsOfCounsel_62 rfl (lv_at hl 1 rfl) ?_
                refine gf (C := RX9) (T := TX9) (N := 28) (ci := 5) (k := 0) S hK hW wu_X9 rfl (by decide) wf_X9_7 0 rfl rfl dX9_kindsOfCounsel_63 ?_
                refine lv_iload S.1 S.2.1 dX9_kindsOfCounsel_66 (lv_at hl 0 rfl) ?_
                refine lv_iconst (v := (2 : Int32)) S.1 S.2.1 dX9_kindsOfCounsel_68 ki_2 ?_
                refine lv_iadd S.1 S.2.1 dX9_kindsOfCounsel_69 ?_
                obtain ⟨z12, h⟩ := of_g h
                refine ia S hK hW rfl 1 rfl z12 dX9_kindsOfCounsel_70 ?_
                obtain ⟨r13, hy14, h⟩ := bd1_e h
                refine ks0 S hK hN hZ hA hW (rest := []) (t_X9_countsAs l dC dI cI cJ cZ cB zz x3 ((c0 0) (ix (y6 + (1 : Int32)))) ((c0 0) (ix (y6 + (2 : Int32)))) _  hy14) wl_X9_110 wv_X9_countsAs rfl rfl ⟨Nat.le_of_ble_eq_true rfl, Nat.le_of_ble_eq_true rfl⟩ [] (clX9 cI cJ cZ cB h0 a0 (c0 0) (c0 1) (c0 2) (c0 3) (w0 4 0) (w0 5 0) (c0 6) (c0 7) (c0 8) (c0 9) (c0 10) (c0 11) (c0 12) (c0 13) (c0 14 0) (c0 15 0) (c0 16 0) (c0 17 0) (c0 18) (c0 19) (c0 20) (c0 21 0) (c0 22 0) (c0 23 0) (c0 24 0) (c0 25 0) (c0 26) (c0 27) []) rfl rfl hl.1 rfl (Nat.le_of_ble_eq_true rfl) dX9_kindsOfCounsel_71 [.int r13] rfl (fun H locs hW => ?_)
                refine lv_aload_n S.1 S.2.1 dX9_kindsOfCounsel_74 rfl (lv_at hl 1 rfl) ?_
                refine gf (C := RX9) (T := TX9) (N := 28) (ci := 5) (k := 0) S hK hW wu_X9 rfl (by decide) wf_X9_7 0 rfl rfl dX9_kindsOfCounsel_75 ?_
                refine lv_iload S.1 S.2.1 dX9_kindsOfCounsel_78 (lv_at hl 0 rfl) ?_
                refine lv_iconst (v := (3 : Int32)) S.1 S.2.1 dX9_kindsOfCounsel_80 ki_3 ?_
                refine lv_iadd S.1 S.2.1 dX9_kindsOfCounsel_81 ?_
                obtain ⟨z15, h⟩ := of_g h
                refine ia S hK hW rfl 1 rfl z15 dX9_kindsOfCounsel_82 ?_
                refine lv_icmp_ne (tgt := 90) S.1 S.2.1 dX9_kindsOfCounsel_83 (by decide) (fun u16 => ?_) (fun u16 => ?_)
                · have h := of_n u16 h
                  refine lv_iconst (v := (0 : Int32)) S.1 S.2.1 dX9_kindsOfCounsel_90 ki_0 ?_
                  refine lv_istore (lv' := [(4, .int (0 : Int32)), (6, .int y6), (0, .ref h0), (1, .int x1), (2, .int x2), (3, .int x3), (5, .int x5)]) S.1 S.2.1 dX9_kindsOfCounsel_91 hl (by decide) rfl (fun ls hl => ?_)
                  refine lv_iinc (v := (x5 + (1 : Int32))) (lv' := [(5, .int (x5 + (1 : Int32))), (4, .int (0 : Int32)), (6, .int y6), (0, .ref h0), (1, .int x1), (2, .int x2), (3, .int x3)]) S.1 S.2.1 dX9_kindsOfCounsel_93 hl (k := 6) rfl (congrArg (fun z => x5 + z) ki_1) (by decide) rfl (fun ls hl => ?_)
                  refine lv_goto (tgt := 16) S.1 S.2.1 dX9_kindsOfCounsel_96 (by decide) ?_
                  exact ih16 _ _ _ _ _ h H locs hW ls (lv_sub hl [3, 4, 5, 6, 1, 0] rfl)
                · have h := of_p u16 h
                  refine lv_iconst (v := (1 : Int32)) S.1 S.2.1 dX9_kindsOfCounsel_86 ki_1 ?_
                  refine lv_goto (tgt := 91) S.1 S.2.1 dX9_kindsOfCounsel_87 (by decide) ?_
                  refine lv_istore (lv' := [(4, .int (1 : Int32)), (6, .int y6), (0, .ref h0), (1, .int x1), (2, .int x2), (3, .int x3), (5, .int x5)]) S.1 S.2.1 dX9_kindsOfCounsel_91 hl (by decide) rfl (fun ls hl => ?_)
                  refine lv_iinc (v := (x5 + (1 : Int32))) (lv' := [(5, .int (x5 + (1 : Int32))), (4, .int (1 : Int32)), (6, .int y6), (0, .ref h0), (1, .int x1), (2, .int x2), (3, .int x3)]) S.1 S.2.1 dX9_kindsOfCounsel_93 hl (k := 6) rfl (congrArg (fun z => x5 + z) ki_1) (by decide) rfl (fun ls hl => ?_)
                  refine lv_goto (tgt := 16) S.1 S.2.1 dX9_kindsOfCounsel_96 (by decide) ?_
                  exact ih16 _ _ _ _ _ h H locs hW ls (lv_sub hl [3, 4, 5, 6, 1, 0] rfl)
      refine lv_iload_n S.1 S.2.1 dX9_kindsOfCounsel_4 rfl (lv_at hl 3 rfl) ?_
      refine lv_bipush (v := (6 : Int32)) S.1 S.2.1 dX9_kindsOfCounsel_5 kb_6 ?_
      refine lv_icmp_ge (tgt := 120) S.1 S.2.1 dX9_kindsOfCounsel_7 (by decide) (fun u17 => ?_) (fun u17 => ?_)
      · have h := of_p u17 h
        refine lv_iload_n S.1 S.2.1 dX9_kindsOfCounsel_120 rfl (lv_at hl 2 rfl) ?_
        have f18 := Option.some.inj h
        subst f18
        exact ri S hr hlocks hW dX9_kindsOfCounsel_121
      · have h := of_n u17 h
        refine lv_iconst (v := (1 : Int32)) S.1 S.2.1 dX9_kindsOfCounsel_10 ki_1 ?_
        refine lv_istore (lv' := [(4, .int (1 : Int32)), (0, .ref h0), (1, .int x1), (2, .int x2), (3, .int x3)]) S.1 S.2.1 dX9_kindsOfCounsel_11 hl (by decide) rfl (fun ls hl => ?_)
        refine lv_iconst (v := (0 : Int32)) S.1 S.2.1 dX9_kindsOfCounsel_13 ki_0 ?_
        refine lv_istore (lv' := [(5, .int (0 : Int32)), (4, .int (1 : Int32)), (0, .ref h0), (1, .int x1), (2, .int x2), (3, .int x3)]) S.1 S.2.1 dX9_kindsOfCounsel_14 hl (by decide) rfl (fun ls hl => ?_)
        exact hL16 F _ _ _ _ _ h H locs hW ls (lv_sub hl [2, 3, 4, 5, 1, 0] rfl)
  refine lv_iconst (v := (0 : Int32)) S.1 S.2.1 dX9_kindsOfCounsel_0 ki_0 ?_
  refine lv_istore_n (lv' := [(2, .int (0 : Int32)), (0, .ref h0), (1, .int p1)]) S.1 S.2.1 dX9_kindsOfCounsel_1 rfl hl (by decide) rfl (fun ls hl => ?_)
  refine lv_iconst (v := (0 : Int32)) S.1 S.2.1 dX9_kindsOfCounsel_2 ki_0 ?_
  refine lv_istore_n (lv' := [(3, .int (0 : Int32)), (2, .int (0 : Int32)), (0, .ref h0), (1, .int p1)]) S.1 S.2.1 dX9_kindsOfCounsel_3 rfl hl (by decide) rfl (fun ls hl => ?_)
  exact hL4 F _ _ _ h H locs hW ls (lv_sub hl [2, 3, 1, 0] rfl)
abbrev rmX9_is : Room := { frames := 2, cells := 0, slots := 0, locals := 51 }
set_option maxHeartbeats 4000000 in
set_option maxRecDepth 100000 in
theorem t_X9_is (l : Launch) (dC : Nat → ClassId) (dI : Nat → Nat → Nat) (cI cJ cZ cB : ClassId) (zz : ZT)  (h0 : Nat) (a0 : Nat → Nat) (F : Nat) (c0 : Nat → Nat → Int32) (w0 : Nat → Nat → Int64) (p1 : Int32) (r : Int32) (c0' : Nat → Nat → Int32) (hm : md_X9_is F c0 w0 p1 = some (r, c0')) : ct l (dC, dI) zz (ty4 cI cJ cZ cB) yX9_is cX9_is 2 (some .int) rmX9_is [.ref h0, .int p1] (cwX9 cI cJ cZ cB h0 a0 c0 w0 []) (cwX9 cI cJ cZ cB h0 a0 c0' w0 []) (some (.int r)) := by
  refine ct_of (cc := cX9_is) (maxL := 2) (ret := (some .int)) (by decide) (Nat.le_of_ble_eq_true rfl) ?_
  intro p e s m below meth c A S hr hlocks hK hN hZ hA H locs hW ls hl
  have S : CallFix p m c cX9_is 2 s (List.toArray [.ref h0, .int p1]) G RX9 := S
  have hl : lv_has ls 2 [(0, .ref h0), (1, .int p1)] := hl
  have h := hm
  rw [md_X9_is] at h
  have hW : wd (dC, dI) A s.heap (clX9 cI cJ cZ cB h0 a0 (c0 0) (c0 1) (c0 2) (c0 3) (w0 4 0) (w0 5 0) (c0 6) (c0 7) (c0 8) (c0 9) (c0 10) (c0 11) (c0 12) (c0 13) (c0 14 0) (c0 15 0) (c0 16 0) (c0 17 0) (c0 18) (c0 19) (c0 20) (c0 21 0) (c0 22 0) (c0 23 0) (c0 24 0) (c0 25 0) (c0 26) (c0 27) []) H locs := hW
  refine lv_aload_n S.1 S.2.1 dX9_is_0 rfl (lv_at hl 0 rfl) ?_
  refine lv_iload_n S.1 S.2.1 dX9_is_1 rfl (lv_at hl 1 rfl) ?_
  obtain ⟨r1, hy2, h⟩ := bd1_e h
  refine kv0 S hK hN hZ hA hW (rest := []) (t_X9_isPoint l dC dI cI cJ cZ cB zz h0 a0 c0 w0 p1 _  hy2) wl_X9_117 wv_X9_isPoint rfl rfl ⟨Nat.le_of_ble_eq_true rfl, Nat.le_of_ble_eq_true rfl⟩ [] [] rfl 0 rfl rfl rfl rfl hl.1 rfl (Nat.le_of_ble_eq_true rfl) dX9_is_2 [.int r1] rfl (fun H locs hW => ?_)
  refine lv_if_eq (tgt := 16) S.1 S.2.1 dX9_is_5 (by decide) (fun u3 => ?_) (fun u3 => ?_)
  · have h := of_p u3 h
    refine lv_aload_n S.1 S.2.1 dX9_is_16 rfl (lv_at hl 0 rfl) ?_
    refine lv_bipush (v := (-2 : Int32)) S.1 S.2.1 dX9_is_17 kb_m2 ?_
    obtain ⟨r4, cv5, hy6, h⟩ := bd2_e h
    refine kv (clX9 cI cJ cZ cB h0 a0 (cv5 0) (cv5 1) (cv5 2) (cv5 3) (w0 4 0) (w0 5 0) (cv5 6) (cv5 7) (cv5 8) (cv5 9) (cv5 10) (cv5 11) (cv5 12) (cv5 13) (cv5 14 0) (cv5 15 0) (cv5 16 0) (cv5 17 0) (cv5 18) (cv5 19) (cv5 20) (cv5 21 0) (cv5 22 0) (cv5 23 0) (cv5 24 0) (cv5 25 0) (cv5 26) (cv5 27) []) S hK hN hZ hA hW (rest := []) (t_X9_bad l dC dI cI cJ cZ cB zz h0 a0 c0 w0 (-2 : Int32) _ _  hy6) wl_X9_84 wv_X9_bad rfl rfl ⟨Nat.le_of_ble_eq_true rfl, Nat.le_of_ble_eq_true rfl⟩ [] [] rfl rfl rfl 0 rfl rfl rfl rfl hl.1 rfl (Nat.le_of_ble_eq_true rfl) dX9_is_19 [.int r4] rfl (fun H locs hW => ?_)
    have f7 := Option.some.inj h
    obtain ⟨f8, f9⟩ := Prod.mk.inj f7
    subst f8
    subst f9
    exact ri S hr hlocks hW dX9_is_22
  · have h := of_n u3 h
    refine lv_aload_n S.1 S.2.1 dX9_is_8 rfl (lv_at hl 0 rfl) ?_
    refine lv_iload_n S.1 S.2.1 dX9_is_9 rfl (lv_at hl 1 rfl) ?_
    obtain ⟨r10, hy11, h⟩ := bd1_e h
    refine kv0 S hK hN hZ hA hW (rest := []) (t_X9_kindsOf l dC dI cI cJ cZ cB zz h0 a0 F c0 w0 p1 _  hy11) wl_X9_225 wv_X9_kindsOf rfl rfl ⟨Nat.le_of_ble_eq_true rfl, Nat.le_of_ble_eq_true rfl⟩ [] [] rfl 0 rfl rfl rfl rfl hl.1 rfl (Nat.le_of_ble_eq_true rfl) dX9_is_10 [.int r10] rfl (fun H locs hW => ?_)
    refine lv_goto (tgt := 22) S.1 S.2.1 dX9_is_13 (by decide) ?_
    have f12 := Option.some.inj h
    obtain ⟨f13, f14⟩ := Prod.mk.inj f12
    subst f13
    subst f14
    exact ri S hr hlocks hW dX9_is_22
abbrev rmX9_kinds : Room := { frames := 2, cells := 0, slots := 0, locals := 49 }
set_option maxHeartbeats 4000000 in
set_option maxRecDepth 100000 in
theorem t_X9_kinds (l : Launch) (dC : Nat → ClassId) (dI : Nat → Nat → Nat) (cI cJ cZ cB : ClassId) (zz : ZT)  (h0 : Nat) (a0 : Nat → Nat) (F : Nat) (c0 : Nat → Nat → Int32) (w0 : Nat → Nat → Int64) (p1 : Int32) (r : Int32) (c0' : Nat → Nat → Int32) (hm : md_X9_kinds F c0 w0 p1 = some (r, c0')) : ct l (dC, dI) zz (ty4 cI cJ cZ cB) yX9_kinds cX9_kinds 2 (some .int) rmX9_kinds [.ref h0, .int p1] (cwX9 cI cJ cZ cB h0 a0 c0 w0 []) (cwX9 cI cJ cZ cB h0 a0 c0' w0 []) (some (.int r)) := by
  refine ct_of (cc := cX9_kinds) (maxL := 2) (ret := (some .int)) (by decide) (Nat.le_of_ble_eq_true rfl) ?_
  intro p e s m below meth c A S hr hlocks hK hN hZ hA H locs hW ls hl
  have S : CallFix p m c cX9_kinds 2 s (List.toArray [.ref h0, .int p1]) G RX9 := S
  have hl : lv_has ls 2 [(0, .ref h0), (1, .int p1)] := hl
  have h := hm
  rw [md_X9_kinds] at h
  have hW : wd (dC, dI) A s.heap (clX9 cI cJ cZ cB h0 a0 (c0 0) (c0 1) (c0 2) (c0 3) (w0 4 0) (w0 5 0) (c0 6) (c0 7) (c0 8) (c0 9) (c0 10) (c0 11) (c0 12) (c0 13) (c0 14 0) (c0 15 0) (c0 16 0) (c0 17 0) (c0 18) (c0 19) (c0 20) (c0 21 0) (c0 22 0) (c0 23 0) (c0 24 0) (c0 25 0) (c0 26) (c0 27) []) H locs := hW
  refine lv_iload_n S.1 S.2.1 dX9_kinds_0 rfl (lv_at hl 1 rfl) ?_
  obtain ⟨r1, hy2, h⟩ := bd1_e h
  refine ks0 S hK hN hZ hA hW (rest := []) (t_X9_isCounsel l dC dI cI cJ cZ cB zz p1 _  hy2) wl_X9_88 wv_X9_isCounsel rfl rfl ⟨Nat.le_of_ble_eq_true rfl, Nat.le_of_ble_eq_true rfl⟩ [] (clX9 cI cJ cZ cB h0 a0 (c0 0) (c0 1) (c0 2) (c0 3) (w0 4 0) (w0 5 0) (c0 6) (c0 7) (c0 8) (c0 9) (c0 10) (c0 11) (c0 12) (c0 13) (c0 14 0) (c0 15 0) (c0 16 0) (c0 17 0) (c0 18) (c0 19) (c0 20) (c0 21 0) (c0 22 0) (c0 23 0) (c0 24 0) (c0 25 0) (c0 26) (c0 27) []) rfl rfl hl.1 rfl (Nat.le_of_ble_eq_true rfl) dX9_kinds_1 [.int r1] rfl (fun H locs hW => ?_)
  refine lv_if_eq (tgt := 15) S.1 S.2.1 dX9_kinds_4 (by decide) (fun u3 => ?_) (fun u3 => ?_)
  · have h := of_p u3 h
    refine lv_aload_n S.1 S.2.1 dX9_kinds_15 rfl (lv_at hl 0 rfl) ?_
    refine lv_bipush (v := (-2 : Int32)) S.1 S.2.1 dX9_kinds_16 kb_m2 ?_
    obtain ⟨r4, cv5, hy6, h⟩ := bd2_e h
    refine kv (clX9 cI cJ cZ cB h0 a0 (cv5 0) (cv5 1) (cv5 2) (cv5 3) (w0 4 0) (w0 5 0) (cv5 6) (cv5 7) (cv5 8) (cv5 9) (cv5 10) (cv5 11) (cv5 12) (cv5 13) (cv5 14 0) (cv5 15 0) (cv5 16 0) (cv5 17 0) (cv5 18) (cv5 19) (cv5 20) (cv5 21 0) (cv5 22 0) (cv5 23 0) (cv5 24 0) (cv5 25 0) (cv5 26) (cv5 27) []) S hK hN hZ hA hW (rest := []) (t_X9_bad l dC dI cI cJ cZ cB zz h0 a0 c0 w0 (-2 : Int32) _ _  hy6) wl_X9_84 wv_X9_bad rfl rfl ⟨Nat.le_of_ble_eq_true rfl, Nat.le_of_ble_eq_true rfl⟩ [] [] rfl rfl rfl 0 rfl rfl rfl rfl hl.1 rfl (Nat.le_of_ble_eq_true rfl) dX9_kinds_18 [.int r4] rfl (fun H locs hW => ?_)
    have f7 := Option.some.inj h
    obtain ⟨f8, f9⟩ := Prod.mk.inj f7
    subst f8
    subst f9
    exact ri S hr hlocks hW dX9_kinds_21
  · have h := of_n u3 h
    refine lv_aload_n S.1 S.2.1 dX9_kinds_7 rfl (lv_at hl 0 rfl) ?_
    refine lv_iload_n S.1 S.2.1 dX9_kinds_8 rfl (lv_at hl 1 rfl) ?_
    obtain ⟨r10, hy11, h⟩ := bd1_e h
    refine kv0 S hK hN hZ hA hW (rest := []) (t_X9_kindsOfCounsel l dC dI cI cJ cZ cB zz h0 a0 F c0 w0 p1 _  hy11) wl_X9_228 wv_X9_kindsOfCounsel rfl rfl ⟨Nat.le_of_ble_eq_true rfl, Nat.le_of_ble_eq_true rfl⟩ [] [] rfl 0 rfl rfl rfl rfl hl.1 rfl (Nat.le_of_ble_eq_true rfl) dX9_kinds_9 [.int r10] rfl (fun H locs hW => ?_)
    refine lv_goto (tgt := 21) S.1 S.2.1 dX9_kinds_12 (by decide) ?_
    have f12 := Option.some.inj h
    obtain ⟨f13, f14⟩ := Prod.mk.inj f12
    subst f13
    subst f14
    exact ri S hr hlocks hW dX9_kinds_21
abbrev rmX9_mostAlike : Room := { frames := 1, cells := 0, slots := 0, locals := 21 }
set_option maxHeartbeats 4000000 in
set_option maxRecDepth 100000 in
theorem t_X9_mostAlike (l : Launch) (dC : Nat → ClassId) (dI : Nat → Nat → Nat) (cI cJ cZ cB : ClassId) (zz : ZT)  (h0 : Nat) (a0 : Nat → Nat) (F : Nat) (c0 : Nat → Nat → Int32) (w0 : Nat → Nat → Int64) (p1 : Int32) (r : Int32) (hm : md_X9_mostAlike F c0 w0 p1 = some (r)) : ct l (dC, dI) zz (ty4 cI cJ cZ cB) yX9_mostAlike cX9_mostAlike 6 (some .int) rmX9_mostAlike [.ref h0, .int p1] (cwX9 cI cJ cZ cB h0 a0 c0 w0 []) (cwX9 cI cJ cZ cB h0 a0 c0 w0 []) (some (.int r)) := by
  refine ct_of (cc := cX9_mostAlike) (maxL := 6) (ret := (some .int)) (by decide) (Nat.le_of_ble_eq_true rfl) ?_
  intro p e s m below meth c A S hr hlocks hK hN hZ hA H locs hW ls hl
  have S : CallFix p m c cX9_mostAlike 6 s (List.toArray [.ref h0, .int p1]) G RX9 := S
  have hl : lv_has ls 6 [(0, .ref h0), (1, .int p1)] := hl
  have h := hm
  rw [md_X9_mostAlike] at h
  have hW : wd (dC, dI) A s.heap (clX9 cI cJ cZ cB h0 a0 (c0 0) (c0 1) (c0 2) (c0 3) (w0 4 0) (w0 5 0) (c0 6) (c0 7) (c0 8) (c0 9) (c0 10) (c0 11) (c0 12) (c0 13) (c0 14 0) (c0 15 0) (c0 16 0) (c0 17 0) (c0 18) (c0 19) (c0 20) (c0 21 0) (c0 22 0) (c0 23 0) (c0 24 0) (c0 25 0) (c0 26) (c0 27) []) H locs := hW
  have hL4 : ∀ (n4 : Nat) (x1 : Int32) (x2 : Int32) (x3 : Int32), ld_X9_mostAlike_4 F c0 w0 n4 x1 x2 x3 = some (r) → ∀ (H : Heap) (locs : List Loc), wd (dC, dI) A s.heap (clX9 cI cJ cZ cB h0 a0 (c0 0) (c0 1) (c0 2) (c0 3) (w0 4 0) (w0 5 0) (c0 6) (c0 7) (c0 8) (c0 9) (c0 10) (c0 11) (c0 12) (c0 13) (c0 14 0) (c0 15 0) (c0 16 0) (c0 17 0) (c0 18) (c0 19) (c0 20) (c0 21 0) (c0 22 0) (c0 23 0) (c0 24 0) (c0 25 0) (c0 26) (c0 27) []) H locs → ∀ ls : Array Slot, lv_has ls 6 [(0, .ref h0), (1, .int x1), (2, .int x2), (3, .int x3)] → W p l e rmX9_mostAlike s m (List.toArray [.ref h0, .int p1]) below meth c H locs 0 0 (MQ below (kQ (dC, dI) (cwX9 cI cJ cZ cB h0 a0 c0 w0 []) (some (.int r)) A) (List.toArray [.ref h0, .int p1]) s 0 0 A) (F0 m 4 ls []) := by
    intro n4
    induction n4 with
    | zero => intro x1 x2 x3 h; rw [ld_X9_mostAlike_4] at h; cases h
    | succ n4 ih4 =>
      intro x1 x2 x3 h H locs hW ls hl
      rw [ld_X9_mostAlike_4] at h
      have hJ72 : ∀ (x1 : Int32) (x2 : Int32) (x3 : Int32) (x4 : Int32), jd_X9_mostAlike_72 F c0 w0 (ld_X9_mostAlike_4 F c0 w0 n4) x1 x2 x3 x4 = some (r) → ∀ (H : Heap) (locs : List Loc), wd (dC, dI) A s.heap (clX9 cI cJ cZ cB h0 a0 (c0 0) (c0 1) (c0 2) (c0 3) (w0 4 0) (w0 5 0) (c0 6) (c0 7) (c0 8) (c0 9) (c0 10) (c0 11) (c0 12) (c0 13) (c0 14 0) (c0 15 0) (c0 16 0) (c0 17 0) (c0 18) (c0 19) (c0 20) (c0 21 0) (c0 22 0) (c0 23 0) (c0 24 0) (c0 25 0) (c0 26) (c0 27) []) H locs → ∀ ls : Array Slot, lv_has ls 6 [(0, .ref h0), (1, .int x1), (2, .int x2), (3, .int x3), (4, .int x4)] → W p l e rmX9_mostAlike s m (List.toArray [.ref h0, .int p1]) below meth c H locs 0 0 (MQ below (kQ (dC, dI) (cwX9 cI cJ cZ cB h0 a0 c0 w0 []) (some (.int r)) A) (List.toArray [.ref h0, .int p1]) s 0 0 A) (F0 m 72 ls []) := by
        intro x1 x2 x3 x4 h H locs hW ls hl
        rw [jd_X9_mostAlike_72] at h
        refine lv_iload S.1 S.2.1 dX9_mostAlike_72 (lv_at hl 4 rfl) ?_
        refine lv_iload_n S.1 S.2.1 dX9_mostAlike_74 rfl (lv_at hl 2 rfl) ?_
        obtain ⟨y1, e2, h⟩ := lt1_e h
        suffices hM3 : ∀ ls : Array Slot, lv_has ls 6 [(0, .ref h0), (1, .int x1), (3, .int x3)] → W p l e rmX9_mostAlike s m (List.toArray [.ref h0, .int p1]) below meth c H locs 0 0 (MQ below (kQ (dC, dI) (cwX9 cI cJ cZ cB h0 a0 c0 w0 []) (some (.int r)) A) (List.toArray [.ref h0, .int p1]) s 0 0 A) (F0 m 84 ls [.int y1]) by
          refine lv_icmp_le (tgt := 83) S.1 S.2.1 dX9_mostAlike_75 (by decide) (fun u4 => ?_) (fun u4 => ?_)
          · refine lv_iload_n S.1 S.2.1 dX9_mostAlike_83 rfl (lv_at hl 2 rfl) ?_
            have e2 := e2.trans (if_pos u4)
            subst e2
            exact hM3 ls (lv_sub hl [0, 1, 3] rfl)
          · refine lv_iload S.1 S.2.1 dX9_mostAlike_78 (lv_at hl 4 rfl) ?_
            refine lv_goto (tgt := 84) S.1 S.2.1 dX9_mostAlike_80 (by decide) ?_
            have e2 := e2.trans (if_neg u4)
            subst e2
            exact hM3 ls (lv_sub hl [0, 1, 3] rfl)
        intro ls hl
        refine lv_istore_n (lv' := [(2, .int y1), (0, .ref h0), (1, .int x1), (3, .int x3)]) S.1 S.2.1 dX9_mostAlike_84 rfl hl (by decide) rfl (fun ls hl => ?_)
        refine lv_iinc (v := (x3 + (1 : Int32))) (lv' := [(3, .int (x3 + (1 : Int32))), (2, .int y1), (0, .ref h0), (1, .int x1)]) S.1 S.2.1 dX9_mostAlike_85 hl (k := 3) rfl (congrArg (fun z => x3 + z) ki_1) (by decide) rfl (fun ls hl => ?_)
        refine lv_goto (tgt := 4) S.1 S.2.1 dX9_mostAlike_88 (by decide) ?_
        exact ih4 _ _ _ h H locs hW ls (lv_sub hl [2, 3, 1, 0] rfl)
      have hL16 : ∀ (n16 : Nat) (x1 : Int32) (x2 : Int32) (x3 : Int32) (x4 : Int32) (x5 : Int32), ld_X9_mostAlike_16 F c0 w0 (ld_X9_mostAlike_4 F c0 w0 n4) n16 x1 x2 x3 x4 x5 = some (r) → ∀ (H : Heap) (locs : List Loc), wd (dC, dI) A s.heap (clX9 cI cJ cZ cB h0 a0 (c0 0) (c0 1) (c0 2) (c0 3) (w0 4 0) (w0 5 0) (c0 6) (c0 7) (c0 8) (c0 9) (c0 10) (c0 11) (c0 12) (c0 13) (c0 14 0) (c0 15 0) (c0 16 0) (c0 17 0) (c0 18) (c0 19) (c0 20) (c0 21 0) (c0 22 0) (c0 23 0) (c0 24 0) (c0 25 0) (c0 26) (c0 27) []) H locs → ∀ ls : Array Slot, lv_has ls 6 [(0, .ref h0), (1, .int x1), (2, .int x2), (3, .int x3), (4, .int x4), (5, .int x5)] → W p l e rmX9_mostAlike s m (List.toArray [.ref h0, .int p1]) below meth c H locs 0 0 (MQ below (kQ (dC, dI) (cwX9 cI cJ cZ cB h0 a0 c0 w0 []) (some (.int r)) A) (List.toArray [.ref h0, .int p1]) s 0 0 A) (F0 m 16 ls []) := by
        intro n16
        induction n16 with
        | zero => intro x1 x2 x3 x4 x5 h; rw [ld_X9_mostAlike_16] at h; cases h
        | succ n16 ih16 =>
          intro x1 x2 x3 x4 x5 h H locs hW ls hl
          rw [ld_X9_mostAlike_16] at h
          refine lv_iload S.1 S.2.1 dX9_mostAlike_16 (lv_at hl 5 rfl) ?_
          refine lv_bipush (v := (6 : Int32)) S.1 S.2.1 dX9_mostAlike_18 kb_6 ?_
          refine lv_icmp_ge (tgt := 72) S.1 S.2.1 dX9_mostAlike_20 (by decide) (fun u5 => ?_) (fun u5 => ?_)
          · have h := of_p u5 h
            exact hJ72 _ _ _ _ h H locs hW ls (lv_sub hl [0, 1, 2, 3, 4] rfl)
          · have h := of_n u5 h
            refine lv_iload_n S.1 S.2.1 dX9_mostAlike_23 rfl (lv_at hl 1 rfl) ?_
            refine lv_iload_n S.1 S.2.1 dX9_mostAlike_24 rfl (lv_at hl 3 rfl) ?_
            obtain ⟨r6, hy7, h⟩ := bd1_e h
            refine ks0 S hK hN hZ hA hW (rest := []) (t_X9_has l dC dI cI cJ cZ cB zz x1 x3 _  hy7) wl_X9_120 wv_X9_has rfl rfl ⟨Nat.le_of_ble_eq_true rfl, Nat.le_of_ble_eq_true rfl⟩ [] (clX9 cI cJ cZ cB h0 a0 (c0 0) (c0 1) (c0 2) (c0 3) (w0 4 0) (w0 5 0) (c0 6) (c0 7) (c0 8) (c0 9) (c0 10) (c0 11) (c0 12) (c0 13) (c0 14 0) (c0 15 0) (c0 16 0) (c0 17 0) (c0 18) (c0 19) (c0 20) (c0 21 0) (c0 22 0) (c0 23 0) (c0 24 0) (c0 25 0) (c0 26) (c0 27) []) rfl rfl hl.1 rfl (Nat.le_of_ble_eq_true rfl) dX9_mostAlike_25 [.int r6] rfl (fun H locs hW => ?_)
            refine lv_if_eq (tgt := 72) S.1 S.2.1 dX9_mostAlike_28 (by decide) (fun u8 => ?_) (fun u8 => ?_)
            · have h := of_p u8 h
              exact hJ72 _ _ _ _ h H locs hW ls (lv_sub hl [0, 1, 2, 3, 4] rfl)
            · have h := of_n u8 h
              refine lv_iload S.1 S.2.1 dX9_mostAlike_31 (lv_at hl 4 rfl) ?_
              refine lv_iload_n S.1 S.2.1 dX9_mostAlike_33 rfl (lv_at hl 1 rfl) ?_
              refine lv_iload S.1 S.2.1 dX9_mostAlike_34 (lv_at hl 5 rfl) ?_
              obtain ⟨r9, hy10, h⟩ := bd1_e h
              refine ks0 S hK hN hZ hA hW (rest := [.int x4]) (t_X9_has l dC dI cI cJ cZ cB zz x1 x5 _  hy10) wl_X9_120 wv_X9_has rfl rfl ⟨Nat.le_of_ble_eq_true rfl, Nat.le_of_ble_eq_true rfl⟩ [] (clX9 cI cJ cZ cB h0 a0 (c0 0) (c0 1) (c0 2) (c0 3) (w0 4 0) (w0 5 0) (c0 6) (c0 7) (c0 8) (c0 9) (c0 10) (c0 11) (c0 12) (c0 13) (c0 14 0) (c0 15 0) (c0 16 0) (c0 17 0) (c0 18) (c0 19) (c0 20) (c0 21 0) (c0 22 0) (c0 23 0) (c0 24 0) (c0 25 0) (c0 26) (c0 27) []) rfl rfl hl.1 rfl (Nat.le_of_ble_eq_true rfl) dX9_mostAlike_36 [.int r9, .int x4] rfl (fun H locs hW => ?_)
              refine lv_if_eq (tgt := 62) S.1 S.2.1 dX9_mostAlike_39 (by decide) (fun u11 => ?_) (fun u11 => ?_)
              · have h := of_p u11 h
                refine lv_iconst (v := (0 : Int32)) S.1 S.2.1 dX9_mostAlike_62 ki_0 ?_
                refine lv_iadd S.1 S.2.1 dX9_mostAlike_63 ?_
                refine lv_istore (lv' := [(4, .int (x4 + (0 : Int32))), (0, .ref h0), (1, .int x1), (2, .int x2), (3, .int x3), (5, .int x5)]) S.1 S.2.1 dX9_mostAlike_64 hl (by decide) rfl (fun ls hl => ?_)
                refine lv_iinc (v := (x5 + (1 : Int32))) (lv' := [(5, .int (x5 + (1 : Int32))), (4, .int (x4 + (0 : Int32))), (0, .ref h0), (1, .int x1), (2, .int x2), (3, .int x3)]) S.1 S.2.1 dX9_mostAlike_66 hl (k := 5) rfl (congrArg (fun z => x5 + z) ki_1) (by decide) rfl (fun ls hl => ?_)
                refine lv_goto (tgt := 16) S.1 S.2.1 dX9_mostAlike_69 (by decide) ?_
                exact ih16 _ _ _ _ _ h H locs hW ls (lv_sub hl [2, 3, 4, 5, 1, 0] rfl)
              · have h := of_n u11 h
                refine lv_aload_n S.1 S.2.1 dX9_mostAlike_42 rfl (lv_at hl 0 rfl) ?_
                refine gf (C := RX9) (T := TX9) (N := 28) (ci := 5) (k := 19) S hK hW wu_X9 rfl (by decide) wf_X9_54 0 rfl rfl dX9_mostAlike_43 ?_
                refine lv_iload_n S.1 S.2.1 dX9_mostAlike_46 rfl (lv_at hl 3 rfl) ?_
                obtain ⟨z12, h⟩ := of_g h
                refine ia S hK hW rfl 14 rfl z12 dX9_mostAlike_47 ?_
                refine lv_aload_n S.1 S.2.1 dX9_mostAlike_48 rfl (lv_at hl 0 rfl) ?_
                refine gf (C := RX9) (T := TX9) (N := 28) (ci := 5) (k := 19) S hK hW wu_X9 rfl (by decide) wf_X9_54 0 rfl rfl dX9_mostAlike_49 ?_
                refine lv_iload S.1 S.2.1 dX9_mostAlike_52 (lv_at hl 5 rfl) ?_
                obtain ⟨z13, h⟩ := of_g h
                refine ia S hK hW rfl 14 rfl z13 dX9_mostAlike_54 ?_
                refine lv_icmp_ne (tgt := 62) S.1 S.2.1 dX9_mostAlike_55 (by decide) (fun u14 => ?_) (fun u14 => ?_)
                · have h := of_n u14 h
                  refine lv_iconst (v := (0 : Int32)) S.1 S.2.1 dX9_mostAlike_62 ki_0 ?_
                  refine lv_iadd S.1 S.2.1 dX9_mostAlike_63 ?_
                  refine lv_istore (lv' := [(4, .int (x4 + (0 : Int32))), (0, .ref h0), (1, .int x1), (2, .int x2), (3, .int x3), (5, .int x5)]) S.1 S.2.1 dX9_mostAlike_64 hl (by decide) rfl (fun ls hl => ?_)
                  refine lv_iinc (v := (x5 + (1 : Int32))) (lv' := [(5, .int (x5 + (1 : Int32))), (4, .int (x4 + (0 : Int32))), (0, .ref h0), (1, .int x1), (2, .int x2), (3, .int x3)]) S.1 S.2.1 dX9_mostAlike_66 hl (k := 5) rfl (congrArg (fun z => x5 + z) ki_1) (by decide) rfl (fun ls hl => ?_)
                  refine lv_goto (tgt := 16) S.1 S.2.1 dX9_mostAlike_69 (by decide) ?_
                  exact ih16 _ _ _ _ _ h H locs hW ls (lv_sub hl [2, 3, 4, 5, 1, 0] rfl)
                · have h := of_p u14 h
                  refine lv_iconst (v := (1 : Int32)) S.1 S.2.1 dX9_mostAlike_58 ki_1 ?_
                  refine lv_goto (tgt := 63) S.1 S.2.1 dX9_mostAlike_59 (by decide) ?_
                  refine lv_iadd S.1 S.2.1 dX9_mostAlike_63 ?_
                  refine lv_istore (lv' := [(4, .int (x4 + (1 : Int32))), (0, .ref h0), (1, .int x1), (2, .int x2), (3, .int x3), (5, .int x5)]) S.1 S.2.1 dX9_mostAlike_64 hl (by decide) rfl (fun ls hl => ?_)
                  refine lv_iinc (v := (x5 + (1 : Int32))) (lv' := [(5, .int (x5 + (1 : Int32))), (4, .int (x4 + (1 : Int32))), (0, .ref h0), (1, .int x1), (2, .int x2), (3, .int x3)]) S.1 S.2.1 dX9_mostAlike_66 hl (k := 5) rfl (congrArg (fun z => x5 + z) ki_1) (by decide) rfl (fun ls hl => ?_)
                  refine lv_goto (tgt := 16) S.1 S.2.1 dX9_mostAlike_69 (by decide) ?_
                  exact ih16 _ _ _ _ _ h H locs hW ls (lv_sub hl [2, 3, 4, 5, 1, 0] rfl)
      refine lv_iload_n S.1 S.2.1 dX9_mostAlike_4 rfl (lv_at hl 3 rfl) ?_
      refine lv_bipush (v := (6 : Int32)) S.1 S.2.1 dX9_mostAlike_5 kb_6 ?_
      refine lv_icmp_ge (tgt := 91) S.1 S.2.1 dX9_mostAlike_7 (by decide) (fun u15 => ?_) (fun u15 => ?_)
      · have h := of_p u15 h
        refine lv_iload_n S.1 S.2.1 dX9_mostAlike_91 rfl (lv_at hl 2 rfl) ?_
        have f16 := Option.some.inj h
        subst f16
        exact ri S hr hlocks hW dX9_mostAlike_92
      · have h := of_n u15 h
        refine lv_iconst (v := (0 : Int32)) S.1 S.2.1 dX9_mostAlike_10 ki_0 ?_
        refine lv_istore (lv' := [(4, .int (0 : Int32)), (0, .ref h0), (1, .int x1), (2, .int x2), (3, .int x3)]) S.1 S.2.1 dX9_mostAlike_11 hl (by decide) rfl (fun ls hl => ?_)
        refine lv_iconst (v := (0 : Int32)) S.1 S.2.1 dX9_mostAlike_13 ki_0 ?_
        refine lv_istore (lv' := [(5, .int (0 : Int32)), (4, .int (0 : Int32)), (0, .ref h0), (1, .int x1), (2, .int x2), (3, .int x3)]) S.1 S.2.1 dX9_mostAlike_14 hl (by decide) rfl (fun ls hl => ?_)
        exact hL16 F _ _ _ _ _ h H locs hW ls (lv_sub hl [2, 3, 4, 5, 1, 0] rfl)
  refine lv_iconst (v := (0 : Int32)) S.1 S.2.1 dX9_mostAlike_0 ki_0 ?_
  refine lv_istore_n (lv' := [(2, .int (0 : Int32)), (0, .ref h0), (1, .int p1)]) S.1 S.2.1 dX9_mostAlike_1 rfl hl (by decide) rfl (fun ls hl => ?_)
  refine lv_iconst (v := (0 : Int32)) S.1 S.2.1 dX9_mostAlike_2 ki_0 ?_
  refine lv_istore_n (lv' := [(3, .int (0 : Int32)), (2, .int (0 : Int32)), (0, .ref h0), (1, .int p1)]) S.1 S.2.1 dX9_mostAlike_3 rfl hl (by decide) rfl (fun ls hl => ?_)
  exact hL4 F _ _ _ h H locs hW ls (lv_sub hl [2, 3, 1, 0] rfl)
