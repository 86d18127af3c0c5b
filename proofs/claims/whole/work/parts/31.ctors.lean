def cC0 : Nat → Nat → Int32 := rs (rs (fun _ _ => 0) 1 (upd (upd (fun _ => 0) 0 1) 1 1)) 9 (fun _ => -1)
def cT0 : Nat → Nat → Int32 := fun _ _ => 0
def cB0 : Nat → Nat → Int32 := fun _ _ => 0
def wB0 : Nat → Nat → Int64 := fun _ _ => 0
def cS0 : Nat → Nat → Int32 := fun _ _ => 0
def wS0 : Nat → Nat → Int64 := rs (fun _ _ => 0) 7 (fun _ => 1)
def cM0 (cb : Nat → Nat → Int32) : Nat → Nat → Int32 := rs (fun _ _ => 0) 0 (cb 0)
def wM0 : Nat → Nat → Int64 := rs (fun _ _ => 0) 5 (fun _ => 1)
theorem df_X3 : ∀ j, j < 10 → defaultValue (tyX3 j) = vp_V [.null, .null, .null, .null, .null, .int 0, .int 0, .int 0, .int 0, .int 0] j := by
  intro j hj
  match j, hj with
  | 0, _ => rfl
  | 1, _ => rfl
  | 2, _ => rfl
  | 3, _ => rfl
  | 4, _ => rfl
  | 5, _ => rfl
  | 6, _ => rfl
  | 7, _ => rfl
  | 8, _ => rfl
  | 9, _ => rfl
theorem df_X7 : ∀ j, j < 6 → defaultValue (tyX7 j) = vp_V [.null, .int 0, .int 0, .int 0, .int 0, .int 0] j := by
  intro j hj
  match j, hj with
  | 0, _ => rfl
  | 1, _ => rfl
  | 2, _ => rfl
  | 3, _ => rfl
  | 4, _ => rfl
  | 5, _ => rfl
theorem df_X1 : ∀ j, j < 9 → defaultValue (tyX1 j) = vp_V [.null, .null, .int 0, .null, .int 0, .null, .int 0, .null, .int 0] j := by
  intro j hj
  match j, hj with
  | 0, _ => rfl
  | 1, _ => rfl
  | 2, _ => rfl
  | 3, _ => rfl
  | 4, _ => rfl
  | 5, _ => rfl
  | 6, _ => rfl
  | 7, _ => rfl
  | 8, _ => rfl
theorem df_X2 : ∀ j, j < 2 → defaultValue (tyX2 j) = vp_V [.null, .null] j := by
  intro j hj
  match j, hj with
  | 0, _ => rfl
  | 1, _ => rfl
theorem df_X8 : ∀ j, j < 8 → defaultValue (tyX8 j) = vp_V [.null, .null, .null, .null, .null, .null, .long 0, .long 0] j := by
  intro j hj
  match j, hj with
  | 0, _ => rfl
  | 1, _ => rfl
  | 2, _ => rfl
  | 3, _ => rfl
  | 4, _ => rfl
  | 5, _ => rfl
  | 6, _ => rfl
  | 7, _ => rfl
theorem df_X9 : ∀ j, j < 28 → defaultValue (tyX9 j) = vp_V [.null, .null, .null, .null, .long 0, .long 0, .null, .null, .null, .null, .null, .null, .null, .null, .int 0, .int 0, .int 0, .int 0, .null, .null, .null, .int 0, .int 0, .int 0, .int 0, .int 0, .null, .null] j := by
  intro j hj
  match j, hj with
  | 0, _ => rfl
  | 1, _ => rfl
  | 2, _ => rfl
  | 3, _ => rfl
  | 4, _ => rfl
  | 5, _ => rfl
  | 6, _ => rfl
  | 7, _ => rfl
  | 8, _ => rfl
  | 9, _ => rfl
  | 10, _ => rfl
  | 11, _ => rfl
  | 12, _ => rfl
  | 13, _ => rfl
  | 14, _ => rfl
  | 15, _ => rfl
  | 16, _ => rfl
  | 17, _ => rfl
  | 18, _ => rfl
  | 19, _ => rfl
  | 20, _ => rfl
  | 21, _ => rfl
  | 22, _ => rfl
  | 23, _ => rfl
  | 24, _ => rfl
  | 25, _ => rfl
  | 26, _ => rfl
  | 27, _ => rfl
  | k + 28, h => exact absurd h (by omega)
set_option maxHeartbeats 4000000 in
set_option maxRecDepth 100000 in
theorem n_X3_init (l : Launch) (dC : Nat → ClassId) (dI : Nat → Nat → Nat) (cI cJ cZ cB : ClassId) (zz : ZT) (h0 : Nat) : cn l (dC, dI) zz (ty4 cI cJ cZ cB) yX3_init cX3_init 1 { frames := 1, cells := 5, slots := 22, locals := 12 } h0 (.inr (2, [.null, .null, .null, .null, .null, .int 0, .int 0, .int 0, .int 0, .int 0])) (fun w1 => ∃ b0 : Nat → Nat, w1 = (cwX3 cI cJ cZ cB h0 b0 cC0 [])) 5 22 := by
  refine cn_of (cc := cX3_init) (maxL := 1) (by decide) (by decide) ?_
  intro p e s m below meth c S hr hlocks hnm hK hN hZ hA H locs hW ls hl
  have hnm : meth.name = "<init>" := hnm
  have S : CallFix p m c cX3_init 1 s (List.toArray [.ref h0]) G RX3 := S
  obtain ⟨A, hAe⟩ : ∃ A, va_A [(h0, .inr (2, [.null, .null, .null, .null, .null, .int 0, .int 0, .int 0, .int 0, .int 0]))] s.heap.size = A := ⟨_, rfl⟩
  rw [hAe] at hZ hA hW
  refine lv_aload_n S.1 S.2.1 dX3_init_0 rfl (lv_at hl 0 rfl) ?_
  refine cObj S wl_X3_3 hl.1 dX3_init_1 (Nat.le_of_ble_eq_true rfl) (Nat.le_of_ble_eq_true rfl) ?_
  refine lv_aload_n S.1 S.2.1 dX3_init_4 rfl (lv_at hl 0 rfl) ?_
  refine lv_iconst (v := (2 : Int32)) S.1 S.2.1 dX3_init_5 ki_2 ?_
  refine cnewa (at0 := .int) (ty := .int) (a0 := (2, .inl (fun _ => 0))) (t := 0) S hK hA hW wa_int rfl rfl (fun _ => rfl) (by decide) (by decide) (by decide) (Nat.le_of_ble_eq_true rfl) (Nat.le_of_ble_eq_true rfl) dX3_init_6 (fun q6_0 H hW => ?_)
  have hW : wd (dC, dI) A s.heap ((h0, .inr (2, [.null, .null, .null, .null, .null, .int 0, .int 0, .int 0, .int 0, .int 0])) :: ((q6_0, .inl (cI, 2, .inl (fun _ => 0))) :: [])) H locs := hW
  refine cpff (C := RX3) (T := TX3) (N := 10) (ci := 2) (k := 0) S hK hW wu_X3 rfl (by decide) tyX3 tyX3_ok nmX3 wf_X3_9 0 rfl rfl hnm rfl rfl rfl rfl (Nat.le_of_ble_eq_true rfl) dX3_init_8 (fun H locs hW => ?_)
  have hW : wd (dC, dI) A s.heap ((h0, .inr (2, [.ref q6_0, .null, .null, .null, .null, .int 0, .int 0, .int 0, .int 0, .int 0])) :: ((q6_0, .inl (cI, 2, .inl (fun _ => 0))) :: [])) H locs := hW
  refine lv_aload_n S.1 S.2.1 dX3_init_11 rfl (lv_at hl 0 rfl) ?_
  refine lv_iconst (v := (2 : Int32)) S.1 S.2.1 dX3_init_12 ki_2 ?_
  refine cnewa (at0 := .int) (ty := .int) (a0 := (2, .inl (fun _ => 0))) (t := 0) S hK hA hW wa_int rfl rfl (fun _ => rfl) (by decide) (by decide) (by decide) (Nat.le_of_ble_eq_true rfl) (Nat.le_of_ble_eq_true rfl) dX3_init_13 (fun q13_1 H hW => ?_)
  have hW : wd (dC, dI) A s.heap ((h0, .inr (2, [.ref q6_0, .null, .null, .null, .null, .int 0, .int 0, .int 0, .int 0, .int 0])) :: ((q6_0, .inl (cI, 2, .inl (fun _ => 0))) :: ((q13_1, .inl (cI, 2, .inl (fun _ => 0))) :: []))) H locs := hW
  refine lv_dup S.1 S.2.1 dX3_init_15 rfl ?_
  refine lv_iconst (v := (0 : Int32)) S.1 S.2.1 dX3_init_16 ki_0 ?_
  refine lv_iconst (v := (1 : Int32)) S.1 S.2.1 dX3_init_17 ki_1 ?_
  refine cist S hK hW rfl 2 rfl b_0_2 x_0 dX3_init_18 (fun H locs hW => ?_)
  have hW : wd (dC, dI) A s.heap ((h0, .inr (2, [.ref q6_0, .null, .null, .null, .null, .int 0, .int 0, .int 0, .int 0, .int 0])) :: ((q6_0, .inl (cI, 2, .inl (fun _ => 0))) :: ((q13_1, .inl (cI, 2, .inl (upd (fun _ => 0) 0 (1 : Int32)))) :: []))) H locs := hW
  refine lv_dup S.1 S.2.1 dX3_init_19 rfl ?_
  refine lv_iconst (v := (1 : Int32)) S.1 S.2.1 dX3_init_20 ki_1 ?_
  refine lv_iconst (v := (1 : Int32)) S.1 S.2.1 dX3_init_21 ki_1 ?_
  refine cist S hK hW rfl 2 rfl b_1_2 x_1 dX3_init_22 (fun H locs hW => ?_)
  have hW : wd (dC, dI) A s.heap ((h0, .inr (2, [.ref q6_0, .null, .null, .null, .null, .int 0, .int 0, .int 0, .int 0, .int 0])) :: ((q6_0, .inl (cI, 2, .inl (fun _ => 0))) :: ((q13_1, .inl (cI, 2, .inl (upd (upd (fun _ => 0) 0 (1 : Int32)) 1 (1 : Int32)))) :: []))) H locs := hW
  refine cpff (C := RX3) (T := TX3) (N := 10) (ci := 2) (k := 1) S hK hW wu_X3 rfl (by decide) tyX3 tyX3_ok nmX3 wf_X3_15 0 rfl rfl hnm rfl rfl rfl rfl (Nat.le_of_ble_eq_true rfl) dX3_init_23 (fun H locs hW => ?_)
  have hW : wd (dC, dI) A s.heap ((h0, .inr (2, [.ref q6_0, .ref q13_1, .null, .null, .null, .int 0, .int 0, .int 0, .int 0, .int 0])) :: ((q6_0, .inl (cI, 2, .inl (fun _ => 0))) :: ((q13_1, .inl (cI, 2, .inl (upd (upd (fun _ => 0) 0 (1 : Int32)) 1 (1 : Int32)))) :: []))) H locs := hW
  refine lv_aload_n S.1 S.2.1 dX3_init_26 rfl (lv_at hl 0 rfl) ?_
  refine lv_bipush (v := (6 : Int32)) S.1 S.2.1 dX3_init_27 kb_6 ?_
  refine cnewa (at0 := .int) (ty := .int) (a0 := (6, .inl (fun _ => 0))) (t := 0) S hK hA hW wa_int rfl rfl (fun _ => rfl) (by decide) (by decide) (by decide) (Nat.le_of_ble_eq_true rfl) (Nat.le_of_ble_eq_true rfl) dX3_init_29 (fun q29_2 H hW => ?_)
  have hW : wd (dC, dI) A s.heap ((h0, .inr (2, [.ref q6_0, .ref q13_1, .null, .null, .null, .int 0, .int 0, .int 0, .int 0, .int 0])) :: ((q6_0, .inl (cI, 2, .inl (fun _ => 0))) :: ((q13_1, .inl (cI, 2, .inl (upd (upd (fun _ => 0) 0 (1 : Int32)) 1 (1 : Int32)))) :: ((q29_2, .inl (cI, 6, .inl (fun _ => 0))) :: [])))) H locs := hW
  refine cpff (C := RX3) (T := TX3) (N := 10) (ci := 2) (k := 2) S hK hW wu_X3 rfl (by decide) tyX3 tyX3_ok nmX3 wf_X3_18 0 rfl rfl hnm rfl rfl rfl rfl (Nat.le_of_ble_eq_true rfl) dX3_init_31 (fun H locs hW => ?_)
  have hW : wd (dC, dI) A s.heap ((h0, .inr (2, [.ref q6_0, .ref q13_1, .ref q29_2, .null, .null, .int 0, .int 0, .int 0, .int 0, .int 0])) :: ((q6_0, .inl (cI, 2, .inl (fun _ => 0))) :: ((q13_1, .inl (cI, 2, .inl (upd (upd (fun _ => 0) 0 (1 : Int32)) 1 (1 : Int32)))) :: ((q29_2, .inl (cI, 6, .inl (fun _ => 0))) :: [])))) H locs := hW
  refine lv_aload_n S.1 S.2.1 dX3_init_34 rfl (lv_at hl 0 rfl) ?_
  refine lv_bipush (v := (6 : Int32)) S.1 S.2.1 dX3_init_35 kb_6 ?_
  refine cnewa (at0 := .int) (ty := .int) (a0 := (6, .inl (fun _ => 0))) (t := 0) S hK hA hW wa_int rfl rfl (fun _ => rfl) (by decide) (by decide) (by decide) (Nat.le_of_ble_eq_true rfl) (Nat.le_of_ble_eq_true rfl) dX3_init_37 (fun q37_3 H hW => ?_)
  have hW : wd (dC, dI) A s.heap ((h0, .inr (2, [.ref q6_0, .ref q13_1, .ref q29_2, .null, .null, .int 0, .int 0, .int 0, .int 0, .int 0])) :: ((q6_0, .inl (cI, 2, .inl (fun _ => 0))) :: ((q13_1, .inl (cI, 2, .inl (upd (upd (fun _ => 0) 0 (1 : Int32)) 1 (1 : Int32)))) :: ((q29_2, .inl (cI, 6, .inl (fun _ => 0))) :: ((q37_3, .inl (cI, 6, .inl (fun _ => 0))) :: []))))) H locs := hW
  refine cpff (C := RX3) (T := TX3) (N := 10) (ci := 2) (k := 3) S hK hW wu_X3 rfl (by decide) tyX3 tyX3_ok nmX3 wf_X3_21 0 rfl rfl hnm rfl rfl rfl rfl (Nat.le_of_ble_eq_true rfl) dX3_init_39 (fun H locs hW => ?_)
  have hW : wd (dC, dI) A s.heap ((h0, .inr (2, [.ref q6_0, .ref q13_1, .ref q29_2, .ref q37_3, .null, .int 0, .int 0, .int 0, .int 0, .int 0])) :: ((q6_0, .inl (cI, 2, .inl (fun _ => 0))) :: ((q13_1, .inl (cI, 2, .inl (upd (upd (fun _ => 0) 0 (1 : Int32)) 1 (1 : Int32)))) :: ((q29_2, .inl (cI, 6, .inl (fun _ => 0))) :: ((q37_3, .inl (cI, 6, .inl (fun _ => 0))) :: []))))) H locs := hW
  refine lv_aload_n S.1 S.2.1 dX3_init_42 rfl (lv_at hl 0 rfl) ?_
  refine lv_bipush (v := (6 : Int32)) S.1 S.2.1 dX3_init_43 kb_6 ?_
  refine cnewa (at0 := .int) (ty := .int) (a0 := (6, .inl (fun _ => 0))) (t := 0) S hK hA hW wa_int rfl rfl (fun _ => rfl) (by decide) (by decide) (by decide) (Nat.le_of_ble_eq_true rfl) (Nat.le_of_ble_eq_true rfl) dX3_init_45 (fun q45_4 H hW => ?_)
  have hW : wd (dC, dI) A s.heap ((h0, .inr (2, [.ref q6_0, .ref q13_1, .ref q29_2, .ref q37_3, .null, .int 0, .int 0, .int 0, .int 0, .int 0])) :: ((q6_0, .inl (cI, 2, .inl (fun _ => 0))) :: ((q13_1, .inl (cI, 2, .inl (upd (upd (fun _ => 0) 0 (1 : Int32)) 1 (1 : Int32)))) :: ((q29_2, .inl (cI, 6, .inl (fun _ => 0))) :: ((q37_3, .inl (cI, 6, .inl (fun _ => 0))) :: ((q45_4, .inl (cI, 6, .inl (fun _ => 0))) :: [])))))) H locs := hW
  refine cpff (C := RX3) (T := TX3) (N := 10) (ci := 2) (k := 4) S hK hW wu_X3 rfl (by decide) tyX3 tyX3_ok nmX3 wf_X3_24 0 rfl rfl hnm rfl rfl rfl rfl (Nat.le_of_ble_eq_true rfl) dX3_init_47 (fun H locs hW => ?_)
  have hW : wd (dC, dI) A s.heap ((h0, .inr (2, [.ref q6_0, .ref q13_1, .ref q29_2, .ref q37_3, .ref q45_4, .int 0, .int 0, .int 0, .int 0, .int 0])) :: ((q6_0, .inl (cI, 2, .inl (fun _ => 0))) :: ((q13_1, .inl (cI, 2, .inl (upd (upd (fun _ => 0) 0 (1 : Int32)) 1 (1 : Int32)))) :: ((q29_2, .inl (cI, 6, .inl (fun _ => 0))) :: ((q37_3, .inl (cI, 6, .inl (fun _ => 0))) :: ((q45_4, .inl (cI, 6, .inl (fun _ => 0))) :: [])))))) H locs := hW
  refine lv_aload_n S.1 S.2.1 dX3_init_50 rfl (lv_at hl 0 rfl) ?_
  refine lv_iconst (v := (-1 : Int32)) S.1 S.2.1 dX3_init_51 ki_m1 ?_
  refine cpf (C := RX3) (T := TX3) (N := 10) (ci := 2) (k := 9) S hK hW wu_X3 rfl (by decide) tyX3 tyX3_ok nmX3 wf_X3_27 0 rfl rfl rfl rfl rfl (Nat.le_of_ble_eq_true rfl) dX3_init_52 (fun H locs hW => ?_)
  have hW : wd (dC, dI) A s.heap ((h0, .inr (2, [.ref q6_0, .ref q13_1, .ref q29_2, .ref q37_3, .ref q45_4, .int 0, .int 0, .int 0, .int 0, .int (-1 : Int32)])) :: ((q6_0, .inl (cI, 2, .inl (fun _ => 0))) :: ((q13_1, .inl (cI, 2, .inl (upd (upd (fun _ => 0) 0 (1 : Int32)) 1 (1 : Int32)))) :: ((q29_2, .inl (cI, 6, .inl (fun _ => 0))) :: ((q37_3, .inl (cI, 6, .inl (fun _ => 0))) :: ((q45_4, .inl (cI, 6, .inl (fun _ => 0))) :: [])))))) H locs := hW
  have hW : wd (dC, dI) A s.heap (cwX3 cI cJ cZ cB h0 (fun k => [q6_0, q13_1, q29_2, q37_3, q45_4, 0, 0, 0, 0, 0].getD k 0) cC0 []) H locs := hW
  subst hAe
  exact crv (W0 := [(h0, .inr (2, [.null, .null, .null, .null, .null, .int 0, .int 0, .int 0, .int 0, .int 0]))]) (post := (fun w1 => ∃ b0 : Nat → Nat, w1 = (cwX3 cI cJ cZ cB h0 b0 cC0 []))) S hr hlocks hW ⟨(fun k => [q6_0, q13_1, q29_2, q37_3, q45_4, 0, 0, 0, 0, 0].getD k 0), rfl⟩ dX3_init_55
set_option maxHeartbeats 4000000 in
set_option maxRecDepth 100000 in
theorem n_X7_init (l : Launch) (dC : Nat → ClassId) (dI : Nat → Nat → Nat) (cI cJ cZ cB : ClassId) (zz : ZT) (h0 : Nat) : cn l (dC, dI) zz (ty4 cI cJ cZ cB) yX7_init cX7_init 1 { frames := 1, cells := 1, slots := 150, locals := 12 } h0 (.inr (3, [.null, .int 0, .int 0, .int 0, .int 0, .int 0])) (fun w1 => ∃ b0 : Nat → Nat, w1 = (cwX7 cI cJ cZ cB h0 b0 cT0 [])) 1 150 := by
  refine cn_of (cc := cX7_init) (maxL := 1) (by decide) (by decide) ?_
  intro p e s m below meth c S hr hlocks hnm hK hN hZ hA H locs hW ls hl
  have hnm : meth.name = "<init>" := hnm
  have S : CallFix p m c cX7_init 1 s (List.toArray [.ref h0]) G RX7 := S
  obtain ⟨A, hAe⟩ : ∃ A, va_A [(h0, .inr (3, [.null, .int 0, .int 0, .int 0, .int 0, .int 0]))] s.heap.size = A := ⟨_, rfl⟩
  rw [hAe] at hZ hA hW
  refine lv_aload_n S.1 S.2.1 dX7_init_0 rfl (lv_at hl 0 rfl) ?_
  refine cObj S wl_X7_3 hl.1 dX7_init_1 (Nat.le_of_ble_eq_true rfl) (Nat.le_of_ble_eq_true rfl) ?_
  refine lv_aload_n S.1 S.2.1 dX7_init_4 rfl (lv_at hl 0 rfl) ?_
  refine lv_sipush (v := (150 : Int32)) S.1 S.2.1 dX7_init_5 ks_150 ?_
  refine cnewa (at0 := .int) (ty := .int) (a0 := (150, .inl (fun _ => 0))) (t := 0) S hK hA hW wa_int rfl rfl (fun _ => rfl) (by decide) (by decide) (by decide) (Nat.le_of_ble_eq_true rfl) (Nat.le_of_ble_eq_true rfl) dX7_init_8 (fun q8_0 H hW => ?_)
  have hW : wd (dC, dI) A s.heap ((h0, .inr (3, [.null, .int 0, .int 0, .int 0, .int 0, .int 0])) :: ((q8_0, .inl (cI, 150, .inl (fun _ => 0))) :: [])) H locs := hW
  refine cpff (C := RX7) (T := TX7) (N := 6) (ci := 3) (k := 0) S hK hW wu_X7 rfl (by decide) tyX7 tyX7_ok nmX7 wf_X7_9 0 rfl rfl hnm rfl rfl rfl rfl (Nat.le_of_ble_eq_true rfl) dX7_init_10 (fun H locs hW => ?_)
  have hW : wd (dC, dI) A s.heap ((h0, .inr (3, [.ref q8_0, .int 0, .int 0, .int 0, .int 0, .int 0])) :: ((q8_0, .inl (cI, 150, .inl (fun _ => 0))) :: [])) H locs := hW
  have hW : wd (dC, dI) A s.heap (cwX7 cI cJ cZ cB h0 (fun k => [q8_0, 0, 0, 0, 0, 0].getD k 0) cT0 []) H locs := hW
  subst hAe
  exact crv (W0 := [(h0, .inr (3, [.null, .int 0, .int 0, .int 0, .int 0, .int 0]))]) (post := (fun w1 => ∃ b0 : Nat → Nat, w1 = (cwX7 cI cJ cZ cB h0 b0 cT0 []))) S hr hlocks hW ⟨(fun k => [q8_0, 0, 0, 0, 0, 0].getD k 0), rfl⟩ dX7_init_13
set_option maxHeartbeats 4000000 in
set_option maxRecDepth 100000 in
theorem n_X1_init (l : Launch) (dC : Nat → ClassId) (dI : Nat → Nat → Nat) (cI cJ cZ cB : ClassId) (zz : ZT) (h0 : Nat) : cn l (dC, dI) zz (ty4 cI cJ cZ cB) yX1_init cX1_init 1 { frames := 2, cells := 10, slots := 98, locals := 32 } h0 (.inr (0, [.null, .null, .int 0, .null, .int 0, .null, .int 0, .null, .int 0])) (fun w1 => ∃ b0 b1 : Nat → Nat, w1 = (cwX1 cI cJ cZ cB h0 b0 cB0 wB0 (cwX3 cI cJ cZ cB (b0 0) b1 cC0 []))) 10 98 := by
  refine cn_of (cc := cX1_init) (maxL := 1) (by decide) (by decide) ?_
  intro p e s m below meth c S hr hlocks hnm hK hN hZ hA H locs hW ls hl
  have hnm : meth.name = "<init>" := hnm
  have S : CallFix p m c cX1_init 1 s (List.toArray [.ref h0]) G RX1 := S
  obtain ⟨A, hAe⟩ : ∃ A, va_A [(h0, .inr (0, [.null, .null, .int 0, .null, .int 0, .null, .int 0, .null, .int 0]))] s.heap.size = A := ⟨_, rfl⟩
  rw [hAe] at hZ hA hW
  refine lv_aload_n S.1 S.2.1 dX1_init_0 rfl (lv_at hl 0 rfl) ?_
  refine cObj S wl_X1_3 hl.1 dX1_init_1 (Nat.le_of_ble_eq_true rfl) (Nat.le_of_ble_eq_true rfl) ?_
  refine lv_aload_n S.1 S.2.1 dX1_init_4 rfl (lv_at hl 0 rfl) ?_
  refine cnew (ci := 2) (fs := [.null, .null, .null, .null, .null, .int 0, .int 0, .int 0, .int 0, .int 0]) (C := RX3) (T := TX3) (N := 10) S hK hA hW wu_X3 tyX3 tyX3_ok wc_X1_9 wn_X3 wi_X3 rfl df_X3 (Nat.le_of_ble_eq_true rfl) (Nat.le_of_ble_eq_true rfl) dX1_init_5 (fun q5_0 H hW => ?_)
  refine lv_dup S.1 S.2.1 dX1_init_8 rfl ?_
  refine kin (pre := ((h0, .inr (0, [.null, .null, .int 0, .null, .int 0, .null, .int 0, .null, .int 0])) :: [])) S hK hN hZ hA hW (n_X3_init l dC dI cI cJ cZ cB zz q5_0) wx_X1_11 wv_X3_init rfl rfl rfl ⟨Nat.le_of_ble_eq_true rfl, Nat.le_of_ble_eq_true rfl⟩ hl.1 (Nat.le_of_ble_eq_true rfl) dX1_init_9 ⟨Nat.le_of_ble_eq_true rfl, Nat.le_of_ble_eq_true rfl⟩ (fun H locs w1 hp hW => ?_)
  obtain ⟨b_9_1, rfl⟩ := hp
  have hW : wd (dC, dI) A s.heap ((h0, .inr (0, [.null, .null, .int 0, .null, .int 0, .null, .int 0, .null, .int 0])) :: (cwX3 cI cJ cZ cB q5_0 b_9_1 cC0 [])) H locs := hW
  refine cpff (C := RX1) (T := TX1) (N := 9) (ci := 0) (k := 0) S hK hW wu_X1 rfl (by decide) tyX1 tyX1_ok nmX1 wf_X1_12 0 rfl rfl hnm rfl rfl rfl rfl (Nat.le_of_ble_eq_true rfl) dX1_init_12 (fun H locs hW => ?_)
  have hW : wd (dC, dI) A s.heap ((h0, .inr (0, [.ref q5_0, .null, .int 0, .null, .int 0, .null, .int 0, .null, .int 0])) :: (cwX3 cI cJ cZ cB q5_0 b_9_1 cC0 [])) H locs := hW
  refine lv_aload_n S.1 S.2.1 dX1_init_15 rfl (lv_at hl 0 rfl) ?_
  refine lv_iconst (v := (4 : Int32)) S.1 S.2.1 dX1_init_16 ki_4 ?_
  refine cnewa (at0 := .int) (ty := .int) (a0 := (4, .inl (fun _ => 0))) (t := 0) S hK hA hW wa_int rfl rfl (fun _ => rfl) (by decide) (by decide) (by decide) (Nat.le_of_ble_eq_true rfl) (Nat.le_of_ble_eq_true rfl) dX1_init_17 (fun q17_2 H hW => ?_)
  have hW : wd (dC, dI) A s.heap ((h0, .inr (0, [.ref q5_0, .null, .int 0, .null, .int 0, .null, .int 0, .null, .int 0])) :: (cwX3 cI cJ cZ cB q5_0 b_9_1 cC0 ((q17_2, .inl (cI, 4, .inl (fun _ => 0))) :: []))) H locs := hW
  refine cpff (C := RX1) (T := TX1) (N := 9) (ci := 0) (k := 1) S hK hW wu_X1 rfl (by decide) tyX1 tyX1_ok nmX1 wf_X1_18 0 rfl rfl hnm rfl rfl rfl rfl (Nat.le_of_ble_eq_true rfl) dX1_init_19 (fun H locs hW => ?_)
  have hW : wd (dC, dI) A s.heap ((h0, .inr (0, [.ref q5_0, .ref q17_2, .int 0, .null, .int 0, .null, .int 0, .null, .int 0])) :: (cwX3 cI cJ cZ cB q5_0 b_9_1 cC0 ((q17_2, .inl (cI, 4, .inl (fun _ => 0))) :: []))) H locs := hW
  refine lv_aload_n S.1 S.2.1 dX1_init_22 rfl (lv_at hl 0 rfl) ?_
  refine lv_bipush (v := (30 : Int32)) S.1 S.2.1 dX1_init_23 kb_30 ?_
  refine cnewa (at0 := .int) (ty := .int) (a0 := (30, .inl (fun _ => 0))) (t := 0) S hK hA hW wa_int rfl rfl (fun _ => rfl) (by decide) (by decide) (by decide) (Nat.le_of_ble_eq_true rfl) (Nat.le_of_ble_eq_true rfl) dX1_init_25 (fun q25_3 H hW => ?_)
  have hW : wd (dC, dI) A s.heap ((h0, .inr (0, [.ref q5_0, .ref q17_2, .int 0, .null, .int 0, .null, .int 0, .null, .int 0])) :: (cwX3 cI cJ cZ cB q5_0 b_9_1 cC0 ((q17_2, .inl (cI, 4, .inl (fun _ => 0))) :: ((q25_3, .inl (cI, 30, .inl (fun _ => 0))) :: [])))) H locs := hW
  refine cpff (C := RX1) (T := TX1) (N := 9) (ci := 0) (k := 3) S hK hW wu_X1 rfl (by decide) tyX1 tyX1_ok nmX1 wf_X1_22 0 rfl rfl hnm rfl rfl rfl rfl (Nat.le_of_ble_eq_true rfl) dX1_init_27 (fun H locs hW => ?_)
  have hW : wd (dC, dI) A s.heap ((h0, .inr (0, [.ref q5_0, .ref q17_2, .int 0, .ref q25_3, .int 0, .null, .int 0, .null, .int 0])) :: (cwX3 cI cJ cZ cB q5_0 b_9_1 cC0 ((q17_2, .inl (cI, 4, .inl (fun _ => 0))) :: ((q25_3, .inl (cI, 30, .inl (fun _ => 0))) :: [])))) H locs := hW
  refine lv_aload_n S.1 S.2.1 dX1_init_30 rfl (lv_at hl 0 rfl) ?_
  refine lv_bipush (v := (24 : Int32)) S.1 S.2.1 dX1_init_31 kb_24 ?_
  refine cnewa (at0 := .int) (ty := .int) (a0 := (24, .inl (fun _ => 0))) (t := 0) S hK hA hW wa_int rfl rfl (fun _ => rfl) (by decide) (by decide) (by decide) (Nat.le_of_ble_eq_true rfl) (Nat.le_of_ble_eq_true rfl) dX1_init_33 (fun q33_4 H hW => ?_)
  have hW : wd (dC, dI) A s.heap ((h0, .inr (0, [.ref q5_0, .ref q17_2, .int 0, .ref q25_3, .int 0, .null, .int 0, .null, .int 0])) :: (cwX3 cI cJ cZ cB q5_0 b_9_1 cC0 ((q17_2, .inl (cI, 4, .inl (fun _ => 0))) :: ((q25_3, .inl (cI, 30, .inl (fun _ => 0))) :: ((q33_4, .inl (cI, 24, .inl (fun _ => 0))) :: []))))) H locs := hW
  refine cpff (C := RX1) (T := TX1) (N := 9) (ci := 0) (k := 5) S hK hW wu_X1 rfl (by decide) tyX1 tyX1_ok nmX1 wf_X1_25 0 rfl rfl hnm rfl rfl rfl rfl (Nat.le_of_ble_eq_true rfl) dX1_init_35 (fun H locs hW => ?_)
  have hW : wd (dC, dI) A s.heap ((h0, .inr (0, [.ref q5_0, .ref q17_2, .int 0, .ref q25_3, .int 0, .ref q33_4, .int 0, .null, .int 0])) :: (cwX3 cI cJ cZ cB q5_0 b_9_1 cC0 ((q17_2, .inl (cI, 4, .inl (fun _ => 0))) :: ((q25_3, .inl (cI, 30, .inl (fun _ => 0))) :: ((q33_4, .inl (cI, 24, .inl (fun _ => 0))) :: []))))) H locs := hW
  refine lv_aload_n S.1 S.2.1 dX1_init_38 rfl (lv_at hl 0 rfl) ?_
  refine lv_bipush (v := (8 : Int32)) S.1 S.2.1 dX1_init_39 kb_8 ?_
  refine cnewa (at0 := .long) (ty := .long) (a0 := (8, .inr (.inl (fun _ => 0)))) (t := 1) S hK hA hW wa_long rfl rfl (fun _ => rfl) (by decide) (by decide) (by decide) (Nat.le_of_ble_eq_true rfl) (Nat.le_of_ble_eq_true rfl) dX1_init_41 (fun q41_5 H hW => ?_)
  have hW : wd (dC, dI) A s.heap ((h0, .inr (0, [.ref q5_0, .ref q17_2, .int 0, .ref q25_3, .int 0, .ref q33_4, .int 0, .null, .int 0])) :: (cwX3 cI cJ cZ cB q5_0 b_9_1 cC0 ((q17_2, .inl (cI, 4, .inl (fun _ => 0))) :: ((q25_3, .inl (cI, 30, .inl (fun _ => 0))) :: ((q33_4, .inl (cI, 24, .inl (fun _ => 0))) :: ((q41_5, .inl (cJ, 8, .inr (.inl (fun _ => 0)))) :: [])))))) H locs := hW
  refine cpff (C := RX1) (T := TX1) (N := 9) (ci := 0) (k := 7) S hK hW wu_X1 rfl (by decide) tyX1 tyX1_ok nmX1 wf_X1_28 0 rfl rfl hnm rfl rfl rfl rfl (Nat.le_of_ble_eq_true rfl) dX1_init_43 (fun H locs hW => ?_)
  have hW : wd (dC, dI) A s.heap ((h0, .inr (0, [.ref q5_0, .ref q17_2, .int 0, .ref q25_3, .int 0, .ref q33_4, .int 0, .ref q41_5, .int 0])) :: (cwX3 cI cJ cZ cB q5_0 b_9_1 cC0 ((q17_2, .inl (cI, 4, .inl (fun _ => 0))) :: ((q25_3, .inl (cI, 30, .inl (fun _ => 0))) :: ((q33_4, .inl (cI, 24, .inl (fun _ => 0))) :: ((q41_5, .inl (cJ, 8, .inr (.inl (fun _ => 0)))) :: [])))))) H locs := hW
  have hW : wd (dC, dI) A s.heap (cwX1 cI cJ cZ cB h0 (fun k => [q5_0, q17_2, 0, q25_3, 0, q33_4, 0, q41_5, 0].getD k 0) cB0 wB0 (cwX3 cI cJ cZ cB ((fun k => [q5_0, q17_2, 0, q25_3, 0, q33_4, 0, q41_5, 0].getD k 0) 0) b_9_1 cC0 [])) H locs := wd_sub hW [0, 7, 8, 9, 10, 1, 2, 3, 4, 5, 6] rfl rfl
  subst hAe
  exact crv (W0 := [(h0, .inr (0, [.null, .null, .int 0, .null, .int 0, .null, .int 0, .null, .int 0]))]) (post := (fun w1 => ∃ b0 b1 : Nat → Nat, w1 = (cwX1 cI cJ cZ cB h0 b0 cB0 wB0 (cwX3 cI cJ cZ cB (b0 0) b1 cC0 [])))) S hr hlocks hW ⟨(fun k => [q5_0, q17_2, 0, q25_3, 0, q33_4, 0, q41_5, 0].getD k 0), b_9_1, rfl⟩ dX1_init_46
set_option maxHeartbeats 4000000 in
set_option maxRecDepth 100000 in
theorem n_X2_init (l : Launch) (dC : Nat → ClassId) (dI : Nat → Nat → Nat) (cI cJ cZ cB : ClassId) (zz : ZT) (h0 : Nat) : cn l (dC, dI) zz (ty4 cI cJ cZ cB) yX2_init cX2_init 1 { frames := 2, cells := 8, slots := 188, locals := 32 } h0 (.inr (1, [.null, .null])) (fun w1 => ∃ b0 b1 b2 : Nat → Nat, w1 = (cwX2 cI cJ cZ cB h0 b0  (cwX3 cI cJ cZ cB (b0 1) b1 cC0 (cwX7 cI cJ cZ cB (b0 0) b2 cT0 [])))) 8 188 := by
  refine cn_of (cc := cX2_init) (maxL := 1) (by decide) (by decide) ?_
  intro p e s m below meth c S hr hlocks hnm hK hN hZ hA H locs hW ls hl
  have hnm : meth.name = "<init>" := hnm
  have S : CallFix p m c cX2_init 1 s (List.toArray [.ref h0]) G RX2 := S
  obtain ⟨A, hAe⟩ : ∃ A, va_A [(h0, .inr (1, [.null, .null]))] s.heap.size = A := ⟨_, rfl⟩
  rw [hAe] at hZ hA hW
  refine lv_aload_n S.1 S.2.1 dX2_init_0 rfl (lv_at hl 0 rfl) ?_
  refine cObj S wl_X2_3 hl.1 dX2_init_1 (Nat.le_of_ble_eq_true rfl) (Nat.le_of_ble_eq_true rfl) ?_
  refine lv_aload_n S.1 S.2.1 dX2_init_4 rfl (lv_at hl 0 rfl) ?_
  refine cnew (ci := 3) (fs := [.null, .int 0, .int 0, .int 0, .int 0, .int 0]) (C := RX7) (T := TX7) (N := 6) S hK hA hW wu_X7 tyX7 tyX7_ok wc_X2_9 wn_X7 wi_X7 rfl df_X7 (Nat.le_of_ble_eq_true rfl) (Nat.le_of_ble_eq_true rfl) dX2_init_5 (fun q5_0 H hW => ?_)
  refine lv_dup S.1 S.2.1 dX2_init_8 rfl ?_
  refine kin (pre := ((h0, .inr (1, [.null, .null])) :: [])) S hK hN hZ hA hW (n_X7_init l dC dI cI cJ cZ cB zz q5_0) wx_X2_11 wv_X7_init rfl rfl rfl ⟨Nat.le_of_ble_eq_true rfl, Nat.le_of_ble_eq_true rfl⟩ hl.1 (Nat.le_of_ble_eq_true rfl) dX2_init_9 ⟨Nat.le_of_ble_eq_true rfl, Nat.le_of_ble_eq_true rfl⟩ (fun H locs w1 hp hW => ?_)
  obtain ⟨b_9_1, rfl⟩ := hp
  have hW : wd (dC, dI) A s.heap ((h0, .inr (1, [.null, .null])) :: (cwX7 cI cJ cZ cB q5_0 b_9_1 cT0 [])) H locs := hW
  refine cpff (C := RX2) (T := TX2) (N := 2) (ci := 1) (k := 0) S hK hW wu_X2 rfl (by decide) tyX2 tyX2_ok nmX2 wf_X2_12 0 rfl rfl hnm rfl rfl rfl rfl (Nat.le_of_ble_eq_true rfl) dX2_init_12 (fun H locs hW => ?_)
  have hW : wd (dC, dI) A s.heap ((h0, .inr (1, [.ref q5_0, .null])) :: (cwX7 cI cJ cZ cB q5_0 b_9_1 cT0 [])) H locs := hW
  refine lv_aload_n S.1 S.2.1 dX2_init_15 rfl (lv_at hl 0 rfl) ?_
  refine cnew (ci := 2) (fs := [.null, .null, .null, .null, .null, .int 0, .int 0, .int 0, .int 0, .int 0]) (C := RX3) (T := TX3) (N := 10) S hK hA hW wu_X3 tyX3 tyX3_ok wc_X2_18 wn_X3 wi_X3 rfl df_X3 (Nat.le_of_ble_eq_true rfl) (Nat.le_of_ble_eq_true rfl) dX2_init_16 (fun q16_2 H hW => ?_)
  refine lv_dup S.1 S.2.1 dX2_init_19 rfl ?_
  refine kin (pre := ((h0, .inr (1, [.ref q5_0, .null])) :: (cwX7 cI cJ cZ cB q5_0 b_9_1 cT0 []))) S hK hN hZ hA hW (n_X3_init l dC dI cI cJ cZ cB zz q16_2) wx_X2_20 wv_X3_init rfl rfl rfl ⟨Nat.le_of_ble_eq_true rfl, Nat.le_of_ble_eq_true rfl⟩ hl.1 (Nat.le_of_ble_eq_true rfl) dX2_init_20 ⟨Nat.le_of_ble_eq_true rfl, Nat.le_of_ble_eq_true rfl⟩ (fun H locs w1 hp hW => ?_)
  obtain ⟨b_20_3, rfl⟩ := hp
  have hW : wd (dC, dI) A s.heap ((h0, .inr (1, [.ref q5_0, .null])) :: (cwX7 cI cJ cZ cB q5_0 b_9_1 cT0 (cwX3 cI cJ cZ cB q16_2 b_20_3 cC0 []))) H locs := hW
  refine cpff (C := RX2) (T := TX2) (N := 2) (ci := 1) (k := 1) S hK hW wu_X2 rfl (by decide) tyX2 tyX2_ok nmX2 wf_X2_21 0 rfl rfl hnm rfl rfl rfl rfl (Nat.le_of_ble_eq_true rfl) dX2_init_23 (fun H locs hW => ?_)
  have hW : wd (dC, dI) A s.heap ((h0, .inr (1, [.ref q5_0, .ref q16_2])) :: (cwX7 cI cJ cZ cB q5_0 b_9_1 cT0 (cwX3 cI cJ cZ cB q16_2 b_20_3 cC0 []))) H locs := hW
  have hW : wd (dC, dI) A s.heap (cwX2 cI cJ cZ cB h0 (fun k => [q5_0, q16_2].getD k 0)  (cwX3 cI cJ cZ cB ((fun k => [q5_0, q16_2].getD k 0) 1) b_20_3 cC0 (cwX7 cI cJ cZ cB ((fun k => [q5_0, q16_2].getD k 0) 0) b_9_1 cT0 []))) H locs := wd_sub hW [0, 3, 4, 5, 6, 7, 8, 1, 2] rfl rfl
  subst hAe
  exact crv (W0 := [(h0, .inr (1, [.null, .null]))]) (post := (fun w1 => ∃ b0 b1 b2 : Nat → Nat, w1 = (cwX2 cI cJ cZ cB h0 b0  (cwX3 cI cJ cZ cB (b0 1) b1 cC0 (cwX7 cI cJ cZ cB (b0 0) b2 cT0 []))))) S hr hlocks hW ⟨(fun k => [q5_0, q16_2].getD k 0), b_20_3, b_9_1, rfl⟩ dX2_init_26
set_option maxHeartbeats 4000000 in
set_option maxRecDepth 100000 in
theorem n_X8_init (l : Launch) (dC : Nat → ClassId) (dI : Nat → Nat → Nat) (cI cJ cZ cB : ClassId) (zz : ZT) (h0 : Nat) : cn l (dC, dI) zz (ty4 cI cJ cZ cB) yX8_init cX8_init 2 { frames := 3, cells := 51, slots := 550, locals := 52 } h0 (.inr (4, [.null, .null, .null, .null, .null, .null, .long 0, .long 0])) (fun w1 => ∃ b0 b1 b2 b3 b4 b5 b6 b7 b8 b9 b10 : Nat → Nat, w1 = (cwX8 cI cJ cZ cB h0 b0 cS0 wS0 (cwX1 cI cJ cZ cB (b0 0) b1 cB0 wB0 (cwX3 cI cJ cZ cB (b1 0) b2 cC0 (cwX2 cI cJ cZ cB (b0 4) b3  (cwX3 cI cJ cZ cB (b3 1) b4 cC0 (cwX7 cI cJ cZ cB (b3 0) b5 cT0 (cwX1 cI cJ cZ cB (b0 8) b6 cB0 wB0 (cwX3 cI cJ cZ cB (b6 0) b7 cC0 (cwX1 cI cJ cZ cB (b0 9) b8 cB0 wB0 (cwX3 cI cJ cZ cB (b8 0) b9 cC0 (cwX3 cI cJ cZ cB (b0 3) b10 cC0 [])))))))))))) 51 550 := by
  refine cn_of (cc := cX8_init) (maxL := 2) (by decide) (by decide) ?_
  intro p e s m below meth c S hr hlocks hnm hK hN hZ hA H locs hW ls hl
  have hnm : meth.name = "<init>" := hnm
  have S : CallFix p m c cX8_init 2 s (List.toArray [.ref h0]) G RX8 := S
  have hO : va_AO RX1 s := hN.2
  obtain ⟨A, hAe⟩ : ∃ A, va_A [(h0, .inr (4, [.null, .null, .null, .null, .null, .null, .long 0, .long 0]))] s.heap.size = A := ⟨_, rfl⟩
  rw [hAe] at hZ hA hW
  refine lv_aload_n S.1 S.2.1 dX8_init_0 rfl (lv_at hl 0 rfl) ?_
  refine cObj S wl_X8_1 hl.1 dX8_init_1 (Nat.le_of_ble_eq_true rfl) (Nat.le_of_ble_eq_true rfl) ?_
  refine lv_aload_n S.1 S.2.1 dX8_init_4 rfl (lv_at hl 0 rfl) ?_
  refine cnew (ci := 0) (fs := [.null, .null, .int 0, .null, .int 0, .null, .int 0, .null, .int 0]) (C := RX1) (T := TX1) (N := 9) S hK hA hW wu_X1 tyX1 tyX1_ok wc_X8_7 wn_X1 wi_X1 rfl df_X1 (Nat.le_of_ble_eq_true rfl) (Nat.le_of_ble_eq_true rfl) dX8_init_5 (fun q5_0 H hW => ?_)
  refine lv_dup S.1 S.2.1 dX8_init_8 rfl ?_
  refine kin (pre := ((h0, .inr (4, [.null, .null, .null, .null, .null, .null, .long 0, .long 0])) :: [])) S hK hN hZ hA hW (n_X1_init l dC dI cI cJ cZ cB zz q5_0) wx_X8_9 wv_X1_init rfl rfl rfl ⟨Nat.le_of_ble_eq_true rfl, Nat.le_of_ble_eq_true rfl⟩ hl.1 (Nat.le_of_ble_eq_true rfl) dX8_init_9 ⟨Nat.le_of_ble_eq_true rfl, Nat.le_of_ble_eq_true rfl⟩ (fun H locs w1 hp hW => ?_)
  obtain ⟨b_9_1, b_9_2, rfl⟩ := hp
  have hW : wd (dC, dI) A s.heap ((h0, .inr (4, [.null, .null, .null, .null, .null, .null, .long 0, .long 0])) :: (cwX1 cI cJ cZ cB q5_0 b_9_1 cB0 wB0 (cwX3 cI cJ cZ cB (b_9_1 0) b_9_2 cC0 []))) H locs := hW
  refine cpff (C := RX8) (T := TX8) (N := 8) (ci := 4) (k := 0) S hK hW wu_X8 rfl (by decide) tyX8 tyX8_ok nmX8 wf_X8_10 0 rfl rfl hnm rfl rfl rfl rfl (Nat.le_of_ble_eq_true rfl) dX8_init_12 (fun H locs hW => ?_)
  have hW : wd (dC, dI) A s.heap ((h0, .inr (4, [.ref q5_0, .null, .null, .null, .null, .null, .long 0, .long 0])) :: (cwX1 cI cJ cZ cB q5_0 b_9_1 cB0 wB0 (cwX3 cI cJ cZ cB (b_9_1 0) b_9_2 cC0 []))) H locs := hW
  refine lv_aload_n S.1 S.2.1 dX8_init_15 rfl (lv_at hl 0 rfl) ?_
  refine lv_iconst (v := (2 : Int32)) S.1 S.2.1 dX8_init_16 ki_2 ?_
  refine cnewq (C := RX1) (t := 3) (N' := 2) S hK hA hW wc_X8_7 hO rfl (by decide) (by decide) (by decide) (Nat.le_of_ble_eq_true rfl) (Nat.le_of_ble_eq_true rfl) dX8_init_17 (fun q17_3 H hW => ?_)
  have hW : wd (dC, dI) A s.heap ((h0, .inr (4, [.ref q5_0, .null, .null, .null, .null, .null, .long 0, .long 0])) :: (cwX1 cI cJ cZ cB q5_0 b_9_1 cB0 wB0 (cwX3 cI cJ cZ cB (b_9_1 0) b_9_2 cC0 ((q17_3, .inl (cB, 2, .inr (.inr (.inr (.inr (fun _ => none)))))) :: [])))) H locs := hW
  refine cpff (C := RX8) (T := TX8) (N := 8) (ci := 4) (k := 1) S hK hW wu_X8 rfl (by decide) tyX8 tyX8_ok nmX8 wf_X8_16 0 rfl rfl hnm rfl rfl rfl rfl (Nat.le_of_ble_eq_true rfl) dX8_init_20 (fun H locs hW => ?_)
  have hW : wd (dC, dI) A s.heap ((h0, .inr (4, [.ref q5_0, .ref q17_3, .null, .null, .null, .null, .long 0, .long 0])) :: (cwX1 cI cJ cZ cB q5_0 b_9_1 cB0 wB0 (cwX3 cI cJ cZ cB (b_9_1 0) b_9_2 cC0 ((q17_3, .inl (cB, 2, .inr (.inr (.inr (.inr (fun _ => none)))))) :: [])))) H locs := hW
  refine lv_iconst (v := (0 : Int32)) S.1 S.2.1 dX8_init_23 ki_0 ?_
  refine lv_istore_n (lv' := [(1, .int (0 : Int32)), (0, .ref h0)]) S.1 S.2.1 dX8_init_24 rfl hl (by decide) rfl (fun ls hl => ?_)
  refine lv_iload_n S.1 S.2.1 dX8_init_25 rfl (lv_at hl 0 rfl) ?_
  refine lv_iconst (v := (2 : Int32)) S.1 S.2.1 dX8_init_26 ki_2 ?_
  refine lv_icmp_ge (tgt := 49) S.1 S.2.1 dX8_init_27 (by decide) (fun u => absurd u (by decide)) (fun u => ?_)
  refine lv_aload_n S.1 S.2.1 dX8_init_30 rfl (lv_at hl 1 rfl) ?_
  refine cgf (C := RX8) (T := TX8) (N := 8) (ci := 4) (k := 1) S hK hW wu_X8 rfl (by decide) wf_X8_16 0 rfl rfl dX8_init_31 ?_
  refine lv_iload_n S.1 S.2.1 dX8_init_34 rfl (lv_at hl 0 rfl) ?_
  refine cnew (ci := 0) (fs := [.null, .null, .int 0, .null, .int 0, .null, .int 0, .null, .int 0]) (C := RX1) (T := TX1) (N := 9) S hK hA hW wu_X1 tyX1 tyX1_ok wc_X8_7 wn_X1 wi_X1 rfl df_X1 (Nat.le_of_ble_eq_true rfl) (Nat.le_of_ble_eq_true rfl) dX8_init_35 (fun q35_4 H hW => ?_)
  refine lv_dup S.1 S.2.1 dX8_init_38 rfl ?_
  refine kin (pre := ((h0, .inr (4, [.ref q5_0, .ref q17_3, .null, .null, .null, .null, .long 0, .long 0])) :: (cwX1 cI cJ cZ cB q5_0 b_9_1 cB0 wB0 (cwX3 cI cJ cZ cB (b_9_1 0) b_9_2 cC0 ((q17_3, .inl (cB, 2, .inr (.inr (.inr (.inr (fun _ => none)))))) :: []))))) S hK hN hZ hA hW (n_X1_init l dC dI cI cJ cZ cB zz q35_4) wx_X8_9 wv_X1_init rfl rfl rfl ⟨Nat.le_of_ble_eq_true rfl, Nat.le_of_ble_eq_true rfl⟩ hl.1 (Nat.le_of_ble_eq_true rfl) dX8_init_39 ⟨Nat.le_of_ble_eq_true rfl, Nat.le_of_ble_eq_true rfl⟩ (fun H locs w1 hp hW => ?_)
  obtain ⟨b_39_5, b_39_6, rfl⟩ := hp
  have hW : wd (dC, dI) A s.heap ((h0, .inr (4, [.ref q5_0, .ref q17_3, .null, .null, .null, .null, .long 0, .long 0])) :: (cwX1 cI cJ cZ cB q5_0 b_9_1 cB0 wB0 (cwX3 cI cJ cZ cB (b_9_1 0) b_9_2 cC0 ((q17_3, .inl (cB, 2, .inr (.inr (.inr (.inr (fun _ => none)))))) :: (cwX1 cI cJ cZ cB q35_4 b_39_5 cB0 wB0 (cwX3 cI cJ cZ cB (b_39_5 0) b_39_6 cC0 [])))))) H locs := hW
  refine castq (t := 3) (kN := 0) S hK hW 12 13 rfl rfl rfl rfl (by decide) (by decide) dX8_init_42 (fun H locs hW => ?_)
  have hW : wd (dC, dI) A s.heap ((h0, .inr (4, [.ref q5_0, .ref q17_3, .null, .null, .null, .null, .long 0, .long 0])) :: (cwX1 cI cJ cZ cB q5_0 b_9_1 cB0 wB0 (cwX3 cI cJ cZ cB (b_9_1 0) b_9_2 cC0 ((q17_3, .inl (cB, 2, .inr (.inr (.inr (.inr (va_up (fun _ => none) 0 (some q35_4))))))) :: (cwX1 cI cJ cZ cB q35_4 b_39_5 cB0 wB0 (cwX3 cI cJ cZ cB (b_39_5 0) b_39_6 cC0 [])))))) H locs := hW
  refine lv_iinc (v := (1 : Int32)) (lv' := [(1, .int (1 : Int32)), (0, .ref h0)]) S.1 S.2.1 dX8_init_43 hl (k := 0) rfl (by decide) (by decide) rfl (fun ls hl => ?_)
  refine lv_goto (tgt := 25) S.1 S.2.1 dX8_init_46 (by decide) ?_
  refine lv_iload_n S.1 S.2.1 dX8_init_25 rfl (lv_at hl 0 rfl) ?_
  refine lv_iconst (v := (2 : Int32)) S.1 S.2.1 dX8_init_26 ki_2 ?_
  refine lv_icmp_ge (tgt := 49) S.1 S.2.1 dX8_init_27 (by decide) (fun u => absurd u (by decide)) (fun u => ?_)
  refine lv_aload_n S.1 S.2.1 dX8_init_30 rfl (lv_at hl 1 rfl) ?_
  refine cgf (C := RX8) (T := TX8) (N := 8) (ci := 4) (k := 1) S hK hW wu_X8 rfl (by decide) wf_X8_16 0 rfl rfl dX8_init_31 ?_
  refine lv_iload_n S.1 S.2.1 dX8_init_34 rfl (lv_at hl 0 rfl) ?_
  refine cnew (ci := 0) (fs := [.null, .null, .int 0, .null, .int 0, .null, .int 0, .null, .int 0]) (C := RX1) (T := TX1) (N := 9) S hK hA hW wu_X1 tyX1 tyX1_ok wc_X8_7 wn_X1 wi_X1 rfl df_X1 (Nat.le_of_ble_eq_true rfl) (Nat.le_of_ble_eq_true rfl) dX8_init_35 (fun q35_7 H hW => ?_)
  refine lv_dup S.1 S.2.1 dX8_init_38 rfl ?_
  refine kin (pre := ((h0, .inr (4, [.ref q5_0, .ref q17_3, .null, .null, .null, .null, .long 0, .long 0])) :: (cwX1 cI cJ cZ cB q5_0 b_9_1 cB0 wB0 (cwX3 cI cJ cZ cB (b_9_1 0) b_9_2 cC0 ((q17_3, .inl (cB, 2, .inr (.inr (.inr (.inr (va_up (fun _ => none) 0 (some q35_4))))))) :: (cwX1 cI cJ cZ cB q35_4 b_39_5 cB0 wB0 (cwX3 cI cJ cZ cB (b_39_5 0) b_39_6 cC0 []))))))) S hK hN hZ hA hW (n_X1_init l dC dI cI cJ cZ cB zz q35_7) wx_X8_9 wv_X1_init rfl rfl rfl ⟨Nat.le_of_ble_eq_true rfl, Nat.le_of_ble_eq_true rfl⟩ hl.1 (Nat.le_of_ble_eq_true rfl) dX8_init_39 ⟨Nat.le_of_ble_eq_true rfl, Nat.le_of_ble_eq_true rfl⟩ (fun H locs w1 hp hW => ?_)
  obtain ⟨b_39_8, b_39_9, rfl⟩ := hp
  have hW : wd (dC, dI) A s.heap ((h0, .inr (4, [.ref q5_0, .ref q17_3, .null, .null, .null, .null, .long 0, .long 0])) :: (cwX1 cI cJ cZ cB q5_0 b_9_1 cB0 wB0 (cwX3 cI cJ cZ cB (b_9_1 0) b_9_2 cC0 ((q17_3, .inl (cB, 2, .inr (.inr (.inr (.inr (va_up (fun _ => none) 0 (some q35_4))))))) :: (cwX1 cI cJ cZ cB q35_4 b_39_5 cB0 wB0 (cwX3 cI cJ cZ cB (b_39_5 0) b_39_6 cC0 (cwX1 cI cJ cZ cB q35_7 b_39_8 cB0 wB0 (cwX3 cI cJ cZ cB (b_39_8 0) b_39_9 cC0 [])))))))) H locs := hW
  refine castq (t := 3) (kN := 1) S hK hW 12 24 rfl rfl rfl rfl (by decide) (by decide) dX8_init_42 (fun H locs hW => ?_)
  have hW : wd (dC, dI) A s.heap ((h0, .inr (4, [.ref q5_0, .ref q17_3, .null, .null, .null, .null, .long 0, .long 0])) :: (cwX1 cI cJ cZ cB q5_0 b_9_1 cB0 wB0 (cwX3 cI cJ cZ cB (b_9_1 0) b_9_2 cC0 ((q17_3, .inl (cB, 2, .inr (.inr (.inr (.inr (va_up (va_up (fun _ => none) 0 (some q35_4)) 1 (some q35_7))))))) :: (cwX1 cI cJ cZ cB q35_4 b_39_5 cB0 wB0 (cwX3 cI cJ cZ cB (b_39_5 0) b_39_6 cC0 (cwX1 cI cJ cZ cB q35_7 b_39_8 cB0 wB0 (cwX3 cI cJ cZ cB (b_39_8 0) b_39_9 cC0 [])))))))) H locs := hW
  refine lv_iinc (v := (2 : Int32)) (lv' := [(1, .int (2 : Int32)), (0, .ref h0)]) S.1 S.2.1 dX8_init_43 hl (k := 0) rfl (by decide) (by decide) rfl (fun ls hl => ?_)
  refine lv_goto (tgt := 25) S.1 S.2.1 dX8_init_46 (by decide) ?_
  refine lv_iload_n S.1 S.2.1 dX8_init_25 rfl (lv_at hl 0 rfl) ?_
  refine lv_iconst (v := (2 : Int32)) S.1 S.2.1 dX8_init_26 ki_2 ?_
  refine lv_icmp_ge (tgt := 49) S.1 S.2.1 dX8_init_27 (by decide) (fun u => ?_) (fun u => absurd (by decide) u)
  refine lv_aload_n S.1 S.2.1 dX8_init_49 rfl (lv_at hl 1 rfl) ?_
  refine lv_iconst (v := (2 : Int32)) S.1 S.2.1 dX8_init_50 ki_2 ?_
  refine cnewa (at0 := .boolean) (ty := .boolean) (a0 := (2, .inl (fun _ => 0))) (t := 2) S hK hA hW wa_boolean rfl rfl (fun _ => rfl) (by decide) (by decide) (by decide) (Nat.le_of_ble_eq_true rfl) (Nat.le_of_ble_eq_true rfl) dX8_init_51 (fun q51_10 H hW => ?_)
  have hW : wd (dC, dI) A s.heap ((h0, .inr (4, [.ref q5_0, .ref q17_3, .null, .null, .null, .null, .long 0, .long 0])) :: (cwX1 cI cJ cZ cB q5_0 b_9_1 cB0 wB0 (cwX3 cI cJ cZ cB (b_9_1 0) b_9_2 cC0 ((q17_3, .inl (cB, 2, .inr (.inr (.inr (.inr (va_up (va_up (fun _ => none) 0 (some q35_4)) 1 (some q35_7))))))) :: (cwX1 cI cJ cZ cB q35_4 b_39_5 cB0 wB0 (cwX3 cI cJ cZ cB (b_39_5 0) b_39_6 cC0 (cwX1 cI cJ cZ cB q35_7 b_39_8 cB0 wB0 (cwX3 cI cJ cZ cB (b_39_8 0) b_39_9 cC0 ((q51_10, .inl (cZ, 2, .inl (fun _ => 0))) :: []))))))))) H locs := hW
  refine cpff (C := RX8) (T := TX8) (N := 8) (ci := 4) (k := 2) S hK hW wu_X8 rfl (by decide) tyX8 tyX8_ok nmX8 wf_X8_20 0 rfl rfl hnm rfl rfl rfl rfl (Nat.le_of_ble_eq_true rfl) dX8_init_53 (fun H locs hW => ?_)
  have hW : wd (dC, dI) A s.heap ((h0, .inr (4, [.ref q5_0, .ref q17_3, .ref q51_10, .null, .null, .null, .long 0, .long 0])) :: (cwX1 cI cJ cZ cB q5_0 b_9_1 cB0 wB0 (cwX3 cI cJ cZ cB (b_9_1 0) b_9_2 cC0 ((q17_3, .inl (cB, 2, .inr (.inr (.inr (.inr (va_up (va_up (fun _ => none) 0 (some q35_4)) 1 (some q35_7))))))) :: (cwX1 cI cJ cZ cB q35_4 b_39_5 cB0 wB0 (cwX3 cI cJ cZ cB (b_39_5 0) b_39_6 cC0 (cwX1 cI cJ cZ cB q35_7 b_39_8 cB0 wB0 (cwX3 cI cJ cZ cB (b_39_8 0) b_39_9 cC0 ((q51_10, .inl (cZ, 2, .inl (fun _ => 0))) :: []))))))))) H locs := hW
  refine lv_aload_n S.1 S.2.1 dX8_init_56 rfl (lv_at hl 1 rfl) ?_
  refine cnew (ci := 2) (fs := [.null, .null, .null, .null, .null, .int 0, .int 0, .int 0, .int 0, .int 0]) (C := RX3) (T := TX3) (N := 10) S hK hA hW wu_X3 tyX3 tyX3_ok wc_X8_24 wn_X3 wi_X3 rfl df_X3 (Nat.le_of_ble_eq_true rfl) (Nat.le_of_ble_eq_true rfl) dX8_init_57 (fun q57_11 H hW => ?_)
  refine lv_dup S.1 S.2.1 dX8_init_60 rfl ?_
  refine kin (pre := ((h0, .inr (4, [.ref q5_0, .ref q17_3, .ref q51_10, .null, .null, .null, .long 0, .long 0])) :: (cwX1 cI cJ cZ cB q5_0 b_9_1 cB0 wB0 (cwX3 cI cJ cZ cB (b_9_1 0) b_9_2 cC0 ((q17_3, .inl (cB, 2, .inr (.inr (.inr (.inr (va_up (va_up (fun _ => none) 0 (some q35_4)) 1 (some q35_7))))))) :: (cwX1 cI cJ cZ cB q35_4 b_39_5 cB0 wB0 (cwX3 cI cJ cZ cB (b_39_5 0) b_39_6 cC0 (cwX1 cI cJ cZ cB q35_7 b_39_8 cB0 wB0 (cwX3 cI cJ cZ cB (b_39_8 0) b_39_9 cC0 ((q51_10, .inl (cZ, 2, .inl (fun _ => 0))) :: [])))))))))) S hK hN hZ hA hW (n_X3_init l dC dI cI cJ cZ cB zz q57_11) wx_X8_26 wv_X3_init rfl rfl rfl ⟨Nat.le_of_ble_eq_true rfl, Nat.le_of_ble_eq_true rfl⟩ hl.1 (Nat.le_of_ble_eq_true rfl) dX8_init_61 ⟨Nat.le_of_ble_eq_true rfl, Nat.le_of_ble_eq_true rfl⟩ (fun H locs w1 hp hW => ?_)
  obtain ⟨b_61_12, rfl⟩ := hp
  have hW : wd (dC, dI) A s.heap ((h0, .inr (4, [.ref q5_0, .ref q17_3, .ref q51_10, .null, .null, .null, .long 0, .long 0])) :: (cwX1 cI cJ cZ cB q5_0 b_9_1 cB0 wB0 (cwX3 cI cJ cZ cB (b_9_1 0) b_9_2 cC0 ((q17_3, .inl (cB, 2, .inr (.inr (.inr (.inr (va_up (va_up (fun _ => none) 0 (some q35_4)) 1 (some q35_7))))))) :: (cwX1 cI cJ cZ cB q35_4 b_39_5 cB0 wB0 (cwX3 cI cJ cZ cB (b_39_5 0) b_39_6 cC0 (cwX1 cI cJ cZ cB q35_7 b_39_8 cB0 wB0 (cwX3 cI cJ cZ cB (b_39_8 0) b_39_9 cC0 ((q51_10, .inl (cZ, 2, .inl (fun _ => 0))) :: (cwX3 cI cJ cZ cB q57_11 b_61_12 cC0 [])))))))))) H locs := hW
  refine cpff (C := RX8) (T := TX8) (N := 8) (ci := 4) (k := 3) S hK hW wu_X8 rfl (by decide) tyX8 tyX8_ok nmX8 wf_X8_27 0 rfl rfl hnm rfl rfl rfl rfl (Nat.le_of_ble_eq_true rfl) dX8_init_64 (fun H locs hW => ?_)
  have hW : wd (dC, dI) A s.heap ((h0, .inr (4, [.ref q5_0, .ref q17_3, .ref q51_10, .ref q57_11, .null, .null, .long 0, .long 0])) :: (cwX1 cI cJ cZ cB q5_0 b_9_1 cB0 wB0 (cwX3 cI cJ cZ cB (b_9_1 0) b_9_2 cC0 ((q17_3, .inl (cB, 2, .inr (.inr (.inr (.inr (va_up (va_up (fun _ => none) 0 (some q35_4)) 1 (some q35_7))))))) :: (cwX1 cI cJ cZ cB q35_4 b_39_5 cB0 wB0 (cwX3 cI cJ cZ cB (b_39_5 0) b_39_6 cC0 (cwX1 cI cJ cZ cB q35_7 b_39_8 cB0 wB0 (cwX3 cI cJ cZ cB (b_39_8 0) b_39_9 cC0 ((q51_10, .inl (cZ, 2, .inl (fun _ => 0))) :: (cwX3 cI cJ cZ cB q57_11 b_61_12 cC0 [])))))))))) H locs := hW
  refine lv_aload_n S.1 S.2.1 dX8_init_67 rfl (lv_at hl 1 rfl) ?_
  refine cnew (ci := 1) (fs := [.null, .null]) (C := RX2) (T := TX2) (N := 2) S hK hA hW wu_X2 tyX2 tyX2_ok wc_X8_31 wn_X2 wi_X2 rfl df_X2 (Nat.le_of_ble_eq_true rfl) (Nat.le_of_ble_eq_true rfl) dX8_init_68 (fun q68_13 H hW => ?_)
  refine lv_dup S.1 S.2.1 dX8_init_71 rfl ?_
  refine kin (pre := ((h0, .inr (4, [.ref q5_0, .ref q17_3, .ref q51_10, .ref q57_11, .null, .null, .long 0, .long 0])) :: (cwX1 cI cJ cZ cB q5_0 b_9_1 cB0 wB0 (cwX3 cI cJ cZ cB (b_9_1 0) b_9_2 cC0 ((q17_3, .inl (cB, 2, .inr (.inr (.inr (.inr (va_up (va_up (fun _ => none) 0 (some q35_4)) 1 (some q35_7))))))) :: (cwX1 cI cJ cZ cB q35_4 b_39_5 cB0 wB0 (cwX3 cI cJ cZ cB (b_39_5 0) b_39_6 cC0 (cwX1 cI cJ cZ cB q35_7 b_39_8 cB0 wB0 (cwX3 cI cJ cZ cB (b_39_8 0) b_39_9 cC0 ((q51_10, .inl (cZ, 2, .inl (fun _ => 0))) :: (cwX3 cI cJ cZ cB q57_11 b_61_12 cC0 []))))))))))) S hK hN hZ hA hW (n_X2_init l dC dI cI cJ cZ cB zz q68_13) wx_X8_33 wv_X2_init rfl rfl rfl ⟨Nat.le_of_ble_eq_true rfl, Nat.le_of_ble_eq_true rfl⟩ hl.1 (Nat.le_of_ble_eq_true rfl) dX8_init_72 ⟨Nat.le_of_ble_eq_true rfl, Nat.le_of_ble_eq_true rfl⟩ (fun H locs w1 hp hW => ?_)
  obtain ⟨b_72_14, b_72_15, b_72_16, rfl⟩ := hp
  have hW : wd (dC, dI) A s.heap ((h0, .inr (4, [.ref q5_0, .ref q17_3, .ref q51_10, .ref q57_11, .null, .null, .long 0, .long 0])) :: (cwX1 cI cJ cZ cB q5_0 b_9_1 cB0 wB0 (cwX3 cI cJ cZ cB (b_9_1 0) b_9_2 cC0 ((q17_3, .inl (cB, 2, .inr (.inr (.inr (.inr (va_up (va_up (fun _ => none) 0 (some q35_4)) 1 (some q35_7))))))) :: (cwX1 cI cJ cZ cB q35_4 b_39_5 cB0 wB0 (cwX3 cI cJ cZ cB (b_39_5 0) b_39_6 cC0 (cwX1 cI cJ cZ cB q35_7 b_39_8 cB0 wB0 (cwX3 cI cJ cZ cB (b_39_8 0) b_39_9 cC0 ((q51_10, .inl (cZ, 2, .inl (fun _ => 0))) :: (cwX3 cI cJ cZ cB q57_11 b_61_12 cC0 (cwX2 cI cJ cZ cB q68_13 b_72_14  (cwX3 cI cJ cZ cB (b_72_14 1) b_72_15 cC0 (cwX7 cI cJ cZ cB (b_72_14 0) b_72_16 cT0 []))))))))))))) H locs := hW
  refine cpff (C := RX8) (T := TX8) (N := 8) (ci := 4) (k := 4) S hK hW wu_X8 rfl (by decide) tyX8 tyX8_ok nmX8 wf_X8_34 0 rfl rfl hnm rfl rfl rfl rfl (Nat.le_of_ble_eq_true rfl) dX8_init_75 (fun H locs hW => ?_)
  have hW : wd (dC, dI) A s.heap ((h0, .inr (4, [.ref q5_0, .ref q17_3, .ref q51_10, .ref q57_11, .ref q68_13, .null, .long 0, .long 0])) :: (cwX1 cI cJ cZ cB q5_0 b_9_1 cB0 wB0 (cwX3 cI cJ cZ cB (b_9_1 0) b_9_2 cC0 ((q17_3, .inl (cB, 2, .inr (.inr (.inr (.inr (va_up (va_up (fun _ => none) 0 (some q35_4)) 1 (some q35_7))))))) :: (cwX1 cI cJ cZ cB q35_4 b_39_5 cB0 wB0 (cwX3 cI cJ cZ cB (b_39_5 0) b_39_6 cC0 (cwX1 cI cJ cZ cB q35_7 b_39_8 cB0 wB0 (cwX3 cI cJ cZ cB (b_39_8 0) b_39_9 cC0 ((q51_10, .inl (cZ, 2, .inl (fun _ => 0))) :: (cwX3 cI cJ cZ cB q57_11 b_61_12 cC0 (cwX2 cI cJ cZ cB q68_13 b_72_14  (cwX3 cI cJ cZ cB (b_72_14 1) b_72_15 cC0 (cwX7 cI cJ cZ cB (b_72_14 0) b_72_16 cT0 []))))))))))))) H locs := hW
  refine lv_aload_n S.1 S.2.1 dX8_init_78 rfl (lv_at hl 1 rfl) ?_
  refine lv_iconst (v := (3 : Int32)) S.1 S.2.1 dX8_init_79 ki_3 ?_
  refine cnewa (at0 := .int) (ty := .int) (a0 := (3, .inl (fun _ => 0))) (t := 0) S hK hA hW wa_int rfl rfl (fun _ => rfl) (by decide) (by decide) (by decide) (Nat.le_of_ble_eq_true rfl) (Nat.le_of_ble_eq_true rfl) dX8_init_80 (fun q80_17 H hW => ?_)
  have hW : wd (dC, dI) A s.heap ((h0, .inr (4, [.ref q5_0, .ref q17_3, .ref q51_10, .ref q57_11, .ref q68_13, .null, .long 0, .long 0])) :: (cwX1 cI cJ cZ cB q5_0 b_9_1 cB0 wB0 (cwX3 cI cJ cZ cB (b_9_1 0) b_9_2 cC0 ((q17_3, .inl (cB, 2, .inr (.inr (.inr (.inr (va_up (va_up (fun _ => none) 0 (some q35_4)) 1 (some q35_7))))))) :: (cwX1 cI cJ cZ cB q35_4 b_39_5 cB0 wB0 (cwX3 cI cJ cZ cB (b_39_5 0) b_39_6 cC0 (cwX1 cI cJ cZ cB q35_7 b_39_8 cB0 wB0 (cwX3 cI cJ cZ cB (b_39_8 0) b_39_9 cC0 ((q51_10, .inl (cZ, 2, .inl (fun _ => 0))) :: (cwX3 cI cJ cZ cB q57_11 b_61_12 cC0 (cwX2 cI cJ cZ cB q68_13 b_72_14  (cwX3 cI cJ cZ cB (b_72_14 1) b_72_15 cC0 (cwX7 cI cJ cZ cB (b_72_14 0) b_72_16 cT0 ((q80_17, .inl (cI, 3, .inl (fun _ => 0))) :: [])))))))))))))) H locs := hW
  refine cpff (C := RX8) (T := TX8) (N := 8) (ci := 4) (k := 5) S hK hW wu_X8 rfl (by decide) tyX8 tyX8_ok nmX8 wf_X8_38 0 rfl rfl hnm rfl rfl rfl rfl (Nat.le_of_ble_eq_true rfl) dX8_init_82 (fun H locs hW => ?_)
  have hW : wd (dC, dI) A s.heap ((h0, .inr (4, [.ref q5_0, .ref q17_3, .ref q51_10, .ref q57_11, .ref q68_13, .ref q80_17, .long 0, .long 0])) :: (cwX1 cI cJ cZ cB q5_0 b_9_1 cB0 wB0 (cwX3 cI cJ cZ cB (b_9_1 0) b_9_2 cC0 ((q17_3, .inl (cB, 2, .inr (.inr (.inr (.inr (va_up (va_up (fun _ => none) 0 (some q35_4)) 1 (some q35_7))))))) :: (cwX1 cI cJ cZ cB q35_4 b_39_5 cB0 wB0 (cwX3 cI cJ cZ cB (b_39_5 0) b_39_6 cC0 (cwX1 cI cJ cZ cB q35_7 b_39_8 cB0 wB0 (cwX3 cI cJ cZ cB (b_39_8 0) b_39_9 cC0 ((q51_10, .inl (cZ, 2, .inl (fun _ => 0))) :: (cwX3 cI cJ cZ cB q57_11 b_61_12 cC0 (cwX2 cI cJ cZ cB q68_13 b_72_14  (cwX3 cI cJ cZ cB (b_72_14 1) b_72_15 cC0 (cwX7 cI cJ cZ cB (b_72_14 0) b_72_16 cT0 ((q80_17, .inl (cI, 3, .inl (fun _ => 0))) :: [])))))))))))))) H locs := hW
  refine lv_aload_n S.1 S.2.1 dX8_init_85 rfl (lv_at hl 1 rfl) ?_
  refine lv_lconst (v := (0 : Int64)) S.1 S.2.1 dX8_init_86 rfl ?_
  refine cpf (C := RX8) (T := TX8) (N := 8) (ci := 4) (k := 6) S hK hW wu_X8 rfl (by decide) tyX8 tyX8_ok nmX8 wf_X8_42 0 rfl rfl rfl rfl rfl (Nat.le_of_ble_eq_true rfl) dX8_init_87 (fun H locs hW => ?_)
  have hW : wd (dC, dI) A s.heap ((h0, .inr (4, [.ref q5_0, .ref q17_3, .ref q51_10, .ref q57_11, .ref q68_13, .ref q80_17, .long (0 : Int64), .long 0])) :: (cwX1 cI cJ cZ cB q5_0 b_9_1 cB0 wB0 (cwX3 cI cJ cZ cB (b_9_1 0) b_9_2 cC0 ((q17_3, .inl (cB, 2, .inr (.inr (.inr (.inr (va_up (va_up (fun _ => none) 0 (some q35_4)) 1 (some q35_7))))))) :: (cwX1 cI cJ cZ cB q35_4 b_39_5 cB0 wB0 (cwX3 cI cJ cZ cB (b_39_5 0) b_39_6 cC0 (cwX1 cI cJ cZ cB q35_7 b_39_8 cB0 wB0 (cwX3 cI cJ cZ cB (b_39_8 0) b_39_9 cC0 ((q51_10, .inl (cZ, 2, .inl (fun _ => 0))) :: (cwX3 cI cJ cZ cB q57_11 b_61_12 cC0 (cwX2 cI cJ cZ cB q68_13 b_72_14  (cwX3 cI cJ cZ cB (b_72_14 1) b_72_15 cC0 (cwX7 cI cJ cZ cB (b_72_14 0) b_72_16 cT0 ((q80_17, .inl (cI, 3, .inl (fun _ => 0))) :: [])))))))))))))) H locs := hW
  refine lv_aload_n S.1 S.2.1 dX8_init_90 rfl (lv_at hl 1 rfl) ?_
  refine lv_lconst (v := (1 : Int64)) S.1 S.2.1 dX8_init_91 rfl ?_
  refine cpf (C := RX8) (T := TX8) (N := 8) (ci := 4) (k := 7) S hK hW wu_X8 rfl (by decide) tyX8 tyX8_ok nmX8 wf_X8_46 0 rfl rfl rfl rfl rfl (Nat.le_of_ble_eq_true rfl) dX8_init_92 (fun H locs hW => ?_)
  have hW : wd (dC, dI) A s.heap ((h0, .inr (4, [.ref q5_0, .ref q17_3, .ref q51_10, .ref q57_11, .ref q68_13, .ref q80_17, .long (0 : Int64), .long (1 : Int64)])) :: (cwX1 cI cJ cZ cB q5_0 b_9_1 cB0 wB0 (cwX3 cI cJ cZ cB (b_9_1 0) b_9_2 cC0 ((q17_3, .inl (cB, 2, .inr (.inr (.inr (.inr (va_up (va_up (fun _ => none) 0 (some q35_4)) 1 (some q35_7))))))) :: (cwX1 cI cJ cZ cB q35_4 b_39_5 cB0 wB0 (cwX3 cI cJ cZ cB (b_39_5 0) b_39_6 cC0 (cwX1 cI cJ cZ cB q35_7 b_39_8 cB0 wB0 (cwX3 cI cJ cZ cB (b_39_8 0) b_39_9 cC0 ((q51_10, .inl (cZ, 2, .inl (fun _ => 0))) :: (cwX3 cI cJ cZ cB q57_11 b_61_12 cC0 (cwX2 cI cJ cZ cB q68_13 b_72_14  (cwX3 cI cJ cZ cB (b_72_14 1) b_72_15 cC0 (cwX7 cI cJ cZ cB (b_72_14 0) b_72_16 cT0 ((q80_17, .inl (cI, 3, .inl (fun _ => 0))) :: [])))))))))))))) H locs := hW
  have hW : wd (dC, dI) A s.heap (cwX8 cI cJ cZ cB h0 (fun k => [q5_0, q17_3, q51_10, q57_11, q68_13, q80_17, 0, 0, q35_4, q35_7].getD k 0) cS0 wS0 (cwX1 cI cJ cZ cB ((fun k => [q5_0, q17_3, q51_10, q57_11, q68_13, q80_17, 0, 0, q35_4, q35_7].getD k 0) 0) b_9_1 cB0 wB0 (cwX3 cI cJ cZ cB (b_9_1 0) b_9_2 cC0 (cwX2 cI cJ cZ cB ((fun k => [q5_0, q17_3, q51_10, q57_11, q68_13, q80_17, 0, 0, q35_4, q35_7].getD k 0) 4) b_72_14  (cwX3 cI cJ cZ cB (b_72_14 1) b_72_15 cC0 (cwX7 cI cJ cZ cB (b_72_14 0) b_72_16 cT0 (cwX1 cI cJ cZ cB ((fun k => [q5_0, q17_3, q51_10, q57_11, q68_13, q80_17, 0, 0, q35_4, q35_7].getD k 0) 8) b_39_5 cB0 wB0 (cwX3 cI cJ cZ cB (b_39_5 0) b_39_6 cC0 (cwX1 cI cJ cZ cB ((fun k => [q5_0, q17_3, q51_10, q57_11, q68_13, q80_17, 0, 0, q35_4, q35_7].getD k 0) 9) b_39_8 cB0 wB0 (cwX3 cI cJ cZ cB (b_39_8 0) b_39_9 cC0 (cwX3 cI cJ cZ cB ((fun k => [q5_0, q17_3, q51_10, q57_11, q68_13, q80_17, 0, 0, q35_4, q35_7].getD k 0) 3) b_61_12 cC0 []))))))))))) H locs := wd_sub hW [0, 12, 35, 51, 1, 2, 3, 4, 5, 6, 7, 8, 9, 10, 11, 42, 43, 44, 45, 46, 47, 48, 49, 50, 13, 14, 15, 16, 17, 18, 19, 20, 21, 22, 23, 24, 25, 26, 27, 28, 29, 30, 31, 32, 33, 34, 36, 37, 38, 39, 40, 41] rfl rfl
  subst hAe
  exact crv (W0 := [(h0, .inr (4, [.null, .null, .null, .null, .null, .null, .long 0, .long 0]))]) (post := (fun w1 => ∃ b0 b1 b2 b3 b4 b5 b6 b7 b8 b9 b10 : Nat → Nat, w1 = (cwX8 cI cJ cZ cB h0 b0 cS0 wS0 (cwX1 cI cJ cZ cB (b0 0) b1 cB0 wB0 (cwX3 cI cJ cZ cB (b1 0) b2 cC0 (cwX2 cI cJ cZ cB (b0 4) b3  (cwX3 cI cJ cZ cB (b3 1) b4 cC0 (cwX7 cI cJ cZ cB (b3 0) b5 cT0 (cwX1 cI cJ cZ cB (b0 8) b6 cB0 wB0 (cwX3 cI cJ cZ cB (b6 0) b7 cC0 (cwX1 cI cJ cZ cB (b0 9) b8 cB0 wB0 (cwX3 cI cJ cZ cB (b8 0) b9 cC0 (cwX3 cI cJ cZ cB (b0 3) b10 cC0 []))))))))))))) S hr hlocks hW ⟨(fun k => [q5_0, q17_3, q51_10, q57_11, q68_13, q80_17, 0, 0, q35_4, q35_7].getD k 0), b_9_1, b_9_2, b_72_14, b_72_15, b_72_16, b_39_5, b_39_6, b_39_8, b_39_9, b_61_12, rfl⟩ dX8_init_95
set_option maxHeartbeats 4000000 in
set_option maxRecDepth 100000 in
theorem n_X9_init (l : Launch) (dC : Nat → ClassId) (dI : Nat → Nat → Nat) (cI cJ cZ cB : ClassId) (zz : ZT) (h0 : Nat) (F : Nat) (cb : Nat → Nat → Int32) (hcb : md_X9_begin F (fun _ _ => 0) (0 : Int32) (0 : Int32) = some cb) : cn l (dC, dI) zz (ty4 cI cJ cZ cB) yX9_init cX9_init 1 { frames := 3, cells := 17, slots := 964, locals := 60 } h0 (.inr (5, [.null, .null, .null, .null, .long 0, .long 0, .null, .null, .null, .null, .null, .null, .null, .null, .int 0, .int 0, .int 0, .int 0, .null, .null, .null, .int 0, .int 0, .int 0, .int 0, .int 0, .null, .null])) (fun w1 => ∃ b0 : Nat → Nat, w1 = (cwX9 cI cJ cZ cB h0 b0 (cM0 cb) wM0 [])) 17 964 := by
  refine cn_of (cc := cX9_init) (maxL := 1) (by decide) (by decide) ?_
  intro p e s m below meth c S hr hlocks hnm hK hN hZ hA H locs hW ls hl
  have hnm : meth.name = "<init>" := hnm
  have S : CallFix p m c cX9_init 1 s (List.toArray [.ref h0]) G RX9 := S
  obtain ⟨A, hAe⟩ : ∃ A, va_A [(h0, .inr (5, [.null, .null, .null, .null, .long 0, .long 0, .null, .null, .null, .null, .null, .null, .null, .null, .int 0, .int 0, .int 0, .int 0, .null, .null, .null, .int 0, .int 0, .int 0, .int 0, .int 0, .null, .null]))] s.heap.size = A := ⟨_, rfl⟩
  rw [hAe] at hZ hA hW
  refine lv_aload_n S.1 S.2.1 dX9_init_0 rfl (lv_at hl 0 rfl) ?_
  refine cObj S wl_X9_1 hl.1 dX9_init_1 (Nat.le_of_ble_eq_true rfl) (Nat.le_of_ble_eq_true rfl) ?_
  refine lv_aload_n S.1 S.2.1 dX9_init_4 rfl (lv_at hl 0 rfl) ?_
  refine lv_sipush (v := (194 : Int32)) S.1 S.2.1 dX9_init_5 ks_194 ?_
  refine cnewa (at0 := .int) (ty := .int) (a0 := (194, .inl (fun _ => 0))) (t := 0) S hK hA hW wa_int rfl rfl (fun _ => rfl) (by decide) (by decide) (by decide) (Nat.le_of_ble_eq_true rfl) (Nat.le_of_ble_eq_true rfl) dX9_init_8 (fun q8_0 H hW => ?_)
  have hW : wd (dC, dI) A s.heap ((h0, .inr (5, [.null, .null, .null, .null, .long 0, .long 0, .null, .null, .null, .null, .null, .null, .null, .null, .int 0, .int 0, .int 0, .int 0, .null, .null, .null, .int 0, .int 0, .int 0, .int 0, .int 0, .null, .null])) :: ((q8_0, .inl (cI, 194, .inl (fun _ => 0))) :: [])) H locs := hW
  refine cpff (C := RX9) (T := TX9) (N := 28) (ci := 5) (k := 0) S hK hW wu_X9 rfl (by decide) tyX9 tyX9_ok nmX9 wf_X9_7 0 rfl rfl hnm rfl rfl rfl rfl (Nat.le_of_ble_eq_true rfl) dX9_init_10 (fun H locs hW => ?_)
  have hW : wd (dC, dI) A s.heap ((h0, .inr (5, [.ref q8_0, .null, .null, .null, .long 0, .long 0, .null, .null, .null, .null, .null, .null, .null, .null, .int 0, .int 0, .int 0, .int 0, .null, .null, .null, .int 0, .int 0, .int 0, .int 0, .int 0, .null, .null])) :: ((q8_0, .inl (cI, 194, .inl (fun _ => 0))) :: [])) H locs := hW
  refine lv_aload_n S.1 S.2.1 dX9_init_13 rfl (lv_at hl 0 rfl) ?_
  refine lv_sipush (v := (388 : Int32)) S.1 S.2.1 dX9_init_14 ks_388 ?_
  refine cnewa (at0 := .int) (ty := .int) (a0 := (388, .inl (fun _ => 0))) (t := 0) S hK hA hW wa_int rfl rfl (fun _ => rfl) (by decide) (by decide) (by decide) (Nat.le_of_ble_eq_true rfl) (Nat.le_of_ble_eq_true rfl) dX9_init_17 (fun q17_1 H hW => ?_)
  have hW : wd (dC, dI) A s.heap ((h0, .inr (5, [.ref q8_0, .null, .null, .null, .long 0, .long 0, .null, .null, .null, .null, .null, .null, .null, .null, .int 0, .int 0, .int 0, .int 0, .null, .null, .null, .int 0, .int 0, .int 0, .int 0, .int 0, .null, .null])) :: ((q8_0, .inl (cI, 194, .inl (fun _ => 0))) :: ((q17_1, .inl (cI, 388, .inl (fun _ => 0))) :: []))) H locs := hW
  refine cpff (C := RX9) (T := TX9) (N := 28) (ci := 5) (k := 1) S hK hW wu_X9 rfl (by decide) tyX9 tyX9_ok nmX9 wf_X9_13 0 rfl rfl hnm rfl rfl rfl rfl (Nat.le_of_ble_eq_true rfl) dX9_init_19 (fun H locs hW => ?_)
  have hW : wd (dC, dI) A s.heap ((h0, .inr (5, [.ref q8_0, .ref q17_1, .null, .null, .long 0, .long 0, .null, .null, .null, .null, .null, .null, .null, .null, .int 0, .int 0, .int 0, .int 0, .null, .null, .null, .int 0, .int 0, .int 0, .int 0, .int 0, .null, .null])) :: ((q8_0, .inl (cI, 194, .inl (fun _ => 0))) :: ((q17_1, .inl (cI, 388, .inl (fun _ => 0))) :: []))) H locs := hW
  refine lv_aload_n S.1 S.2.1 dX9_init_22 rfl (lv_at hl 0 rfl) ?_
  refine lv_iconst (v := (2 : Int32)) S.1 S.2.1 dX9_init_23 ki_2 ?_
  refine cnewa (at0 := .boolean) (ty := .boolean) (a0 := (2, .inl (fun _ => 0))) (t := 2) S hK hA hW wa_boolean rfl rfl (fun _ => rfl) (by decide) (by decide) (by decide) (Nat.le_of_ble_eq_true rfl) (Nat.le_of_ble_eq_true rfl) dX9_init_24 (fun q24_2 H hW => ?_)
  have hW : wd (dC, dI) A s.heap ((h0, .inr (5, [.ref q8_0, .ref q17_1, .null, .null, .long 0, .long 0, .null, .null, .null, .null, .null, .null, .null, .null, .int 0, .int 0, .int 0, .int 0, .null, .null, .null, .int 0, .int 0, .int 0, .int 0, .int 0, .null, .null])) :: ((q8_0, .inl (cI, 194, .inl (fun _ => 0))) :: ((q17_1, .inl (cI, 388, .inl (fun _ => 0))) :: ((q24_2, .inl (cZ, 2, .inl (fun _ => 0))) :: [])))) H locs := hW
  refine cpff (C := RX9) (T := TX9) (N := 28) (ci := 5) (k := 2) S hK hW wu_X9 rfl (by decide) tyX9 tyX9_ok nmX9 wf_X9_16 0 rfl rfl hnm rfl rfl rfl rfl (Nat.le_of_ble_eq_true rfl) dX9_init_26 (fun H locs hW => ?_)
  have hW : wd (dC, dI) A s.heap ((h0, .inr (5, [.ref q8_0, .ref q17_1, .ref q24_2, .null, .long 0, .long 0, .null, .null, .null, .null, .null, .null, .null, .null, .int 0, .int 0, .int 0, .int 0, .null, .null, .null, .int 0, .int 0, .int 0, .int 0, .int 0, .null, .null])) :: ((q8_0, .inl (cI, 194, .inl (fun _ => 0))) :: ((q17_1, .inl (cI, 388, .inl (fun _ => 0))) :: ((q24_2, .inl (cZ, 2, .inl (fun _ => 0))) :: [])))) H locs := hW
  refine lv_aload_n S.1 S.2.1 dX9_init_29 rfl (lv_at hl 0 rfl) ?_
  refine lv_iconst (v := (3 : Int32)) S.1 S.2.1 dX9_init_30 ki_3 ?_
  refine cnewa (at0 := .int) (ty := .int) (a0 := (3, .inl (fun _ => 0))) (t := 0) S hK hA hW wa_int rfl rfl (fun _ => rfl) (by decide) (by decide) (by decide) (Nat.le_of_ble_eq_true rfl) (Nat.le_of_ble_eq_true rfl) dX9_init_31 (fun q31_3 H hW => ?_)
  have hW : wd (dC, dI) A s.heap ((h0, .inr (5, [.ref q8_0, .ref q17_1, .ref q24_2, .null, .long 0, .long 0, .null, .null, .null, .null, .null, .null, .null, .null, .int 0, .int 0, .int 0, .int 0, .null, .null, .null, .int 0, .int 0, .int 0, .int 0, .int 0, .null, .null])) :: ((q8_0, .inl (cI, 194, .inl (fun _ => 0))) :: ((q17_1, .inl (cI, 388, .inl (fun _ => 0))) :: ((q24_2, .inl (cZ, 2, .inl (fun _ => 0))) :: ((q31_3, .inl (cI, 3, .inl (fun _ => 0))) :: []))))) H locs := hW
  refine cpff (C := RX9) (T := TX9) (N := 28) (ci := 5) (k := 3) S hK hW wu_X9 rfl (by decide) tyX9 tyX9_ok nmX9 wf_X9_20 0 rfl rfl hnm rfl rfl rfl rfl (Nat.le_of_ble_eq_true rfl) dX9_init_33 (fun H locs hW => ?_)
  have hW : wd (dC, dI) A s.heap ((h0, .inr (5, [.ref q8_0, .ref q17_1, .ref q24_2, .ref q31_3, .long 0, .long 0, .null, .null, .null, .null, .null, .null, .null, .null, .int 0, .int 0, .int 0, .int 0, .null, .null, .null, .int 0, .int 0, .int 0, .int 0, .int 0, .null, .null])) :: ((q8_0, .inl (cI, 194, .inl (fun _ => 0))) :: ((q17_1, .inl (cI, 388, .inl (fun _ => 0))) :: ((q24_2, .inl (cZ, 2, .inl (fun _ => 0))) :: ((q31_3, .inl (cI, 3, .inl (fun _ => 0))) :: []))))) H locs := hW
  refine lv_aload_n S.1 S.2.1 dX9_init_36 rfl (lv_at hl 0 rfl) ?_
  refine lv_lconst (v := (1 : Int64)) S.1 S.2.1 dX9_init_37 rfl ?_
  refine cpf (C := RX9) (T := TX9) (N := 28) (ci := 5) (k := 5) S hK hW wu_X9 rfl (by decide) tyX9 tyX9_ok nmX9 wf_X9_23 0 rfl rfl rfl rfl rfl (Nat.le_of_ble_eq_true rfl) dX9_init_38 (fun H locs hW => ?_)
  have hW : wd (dC, dI) A s.heap ((h0, .inr (5, [.ref q8_0, .ref q17_1, .ref q24_2, .ref q31_3, .long 0, .long (1 : Int64), .null, .null, .null, .null, .null, .null, .null, .null, .int 0, .int 0, .int 0, .int 0, .null, .null, .null, .int 0, .int 0, .int 0, .int 0, .int 0, .null, .null])) :: ((q8_0, .inl (cI, 194, .inl (fun _ => 0))) :: ((q17_1, .inl (cI, 388, .inl (fun _ => 0))) :: ((q24_2, .inl (cZ, 2, .inl (fun _ => 0))) :: ((q31_3, .inl (cI, 3, .inl (fun _ => 0))) :: []))))) H locs := hW
  refine lv_aload_n S.1 S.2.1 dX9_init_41 rfl (lv_at hl 0 rfl) ?_
  refine lv_bipush (v := (14 : Int32)) S.1 S.2.1 dX9_init_42 kb_14 ?_
  refine cnewa (at0 := .int) (ty := .int) (a0 := (14, .inl (fun _ => 0))) (t := 0) S hK hA hW wa_int rfl rfl (fun _ => rfl) (by decide) (by decide) (by decide) (Nat.le_of_ble_eq_true rfl) (Nat.le_of_ble_eq_true rfl) dX9_init_44 (fun q44_4 H hW => ?_)
  have hW : wd (dC, dI) A s.heap ((h0, .inr (5, [.ref q8_0, .ref q17_1, .ref q24_2, .ref q31_3, .long 0, .long (1 : Int64), .null, .null, .null, .null, .null, .null, .null, .null, .int 0, .int 0, .int 0, .int 0, .null, .null, .null, .int 0, .int 0, .int 0, .int 0, .int 0, .null, .null])) :: ((q8_0, .inl (cI, 194, .inl (fun _ => 0))) :: ((q17_1, .inl (cI, 388, .inl (fun _ => 0))) :: ((q24_2, .inl (cZ, 2, .inl (fun _ => 0))) :: ((q31_3, .inl (cI, 3, .inl (fun _ => 0))) :: ((q44_4, .inl (cI, 14, .inl (fun _ => 0))) :: [])))))) H locs := hW
  refine cpff (C := RX9) (T := TX9) (N := 28) (ci := 5) (k := 6) S hK hW wu_X9 rfl (by decide) tyX9 tyX9_ok nmX9 wf_X9_27 0 rfl rfl hnm rfl rfl rfl rfl (Nat.le_of_ble_eq_true rfl) dX9_init_46 (fun H locs hW => ?_)
  have hW : wd (dC, dI) A s.heap ((h0, .inr (5, [.ref q8_0, .ref q17_1, .ref q24_2, .ref q31_3, .long 0, .long (1 : Int64), .ref q44_4, .null, .null, .null, .null, .null, .null, .null, .int 0, .int 0, .int 0, .int 0, .null, .null, .null, .int 0, .int 0, .int 0, .int 0, .int 0, .null, .null])) :: ((q8_0, .inl (cI, 194, .inl (fun _ => 0))) :: ((q17_1, .inl (cI, 388, .inl (fun _ => 0))) :: ((q24_2, .inl (cZ, 2, .inl (fun _ => 0))) :: ((q31_3, .inl (cI, 3, .inl (fun _ => 0))) :: ((q44_4, .inl (cI, 14, .inl (fun _ => 0))) :: [])))))) H locs := hW
  refine lv_aload_n S.1 S.2.1 dX9_init_49 rfl (lv_at hl 0 rfl) ?_
  refine lv_bipush (v := (14 : Int32)) S.1 S.2.1 dX9_init_50 kb_14 ?_
  refine cnewa (at0 := .int) (ty := .int) (a0 := (14, .inl (fun _ => 0))) (t := 0) S hK hA hW wa_int rfl rfl (fun _ => rfl) (by decide) (by decide) (by decide) (Nat.le_of_ble_eq_true rfl) (Nat.le_of_ble_eq_true rfl) dX9_init_52 (fun q52_5 H hW => ?_)
  have hW : wd (dC, dI) A s.heap ((h0, .inr (5, [.ref q8_0, .ref q17_1, .ref q24_2, .ref q31_3, .long 0, .long (1 : Int64), .ref q44_4, .null, .null, .null, .null, .null, .null, .null, .int 0, .int 0, .int 0, .int 0, .null, .null, .null, .int 0, .int 0, .int 0, .int 0, .int 0, .null, .null])) :: ((q8_0, .inl (cI, 194, .inl (fun _ => 0))) :: ((q17_1, .inl (cI, 388, .inl (fun _ => 0))) :: ((q24_2, .inl (cZ, 2, .inl (fun _ => 0))) :: ((q31_3, .inl (cI, 3, .inl (fun _ => 0))) :: ((q44_4, .inl (cI, 14, .inl (fun _ => 0))) :: ((q52_5, .inl (cI, 14, .inl (fun _ => 0))) :: []))))))) H locs := hW
  refine cpff (C := RX9) (T := TX9) (N := 28) (ci := 5) (k := 7) S hK hW wu_X9 rfl (by decide) tyX9 tyX9_ok nmX9 wf_X9_30 0 rfl rfl hnm rfl rfl rfl rfl (Nat.le_of_ble_eq_true rfl) dX9_init_54 (fun H locs hW => ?_)
  have hW : wd (dC, dI) A s.heap ((h0, .inr (5, [.ref q8_0, .ref q17_1, .ref q24_2, .ref q31_3, .long 0, .long (1 : Int64), .ref q44_4, .ref q52_5, .null, .null, .null, .null, .null, .null, .int 0, .int 0, .int 0, .int 0, .null, .null, .null, .int 0, .int 0, .int 0, .int 0, .int 0, .null, .null])) :: ((q8_0, .inl (cI, 194, .inl (fun _ => 0))) :: ((q17_1, .inl (cI, 388, .inl (fun _ => 0))) :: ((q24_2, .inl (cZ, 2, .inl (fun _ => 0))) :: ((q31_3, .inl (cI, 3, .inl (fun _ => 0))) :: ((q44_4, .inl (cI, 14, .inl (fun _ => 0))) :: ((q52_5, .inl (cI, 14, .inl (fun _ => 0))) :: []))))))) H locs := hW
  refine lv_aload_n S.1 S.2.1 dX9_init_57 rfl (lv_at hl 0 rfl) ?_
  refine lv_bipush (v := (14 : Int32)) S.1 S.2.1 dX9_init_58 kb_14 ?_
  refine cnewa (at0 := .int) (ty := .int) (a0 := (14, .inl (fun _ => 0))) (t := 0) S hK hA hW wa_int rfl rfl (fun _ => rfl) (by decide) (by decide) (by decide) (Nat.le_of_ble_eq_true rfl) (Nat.le_of_ble_eq_true rfl) dX9_init_60 (fun q60_6 H hW => ?_)
  have hW : wd (dC, dI) A s.heap ((h0, .inr (5, [.ref q8_0, .ref q17_1, .ref q24_2, .ref q31_3, .long 0, .long (1 : Int64), .ref q44_4, .ref q52_5, .null, .null, .null, .null, .null, .null, .int 0, .int 0, .int 0, .int 0, .null, .null, .null, .int 0, .int 0, .int 0, .int 0, .int 0, .null, .null])) :: ((q8_0, .inl (cI, 194, .inl (fun _ => 0))) :: ((q17_1, .inl (cI, 388, .inl (fun _ => 0))) :: ((q24_2, .inl (cZ, 2, .inl (fun _ => 0))) :: ((q31_3, .inl (cI, 3, .inl (fun _ => 0))) :: ((q44_4, .inl (cI, 14, .inl (fun _ => 0))) :: ((q52_5, .inl (cI, 14, .inl (fun _ => 0))) :: ((q60_6, .inl (cI, 14, .inl (fun _ => 0))) :: [])))))))) H locs := hW
  refine cpff (C := RX9) (T := TX9) (N := 28) (ci := 5) (k := 8) S hK hW wu_X9 rfl (by decide) tyX9 tyX9_ok nmX9 wf_X9_33 0 rfl rfl hnm rfl rfl rfl rfl (Nat.le_of_ble_eq_true rfl) dX9_init_62 (fun H locs hW => ?_)
  have hW : wd (dC, dI) A s.heap ((h0, .inr (5, [.ref q8_0, .ref q17_1, .ref q24_2, .ref q31_3, .long 0, .long (1 : Int64), .ref q44_4, .ref q52_5, .ref q60_6, .null, .null, .null, .null, .null, .int 0, .int 0, .int 0, .int 0, .null, .null, .null, .int 0, .int 0, .int 0, .int 0, .int 0, .null, .null])) :: ((q8_0, .inl (cI, 194, .inl (fun _ => 0))) :: ((q17_1, .inl (cI, 388, .inl (fun _ => 0))) :: ((q24_2, .inl (cZ, 2, .inl (fun _ => 0))) :: ((q31_3, .inl (cI, 3, .inl (fun _ => 0))) :: ((q44_4, .inl (cI, 14, .inl (fun _ => 0))) :: ((q52_5, .inl (cI, 14, .inl (fun _ => 0))) :: ((q60_6, .inl (cI, 14, .inl (fun _ => 0))) :: [])))))))) H locs := hW
  refine lv_aload_n S.1 S.2.1 dX9_init_65 rfl (lv_at hl 0 rfl) ?_
  refine lv_bipush (v := (14 : Int32)) S.1 S.2.1 dX9_init_66 kb_14 ?_
  refine cnewa (at0 := .int) (ty := .int) (a0 := (14, .inl (fun _ => 0))) (t := 0) S hK hA hW wa_int rfl rfl (fun _ => rfl) (by decide) (by decide) (by decide) (Nat.le_of_ble_eq_true rfl) (Nat.le_of_ble_eq_true rfl) dX9_init_68 (fun q68_7 H hW => ?_)
  have hW : wd (dC, dI) A s.heap ((h0, .inr (5, [.ref q8_0, .ref q17_1, .ref q24_2, .ref q31_3, .long 0, .long (1 : Int64), .ref q44_4, .ref q52_5, .ref q60_6, .null, .null, .null, .null, .null, .int 0, .int 0, .int 0, .int 0, .null, .null, .null, .int 0, .int 0, .int 0, .int 0, .int 0, .null, .null])) :: ((q8_0, .inl (cI, 194, .inl (fun _ => 0))) :: ((q17_1, .inl (cI, 388, .inl (fun _ => 0))) :: ((q24_2, .inl (cZ, 2, .inl (fun _ => 0))) :: ((q31_3, .inl (cI, 3, .inl (fun _ => 0))) :: ((q44_4, .inl (cI, 14, .inl (fun _ => 0))) :: ((q52_5, .inl (cI, 14, .inl (fun _ => 0))) :: ((q60_6, .inl (cI, 14, .inl (fun _ => 0))) :: ((q68_7, .inl (cI, 14, .inl (fun _ => 0))) :: []))))))))) H locs := hW
  refine cpff (C := RX9) (T := TX9) (N := 28) (ci := 5) (k := 9) S hK hW wu_X9 rfl (by decide) tyX9 tyX9_ok nmX9 wf_X9_36 0 rfl rfl hnm rfl rfl rfl rfl (Nat.le_of_ble_eq_true rfl) dX9_init_70 (fun H locs hW => ?_)
  have hW : wd (dC, dI) A s.heap ((h0, .inr (5, [.ref q8_0, .ref q17_1, .ref q24_2, .ref q31_3, .long 0, .long (1 : Int64), .ref q44_4, .ref q52_5, .ref q60_6, .ref q68_7, .null, .null, .null, .null, .int 0, .int 0, .int 0, .int 0, .null, .null, .null, .int 0, .int 0, .int 0, .int 0, .int 0, .null, .null])) :: ((q8_0, .inl (cI, 194, .inl (fun _ => 0))) :: ((q17_1, .inl (cI, 388, .inl (fun _ => 0))) :: ((q24_2, .inl (cZ, 2, .inl (fun _ => 0))) :: ((q31_3, .inl (cI, 3, .inl (fun _ => 0))) :: ((q44_4, .inl (cI, 14, .inl (fun _ => 0))) :: ((q52_5, .inl (cI, 14, .inl (fun _ => 0))) :: ((q60_6, .inl (cI, 14, .inl (fun _ => 0))) :: ((q68_7, .inl (cI, 14, .inl (fun _ => 0))) :: []))))))))) H locs := hW
  refine lv_aload_n S.1 S.2.1 dX9_init_73 rfl (lv_at hl 0 rfl) ?_
  refine lv_bipush (v := (28 : Int32)) S.1 S.2.1 dX9_init_74 kb_28 ?_
  refine cnewa (at0 := .int) (ty := .int) (a0 := (28, .inl (fun _ => 0))) (t := 0) S hK hA hW wa_int rfl rfl (fun _ => rfl) (by decide) (by decide) (by decide) (Nat.le_of_ble_eq_true rfl) (Nat.le_of_ble_eq_true rfl) dX9_init_76 (fun q76_8 H hW => ?_)
  have hW : wd (dC, dI) A s.heap ((h0, .inr (5, [.ref q8_0, .ref q17_1, .ref q24_2, .ref q31_3, .long 0, .long (1 : Int64), .ref q44_4, .ref q52_5, .ref q60_6, .ref q68_7, .null, .null, .null, .null, .int 0, .int 0, .int 0, .int 0, .null, .null, .null, .int 0, .int 0, .int 0, .int 0, .int 0, .null, .null])) :: ((q8_0, .inl (cI, 194, .inl (fun _ => 0))) :: ((q17_1, .inl (cI, 388, .inl (fun _ => 0))) :: ((q24_2, .inl (cZ, 2, .inl (fun _ => 0))) :: ((q31_3, .inl (cI, 3, .inl (fun _ => 0))) :: ((q44_4, .inl (cI, 14, .inl (fun _ => 0))) :: ((q52_5, .inl (cI, 14, .inl (fun _ => 0))) :: ((q60_6, .inl (cI, 14, .inl (fun _ => 0))) :: ((q68_7, .inl (cI, 14, .inl (fun _ => 0))) :: ((q76_8, .inl (cI, 28, .inl (fun _ => 0))) :: [])))))))))) H locs := hW
  refine cpff (C := RX9) (T := TX9) (N := 28) (ci := 5) (k := 10) S hK hW wu_X9 rfl (by decide) tyX9 tyX9_ok nmX9 wf_X9_39 0 rfl rfl hnm rfl rfl rfl rfl (Nat.le_of_ble_eq_true rfl) dX9_init_78 (fun H locs hW => ?_)
  have hW : wd (dC, dI) A s.heap ((h0, .inr (5, [.ref q8_0, .ref q17_1, .ref q24_2, .ref q31_3, .long 0, .long (1 : Int64), .ref q44_4, .ref q52_5, .ref q60_6, .ref q68_7, .ref q76_8, .null, .null, .null, .int 0, .int 0, .int 0, .int 0, .null, .null, .null, .int 0, .int 0, .int 0, .int 0, .int 0, .null, .null])) :: ((q8_0, .inl (cI, 194, .inl (fun _ => 0))) :: ((q17_1, .inl (cI, 388, .inl (fun _ => 0))) :: ((q24_2, .inl (cZ, 2, .inl (fun _ => 0))) :: ((q31_3, .inl (cI, 3, .inl (fun _ => 0))) :: ((q44_4, .inl (cI, 14, .inl (fun _ => 0))) :: ((q52_5, .inl (cI, 14, .inl (fun _ => 0))) :: ((q60_6, .inl (cI, 14, .inl (fun _ => 0))) :: ((q68_7, .inl (cI, 14, .inl (fun _ => 0))) :: ((q76_8, .inl (cI, 28, .inl (fun _ => 0))) :: [])))))))))) H locs := hW
  refine lv_aload_n S.1 S.2.1 dX9_init_81 rfl (lv_at hl 0 rfl) ?_
  refine lv_bipush (v := (14 : Int32)) S.1 S.2.1 dX9_init_82 kb_14 ?_
  refine cnewa (at0 := .int) (ty := .int) (a0 := (14, .inl (fun _ => 0))) (t := 0) S hK hA hW wa_int rfl rfl (fun _ => rfl) (by decide) (by decide) (by decide) (Nat.le_of_ble_eq_true rfl) (Nat.le_of_ble_eq_true rfl) dX9_init_84 (fun q84_9 H hW => ?_)
  have hW : wd (dC, dI) A s.heap ((h0, .inr (5, [.ref q8_0, .ref q17_1, .ref q24_2, .ref q31_3, .long 0, .long (1 : Int64), .ref q44_4, .ref q52_5, .ref q60_6, .ref q68_7, .ref q76_8, .null, .null, .null, .int 0, .int 0, .int 0, .int 0, .null, .null, .null, .int 0, .int 0, .int 0, .int 0, .int 0, .null, .null])) :: ((q8_0, .inl (cI, 194, .inl (fun _ => 0))) :: ((q17_1, .inl (cI, 388, .inl (fun _ => 0))) :: ((q24_2, .inl (cZ, 2, .inl (fun _ => 0))) :: ((q31_3, .inl (cI, 3, .inl (fun _ => 0))) :: ((q44_4, .inl (cI, 14, .inl (fun _ => 0))) :: ((q52_5, .inl (cI, 14, .inl (fun _ => 0))) :: ((q60_6, .inl (cI, 14, .inl (fun _ => 0))) :: ((q68_7, .inl (cI, 14, .inl (fun _ => 0))) :: ((q76_8, .inl (cI, 28, .inl (fun _ => 0))) :: ((q84_9, .inl (cI, 14, .inl (fun _ => 0))) :: []))))))))))) H locs := hW
  refine cpff (C := RX9) (T := TX9) (N := 28) (ci := 5) (k := 11) S hK hW wu_X9 rfl (by decide) tyX9 tyX9_ok nmX9 wf_X9_42 0 rfl rfl hnm rfl rfl rfl rfl (Nat.le_of_ble_eq_true rfl) dX9_init_86 (fun H locs hW => ?_)
  have hW : wd (dC, dI) A s.heap ((h0, .inr (5, [.ref q8_0, .ref q17_1, .ref q24_2, .ref q31_3, .long 0, .long (1 : Int64), .ref q44_4, .ref q52_5, .ref q60_6, .ref q68_7, .ref q76_8, .ref q84_9, .null, .null, .int 0, .int 0, .int 0, .int 0, .null, .null, .null, .int 0, .int 0, .int 0, .int 0, .int 0, .null, .null])) :: ((q8_0, .inl (cI, 194, .inl (fun _ => 0))) :: ((q17_1, .inl (cI, 388, .inl (fun _ => 0))) :: ((q24_2, .inl (cZ, 2, .inl (fun _ => 0))) :: ((q31_3, .inl (cI, 3, .inl (fun _ => 0))) :: ((q44_4, .inl (cI, 14, .inl (fun _ => 0))) :: ((q52_5, .inl (cI, 14, .inl (fun _ => 0))) :: ((q60_6, .inl (cI, 14, .inl (fun _ => 0))) :: ((q68_7, .inl (cI, 14, .inl (fun _ => 0))) :: ((q76_8, .inl (cI, 28, .inl (fun _ => 0))) :: ((q84_9, .inl (cI, 14, .inl (fun _ => 0))) :: []))))))))))) H locs := hW
  refine lv_aload_n S.1 S.2.1 dX9_init_89 rfl (lv_at hl 0 rfl) ?_
  refine lv_bipush (v := (14 : Int32)) S.1 S.2.1 dX9_init_90 kb_14 ?_
  refine cnewa (at0 := .int) (ty := .int) (a0 := (14, .inl (fun _ => 0))) (t := 0) S hK hA hW wa_int rfl rfl (fun _ => rfl) (by decide) (by decide) (by decide) (Nat.le_of_ble_eq_true rfl) (Nat.le_of_ble_eq_true rfl) dX9_init_92 (fun q92_10 H hW => ?_)
  have hW : wd (dC, dI) A s.heap ((h0, .inr (5, [.ref q8_0, .ref q17_1, .ref q24_2, .ref q31_3, .long 0, .long (1 : Int64), .ref q44_4, .ref q52_5, .ref q60_6, .ref q68_7, .ref q76_8, .ref q84_9, .null, .null, .int 0, .int 0, .int 0, .int 0, .null, .null, .null, .int 0, .int 0, .int 0, .int 0, .int 0, .null, .null])) :: ((q8_0, .inl (cI, 194, .inl (fun _ => 0))) :: ((q17_1, .inl (cI, 388, .inl (fun _ => 0))) :: ((q24_2, .inl (cZ, 2, .inl (fun _ => 0))) :: ((q31_3, .inl (cI, 3, .inl (fun _ => 0))) :: ((q44_4, .inl (cI, 14, .inl (fun _ => 0))) :: ((q52_5, .inl (cI, 14, .inl (fun _ => 0))) :: ((q60_6, .inl (cI, 14, .inl (fun _ => 0))) :: ((q68_7, .inl (cI, 14, .inl (fun _ => 0))) :: ((q76_8, .inl (cI, 28, .inl (fun _ => 0))) :: ((q84_9, .inl (cI, 14, .inl (fun _ => 0))) :: ((q92_10, .inl (cI, 14, .inl (fun _ => 0))) :: [])))))))))))) H locs := hW
  refine cpff (C := RX9) (T := TX9) (N := 28) (ci := 5) (k := 12) S hK hW wu_X9 rfl (by decide) tyX9 tyX9_ok nmX9 wf_X9_45 0 rfl rfl hnm rfl rfl rfl rfl (Nat.le_of_ble_eq_true rfl) dX9_init_94 (fun H locs hW => ?_)
  have hW : wd (dC, dI) A s.heap ((h0, .inr (5, [.ref q8_0, .ref q17_1, .ref q24_2, .ref q31_3, .long 0, .long (1 : Int64), .ref q44_4, .ref q52_5, .ref q60_6, .ref q68_7, .ref q76_8, .ref q84_9, .ref q92_10, .null, .int 0, .int 0, .int 0, .int 0, .null, .null, .null, .int 0, .int 0, .int 0, .int 0, .int 0, .null, .null])) :: ((q8_0, .inl (cI, 194, .inl (fun _ => 0))) :: ((q17_1, .inl (cI, 388, .inl (fun _ => 0))) :: ((q24_2, .inl (cZ, 2, .inl (fun _ => 0))) :: ((q31_3, .inl (cI, 3, .inl (fun _ => 0))) :: ((q44_4, .inl (cI, 14, .inl (fun _ => 0))) :: ((q52_5, .inl (cI, 14, .inl (fun _ => 0))) :: ((q60_6, .inl (cI, 14, .inl (fun _ => 0))) :: ((q68_7, .inl (cI, 14, .inl (fun _ => 0))) :: ((q76_8, .inl (cI, 28, .inl (fun _ => 0))) :: ((q84_9, .inl (cI, 14, .inl (fun _ => 0))) :: ((q92_10, .inl (cI, 14, .inl (fun _ => 0))) :: [])))))))))))) H locs := hW
  refine lv_aload_n S.1 S.2.1 dX9_init_97 rfl (lv_at hl 0 rfl) ?_
  refine lv_bipush (v := (14 : Int32)) S.1 S.2.1 dX9_init_98 kb_14 ?_
  refine cnewa (at0 := .int) (ty := .int) (a0 := (14, .inl (fun _ => 0))) (t := 0) S hK hA hW wa_int rfl rfl (fun _ => rfl) (by decide) (by decide) (by decide) (Nat.le_of_ble_eq_true rfl) (Nat.le_of_ble_eq_true rfl) dX9_init_100 (fun q100_11 H hW => ?_)
  have hW : wd (dC, dI) A s.heap ((h0, .inr (5, [.ref q8_0, .ref q17_1, .ref q24_2, .ref q31_3, .long 0, .long (1 : Int64), .ref q44_4, .ref q52_5, .ref q60_6, .ref q68_7, .ref q76_8, .ref q84_9, .ref q92_10, .null, .int 0, .int 0, .int 0, .int 0, .null, .null, .null, .int 0, .int 0, .int 0, .int 0, .int 0, .null, .null])) :: ((q8_0, .inl (cI, 194, .inl (fun _ => 0))) :: ((q17_1, .inl (cI, 388, .inl (fun _ => 0))) :: ((q24_2, .inl (cZ, 2, .inl (fun _ => 0))) :: ((q31_3, .inl (cI, 3, .inl (fun _ => 0))) :: ((q44_4, .inl (cI, 14, .inl (fun _ => 0))) :: ((q52_5, .inl (cI, 14, .inl (fun _ => 0))) :: ((q60_6, .inl (cI, 14, .inl (fun _ => 0))) :: ((q68_7, .inl (cI, 14, .inl (fun _ => 0))) :: ((q76_8, .inl (cI, 28, .inl (fun _ => 0))) :: ((q84_9, .inl (cI, 14, .inl (fun _ => 0))) :: ((q92_10, .inl (cI, 14, .inl (fun _ => 0))) :: ((q100_11, .inl (cI, 14, .inl (fun _ => 0))) :: []))))))))))))) H locs := hW
  refine cpff (C := RX9) (T := TX9) (N := 28) (ci := 5) (k := 13) S hK hW wu_X9 rfl (by decide) tyX9 tyX9_ok nmX9 wf_X9_48 0 rfl rfl hnm rfl rfl rfl rfl (Nat.le_of_ble_eq_true rfl) dX9_init_102 (fun H locs hW => ?_)
  have hW : wd (dC, dI) A s.heap ((h0, .inr (5, [.ref q8_0, .ref q17_1, .ref q24_2, .ref q31_3, .long 0, .long (1 : Int64), .ref q44_4, .ref q52_5, .ref q60_6, .ref q68_7, .ref q76_8, .ref q84_9, .ref q92_10, .ref q100_11, .int 0, .int 0, .int 0, .int 0, .null, .null, .null, .int 0, .int 0, .int 0, .int 0, .int 0, .null, .null])) :: ((q8_0, .inl (cI, 194, .inl (fun _ => 0))) :: ((q17_1, .inl (cI, 388, .inl (fun _ => 0))) :: ((q24_2, .inl (cZ, 2, .inl (fun _ => 0))) :: ((q31_3, .inl (cI, 3, .inl (fun _ => 0))) :: ((q44_4, .inl (cI, 14, .inl (fun _ => 0))) :: ((q52_5, .inl (cI, 14, .inl (fun _ => 0))) :: ((q60_6, .inl (cI, 14, .inl (fun _ => 0))) :: ((q68_7, .inl (cI, 14, .inl (fun _ => 0))) :: ((q76_8, .inl (cI, 28, .inl (fun _ => 0))) :: ((q84_9, .inl (cI, 14, .inl (fun _ => 0))) :: ((q92_10, .inl (cI, 14, .inl (fun _ => 0))) :: ((q100_11, .inl (cI, 14, .inl (fun _ => 0))) :: []))))))))))))) H locs := hW
  refine lv_aload_n S.1 S.2.1 dX9_init_105 rfl (lv_at hl 0 rfl) ?_
  refine lv_iconst (v := (2 : Int32)) S.1 S.2.1 dX9_init_106 ki_2 ?_
  refine cnewa (at0 := .int) (ty := .int) (a0 := (2, .inl (fun _ => 0))) (t := 0) S hK hA hW wa_int rfl rfl (fun _ => rfl) (by decide) (by decide) (by decide) (Nat.le_of_ble_eq_true rfl) (Nat.le_of_ble_eq_true rfl) dX9_init_107 (fun q107_12 H hW => ?_)
  have hW : wd (dC, dI) A s.heap ((h0, .inr (5, [.ref q8_0, .ref q17_1, .ref q24_2, .ref q31_3, .long 0, .long (1 : Int64), .ref q44_4, .ref q52_5, .ref q60_6, .ref q68_7, .ref q76_8, .ref q84_9, .ref q92_10, .ref q100_11, .int 0, .int 0, .int 0, .int 0, .null, .null, .null, .int 0, .int 0, .int 0, .int 0, .int 0, .null, .null])) :: ((q8_0, .inl (cI, 194, .inl (fun _ => 0))) :: ((q17_1, .inl (cI, 388, .inl (fun _ => 0))) :: ((q24_2, .inl (cZ, 2, .inl (fun _ => 0))) :: ((q31_3, .inl (cI, 3, .inl (fun _ => 0))) :: ((q44_4, .inl (cI, 14, .inl (fun _ => 0))) :: ((q52_5, .inl (cI, 14, .inl (fun _ => 0))) :: ((q60_6, .inl (cI, 14, .inl (fun _ => 0))) :: ((q68_7, .inl (cI, 14, .inl (fun _ => 0))) :: ((q76_8, .inl (cI, 28, .inl (fun _ => 0))) :: ((q84_9, .inl (cI, 14, .inl (fun _ => 0))) :: ((q92_10, .inl (cI, 14, .inl (fun _ => 0))) :: ((q100_11, .inl (cI, 14, .inl (fun _ => 0))) :: ((q107_12, .inl (cI, 2, .inl (fun _ => 0))) :: [])))))))))))))) H locs := hW
  refine cpff (C := RX9) (T := TX9) (N := 28) (ci := 5) (k := 18) S hK hW wu_X9 rfl (by decide) tyX9 tyX9_ok nmX9 wf_X9_51 0 rfl rfl hnm rfl rfl rfl rfl (Nat.le_of_ble_eq_true rfl) dX9_init_109 (fun H locs hW => ?_)
  have hW : wd (dC, dI) A s.heap ((h0, .inr (5, [.ref q8_0, .ref q17_1, .ref q24_2, .ref q31_3, .long 0, .long (1 : Int64), .ref q44_4, .ref q52_5, .ref q60_6, .ref q68_7, .ref q76_8, .ref q84_9, .ref q92_10, .ref q100_11, .int 0, .int 0, .int 0, .int 0, .ref q107_12, .null, .null, .int 0, .int 0, .int 0, .int 0, .int 0, .null, .null])) :: ((q8_0, .inl (cI, 194, .inl (fun _ => 0))) :: ((q17_1, .inl (cI, 388, .inl (fun _ => 0))) :: ((q24_2, .inl (cZ, 2, .inl (fun _ => 0))) :: ((q31_3, .inl (cI, 3, .inl (fun _ => 0))) :: ((q44_4, .inl (cI, 14, .inl (fun _ => 0))) :: ((q52_5, .inl (cI, 14, .inl (fun _ => 0))) :: ((q60_6, .inl (cI, 14, .inl (fun _ => 0))) :: ((q68_7, .inl (cI, 14, .inl (fun _ => 0))) :: ((q76_8, .inl (cI, 28, .inl (fun _ => 0))) :: ((q84_9, .inl (cI, 14, .inl (fun _ => 0))) :: ((q92_10, .inl (cI, 14, .inl (fun _ => 0))) :: ((q100_11, .inl (cI, 14, .inl (fun _ => 0))) :: ((q107_12, .inl (cI, 2, .inl (fun _ => 0))) :: [])))))))))))))) H locs := hW
  refine lv_aload_n S.1 S.2.1 dX9_init_112 rfl (lv_at hl 0 rfl) ?_
  refine lv_bipush (v := (6 : Int32)) S.1 S.2.1 dX9_init_113 kb_6 ?_
  refine cnewa (at0 := .int) (ty := .int) (a0 := (6, .inl (fun _ => 0))) (t := 0) S hK hA hW wa_int rfl rfl (fun _ => rfl) (by decide) (by decide) (by decide) (Nat.le_of_ble_eq_true rfl) (Nat.le_of_ble_eq_true rfl) dX9_init_115 (fun q115_13 H hW => ?_)
  have hW : wd (dC, dI) A s.heap ((h0, .inr (5, [.ref q8_0, .ref q17_1, .ref q24_2, .ref q31_3, .long 0, .long (1 : Int64), .ref q44_4, .ref q52_5, .ref q60_6, .ref q68_7, .ref q76_8, .ref q84_9, .ref q92_10, .ref q100_11, .int 0, .int 0, .int 0, .int 0, .ref q107_12, .null, .null, .int 0, .int 0, .int 0, .int 0, .int 0, .null, .null])) :: ((q8_0, .inl (cI, 194, .inl (fun _ => 0))) :: ((q17_1, .inl (cI, 388, .inl (fun _ => 0))) :: ((q24_2, .inl (cZ, 2, .inl (fun _ => 0))) :: ((q31_3, .inl (cI, 3, .inl (fun _ => 0))) :: ((q44_4, .inl (cI, 14, .inl (fun _ => 0))) :: ((q52_5, .inl (cI, 14, .inl (fun _ => 0))) :: ((q60_6, .inl (cI, 14, .inl (fun _ => 0))) :: ((q68_7, .inl (cI, 14, .inl (fun _ => 0))) :: ((q76_8, .inl (cI, 28, .inl (fun _ => 0))) :: ((q84_9, .inl (cI, 14, .inl (fun _ => 0))) :: ((q92_10, .inl (cI, 14, .inl (fun _ => 0))) :: ((q100_11, .inl (cI, 14, .inl (fun _ => 0))) :: ((q107_12, .inl (cI, 2, .inl (fun _ => 0))) :: ((q115_13, .inl (cI, 6, .inl (fun _ => 0))) :: []))))))))))))))) H locs := hW
  refine cpff (C := RX9) (T := TX9) (N := 28) (ci := 5) (k := 19) S hK hW wu_X9 rfl (by decide) tyX9 tyX9_ok nmX9 wf_X9_54 0 rfl rfl hnm rfl rfl rfl rfl (Nat.le_of_ble_eq_true rfl) dX9_init_117 (fun H locs hW => ?_)
  have hW : wd (dC, dI) A s.heap ((h0, .inr (5, [.ref q8_0, .ref q17_1, .ref q24_2, .ref q31_3, .long 0, .long (1 : Int64), .ref q44_4, .ref q52_5, .ref q60_6, .ref q68_7, .ref q76_8, .ref q84_9, .ref q92_10, .ref q100_11, .int 0, .int 0, .int 0, .int 0, .ref q107_12, .ref q115_13, .null, .int 0, .int 0, .int 0, .int 0, .int 0, .null, .null])) :: ((q8_0, .inl (cI, 194, .inl (fun _ => 0))) :: ((q17_1, .inl (cI, 388, .inl (fun _ => 0))) :: ((q24_2, .inl (cZ, 2, .inl (fun _ => 0))) :: ((q31_3, .inl (cI, 3, .inl (fun _ => 0))) :: ((q44_4, .inl (cI, 14, .inl (fun _ => 0))) :: ((q52_5, .inl (cI, 14, .inl (fun _ => 0))) :: ((q60_6, .inl (cI, 14, .inl (fun _ => 0))) :: ((q68_7, .inl (cI, 14, .inl (fun _ => 0))) :: ((q76_8, .inl (cI, 28, .inl (fun _ => 0))) :: ((q84_9, .inl (cI, 14, .inl (fun _ => 0))) :: ((q92_10, .inl (cI, 14, .inl (fun _ => 0))) :: ((q100_11, .inl (cI, 14, .inl (fun _ => 0))) :: ((q107_12, .inl (cI, 2, .inl (fun _ => 0))) :: ((q115_13, .inl (cI, 6, .inl (fun _ => 0))) :: []))))))))))))))) H locs := hW
  refine lv_aload_n S.1 S.2.1 dX9_init_120 rfl (lv_at hl 0 rfl) ?_
  refine lv_sipush (v := (150 : Int32)) S.1 S.2.1 dX9_init_121 ks_150 ?_
  refine cnewa (at0 := .int) (ty := .int) (a0 := (150, .inl (fun _ => 0))) (t := 0) S hK hA hW wa_int rfl rfl (fun _ => rfl) (by decide) (by decide) (by decide) (Nat.le_of_ble_eq_true rfl) (Nat.le_of_ble_eq_true rfl) dX9_init_124 (fun q124_14 H hW => ?_)
  have hW : wd (dC, dI) A s.heap ((h0, .inr (5, [.ref q8_0, .ref q17_1, .ref q24_2, .ref q31_3, .long 0, .long (1 : Int64), .ref q44_4, .ref q52_5, .ref q60_6, .ref q68_7, .ref q76_8, .ref q84_9, .ref q92_10, .ref q100_11, .int 0, .int 0, .int 0, .int 0, .ref q107_12, .ref q115_13, .null, .int 0, .int 0, .int 0, .int 0, .int 0, .null, .null])) :: ((q8_0, .inl (cI, 194, .inl (fun _ => 0))) :: ((q17_1, .inl (cI, 388, .inl (fun _ => 0))) :: ((q24_2, .inl (cZ, 2, .inl (fun _ => 0))) :: ((q31_3, .inl (cI, 3, .inl (fun _ => 0))) :: ((q44_4, .inl (cI, 14, .inl (fun _ => 0))) :: ((q52_5, .inl (cI, 14, .inl (fun _ => 0))) :: ((q60_6, .inl (cI, 14, .inl (fun _ => 0))) :: ((q68_7, .inl (cI, 14, .inl (fun _ => 0))) :: ((q76_8, .inl (cI, 28, .inl (fun _ => 0))) :: ((q84_9, .inl (cI, 14, .inl (fun _ => 0))) :: ((q92_10, .inl (cI, 14, .inl (fun _ => 0))) :: ((q100_11, .inl (cI, 14, .inl (fun _ => 0))) :: ((q107_12, .inl (cI, 2, .inl (fun _ => 0))) :: ((q115_13, .inl (cI, 6, .inl (fun _ => 0))) :: ((q124_14, .inl (cI, 150, .inl (fun _ => 0))) :: [])))))))))))))))) H locs := hW
  refine cpff (C := RX9) (T := TX9) (N := 28) (ci := 5) (k := 20) S hK hW wu_X9 rfl (by decide) tyX9 tyX9_ok nmX9 wf_X9_57 0 rfl rfl hnm rfl rfl rfl rfl (Nat.le_of_ble_eq_true rfl) dX9_init_126 (fun H locs hW => ?_)
  have hW : wd (dC, dI) A s.heap ((h0, .inr (5, [.ref q8_0, .ref q17_1, .ref q24_2, .ref q31_3, .long 0, .long (1 : Int64), .ref q44_4, .ref q52_5, .ref q60_6, .ref q68_7, .ref q76_8, .ref q84_9, .ref q92_10, .ref q100_11, .int 0, .int 0, .int 0, .int 0, .ref q107_12, .ref q115_13, .ref q124_14, .int 0, .int 0, .int 0, .int 0, .int 0, .null, .null])) :: ((q8_0, .inl (cI, 194, .inl (fun _ => 0))) :: ((q17_1, .inl (cI, 388, .inl (fun _ => 0))) :: ((q24_2, .inl (cZ, 2, .inl (fun _ => 0))) :: ((q31_3, .inl (cI, 3, .inl (fun _ => 0))) :: ((q44_4, .inl (cI, 14, .inl (fun _ => 0))) :: ((q52_5, .inl (cI, 14, .inl (fun _ => 0))) :: ((q60_6, .inl (cI, 14, .inl (fun _ => 0))) :: ((q68_7, .inl (cI, 14, .inl (fun _ => 0))) :: ((q76_8, .inl (cI, 28, .inl (fun _ => 0))) :: ((q84_9, .inl (cI, 14, .inl (fun _ => 0))) :: ((q92_10, .inl (cI, 14, .inl (fun _ => 0))) :: ((q100_11, .inl (cI, 14, .inl (fun _ => 0))) :: ((q107_12, .inl (cI, 2, .inl (fun _ => 0))) :: ((q115_13, .inl (cI, 6, .inl (fun _ => 0))) :: ((q124_14, .inl (cI, 150, .inl (fun _ => 0))) :: [])))))))))))))))) H locs := hW
  refine lv_aload_n S.1 S.2.1 dX9_init_129 rfl (lv_at hl 0 rfl) ?_
  refine lv_bipush (v := (90 : Int32)) S.1 S.2.1 dX9_init_130 kb_90 ?_
  refine cnewa (at0 := .int) (ty := .int) (a0 := (90, .inl (fun _ => 0))) (t := 0) S hK hA hW wa_int rfl rfl (fun _ => rfl) (by decide) (by decide) (by decide) (Nat.le_of_ble_eq_true rfl) (Nat.le_of_ble_eq_true rfl) dX9_init_132 (fun q132_15 H hW => ?_)
  have hW : wd (dC, dI) A s.heap ((h0, .inr (5, [.ref q8_0, .ref q17_1, .ref q24_2, .ref q31_3, .long 0, .long (1 : Int64), .ref q44_4, .ref q52_5, .ref q60_6, .ref q68_7, .ref q76_8, .ref q84_9, .ref q92_10, .ref q100_11, .int 0, .int 0, .int 0, .int 0, .ref q107_12, .ref q115_13, .ref q124_14, .int 0, .int 0, .int 0, .int 0, .int 0, .null, .null])) :: ((q8_0, .inl (cI, 194, .inl (fun _ => 0))) :: ((q17_1, .inl (cI, 388, .inl (fun _ => 0))) :: ((q24_2, .inl (cZ, 2, .inl (fun _ => 0))) :: ((q31_3, .inl (cI, 3, .inl (fun _ => 0))) :: ((q44_4, .inl (cI, 14, .inl (fun _ => 0))) :: ((q52_5, .inl (cI, 14, .inl (fun _ => 0))) :: ((q60_6, .inl (cI, 14, .inl (fun _ => 0))) :: ((q68_7, .inl (cI, 14, .inl (fun _ => 0))) :: ((q76_8, .inl (cI, 28, .inl (fun _ => 0))) :: ((q84_9, .inl (cI, 14, .inl (fun _ => 0))) :: ((q92_10, .inl (cI, 14, .inl (fun _ => 0))) :: ((q100_11, .inl (cI, 14, .inl (fun _ => 0))) :: ((q107_12, .inl (cI, 2, .inl (fun _ => 0))) :: ((q115_13, .inl (cI, 6, .inl (fun _ => 0))) :: ((q124_14, .inl (cI, 150, .inl (fun _ => 0))) :: ((q132_15, .inl (cI, 90, .inl (fun _ => 0))) :: []))))))))))))))))) H locs := hW
  refine cpff (C := RX9) (T := TX9) (N := 28) (ci := 5) (k := 26) S hK hW wu_X9 rfl (by decide) tyX9 tyX9_ok nmX9 wf_X9_60 0 rfl rfl hnm rfl rfl rfl rfl (Nat.le_of_ble_eq_true rfl) dX9_init_134 (fun H locs hW => ?_)
  have hW : wd (dC, dI) A s.heap ((h0, .inr (5, [.ref q8_0, .ref q17_1, .ref q24_2, .ref q31_3, .long 0, .long (1 : Int64), .ref q44_4, .ref q52_5, .ref q60_6, .ref q68_7, .ref q76_8, .ref q84_9, .ref q92_10, .ref q100_11, .int 0, .int 0, .int 0, .int 0, .ref q107_12, .ref q115_13, .ref q124_14, .int 0, .int 0, .int 0, .int 0, .int 0, .ref q132_15, .null])) :: ((q8_0, .inl (cI, 194, .inl (fun _ => 0))) :: ((q17_1, .inl (cI, 388, .inl (fun _ => 0))) :: ((q24_2, .inl (cZ, 2, .inl (fun _ => 0))) :: ((q31_3, .inl (cI, 3, .inl (fun _ => 0))) :: ((q44_4, .inl (cI, 14, .inl (fun _ => 0))) :: ((q52_5, .inl (cI, 14, .inl (fun _ => 0))) :: ((q60_6, .inl (cI, 14, .inl (fun _ => 0))) :: ((q68_7, .inl (cI, 14, .inl (fun _ => 0))) :: ((q76_8, .inl (cI, 28, .inl (fun _ => 0))) :: ((q84_9, .inl (cI, 14, .inl (fun _ => 0))) :: ((q92_10, .inl (cI, 14, .inl (fun _ => 0))) :: ((q100_11, .inl (cI, 14, .inl (fun _ => 0))) :: ((q107_12, .inl (cI, 2, .inl (fun _ => 0))) :: ((q115_13, .inl (cI, 6, .inl (fun _ => 0))) :: ((q124_14, .inl (cI, 150, .inl (fun _ => 0))) :: ((q132_15, .inl (cI, 90, .inl (fun _ => 0))) :: []))))))))))))))))) H locs := hW
  refine lv_aload_n S.1 S.2.1 dX9_init_137 rfl (lv_at hl 0 rfl) ?_
  refine lv_iconst (v := (3 : Int32)) S.1 S.2.1 dX9_init_138 ki_3 ?_
  refine cnewa (at0 := .int) (ty := .int) (a0 := (3, .inl (fun _ => 0))) (t := 0) S hK hA hW wa_int rfl rfl (fun _ => rfl) (by decide) (by decide) (by decide) (Nat.le_of_ble_eq_true rfl) (Nat.le_of_ble_eq_true rfl) dX9_init_139 (fun q139_16 H hW => ?_)
  have hW : wd (dC, dI) A s.heap ((h0, .inr (5, [.ref q8_0, .ref q17_1, .ref q24_2, .ref q31_3, .long 0, .long (1 : Int64), .ref q44_4, .ref q52_5, .ref q60_6, .ref q68_7, .ref q76_8, .ref q84_9, .ref q92_10, .ref q100_11, .int 0, .int 0, .int 0, .int 0, .ref q107_12, .ref q115_13, .ref q124_14, .int 0, .int 0, .int 0, .int 0, .int 0, .ref q132_15, .null])) :: ((q8_0, .inl (cI, 194, .inl (fun _ => 0))) :: ((q17_1, .inl (cI, 388, .inl (fun _ => 0))) :: ((q24_2, .inl (cZ, 2, .inl (fun _ => 0))) :: ((q31_3, .inl (cI, 3, .inl (fun _ => 0))) :: ((q44_4, .inl (cI, 14, .inl (fun _ => 0))) :: ((q52_5, .inl (cI, 14, .inl (fun _ => 0))) :: ((q60_6, .inl (cI, 14, .inl (fun _ => 0))) :: ((q68_7, .inl (cI, 14, .inl (fun _ => 0))) :: ((q76_8, .inl (cI, 28, .inl (fun _ => 0))) :: ((q84_9, .inl (cI, 14, .inl (fun _ => 0))) :: ((q92_10, .inl (cI, 14, .inl (fun _ => 0))) :: ((q100_11, .inl (cI, 14, .inl (fun _ => 0))) :: ((q107_12, .inl (cI, 2, .inl (fun _ => 0))) :: ((q115_13, .inl (cI, 6, .inl (fun _ => 0))) :: ((q124_14, .inl (cI, 150, .inl (fun _ => 0))) :: ((q132_15, .inl (cI, 90, .inl (fun _ => 0))) :: ((q139_16, .inl (cI, 3, .inl (fun _ => 0))) :: [])))))))))))))))))) H locs := hW
  refine cpff (C := RX9) (T := TX9) (N := 28) (ci := 5) (k := 27) S hK hW wu_X9 rfl (by decide) tyX9 tyX9_ok nmX9 wf_X9_63 0 rfl rfl hnm rfl rfl rfl rfl (Nat.le_of_ble_eq_true rfl) dX9_init_141 (fun H locs hW => ?_)
  have hW : wd (dC, dI) A s.heap ((h0, .inr (5, [.ref q8_0, .ref q17_1, .ref q24_2, .ref q31_3, .long 0, .long (1 : Int64), .ref q44_4, .ref q52_5, .ref q60_6, .ref q68_7, .ref q76_8, .ref q84_9, .ref q92_10, .ref q100_11, .int 0, .int 0, .int 0, .int 0, .ref q107_12, .ref q115_13, .ref q124_14, .int 0, .int 0, .int 0, .int 0, .int 0, .ref q132_15, .ref q139_16])) :: ((q8_0, .inl (cI, 194, .inl (fun _ => 0))) :: ((q17_1, .inl (cI, 388, .inl (fun _ => 0))) :: ((q24_2, .inl (cZ, 2, .inl (fun _ => 0))) :: ((q31_3, .inl (cI, 3, .inl (fun _ => 0))) :: ((q44_4, .inl (cI, 14, .inl (fun _ => 0))) :: ((q52_5, .inl (cI, 14, .inl (fun _ => 0))) :: ((q60_6, .inl (cI, 14, .inl (fun _ => 0))) :: ((q68_7, .inl (cI, 14, .inl (fun _ => 0))) :: ((q76_8, .inl (cI, 28, .inl (fun _ => 0))) :: ((q84_9, .inl (cI, 14, .inl (fun _ => 0))) :: ((q92_10, .inl (cI, 14, .inl (fun _ => 0))) :: ((q100_11, .inl (cI, 14, .inl (fun _ => 0))) :: ((q107_12, .inl (cI, 2, .inl (fun _ => 0))) :: ((q115_13, .inl (cI, 6, .inl (fun _ => 0))) :: ((q124_14, .inl (cI, 150, .inl (fun _ => 0))) :: ((q132_15, .inl (cI, 90, .inl (fun _ => 0))) :: ((q139_16, .inl (cI, 3, .inl (fun _ => 0))) :: [])))))))))))))))))) H locs := hW
  refine lv_aload_n S.1 S.2.1 dX9_init_144 rfl (lv_at hl 0 rfl) ?_
  refine cgf (C := RX9) (T := TX9) (N := 28) (ci := 5) (k := 0) S hK hW wu_X9 rfl (by decide) wf_X9_7 0 rfl rfl dX9_init_145 ?_
  refine lv_iconst (v := (0 : Int32)) S.1 S.2.1 dX9_init_148 ki_0 ?_
  refine lv_iconst (v := (0 : Int32)) S.1 S.2.1 dX9_init_149 ki_0 ?_
  refine ksg ((h0, .inr (5, [.ref q8_0, .ref q17_1, .ref q24_2, .ref q31_3, .long 0, .long (1 : Int64), .ref q44_4, .ref q52_5, .ref q60_6, .ref q68_7, .ref q76_8, .ref q84_9, .ref q92_10, .ref q100_11, .int 0, .int 0, .int 0, .int 0, .ref q107_12, .ref q115_13, .ref q124_14, .int 0, .int 0, .int 0, .int 0, .int 0, .ref q132_15, .ref q139_16])) :: ((q8_0, .inl (cI, 194, .inl (cb 0))) :: ((q17_1, .inl (cI, 388, .inl (fun _ => 0))) :: ((q24_2, .inl (cZ, 2, .inl (fun _ => 0))) :: ((q31_3, .inl (cI, 3, .inl (fun _ => 0))) :: ((q44_4, .inl (cI, 14, .inl (fun _ => 0))) :: ((q52_5, .inl (cI, 14, .inl (fun _ => 0))) :: ((q60_6, .inl (cI, 14, .inl (fun _ => 0))) :: ((q68_7, .inl (cI, 14, .inl (fun _ => 0))) :: ((q76_8, .inl (cI, 28, .inl (fun _ => 0))) :: ((q84_9, .inl (cI, 14, .inl (fun _ => 0))) :: ((q92_10, .inl (cI, 14, .inl (fun _ => 0))) :: ((q100_11, .inl (cI, 14, .inl (fun _ => 0))) :: ((q107_12, .inl (cI, 2, .inl (fun _ => 0))) :: ((q115_13, .inl (cI, 6, .inl (fun _ => 0))) :: ((q124_14, .inl (cI, 150, .inl (fun _ => 0))) :: ((q132_15, .inl (cI, 90, .inl (fun _ => 0))) :: ((q139_16, .inl (cI, 3, .inl (fun _ => 0))) :: [])))))))))))))))))) S hK hN hZ hA hW (rest := []) (t_X9_begin l dC dI cI cJ cZ cB zz (fun _ => q8_0) F (fun _ _ => 0) (0 : Int32) (0 : Int32) cb hcb) wl_X9_66 wv_X9_begin rfl rfl ⟨Nat.le_of_ble_eq_true rfl, Nat.le_of_ble_eq_true rfl⟩ [(h0, .inr (5, [.ref q8_0, .ref q17_1, .ref q24_2, .ref q31_3, .long 0, .long (1 : Int64), .ref q44_4, .ref q52_5, .ref q60_6, .ref q68_7, .ref q76_8, .ref q84_9, .ref q92_10, .ref q100_11, .int 0, .int 0, .int 0, .int 0, .ref q107_12, .ref q115_13, .ref q124_14, .int 0, .int 0, .int 0, .int 0, .int 0, .ref q132_15, .ref q139_16]))] [(q17_1, .inl (cI, 388, .inl (fun _ => 0))), (q24_2, .inl (cZ, 2, .inl (fun _ => 0))), (q31_3, .inl (cI, 3, .inl (fun _ => 0))), (q44_4, .inl (cI, 14, .inl (fun _ => 0))), (q52_5, .inl (cI, 14, .inl (fun _ => 0))), (q60_6, .inl (cI, 14, .inl (fun _ => 0))), (q68_7, .inl (cI, 14, .inl (fun _ => 0))), (q76_8, .inl (cI, 28, .inl (fun _ => 0))), (q84_9, .inl (cI, 14, .inl (fun _ => 0))), (q92_10, .inl (cI, 14, .inl (fun _ => 0))), (q100_11, .inl (cI, 14, .inl (fun _ => 0))), (q107_12, .inl (cI, 2, .inl (fun _ => 0))), (q115_13, .inl (cI, 6, .inl (fun _ => 0))), (q124_14, .inl (cI, 150, .inl (fun _ => 0))), (q132_15, .inl (cI, 90, .inl (fun _ => 0))), (q139_16, .inl (cI, 3, .inl (fun _ => 0)))] rfl rfl rfl rfl hl.1 rfl (Nat.le_of_ble_eq_true rfl) dX9_init_150 [] rfl ⟨Nat.le_of_ble_eq_true rfl, Nat.le_of_ble_eq_true rfl⟩ (fun H locs hW => ?_)
  have hW : wd (dC, dI) A s.heap (cwX9 cI cJ cZ cB h0 (fun k => [q8_0, q17_1, q24_2, q31_3, 0, 0, q44_4, q52_5, q60_6, q68_7, q76_8, q84_9, q92_10, q100_11, 0, 0, 0, 0, q107_12, q115_13, q124_14, 0, 0, 0, 0, 0, q132_15, q139_16].getD k 0) (cM0 cb) wM0 []) H locs := hW
  subst hAe
  exact crv (W0 := [(h0, .inr (5, [.null, .null, .null, .null, .long 0, .long 0, .null, .null, .null, .null, .null, .null, .null, .null, .int 0, .int 0, .int 0, .int 0, .null, .null, .null, .int 0, .int 0, .int 0, .int 0, .int 0, .null, .null]))]) (post := (fun w1 => ∃ b0 : Nat → Nat, w1 = (cwX9 cI cJ cZ cB h0 b0 (cM0 cb) wM0 []))) S hr hlocks hW ⟨(fun k => [q8_0, q17_1, q24_2, q31_3, 0, 0, q44_4, q52_5, q60_6, q68_7, q76_8, q84_9, q92_10, q100_11, 0, 0, 0, 0, q107_12, q115_13, q124_14, 0, 0, 0, 0, 0, q132_15, q139_16].getD k 0), rfl⟩ dX9_init_153
