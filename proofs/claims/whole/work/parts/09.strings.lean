/-- the char at k of a String constant -/
def chZ (i : Nat) (k : Int32) : Int32 := ((((bytZ.getD i []).getD (ix k) 0) &&& 255).toUInt32 % 65536).toInt32
set_option maxHeartbeats 4000000 in
set_option maxRecDepth 100000 in
theorem t_J0_coder_7d493 (l : Launch) (dC : Nat → ClassId) (dI : Nat → Nat → Nat) (cI cJ cZ cB : ClassId) (zz : ZT) (i : Nat) (hi : i < 5) : ct l (dC, dI) zz (ty4 cI cJ cZ cB) yJ0_coder_7d493 cJ0_coder_7d493 1 (some .byte) { frames := 0, cells := 0, slots := 0, locals := 0 } [.ref (zz.1 i)] [] [] (some (.int 0)) := by
  refine ct_of (cc := cJ0_coder_7d493) (maxL := 1) (ret := (some .byte)) (by decide) (Nat.le_of_ble_eq_true rfl) ?_
  intro p e s m below meth c A S hr hlocks hK hN hZ hA H locs hW ls hl
  have S : CallFix p m c cJ0_coder_7d493 1 s (List.toArray [.ref (zz.1 i)]) G RJ0 := S
  have hl : lv_has ls 1 [(0, .ref (zz.1 i))] := hl
  refine va_gets S.1 S.2.1 hZ.2.1 hW.2.2 S.2.2.2.1 (S.2.2.2.2 _ wf_J0_38) (fun _ h => h) dJ0_coder_7d493_0 ?_
  refine lv_if_eq (tgt := 13) S.1 S.2.1 dJ0_coder_7d493_3 (by decide) (fun u => absurd u (by decide)) (fun u => ?_)
  refine lv_aload_n S.1 S.2.1 dJ0_coder_7d493_6 rfl (lv_at hl 0 rfl) ?_
  refine vk_getf S.1 S.2.1 (hZ.1.1 i hi).2.1 hW.2.2 S.2.2.2.1 (S.2.2.2.2 _ wf_J0_15) (fun _ h => h) dJ0_coder_7d493_7 ?_
  refine lv_goto (tgt := 14) S.1 S.2.1 dJ0_coder_7d493_10 (by decide) ?_
  exact rb S hr hlocks hW rfl dJ0_coder_7d493_14
set_option maxHeartbeats 4000000 in
set_option maxRecDepth 100000 in
theorem t_J0_isLatin1_aae02 (l : Launch) (dC : Nat → ClassId) (dI : Nat → Nat → Nat) (cI cJ cZ cB : ClassId) (zz : ZT) (i : Nat) (hi : i < 5) : ct l (dC, dI) zz (ty4 cI cJ cZ cB) yJ0_isLatin1_aae02 cJ0_isLatin1_aae02 1 (some .boolean) { frames := 0, cells := 0, slots := 0, locals := 0 } [.ref (zz.1 i)] [] [] (some (.int 1)) := by
  refine ct_of (cc := cJ0_isLatin1_aae02) (maxL := 1) (ret := (some .boolean)) (by decide) (Nat.le_of_ble_eq_true rfl) ?_
  intro p e s m below meth c A S hr hlocks hK hN hZ hA H locs hW ls hl
  have S : CallFix p m c cJ0_isLatin1_aae02 1 s (List.toArray [.ref (zz.1 i)]) G RJ0 := S
  have hl : lv_has ls 1 [(0, .ref (zz.1 i))] := hl
  refine va_gets S.1 S.2.1 hZ.2.1 hW.2.2 S.2.2.2.1 (S.2.2.2.2 _ wf_J0_38) (fun _ h => h) dJ0_isLatin1_aae02_0 ?_
  refine lv_if_eq (tgt := 17) S.1 S.2.1 dJ0_isLatin1_aae02_3 (by decide) (fun u => absurd u (by decide)) (fun u => ?_)
  refine lv_aload_n S.1 S.2.1 dJ0_isLatin1_aae02_6 rfl (lv_at hl 0 rfl) ?_
  refine vk_getf S.1 S.2.1 (hZ.1.1 i hi).2.1 hW.2.2 S.2.2.2.1 (S.2.2.2.2 _ wf_J0_15) (fun _ h => h) dJ0_isLatin1_aae02_7 ?_
  refine lv_if_ne (tgt := 17) S.1 S.2.1 dJ0_isLatin1_aae02_10 (by decide) (fun u => absurd rfl u) (fun u => ?_)
  refine lv_iconst (v := (1 : Int32)) S.1 S.2.1 dJ0_isLatin1_aae02_13 ki_1 ?_
  refine lv_goto (tgt := 18) S.1 S.2.1 dJ0_isLatin1_aae02_14 (by decide) ?_
  exact rb S hr hlocks hW rfl dJ0_isLatin1_aae02_18
set_option maxHeartbeats 4000000 in
set_option maxRecDepth 100000 in
theorem t_J0_length_8abf5 (l : Launch) (dC : Nat → ClassId) (dI : Nat → Nat → Nat) (cI cJ cZ cB : ClassId) (zz : ZT) (i : Nat) (hi : i < 5) : ct l (dC, dI) zz (ty4 cI cJ cZ cB) yJ0_length_8abf5 cJ0_length_8abf5 1 (some .int) { frames := 1, cells := 0, slots := 0, locals := 20 } [.ref (zz.1 i)] [] [] (some (.int (nI (lenZ.getD i 0)))) := by
  refine ct_of (cc := cJ0_length_8abf5) (maxL := 1) (ret := (some .int)) (by decide) (Nat.le_of_ble_eq_true rfl) ?_
  intro p e s m below meth c A S hr hlocks hK hN hZ hA H locs hW ls hl
  have S : CallFix p m c cJ0_length_8abf5 1 s (List.toArray [.ref (zz.1 i)]) G RJ0 := S
  have hl : lv_has ls 1 [(0, .ref (zz.1 i))] := hl
  refine lv_aload_n S.1 S.2.1 dJ0_length_8abf5_0 rfl (lv_at hl 0 rfl) ?_
  refine vk_getf S.1 S.2.1 (hZ.1.1 i hi).2.2.1 hW.2.2 S.2.2.2.1 (S.2.2.2.2 _ wf_J0_9) (fun _ h => h) dJ0_length_8abf5_1 ?_
  refine va_tlen S.1 S.2.1 (hZ.1.1 i hi).2.2.2 hW.2.2 (v := nI (lenZ.getD i 0)) rfl dJ0_length_8abf5_4 ?_
  refine lv_aload_n S.1 S.2.1 dJ0_length_8abf5_5 rfl (lv_at hl 0 rfl) ?_
  refine kvz0 S hK hN hZ hA hW (rest := [.int (nI (lenZ.getD i 0))]) (t_J0_coder_7d493 l dC dI cI cJ cZ cB zz i hi) wl_J0_335 wv_J0_coder_7d493 rfl rfl ⟨Nat.le_of_ble_eq_true rfl, Nat.le_of_ble_eq_true rfl⟩ [] [] rfl i hi rfl rfl rfl hl.1 rfl (Nat.le_of_ble_eq_true rfl) dJ0_length_8abf5_6 [.int 0, .int (nI (lenZ.getD i 0))] rfl (fun H locs hW => ?_)
  refine lv_ishr S.1 S.2.1 dJ0_length_8abf5_9 ?_
  refine nmi (y := nI (lenZ.getD i 0)) (sb_shr0 _).symm ?_
  exact ri S hr hlocks hW dJ0_length_8abf5_10
set_option maxHeartbeats 4000000 in
set_option maxRecDepth 100000 in
theorem t_J3_checkIndex_8e157N (l : Launch) (dC : Nat → ClassId) (dI : Nat → Nat → Nat) (cI cJ cZ cB : ClassId) (zz : ZT) (k n : Int32) (h1 : ¬ k < 0) (h2 : k < n) : ct l (dC, dI) zz (ty4 cI cJ cZ cB) yJ3_checkIndex_8e157 cJ3_checkIndex_8e157 3 (some .int) { frames := 0, cells := 0, slots := 0, locals := 0 } [.int k, .int n, .null] [] [] (some (.int k)) := by
  refine ct_of (cc := cJ3_checkIndex_8e157) (maxL := 3) (ret := (some .int)) (by decide) (Nat.le_of_ble_eq_true rfl) ?_
  intro p e s m below meth c A S hr hlocks hK hN hZ hA H locs hW ls hl
  have S : CallFix p m c cJ3_checkIndex_8e157 3 s (List.toArray [.int k, .int n, .null]) G RJ3 := S
  have hl : lv_has ls 3 [(0, .int k), (1, .int n), (2, .null)] := hl
  refine lv_iload_n S.1 S.2.1 dJ3_checkIndex_8e157_0 rfl (lv_at hl 0 rfl) ?_
  refine lv_if_lt (tgt := 9) S.1 S.2.1 dJ3_checkIndex_8e157_1 (by decide) (fun u => absurd u h1) (fun u => ?_)
  refine lv_iload_n S.1 S.2.1 dJ3_checkIndex_8e157_4 rfl (lv_at hl 0 rfl) ?_
  refine lv_iload_n S.1 S.2.1 dJ3_checkIndex_8e157_5 rfl (lv_at hl 1 rfl) ?_
  refine lv_icmp_lt (tgt := 16) S.1 S.2.1 dJ3_checkIndex_8e157_6 (by decide) (fun u => ?_) (fun u => absurd h2 u)
  refine lv_iload_n S.1 S.2.1 dJ3_checkIndex_8e157_16 rfl (lv_at hl 0 rfl) ?_
  exact ri S hr hlocks hW dJ3_checkIndex_8e157_17
set_option maxHeartbeats 4000000 in
set_option maxRecDepth 100000 in
theorem t_J3_checkIndex_8e157R (l : Launch) (dC : Nat → ClassId) (dI : Nat → Nat → Nat) (cI cJ cZ cB : ClassId) (zz : ZT) (t : Nat) (k n : Int32) (h1 : ¬ k < 0) (h2 : k < n) : ct l (dC, dI) zz (ty4 cI cJ cZ cB) yJ3_checkIndex_8e157 cJ3_checkIndex_8e157 3 (some .int) { frames := 0, cells := 0, slots := 0, locals := 0 } [.int k, .int n, .ref t] [] [] (some (.int k)) := by
  refine ct_of (cc := cJ3_checkIndex_8e157) (maxL := 3) (ret := (some .int)) (by decide) (Nat.le_of_ble_eq_true rfl) ?_
  intro p e s m below meth c A S hr hlocks hK hN hZ hA H locs hW ls hl
  have S : CallFix p m c cJ3_checkIndex_8e157 3 s (List.toArray [.int k, .int n, .ref t]) G RJ3 := S
  have hl : lv_has ls 3 [(0, .int k), (1, .int n), (2, .ref t)] := hl
  refine lv_iload_n S.1 S.2.1 dJ3_checkIndex_8e157_0 rfl (lv_at hl 0 rfl) ?_
  refine lv_if_lt (tgt := 9) S.1 S.2.1 dJ3_checkIndex_8e157_1 (by decide) (fun u => absurd u h1) (fun u => ?_)
  refine lv_iload_n S.1 S.2.1 dJ3_checkIndex_8e157_4 rfl (lv_at hl 0 rfl) ?_
  refine lv_iload_n S.1 S.2.1 dJ3_checkIndex_8e157_5 rfl (lv_at hl 1 rfl) ?_
  refine lv_icmp_lt (tgt := 16) S.1 S.2.1 dJ3_checkIndex_8e157_6 (by decide) (fun u => ?_) (fun u => absurd h2 u)
  refine lv_iload_n S.1 S.2.1 dJ3_checkIndex_8e157_16 rfl (lv_at hl 0 rfl) ?_
  exact ri S hr hlocks hW dJ3_checkIndex_8e157_17
set_option maxHeartbeats 4000000 in
set_option maxRecDepth 100000 in
theorem t_J0_checkIndex_df160 (l : Launch) (dC : Nat → ClassId) (dI : Nat → Nat → Nat) (cI cJ cZ cB : ClassId) (zz : ZT) (k n : Int32) (h1 : ¬ k < 0) (h2 : k < n) : ct l (dC, dI) zz (ty4 cI cJ cZ cB) yJ0_checkIndex_df160 cJ0_checkIndex_df160 2 none { frames := 1, cells := 0, slots := 0, locals := 22 } [.int k, .int n] [] [] none := by
  refine ct_of (cc := cJ0_checkIndex_df160) (maxL := 2) (ret := none) (by decide) (Nat.le_of_ble_eq_true rfl) ?_
  intro p e s m below meth c A S hr hlocks hK hN hZ hA H locs hW ls hl
  have S : CallFix p m c cJ0_checkIndex_df160 2 s (List.toArray [.int k, .int n]) G RJ0 := S
  have hl : lv_has ls 2 [(0, .int k), (1, .int n)] := hl
  refine lv_iload_n S.1 S.2.1 dJ0_checkIndex_df160_0 rfl (lv_at hl 0 rfl) ?_
  refine lv_iload_n S.1 S.2.1 dJ0_checkIndex_df160_1 rfl (lv_at hl 1 rfl) ?_
  rcases hZ.2.2.1 with hq | ⟨t, hq⟩
  · refine va_gets S.1 S.2.1 hq hW.2.2 S.2.2.2.1 (S.2.2.2.2 _ wf_J0_1053) (fun _ h => h) dJ0_checkIndex_df160_2 ?_
    refine ks0 S hK hN hZ hA hW (rest := []) (t_J3_checkIndex_8e157N l dC dI cI cJ cZ cB zz k n h1 h2) wl_J0_1059 wv_J3_checkIndex_8e157 rfl rfl ⟨Nat.le_of_ble_eq_true rfl, Nat.le_of_ble_eq_true rfl⟩ [] [] rfl rfl hl.1 rfl (Nat.le_of_ble_eq_true rfl) dJ0_checkIndex_df160_5 [.int k] rfl (fun H locs hW => ?_)
    refine lv_pop S.1 S.2.1 dJ0_checkIndex_df160_8 rfl ?_
    exact rv S hr hlocks hW dJ0_checkIndex_df160_9
  · refine va_gets S.1 S.2.1 hq hW.2.2 S.2.2.2.1 (S.2.2.2.2 _ wf_J0_1053) (fun _ h => h) dJ0_checkIndex_df160_2 ?_
    refine ks0 S hK hN hZ hA hW (rest := []) (t_J3_checkIndex_8e157R l dC dI cI cJ cZ cB zz t k n h1 h2) wl_J0_1059 wv_J3_checkIndex_8e157 rfl rfl ⟨Nat.le_of_ble_eq_true rfl, Nat.le_of_ble_eq_true rfl⟩ [] [] rfl rfl hl.1 rfl (Nat.le_of_ble_eq_true rfl) dJ0_checkIndex_df160_5 [.int k] rfl (fun H locs hW => ?_)
    refine lv_pop S.1 S.2.1 dJ0_checkIndex_df160_8 rfl ?_
    exact rv S hr hlocks hW dJ0_checkIndex_df160_9
theorem inbZ {i : Nat} (hi : i < 5) {k : Int32} (hk : inb k (lenZ.getD i 0)) : ¬ k < 0 ∧ k < nI (lenZ.getD i 0) := by
  have hl : lenZ.getD i 0 < 2 ^ 31 := by match i, hi with
    | 0, _ => exact (by decide)
    | 1, _ => exact (by decide)
    | 2, _ => exact (by decide)
    | 3, _ => exact (by decide)
    | 4, _ => exact (by decide)
  refine ⟨fun h => ?_, ?_⟩
  · have := Int32.lt_iff_toInt_lt.mp h; rw [Int32.toInt_zero] at this; have := hk.1; omega
  · rw [Int32.lt_iff_toInt_lt, nI_toInt hl]; exact hk.2
set_option maxHeartbeats 4000000 in
set_option maxRecDepth 100000 in
theorem t_J1_charAt_3b067 (l : Launch) (dC : Nat → ClassId) (dI : Nat → Nat → Nat) (cI cJ cZ cB : ClassId) (zz : ZT) (i : Nat) (hi : i < 5) (k : Int32) (hk : inb k (lenZ.getD i 0)) : ct l (dC, dI) zz (ty4 cI cJ cZ cB) yJ1_charAt_3b067 cJ1_charAt_3b067 2 (some .char) { frames := 2, cells := 0, slots := 0, locals := 50 } [.ref (zz.2 i), .int k] [] [] (some (.int (chZ i k))) := by
  refine ct_of (cc := cJ1_charAt_3b067) (maxL := 2) (ret := (some .char)) (by decide) (Nat.le_of_ble_eq_true rfl) ?_
  intro p e s m below meth c A S hr hlocks hK hN hZ hA H locs hW ls hl
  have S : CallFix p m c cJ1_charAt_3b067 2 s (List.toArray [.ref (zz.2 i), .int k]) G RJ1 := S
  have hl : lv_has ls 2 [(0, .ref (zz.2 i)), (1, .int k)] := hl
  refine lv_iload_n S.1 S.2.1 dJ1_charAt_3b067_0 rfl (lv_at hl 1 rfl) ?_
  refine lv_aload_n S.1 S.2.1 dJ1_charAt_3b067_1 rfl (lv_at hl 0 rfl) ?_
  refine va_tlen S.1 S.2.1 (hZ.1.1 i hi).2.2.2 hW.2.2 (v := nI (lenZ.getD i 0)) rfl dJ1_charAt_3b067_2 ?_
  refine ks0 S hK hN hZ hA hW (rest := []) (t_J0_checkIndex_df160 l dC dI cI cJ cZ cB zz k (nI (lenZ.getD i 0)) (inbZ hi hk).1 (inbZ hi hk).2) wl_J1_9 wv_J0_checkIndex_df160 rfl rfl ⟨Nat.le_of_ble_eq_true rfl, Nat.le_of_ble_eq_true rfl⟩ [] [] rfl rfl hl.1 rfl (Nat.le_of_ble_eq_true rfl) dJ1_charAt_3b067_3 [] rfl (fun H locs hW => ?_)
  refine lv_aload_n S.1 S.2.1 dJ1_charAt_3b067_6 rfl (lv_at hl 0 rfl) ?_
  refine lv_iload_n S.1 S.2.1 dJ1_charAt_3b067_7 rfl (lv_at hl 1 rfl) ?_
  refine va_tb S.1 S.2.1 (hZ.1.1 i hi).2.2.2 hW.2.2 (inb_vp hk) rfl dJ1_charAt_3b067_8 ?_
  refine lv_sipush (v := (255 : Int32)) S.1 S.2.1 dJ1_charAt_3b067_9 (by decide) ?_
  refine lv_iand S.1 S.2.1 dJ1_charAt_3b067_12 ?_
  refine lv_i2c (v := chZ i k) S.1 S.2.1 dJ1_charAt_3b067_13 rfl ?_
  exact rb S hr hlocks hW (pk_nc _) dJ1_charAt_3b067_14
set_option maxHeartbeats 4000000 in
set_option maxRecDepth 100000 in
theorem t_J0_charAt_5068e (l : Launch) (dC : Nat → ClassId) (dI : Nat → Nat → Nat) (cI cJ cZ cB : ClassId) (zz : ZT) (i : Nat) (hi : i < 5) (k : Int32) (hk : inb k (lenZ.getD i 0)) : ct l (dC, dI) zz (ty4 cI cJ cZ cB) yJ0_charAt_5068e cJ0_charAt_5068e 2 (some .char) { frames := 3, cells := 0, slots := 0, locals := 80 } [.ref (zz.1 i), .int k] [] [] (some (.int (chZ i k))) := by
  refine ct_of (cc := cJ0_charAt_5068e) (maxL := 2) (ret := (some .char)) (by decide) (Nat.le_of_ble_eq_true rfl) ?_
  intro p e s m below meth c A S hr hlocks hK hN hZ hA H locs hW ls hl
  have S : CallFix p m c cJ0_charAt_5068e 2 s (List.toArray [.ref (zz.1 i), .int k]) G RJ0 := S
  have hl : lv_has ls 2 [(0, .ref (zz.1 i)), (1, .int k)] := hl
  refine lv_aload_n S.1 S.2.1 dJ0_charAt_5068e_0 rfl (lv_at hl 0 rfl) ?_
  refine kvz0 S hK hN hZ hA hW (rest := []) (t_J0_isLatin1_aae02 l dC dI cI cJ cZ cB zz i hi) wl_J0_492 wv_J0_isLatin1_aae02 rfl rfl ⟨Nat.le_of_ble_eq_true rfl, Nat.le_of_ble_eq_true rfl⟩ [] [] rfl i hi rfl rfl rfl hl.1 rfl (Nat.le_of_ble_eq_true rfl) dJ0_charAt_5068e_1 [.int 1] rfl (fun H locs hW => ?_)
  refine lv_if_eq (tgt := 16) S.1 S.2.1 dJ0_charAt_5068e_4 (by decide) (fun u => absurd u (by decide)) (fun u => ?_)
  refine lv_aload_n S.1 S.2.1 dJ0_charAt_5068e_7 rfl (lv_at hl 0 rfl) ?_
  refine vk_getf S.1 S.2.1 (hZ.1.1 i hi).2.2.1 hW.2.2 S.2.2.2.1 (S.2.2.2.2 _ wf_J0_9) (fun _ h => h) dJ0_charAt_5068e_8 ?_
  refine lv_iload_n S.1 S.2.1 dJ0_charAt_5068e_11 rfl (lv_at hl 1 rfl) ?_
  refine ks0 S hK hN hZ hA hW (rest := []) (t_J1_charAt_3b067 l dC dI cI cJ cZ cB zz i hi k hk) wl_J0_495 wv_J1_charAt_3b067 rfl rfl ⟨Nat.le_of_ble_eq_true rfl, Nat.le_of_ble_eq_true rfl⟩ [] [] rfl rfl hl.1 rfl (Nat.le_of_ble_eq_true rfl) dJ0_charAt_5068e_12 [.int (chZ i k)] rfl (fun H locs hW => ?_)
  exact rb S hr hlocks hW (pk_nc _) dJ0_charAt_5068e_15
