theorem nsts_tb : ∀ w ∈ nsts, w ∈ lw_tbl := by
  intro w hw
  simp only [nsts, List.mem_cons, List.not_mem_nil, or_false] at hw
  rcases hw with rfl | rfl | rfl | rfl | rfl | rfl | rfl | rfl | rfl | rfl | rfl | rfl | rfl | rfl | rfl
  · exact inT3 (k := 47) rfl
  · exact inT1 (k := 120) rfl
  · exact inT1 (k := 123) rfl
  · exact inT1 (k := 28) rfl
  · exact inT3 (k := 60) rfl
  · exact inT1 (k := 34) rfl
  · exact inT2 (k := 132) rfl
  · exact inT1 (k := 129) rfl
  · exact inT2 (k := 108) rfl
  · exact inT1 (k := 158) rfl
  · exact inT2 (k := 119) rfl
  · exact inT4 (k := 24) rfl
  · exact inT2 (k := 2) rfl
  · exact inT3 (k := 91) rfl
  · exact inT3 (k := 153) rfl
/-- what the Statement says of the String constants -/
theorem str_start {s : State} {b : Addr} {A : Nat → Prop} (hgv : (Jvm.Cond.and given_1 narrow_1).before #[Value.ref b] s = true) (hts : ∀ w ∈ lw_tbl, w.before #[Value.ref b] s = true) (hA : ∀ a : Nat, a < s.heap.size → ¬ A a) : ∃ zz : ZT, ZS zz A s s.heap := by
  have hs := flat_of_before _ hgv
  have hex : ∀ i : Nat, i < 5 → (Cond.exactly (Term.string "SidesChange$Clerk" ([39, 49, 54, 59, 64].getD i 39)) "java/lang/String").before #[Value.ref b] s = true := by
    intro i hi
    match i, hi with
    | 0, _ => exact hs (Cond.exactly (Term.string "SidesChange$Clerk" 39) "java/lang/String") (by decide +kernel)
    | 1, _ => exact hs (Cond.exactly (Term.string "SidesChange$Clerk" 49) "java/lang/String") (by decide +kernel)
    | 2, _ => exact hs (Cond.exactly (Term.string "SidesChange$Clerk" 54) "java/lang/String") (by decide +kernel)
    | 3, _ => exact hs (Cond.exactly (Term.string "SidesChange$Clerk" 59) "java/lang/String") (by decide +kernel)
    | 4, _ => exact hs (Cond.exactly (Term.string "SidesChange$Clerk" 64) "java/lang/String") (by decide +kernel)
  have hco : ∀ i : Nat, i < 5 → (Cond.eq (.field (Term.string "SidesChange$Clerk" ([39, 49, 54, 59, 64].getD i 39)) "java/lang/String" "coder" "B") (.int 0)).before #[Value.ref b] s = true := by
    intro i hi
    match i, hi with
    | 0, _ => exact hs (Cond.eq (.field (Term.string "SidesChange$Clerk" 39) "java/lang/String" "coder" "B") (.int 0)) (by decide +kernel)
    | 1, _ => exact hs (Cond.eq (.field (Term.string "SidesChange$Clerk" 49) "java/lang/String" "coder" "B") (.int 0)) (by decide +kernel)
    | 2, _ => exact hs (Cond.eq (.field (Term.string "SidesChange$Clerk" 54) "java/lang/String" "coder" "B") (.int 0)) (by decide +kernel)
    | 3, _ => exact hs (Cond.eq (.field (Term.string "SidesChange$Clerk" 59) "java/lang/String" "coder" "B") (.int 0)) (by decide +kernel)
    | 4, _ => exact hs (Cond.eq (.field (Term.string "SidesChange$Clerk" 64) "java/lang/String" "coder" "B") (.int 0)) (by decide +kernel)
  have har : ∀ i : Nat, i < 5 → (Cond.arrayOf (.field (Term.string "SidesChange$Clerk" ([39, 49, 54, 59, 64].getD i 39)) "java/lang/String" "value" "[B") .byte).before #[Value.ref b] s = true := by
    intro i hi
    match i, hi with
    | 0, _ => exact hs (Cond.arrayOf (.field (Term.string "SidesChange$Clerk" 39) "java/lang/String" "value" "[B") .byte) (by decide +kernel)
    | 1, _ => exact hs (Cond.arrayOf (.field (Term.string "SidesChange$Clerk" 49) "java/lang/String" "value" "[B") .byte) (by decide +kernel)
    | 2, _ => exact hs (Cond.arrayOf (.field (Term.string "SidesChange$Clerk" 54) "java/lang/String" "value" "[B") .byte) (by decide +kernel)
    | 3, _ => exact hs (Cond.arrayOf (.field (Term.string "SidesChange$Clerk" 59) "java/lang/String" "value" "[B") .byte) (by decide +kernel)
    | 4, _ => exact hs (Cond.arrayOf (.field (Term.string "SidesChange$Clerk" 64) "java/lang/String" "value" "[B") .byte) (by decide +kernel)
  have hle : ∀ i : Nat, i < 5 → (Cond.eq (.length (.field (Term.string "SidesChange$Clerk" ([39, 49, 54, 59, 64].getD i 39)) "java/lang/String" "value" "[B")) (.int (Int32.ofNat (lenZ.getD i 0)))).before #[Value.ref b] s = true := by
    intro i hi
    match i, hi with
    | 0, _ => exact hs (Cond.eq (.length (.field (Term.string "SidesChange$Clerk" 39) "java/lang/String" "value" "[B")) (.int 4)) (by decide +kernel)
    | 1, _ => exact hs (Cond.eq (.length (.field (Term.string "SidesChange$Clerk" 49) "java/lang/String" "value" "[B")) (.int 4)) (by decide +kernel)
    | 2, _ => exact hs (Cond.eq (.length (.field (Term.string "SidesChange$Clerk" 54) "java/lang/String" "value" "[B")) (.int 5)) (by decide +kernel)
    | 3, _ => exact hs (Cond.eq (.length (.field (Term.string "SidesChange$Clerk" 59) "java/lang/String" "value" "[B")) (.int 3)) (by decide +kernel)
    | 4, _ => exact hs (Cond.eq (.length (.field (Term.string "SidesChange$Clerk" 64) "java/lang/String" "value" "[B")) (.int 6)) (by decide +kernel)
  have hel : ∀ i : Nat, i < 5 → ∀ j : Nat, j < lenZ.getD i 0 → (Cond.eq (.elem (.field (Term.string "SidesChange$Clerk" ([39, 49, 54, 59, 64].getD i 39)) "java/lang/String" "value" "[B") (.int (Int32.ofNat j))) (.int ((bytZ.getD i []).getD j 0))).before #[Value.ref b] s = true := by
    intro i hi j hj
    match i, hi with
    | 0, _ =>
      have hj : j < 4 := hj
      match j, hj with
      | 0, _ => exact hs (Cond.eq (.elem (.field (Term.string "SidesChange$Clerk" 39) "java/lang/String" "value" "[B") (.int 0)) (.int 99)) (by decide +kernel)
      | 1, _ => exact hs (Cond.eq (.elem (.field (Term.string "SidesChange$Clerk" 39) "java/lang/String" "value" "[B") (.int 1)) (.int 97)) (by decide +kernel)
      | 2, _ => exact hs (Cond.eq (.elem (.field (Term.string "SidesChange$Clerk" 39) "java/lang/String" "value" "[B") (.int 2)) (.int 115)) (by decide +kernel)
      | 3, _ => exact hs (Cond.eq (.elem (.field (Term.string "SidesChange$Clerk" 39) "java/lang/String" "value" "[B") (.int 3)) (.int 101)) (by decide +kernel)
    | 1, _ =>
      have hj : j < 4 := hj
      match j, hj with
      | 0, _ => exact hs (Cond.eq (.elem (.field (Term.string "SidesChange$Clerk" 49) "java/lang/String" "value" "[B") (.int 0)) (.int 98)) (by decide +kernel)
      | 1, _ => exact hs (Cond.eq (.elem (.field (Term.string "SidesChange$Clerk" 49) "java/lang/String" "value" "[B") (.int 1)) (.int 111)) (by decide +kernel)
      | 2, _ => exact hs (Cond.eq (.elem (.field (Term.string "SidesChange$Clerk" 49) "java/lang/String" "value" "[B") (.int 2)) (.int 119)) (by decide +kernel)
      | 3, _ => exact hs (Cond.eq (.elem (.field (Term.string "SidesChange$Clerk" 49) "java/lang/String" "value" "[B") (.int 3)) (.int 115)) (by decide +kernel)
    | 2, _ =>
      have hj : j < 5 := hj
      match j, hj with
      | 0, _ => exact hs (Cond.eq (.elem (.field (Term.string "SidesChange$Clerk" 54) "java/lang/String" "value" "[B") (.int 0)) (.int 112)) (by decide +kernel)
      | 1, _ => exact hs (Cond.eq (.elem (.field (Term.string "SidesChange$Clerk" 54) "java/lang/String" "value" "[B") (.int 1)) (.int 111)) (by decide +kernel)
      | 2, _ => exact hs (Cond.eq (.elem (.field (Term.string "SidesChange$Clerk" 54) "java/lang/String" "value" "[B") (.int 2)) (.int 105)) (by decide +kernel)
      | 3, _ => exact hs (Cond.eq (.elem (.field (Term.string "SidesChange$Clerk" 54) "java/lang/String" "value" "[B") (.int 3)) (.int 110)) (by decide +kernel)
      | 4, _ => exact hs (Cond.eq (.elem (.field (Term.string "SidesChange$Clerk" 54) "java/lang/String" "value" "[B") (.int 4)) (.int 116)) (by decide +kernel)
    | 3, _ =>
      have hj : j < 3 := hj
      match j, hj with
      | 0, _ => exact hs (Cond.eq (.elem (.field (Term.string "SidesChange$Clerk" 59) "java/lang/String" "value" "[B") (.int 0)) (.int 115)) (by decide +kernel)
      | 1, _ => exact hs (Cond.eq (.elem (.field (Term.string "SidesChange$Clerk" 59) "java/lang/String" "value" "[B") (.int 1)) (.int 97)) (by decide +kernel)
      | 2, _ => exact hs (Cond.eq (.elem (.field (Term.string "SidesChange$Clerk" 59) "java/lang/String" "value" "[B") (.int 2)) (.int 121)) (by decide +kernel)
    | 4, _ =>
      have hj : j < 6 := hj
      match j, hj with
      | 0, _ => exact hs (Cond.eq (.elem (.field (Term.string "SidesChange$Clerk" 64) "java/lang/String" "value" "[B") (.int 0)) (.int 111)) (by decide +kernel)
      | 1, _ => exact hs (Cond.eq (.elem (.field (Term.string "SidesChange$Clerk" 64) "java/lang/String" "value" "[B") (.int 1)) (.int 98)) (by decide +kernel)
      | 2, _ => exact hs (Cond.eq (.elem (.field (Term.string "SidesChange$Clerk" 64) "java/lang/String" "value" "[B") (.int 2)) (.int 106)) (by decide +kernel)
      | 3, _ => exact hs (Cond.eq (.elem (.field (Term.string "SidesChange$Clerk" 64) "java/lang/String" "value" "[B") (.int 3)) (.int 101)) (by decide +kernel)
      | 4, _ => exact hs (Cond.eq (.elem (.field (Term.string "SidesChange$Clerk" 64) "java/lang/String" "value" "[B") (.int 4)) (.int 99)) (by decide +kernel)
      | 5, _ => exact hs (Cond.eq (.elem (.field (Term.string "SidesChange$Clerk" 64) "java/lang/String" "value" "[B") (.int 5)) (.int 116)) (by decide +kernel)
  have hne : ∀ i j : Nat, i < 5 → j < 5 → i ≠ j → (Cond.not (Cond.eq (Term.string "SidesChange$Clerk" ([39, 49, 54, 59, 64].getD i 39)) (Term.string "SidesChange$Clerk" ([39, 49, 54, 59, 64].getD j 39)))).before #[Value.ref b] s = true ∨ (Cond.not (Cond.eq (Term.string "SidesChange$Clerk" ([39, 49, 54, 59, 64].getD j 39)) (Term.string "SidesChange$Clerk" ([39, 49, 54, 59, 64].getD i 39)))).before #[Value.ref b] s = true := by
    intro i j hi hj hij
    match i, hi, j, hj with
    | 0, _, 0, _ => exact absurd rfl hij
    | 0, _, 1, _ => exact Or.inl (hs (Cond.not (Cond.eq (Term.string "SidesChange$Clerk" 39) (Term.string "SidesChange$Clerk" 49))) (by decide +kernel))
    | 0, _, 2, _ => exact Or.inl (hs (Cond.not (Cond.eq (Term.string "SidesChange$Clerk" 39) (Term.string "SidesChange$Clerk" 54))) (by decide +kernel))
    | 0, _, 3, _ => exact Or.inl (hs (Cond.not (Cond.eq (Term.string "SidesChange$Clerk" 39) (Term.string "SidesChange$Clerk" 59))) (by decide +kernel))
    | 0, _, 4, _ => exact Or.inl (hs (Cond.not (Cond.eq (Term.string "SidesChange$Clerk" 39) (Term.string "SidesChange$Clerk" 64))) (by decide +kernel))
    | 1, _, 0, _ => exact Or.inr (hs (Cond.not (Cond.eq (Term.string "SidesChange$Clerk" 39) (Term.string "SidesChange$Clerk" 49))) (by decide +kernel))
    | 1, _, 1, _ => exact absurd rfl hij
    | 1, _, 2, _ => exact Or.inl (hs (Cond.not (Cond.eq (Term.string "SidesChange$Clerk" 49) (Term.string "SidesChange$Clerk" 54))) (by decide +kernel))
    | 1, _, 3, _ => exact Or.inl (hs (Cond.not (Cond.eq (Term.string "SidesChange$Clerk" 49) (Term.string "SidesChange$Clerk" 59))) (by decide +kernel))
    | 1, _, 4, _ => exact Or.inl (hs (Cond.not (Cond.eq (Term.string "SidesChange$Clerk" 49) (Term.string "SidesChange$Clerk" 64))) (by decide +kernel))
    | 2, _, 0, _ => exact Or.inr (hs (Cond.not (Cond.eq (Term.string "SidesChange$Clerk" 39) (Term.string "SidesChange$Clerk" 54))) (by decide +kernel))
    | 2, _, 1, _ => exact Or.inr (hs (Cond.not (Cond.eq (Term.string "SidesChange$Clerk" 49) (Term.string "SidesChange$Clerk" 54))) (by decide +kernel))
    | 2, _, 2, _ => exact absurd rfl hij
    | 2, _, 3, _ => exact Or.inl (hs (Cond.not (Cond.eq (Term.string "SidesChange$Clerk" 54) (Term.string "SidesChange$Clerk" 59))) (by decide +kernel))
    | 2, _, 4, _ => exact Or.inl (hs (Cond.not (Cond.eq (Term.string "SidesChange$Clerk" 54) (Term.string "SidesChange$Clerk" 64))) (by decide +kernel))
    | 3, _, 0, _ => exact Or.inr (hs (Cond.not (Cond.eq (Term.string "SidesChange$Clerk" 39) (Term.string "SidesChange$Clerk" 59))) (by decide +kernel))
    | 3, _, 1, _ => exact Or.inr (hs (Cond.not (Cond.eq (Term.string "SidesChange$Clerk" 49) (Term.string "SidesChange$Clerk" 59))) (by decide +kernel))
    | 3, _, 2, _ => exact Or.inr (hs (Cond.not (Cond.eq (Term.string "SidesChange$Clerk" 54) (Term.string "SidesChange$Clerk" 59))) (by decide +kernel))
    | 3, _, 3, _ => exact absurd rfl hij
    | 3, _, 4, _ => exact Or.inl (hs (Cond.not (Cond.eq (Term.string "SidesChange$Clerk" 59) (Term.string "SidesChange$Clerk" 64))) (by decide +kernel))
    | 4, _, 0, _ => exact Or.inr (hs (Cond.not (Cond.eq (Term.string "SidesChange$Clerk" 39) (Term.string "SidesChange$Clerk" 64))) (by decide +kernel))
    | 4, _, 1, _ => exact Or.inr (hs (Cond.not (Cond.eq (Term.string "SidesChange$Clerk" 49) (Term.string "SidesChange$Clerk" 64))) (by decide +kernel))
    | 4, _, 2, _ => exact Or.inr (hs (Cond.not (Cond.eq (Term.string "SidesChange$Clerk" 54) (Term.string "SidesChange$Clerk" 64))) (by decide +kernel))
    | 4, _, 3, _ => exact Or.inr (hs (Cond.not (Cond.eq (Term.string "SidesChange$Clerk" 59) (Term.string "SidesChange$Clerk" 64))) (by decide +kernel))
    | 4, _, 4, _ => exact absurd rfl hij
  obtain ⟨zK, zV, hvS, hev⟩ := vk_Sof (A := A) (N := 5) (len := lenZ) (byt := bytZ) (tm := fun i => Term.string "SidesChange$Clerk" ([39, 49, 54, 59, 64].getD i 39)) (by intro i hi; match i, hi with | 0, _ => exact (by decide) | 1, _ => exact (by decide) | 2, _ => exact (by decide) | 3, _ => exact (by decide) | 4, _ => exact (by decide)) hex hco har hle hel hne hA
  refine ⟨(zK, zV), hvS, va_Zof (hts _ (inT2 (k := 61) rfl)) (hts _ (G_tbl _ wi_J0)) (va_eqi (hs (Cond.eq (.static "java/lang/String" "COMPACT_STRINGS" "Z") (.int 1)) (by decide +kernel))) hA, va_Zqof (hts _ (inT2 (k := 77) rfl)) (hts _ (G_tbl _ wi_J3)) (hs (Cond.isRef (.static "jdk/internal/util/Preconditions" "SIOOBE_FORMATTER" "Ljava/util/function/BiFunction;")) (by decide +kernel)) hA, ?_, ?_, ?_, ?_, ?_⟩
  · exact vk_R.of (A := #[Value.ref b]) (hts _ (inT2 (k := 47) rfl)) (hev 0 (by decide))
  · exact vk_R.of (A := #[Value.ref b]) (hts _ (inT2 (k := 114) rfl)) (hev 1 (by decide))
  · exact vk_R.of (A := #[Value.ref b]) (hts _ (inT2 (k := 120) rfl)) (hev 2 (by decide))
  · exact vk_R.of (A := #[Value.ref b]) (hts _ (inT2 (k := 127) rfl)) (hev 3 (by decide))
  · exact vk_R.of (A := #[Value.ref b]) (hts _ (inT2 (k := 193) rfl)) (hev 4 (by decide))
set_option maxHeartbeats 4000000 in
set_option maxRecDepth 100000 in
/-- THE LAW from its entry: what its model answers is what it answers -/
theorem whole_open {p : Program} {e : Env} {s : State} {m : MethodId} {below : List Frame} {meth : Method} {c : Code} (l : Launch) {b L : Nat} {xs : Nat → Int32} (C0 : lw_At p s m meth c b L xs) (F : Nat) (cb : Nat → Nat → Int32) (hcb : md_X9_begin F (fun _ _ => 0) (0 : Int32) (0 : Int32) = some cb) (hm : md_L_law xs L F cS0 wS0 cB0 wB0 cC0 cC0 cT0 cB0 wB0 cC0 cB0 wB0 cC0 cC0 (cM0 cb) wM0 = some (1 : Int32)) : W p l e room_1 s m #[Value.ref b] below meth c s.heap [] 0 0 (lw_Z below #[Value.ref b] s) (entryFrame m ([Value.ref b] : List Value).toArray 4) := by
  obtain ⟨hx, hb, hr, hml, hown, hts, hX, hbl, hlocks, hgv⟩ := C0
  have S : CallFix p m c cL_law 4 s #[Value.ref b] G RL := ⟨hx, hb, hml, hown, fun w h => hts w (G_tbl w h)⟩
  obtain ⟨A, hAe⟩ : ∃ A : Nat → Prop, A = fun q => s.heap.size ≤ q := ⟨_, rfl⟩
  have hA : ∀ q : Nat, s.heap.size ≤ q → A q := fun q h => by rw [hAe]; exact h
  have hAr : ∀ q : Nat, A q → s.heap.size ≤ q := fun q h => by rw [hAe] at h; exact h
  have hbA : ¬ A b := fun h => absurd (hAr b h) (by omega)
  obtain ⟨zz, hZ⟩ := str_start (A := A) hgv hts (fun a ha h => absurd (hAr a h) (by omega))
  obtain ⟨k0, i0, hK0⟩ := u_known (C := RX1) (T := TX1) (N := 9) (n := 9) S.2.2.2.2 wu_X1 (S.2.2.2.2 _ wn_X1)
  obtain ⟨k1, i1, hK1⟩ := u_known (C := RX2) (T := TX2) (N := 2) (n := 2) S.2.2.2.2 wu_X2 (S.2.2.2.2 _ wn_X2)
  obtain ⟨k2, i2, hK2⟩ := u_known (C := RX3) (T := TX3) (N := 10) (n := 10) S.2.2.2.2 wu_X3 (S.2.2.2.2 _ wn_X3)
  obtain ⟨k3, i3, hK3⟩ := u_known (C := RX7) (T := TX7) (N := 6) (n := 6) S.2.2.2.2 wu_X7 (S.2.2.2.2 _ wn_X7)
  obtain ⟨k4, i4, hK4⟩ := u_known (C := RX8) (T := TX8) (N := 8) (n := 8) S.2.2.2.2 wu_X8 (S.2.2.2.2 _ wn_X8)
  obtain ⟨k5, i5, hK5⟩ := u_known (C := RX9) (T := TX9) (N := 28) (n := 28) S.2.2.2.2 wu_X9 (S.2.2.2.2 _ wn_X9)
  obtain ⟨dC, dI, hKc⟩ : ∃ (dC : Nat → ClassId) (dI : Nat → Nat → Nat), ∀ (k : Nat) (q : vw_C), vwCl[k]? = some q → u_Kn s q.1 q.2.1 q.2.2 (dC k) (dI k) := by
    refine ⟨fun k => [k0, k1, k2, k3, k4, k5].getD k k0, fun k => [i0, i1, i2, i3, i4, i5].getD k i0, ?_⟩
    intro k q hq
    match k, hq with
    | 0, hq => cases hq; exact hK0
    | 1, hq => cases hq; exact hK1
    | 2, hq => cases hq; exact hK2
    | 3, hq => cases hq; exact hK3
    | 4, hq => cases hq; exact hK4
    | 5, hq => cases hq; exact hK5
    | k + 6, hq => simp [vwCl] at hq
  obtain ⟨cI, eI, gI, f1I, f2I, f3I⟩ := Cond.arrayClass_spec (S.2.2.2.2 _ wa_int)
  obtain ⟨cJ, eJ, gJ, f1J, f2J, f3J⟩ := Cond.arrayClass_spec (S.2.2.2.2 _ wa_long)
  obtain ⟨cZ, eZ, gZ, f1Z, f2Z, f3Z⟩ := Cond.arrayClass_spec (S.2.2.2.2 _ wa_boolean)
  have hAO : va_AO RX1 s := va_AO.of (hts _ (inT1 (k := 118) rfl))
  obtain ⟨comp, cB, kB, g1, g2, g3, g4, g5⟩ := Cond.arrayOver_spec hAO
  have hK : va_K (dC, dI) vwCl (ty4 cI cJ cZ cB) s := by
    refine ⟨hKc, fun k q hq => ?_⟩
    match k, hq with
    | 0, hq => cases hq; exact ⟨fun N z => ⟨(fun k h => by cases h), eI, f2I, gI, f3I⟩, f1I⟩
    | 1, hq => cases hq; exact ⟨fun N z => ⟨(fun k h => by cases h), eJ, f2J, gJ, f3J⟩, f1J⟩
    | 2, hq => cases hq; exact ⟨fun N z => ⟨(fun k h => by cases h), eZ, f2Z, gZ, f3Z⟩, f1Z⟩
    | 3, hq => cases hq; exact ⟨fun N z => ⟨(fun k h => by cases h), kB, g3, comp, g4⟩, kB, comp, g3, g4, g1, g5⟩
    | k + 4, hq => simp [ty4] at hq
  have hN : NN s := ⟨fun w hw => va_Nw.of (by obtain ⟨_, _, _, _, rfl⟩ := nsts_nst w hw; rfl) (hts w (nsts_tb w hw)), hAO⟩
  have hW : wd (dC, dI) A s.heap [] s.heap [] := ⟨fun k q h => by simp at h, ⟨fun i j p q h => by simp at h, fun k q h => by simp at h⟩, va_S.rf⟩
  have hl := lv_entry ([.ref b]) (n := 4) (Nat.le_of_ble_eq_true rfl)
  rw [lg_entry_eq]
  generalize (lg_sl ([.ref b]) ++ List.replicate (4 - (lg_sl ([.ref b])).length) Slot.unset).toArray = ls at hl ⊢
  have hl : lv_has ls 4 [(0, .ref b)] := hl
  refine cnew (ci := 4) (fs := [.null, .null, .null, .null, .null, .null, .long 0, .long 0]) (C := RX8) (T := TX8) (N := 8) S hK hA hW wu_X8 tyX8 tyX8_ok wc_L_7 wn_X8 wi_X8 rfl df_X8 (Nat.le_of_ble_eq_true rfl) (Nat.le_of_ble_eq_true rfl) dL_law_0 (fun q0 H hW => ?_)
  refine lv_dup S.1 S.2.1 dL_law_3 rfl ?_
  refine kip (pre := []) S hK hN hZ hA hW (n_X8_init l dC dI cI cJ cZ cB zz q0) wl_L_9 wv_X8_init rfl rfl rfl ⟨Nat.le_of_ble_eq_true rfl, Nat.le_of_ble_eq_true rfl⟩ hl.1 (Nat.le_of_ble_eq_true rfl) dL_law_4 ⟨Nat.le_of_ble_eq_true rfl, Nat.le_of_ble_eq_true rfl⟩ (fun H locs w1 hp hW => ?_)
  obtain ⟨b0, b1, b2, b3, b4, b5, b6, b7, b8, b9, b10, rfl⟩ := hp
  have hW : wd (dC, dI) A s.heap (cwX8 cI cJ cZ cB q0 b0 cS0 wS0 (cwX1 cI cJ cZ cB (b0 0) b1 cB0 wB0 (cwX3 cI cJ cZ cB (b1 0) b2 cC0 (cwX2 cI cJ cZ cB (b0 4) b3  (cwX3 cI cJ cZ cB (b3 1) b4 cC0 (cwX7 cI cJ cZ cB (b3 0) b5 cT0 (cwX1 cI cJ cZ cB (b0 8) b6 cB0 wB0 (cwX3 cI cJ cZ cB (b6 0) b7 cC0 (cwX1 cI cJ cZ cB (b0 9) b8 cB0 wB0 (cwX3 cI cJ cZ cB (b8 0) b9 cC0 (cwX3 cI cJ cZ cB (b0 3) b10 cC0 []))))))))))) H locs := hW
  refine lv_astore_n (lv' := [(1, .ref q0), (0, .ref b)]) S.1 S.2.1 dL_law_7 rfl hl (by decide) rfl (fun ls hl => ?_)
  refine cnew (ci := 5) (fs := [.null, .null, .null, .null, .long 0, .long 0, .null, .null, .null, .null, .null, .null, .null, .null, .int 0, .int 0, .int 0, .int 0, .null, .null, .null, .int 0, .int 0, .int 0, .int 0, .int 0, .null, .null]) (C := RX9) (T := TX9) (N := 28) S hK hA hW wu_X9 tyX9 tyX9_ok wc_L_10 wn_X9 wi_X9 rfl df_X9 (Nat.le_of_ble_eq_true rfl) (Nat.le_of_ble_eq_true rfl) dL_law_8 (fun q1 H hW => ?_)
  refine lv_dup S.1 S.2.1 dL_law_11 rfl ?_
  refine kip (pre := (cwX8 cI cJ cZ cB q0 b0 cS0 wS0 (cwX1 cI cJ cZ cB (b0 0) b1 cB0 wB0 (cwX3 cI cJ cZ cB (b1 0) b2 cC0 (cwX2 cI cJ cZ cB (b0 4) b3  (cwX3 cI cJ cZ cB (b3 1) b4 cC0 (cwX7 cI cJ cZ cB (b3 0) b5 cT0 (cwX1 cI cJ cZ cB (b0 8) b6 cB0 wB0 (cwX3 cI cJ cZ cB (b6 0) b7 cC0 (cwX1 cI cJ cZ cB (b0 9) b8 cB0 wB0 (cwX3 cI cJ cZ cB (b8 0) b9 cC0 (cwX3 cI cJ cZ cB (b0 3) b10 cC0 [])))))))))))) S hK hN hZ hA hW (n_X9_init l dC dI cI cJ cZ cB zz q1 F cb hcb) wl_L_12 wv_X9_init rfl rfl rfl ⟨Nat.le_of_ble_eq_true rfl, Nat.le_of_ble_eq_true rfl⟩ hl.1 (Nat.le_of_ble_eq_true rfl) dL_law_12 ⟨Nat.le_of_ble_eq_true rfl, Nat.le_of_ble_eq_true rfl⟩ (fun H locs w1 hp hW => ?_)
  obtain ⟨d0, rfl⟩ := hp
  have hW : wd (dC, dI) A s.heap (cwX8 cI cJ cZ cB q0 b0 cS0 wS0 (cwX1 cI cJ cZ cB (b0 0) b1 cB0 wB0 (cwX3 cI cJ cZ cB (b1 0) b2 cC0 (cwX2 cI cJ cZ cB (b0 4) b3  (cwX3 cI cJ cZ cB (b3 1) b4 cC0 (cwX7 cI cJ cZ cB (b3 0) b5 cT0 (cwX1 cI cJ cZ cB (b0 8) b6 cB0 wB0 (cwX3 cI cJ cZ cB (b6 0) b7 cC0 (cwX1 cI cJ cZ cB (b0 9) b8 cB0 wB0 (cwX3 cI cJ cZ cB (b8 0) b9 cC0 (cwX3 cI cJ cZ cB (b0 3) b10 cC0 (cwX9 cI cJ cZ cB q1 d0 (cM0 cb) wM0 [])))))))))))) H locs := hW
  refine lv_astore_n (lv' := [(2, .ref q1), (1, .ref q0), (0, .ref b)]) S.1 S.2.1 dL_law_15 rfl hl (by decide) rfl (fun ls hl => ?_)
  exact law_main dC dI cI cJ cZ cB zz A xs L S hr hlocks hK hN hZ hA hAr hX hbl hbA ⟨Nat.le_of_ble_eq_true rfl, Nat.le_of_ble_eq_true rfl⟩ (Nat.le_of_ble_eq_true rfl) (Nat.le_of_ble_eq_true rfl) q0 b0 b1 b2 b3 b4 b5 b6 b7 b8 b9 b10 q1 d0 F cS0 wS0 cB0 wB0 cC0 cC0 cT0 cB0 wB0 cC0 cB0 wB0 cC0 cC0 (cM0 cb) wM0 hm H locs hW ls (lv_sub hl [2, 1, 0] rfl)
