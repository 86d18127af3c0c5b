-- the call: read
theorem it_any {b : Nat → Int32} {T e0 P : Nat} {c9o : Nat → Nat → Int32} {row0 : Nat → Int32} {cc c5 c9 : Nat → Nat → Int32} {w : Nat → Nat → Int64} (t9o : TXR c9o b T) (t5 : TXT c5 b T) (tk : TK T e0 c5 c9) (r : R1 P cc (c9 0)) (rw' : RW row0 (c9 0)) (kd : KD c9o c9) : ∃ v5 v9 cc' c5' c9', md_X2_readItem FU cc c5 0 = some (v5, cc', c5') ∧ md_X9_takesItem FU c9 w = some (v9, c9') ∧ OUT b T c9o row0 e0 cc' c5' c9' v5 v9 := by
  have t9 := KD_T kd t9o
  obtain ⟨v1, h1, a1, b1⟩ := tok_both (w := w) t5 t9 tk (i1 := 1) (L := 4) rfl (by omega) (by omega) ch1
  obtain ⟨v2, h2, a2, b2⟩ := tok_both (w := w) t5 t9 tk (i1 := 2) (L := 5) rfl (by omega) (by omega) ch2
  obtain ⟨v3, h3, a3, b3⟩ := tok_both (w := w) t5 t9 tk (i1 := 3) (L := 3) rfl (by omega) (by omega) ch3
  obtain ⟨v4, h4, a4, b4⟩ := tok_both (w := w) t5 t9 tk (i1 := 4) (L := 6) rfl (by omega) (by omega) ch4
  unfold md_X2_readItem md_X9_takesItem
  rw [if_pos rfl, a1, bd1_s, show md_X9_spells FU c9 w 4 98 111 119 115 0 0 = some v1 from b1, bd1_s]
  rcases h1 with rfl | rfl
  · rw [if00, if00, a2, bd1_s, show md_X9_spells FU c9 w 5 112 111 105 110 116 0 = some v2 from b2, bd1_s]
    rcases h2 with rfl | rfl
    · rw [if00, if00, a3, bd1_s, show md_X9_spells FU c9 w 3 115 97 121 0 0 0 = some v3 from b3, bd1_s]
      rcases h3 with rfl | rfl
      · rw [if00, if00, a4, bd1_s, show md_X9_spells FU c9 w 6 111 98 106 101 99 116 = some v4 from b4, bd1_s]
        rcases h4 with rfl | rfl
        · rw [if00, if00]
          exact ⟨0, 0, cc, c5, c9, rfl, rfl, OUT_bad t5 tk r rw' kd⟩
        · obtain ⟨v5, v9, cc', c5', c9', g5, g9, f5, f9, o⟩ := it_obj (w := w) t9o t5 tk r rw' kd
          rw [if10, if10, f5, bd3_s, f9, bd2_s]
          refine ⟨v5, v9, cc', c5', c9', ?_, ?_, o⟩
          · rcases g5 with rfl | rfl
            · rw [if00]
            · rw [if10]
          · rcases g9 with rfl | rfl
            · rw [if00]
            · rw [if10]
      · obtain ⟨v5, v9, cc', c5', c9', g5, g9, f5, f9, o⟩ := it_say (w := w) t9o t5 tk r rw' kd
        rw [if10, if10, f5, bd3_s, f9, bd2_s, if_pos g5, if_pos g9]
        exact ⟨v5, v9, cc', c5', c9', rfl, rfl, o⟩
    · obtain ⟨v5, v9, cc', c5', c9', g5, g9, f5, f9, o⟩ := it_point (w := w) t9o t5 tk r rw' kd
      rw [if10, if10, f5, bd3_s, f9, bd2_s, if_pos g5, if_pos g9]
      exact ⟨v5, v9, cc', c5', c9', rfl, rfl, o⟩
  · obtain ⟨v5, v9, cc', c5', c9', g5, g9, f5, f9, o⟩ := it_bows (w := w) t9o t5 tk r rw' kd
    rw [if10, if10, f5, bd3_s, f9, bd2_s, if_pos g5, if_pos g9]
    exact ⟨v5, v9, cc', c5', c9', rfl, rfl, o⟩
/-- how the reading ends: items, or a fault -/
def RES (b : Nat → Int32) (T : Nat) (c9o : Nat → Nat → Int32) (row0 : Nat → Int32) (x5 : Option (Int32 × (Nat → Nat → Int32) × (Nat → Nat → Int32))) (x9 : Option (Int32 × (Nat → Nat → Int32))) : Prop := (∃ K P cc c5 c9, K ≤ 151 ∧ x5 = some (nI K, cc, c5) ∧ x9 = some (nI K, c9) ∧ R1 P cc (c9 0) ∧ RW row0 (c9 0) ∧ KD c9o c9 ∧ TXT c5 b T) ∨ (∃ j cc c5 c9, j ≤ 150 ∧ x5 = some (-1, cc, c5) ∧ c5 3 0 = nI j ∧ x9 = some (-10 - nI j, c9) ∧ GC cc ∧ (∀ x, 90 ≤ x → c9 0 x = row0 x) ∧ KD c9o c9 ∧ TXT c5 b T)
theorem it_loop {b : Nat → Int32} {T n1 n2 : Nat} {c9o : Nat → Nat → Int32} {row0 : Nat → Int32} {w : Nat → Nat → Int64} (t9o : TXR c9o b T) : ∀ m k P e0 cc c5 c9, k + m = 152 → 1 ≤ k → k ≤ e0 → TXT c5 b T → TK T e0 c5 c9 → R1 P cc (c9 0) → RW row0 (c9 0) → KD c9o c9 → RES b T c9o row0 (ld_X2_readAll_16 FU (n1 + 1 + m) cc c5 (nI k)) (ld_X9_readInto_65 FU w (n2 + 1 + m) c9 (nI k))
  | 0, k, P, e0, cc, c5, c9, h, hk, hke, t5, tk, r, rw', kd => by
    obtain ⟨j, e, h1, h2, h3, -⟩ := tk
    have := t5.1
    omega
  | m + 1, k, P, e0, cc, c5, c9, h, hk, hke, t5, tk, r, rw', kd => by
    have tk2 := tk
    obtain ⟨j, e, h1, h2, h3, k3, k5, k22, k23, k2, kv, kp⟩ := tk2
    have hT := t5.1
    have l1 : ¬ (150 : Int32) < nI k := nI_nlt (b := k) (a := 150) (by omega) (by omega)
    have l2 : ¬ nI k = 0 := nI_ne0 (by omega) (by omega)
    show RES b T c9o row0 (ld_X2_readAll_16 FU (n1 + 1 + m + 1) cc c5 (nI k)) (ld_X9_readInto_65 FU w (n2 + 1 + m + 1) c9 (nI k))
    rw [ld_X2_readAll_16, ld_X9_readInto_65, if_neg l1, if_neg l2, k2]
    by_cases hz : c9 24 0 = 0
    · rw [if_pos hz, if_pos hz]
      exact Or.inl ⟨k, P, cc, c5, c9, by omega, rfl, rfl, r, rw', kd, t5⟩
    · obtain ⟨v5, v9, cc', c5', c9', f5, f9, o⟩ := it_any (w := w) t9o t5 (show TK T j c5 c9 from ⟨j, e, by omega, h2, h3, k3, k5, k22, k23, k2, kv, kp⟩) r rw' kd
      rw [if_neg hz, if_neg hz, f9, bd2_s]
      unfold jd_X2_readAll_37 jd_X9_readInto_87
      rw [if_neg l2, lt1_r, f5, bd3_s]
      rcases o with ⟨o1, o2, o3, ⟨P', o4⟩, o5, o6, o7, e1, o8, o9⟩ | ⟨o1, o2, ⟨i, i1, i2, i3⟩, o4, o5, o6, o7⟩
      · obtain ⟨e2, c5b, c9b, q1, q2, q3, nx, f9b⟩ := behind (w := w) o7 (KD_T o6 t9o) o9
        have g9 := F9_G9 f9b
        have z0 : c9b 0 = c9' 0 := g9 0 (by omega) (by omega) (by omega) (by omega) (by omega)
        have hpos := q2 (by rw [o3]; decide)
        rw [o1, o2, if10, if10, if_pos o3, q3, bd1_s, nx.1, bd1_s, nI_1]
        exact it_loop t9o m (k + 1) P' e2 cc' c5b c9b (by omega) (by omega) (by omega) (TXT_F nx.2.2 o7) nx.2.1 (R1_0 z0 o4) (by rw [z0]; exact o5) (KD_G o6 g9)
      · refine Or.inr ⟨i, cc', c5', c9', i1, ?_, i2, ?_, o4, o5, o6, o7⟩
        · rw [o1, if00]
        · rcases o2 with o2 | ⟨o2, o3⟩
          · rw [o2, if00, i3]
          · rw [o2, if10, if_neg o3, i3]
-- the first item, and the rest
theorem it_case {b : Nat → Int32} {T e0 : Nat} {c9o : Nat → Nat → Int32} {row0 : Nat → Int32} {cc c5 c9 : Nat → Nat → Int32} {w : Nat → Nat → Int64} {n1 n2 : Nat} (t9o : TXR c9o b T) (t5 : TXT c5 b T) (tk : TK T e0 c5 c9) (hne : ¬ c9 24 0 = 0) (hg : GC cc) (hr : ∀ x, 90 ≤ x → c9 0 x = row0 x) (kd : KD c9o c9) (hw : md_X7_tokenIs FU c5 0 = some 1) (hF1 : FU = n1 + 1 + 151 + 1) : RES b T c9o row0 (ld_X2_readAll_16 FU FU cc c5 0) (md_X9_readInto FU c9 w) := by
  obtain ⟨e1, c5a, c9a, q1, q2, q3, nx, f9⟩ := behind (w := w) t5 (KD_T kd t9o) tk
  have hp1 := q2 hne
  have g9 := F9_G9 f9
  have kda := KD_G kd g9
  have z0 : c9a 0 = c9 0 := g9 0 (by omega) (by omega) (by omega) (by omega) (by omega)
  have l1 : ¬ (150 : Int32) < 0 := by decide
  have A5 : ld_X2_readAll_16 FU FU cc c5 0 = bd3 (bd3 (md_X2_readCase FU cc c5) (fun r72 cv73 cv74 => (if r72 = 0 then some ((0 : Int32), cv73, cv74) else some ((1 : Int32), cv73, cv74)))) (fun r5 cv6 cv7 => (if r5 = 0 then some ((-1 : Int32), cv6, cv7) else bd1 (md_X7_next FU cv7) (fun cv10 => ld_X2_readAll_16 FU (n1 + 1 + 151) cv6 cv10 (nI 1)))) := by
    rw [show ld_X2_readAll_16 FU FU = ld_X2_readAll_16 FU (n1 + 1 + 151 + 1) from by rw [← hF1], ld_X2_readAll_16, if_neg l1, if_pos rfl]
    unfold jd_X2_readAll_37 md_X2_readItem
    rw [if_pos rfl, lt1_r, if_neg ne10, hw, bd1_s, if10]
    rfl
  have fault : ∀ (j : Nat) cc' c5' c9', j ≤ 150 → md_X2_readCase FU cc c5 = some (0, cc', c5') → c5' 3 0 = nI j → md_X9_readInto FU c9 w = some (-10 - nI j, c9') → GC cc' → (∀ x, 90 ≤ x → c9' 0 x = row0 x) → KD c9o c9' → TXT c5' b T → RES b T c9o row0 (ld_X2_readAll_16 FU FU cc c5 0) (md_X9_readInto FU c9 w) := by
    intro j cc' c5' c9' hj h1 h2 h3 h4 h5 h6 h7
    refine Or.inr ⟨j, cc', c5', c9', hj, ?_, h2, h3, h4, h5, h6, h7⟩
    rw [A5, h1, bd3_s, if00, bd3_s, if00]
  rcases num_step (w := w) (k := 0) 0 5 t5 (KD_T kda t9o) (by omega) nx with ⟨e2, c5b, c9b, a1, a2, a3, a4, a5, nx2, a6, a7⟩ | ⟨a1, a2⟩
  · have kdb := KD_G kda a6
    have t5a := TXT_F nx.2.2 t5
    have z1 : c9b 0 = c9 0 := (a6 0 (by omega) (by omega) (by omega) (by omega) (by omega)).trans z0
    rcases num_step (w := w) (k := 1) 0 5 t5a (KD_T kdb t9o) (by omega) nx2 with ⟨e3, c5c, c9c, b1, b2, b3, b4, b5, nx3, b6, b7⟩ | ⟨b1, b2⟩
    · have kdc := KD_G kdb b6
      have t5b := TXT_F nx2.2.2 t5a
      have t5c := TXT_F nx3.2.2 t5b
      have z2 : c9c 0 = c9 0 := (b6 0 (by omega) (by omega) (by omega) (by omega) (by omega)).trans z1
      have v0 : c9c 27 0 = c9a 25 0 := by rw [b7, upd_n (by omega), a7, upd_s]
      have v1 : c9c 27 1 = c9b 25 0 := by rw [b7, upd_s]
      have RC : ∀ v, md_X2_semicolon FU c5b = some (v, c5c) → (v = 0 ∨ v = 1) → md_X2_readCase FU cc c5 = some (v, bgC cc (c9a 25 0) (c9b 25 0), c5c) := by
        intro v hv1 hv2
        unfold md_X2_readCase
        rw [a2, bd2_s, if10, b2, bd2_s, if10, a5, b5, begin5, bd1_s, hv1, bd2_s, if_pos hv2]
      have semi' : md_X2_semicolon FU c5b = some (if c9c 24 0 = 3 then 1 else 0, c5c) := by
        obtain ⟨n1', tkc, n3'⟩ := nx3
        have tk3 := tkc
        obtain ⟨j, e, h1, h2, h3, k3, k5, k22, k23, k2, kv, kp⟩ := tk3
        unfold md_X2_semicolon
        rw [n1', bd1_s, lt1_r, k2]
        by_cases ht : c9c 24 0 = 3
        · rw [if_pos ht, if_pos or01]
        · rw [if_neg ht, if_pos or00]
      have gcb : GC (bgC cc (c9a 25 0) (c9b 25 0)) := R1_GC (begin_R1 (c9 0) (c9a 25 0) (c9b 25 0) hg)
      have RI : md_X9_readInto FU c9 w = (if c9c 24 0 = 3 then bd1 (md_X9_goBehind FU c9c w) (fun cv29 => bd1 (md_X9_begin FU (fun _ => (cv29 0)) ((cv29 27) 0) ((cv29 27) 1)) (fun cv31 => ld_X9_readInto_65 FU w FU (rs cv29 0 (cv31 0)) (1 : Int32))) else some (-10 - c9c 22 0, c9c)) := by
        unfold md_X9_readInto jd_X9_readInto_32
        rw [q3, bd1_s, show md_X9_takes FU c9a w 0 0 5 = some (1, c9b) from a3, bd2_s, if10, show md_X9_takes FU c9b w 1 0 5 = some (1, c9c) from b3, bd2_s, if10]
      by_cases ht : c9c 24 0 = 3
      · rw [if_pos ht] at semi' RI
        obtain ⟨e4, c5d, c9d, w1, w2, w3, nx4, f9d⟩ := behind (w := w) t5c (KD_T kdc t9o) nx3.2.1
        have gd := F9_G9 f9d
        have kdd := KD_G kdc gd
        have z3 : c9d 0 = c9 0 := (gd 0 (by omega) (by omega) (by omega) (by omega) (by omega)).trans z2
        have z27 : c9d 27 = c9c 27 := f9d 27 (by omega) (by omega) (by omega) (by omega)
        have R0 := begin_R1 (c9d 0) (c9a 25 0) (c9b 25 0) hg
        have RW0 : RW row0 (bg9 (c9d 0) (c9a 25 0) (c9b 25 0)) := by
          refine ⟨?_, ?_, ?_, ?_, fun x hx => ?_⟩
          · simp [bg9, upd, zr]; rfl
          · simp [bg9, upd, zr]; rfl
          · simp [bg9, upd, zr]; rfl
          · simp [bg9, upd, zr]; rfl
          · rw [bg9_hi _ _ _ hx, z3, hr x hx]
        have tkd : TK T e4 c5d (rs c9d 0 (bg9 (c9d 0) (c9a 25 0) (c9b 25 0))) := nx4.2.1
        have L := it_loop (n1 := n1) (n2 := n1 + 1) (row0 := row0) (w := w) t9o 151 1 0 e4 (bgC cc (c9a 25 0) (c9b 25 0)) c5d (rs c9d 0 (bg9 (c9d 0) (c9a 25 0) (c9b 25 0))) (by omega) (by omega) (by omega) (TXT_F nx4.2.2 t5c) tkd R0 RW0 (KD_0 kdd _)
        have E5 : ld_X2_readAll_16 FU FU cc c5 0 = ld_X2_readAll_16 FU (n1 + 1 + 151) (bgC cc (c9a 25 0) (c9b 25 0)) c5d (nI 1) := by
          rw [A5, RC 1 semi' (Or.inr rfl), bd3_s, if10, bd3_s, if10, nx4.1, bd1_s]
        have E9 : md_X9_readInto FU c9 w = ld_X9_readInto_65 FU w (n1 + 1 + 1 + 151) (rs c9d 0 (bg9 (c9d 0) (c9a 25 0) (c9b 25 0))) (nI 1) := by
          rw [RI, w3, bd1_s, begin9, bd1_s, rs_s, z27, v0, v1, show n1 + 1 + 1 + 151 = FU from by omega]
          rfl
        rw [E5, E9]
        exact L
      · rw [if_neg ht] at semi' RI
        obtain ⟨j, j1, j2, j3⟩ := TK_at t5c.1 nx3.2.1
        exact fault j _ c5c c9c j1 (RC 0 semi' (Or.inl rfl)) j2 (by rw [RI, j3]) gcb (fun x hx => by rw [z2, hr x hx]) kdc t5c
    · obtain ⟨j, j1, j2, j3⟩ := TK_at t5a.1 nx2.2.1
      refine fault j cc c5b c9b j1 ?_ j2 ?_ hg (fun x hx => by rw [z1, hr x hx]) kdb (TXT_F nx2.2.2 t5a)
      · unfold md_X2_readCase
        rw [a2, bd2_s, if10, b1, bd2_s, if00]
      · unfold md_X9_readInto jd_X9_readInto_32
        rw [q3, bd1_s, show md_X9_takes FU c9a w 0 0 5 = some (1, c9b) from a3, bd2_s, if10, show md_X9_takes FU c9b w 1 0 5 = some (0, c9b) from b2, bd2_s, if00, j3]
  · obtain ⟨j, j1, j2, j3⟩ := TK_at t5.1 nx.2.1
    refine fault j cc c5a c9a j1 ?_ j2 ?_ hg (fun x hx => by rw [z0, hr x hx]) kda (TXT_F nx.2.2 t5)
    · unfold md_X2_readCase
      rw [a1, bd2_s, if00]
    · unfold md_X9_readInto jd_X9_readInto_32
      rw [q3, bd1_s, show md_X9_takes FU c9a w 0 0 5 = some (0, c9a) from a2, bd2_s, if00, j3]
-- what is kept ahead, what is put back
theorem keep33 {n : Nat} {c : Nat → Nat → Int32} {w : Nat → Nat → Int64} : ∀ m i x, i + m = 90 → ld_X9_read_33 FU w (n + 1 + m) (rs c 26 (cp2 x (c 0) 0 0 i)) (nI i) = bd2 (md_X9_readInto FU (rs c 26 (cp2 x (c 0) 0 0 90)) w) (fun r12 cv13 => ld_X9_read_64 FU w FU cv13 r12 (0 : Int32))
  | 0, i, x, h => by
    have : i = 90 := by omega
    subst this
    have l : (90 : Int32) ≤ nI 90 := by decide
    rw [Nat.add_zero, ld_X9_read_33, if_pos l]
  | m + 1, i, x, h => by
    have l : ¬ (90 : Int32) ≤ nI i := nI_ge (b := 90) (by omega) (by omega)
    have i1 : inb (nI i) 194 := inb_nI (by omega) (by omega)
    have i2 : inb (nI i) 90 := inb_nI (by omega) (by omega)
    have hs := cp2_s x (c 0) 0 0 i
    rw [Nat.zero_add] at hs
    show ld_X9_read_33 FU w (n + 1 + m + 1) _ _ = _
    rw [ld_X9_read_33, if_neg l, if_pos i1, if_pos i2, rs_s, rs_rs, rs_n _ _ (by omega), ix_nI (by omega), hs, nI_1]
    exact keep33 m (i + 1) x (by omega)
theorem put64 {n : Nat} {c : Nat → Nat → Int32} {w : Nat → Nat → Int64} {r : Int32} (hr : ¬ 0 ≤ r) : ∀ m i x, i + m = 90 → ld_X9_read_64 FU w (n + 1 + m) (rs c 0 (cp2 x (c 26) 0 0 i)) r (nI i) = some (r, rs c 0 (cp2 x (c 26) 0 0 90))
  | 0, i, x, h => by
    have : i = 90 := by omega
    subst this
    have l : (90 : Int32) ≤ nI 90 := by decide
    rw [Nat.add_zero, ld_X9_read_64, if_pos l]
  | m + 1, i, x, h => by
    have l : ¬ (90 : Int32) ≤ nI i := nI_ge (b := 90) (by omega) (by omega)
    have i1 : inb (nI i) 194 := inb_nI (by omega) (by omega)
    have i2 : inb (nI i) 90 := inb_nI (by omega) (by omega)
    have hs := cp2_s x (c 26) 0 0 i
    rw [Nat.zero_add] at hs
    show ld_X9_read_64 FU w (n + 1 + m + 1) _ _ _ = _
    rw [ld_X9_read_64, if_neg l, if_neg hr, if_pos i2, if_pos i1, rs_s, rs_rs, rs_n _ _ (by omega), ix_nI (by omega), hs, nI_1]
    exact put64 hr m (i + 1) x (by omega)
theorem fault_neg (j : Nat) (hj : j ≤ 150) : ¬ (0 : Int32) ≤ -10 - nI j := by
  have : ∀ j, j ≤ 150 → ¬ (0 : Int32) ≤ -10 - nI j := by decide +kernel
  exact this j hj
theorem call_read {c0 c1 c2 c4 c5 c9 : Nat → Nat → Int32} {w0 w1 w9 : Nat → Nat → Int64} (h : RB c1 w1 c2 (c9 0)) (hg : GC c4) (ht : TR c5 c9) : ∃ r c1' c2' c4' c5' c9', md_X8_read FU c0 w0 c1 w1 c2 c4 c5 = some (r, c1', c2', c4', c5') ∧ md_X9_read FU c9 w9 = some (r, c9') ∧ RB c1' w1 c2' (c9' 0) ∧ GC c4' ∧ TR c5' c9' ∧ KE c9 c9' := by
  obtain ⟨T, hT, u5, u9, ub⟩ := ht
  have hF : FU = 2000000 := rfl
  have t5 : TXT (rs (rs (rs c5 2 (fun _ => (0 : Int32))) 3 (fun _ => (0 : Int32))) 5 (fun _ => (0 : Int32))) (c9 20) T := ⟨hT, u5, ub⟩
  have t9 : TXR c9 (c9 20) T := ⟨hT, u9, rfl⟩
  obtain ⟨d5, d9, f1, f2, tk, f5, f9⟩ := next_both (w := w9) t5 t9 (Nat.zero_le T) (by rw [rs_s]; rfl)
  have td5 := TXT_F f5 t5
  have g9 := F9_G9 f9
  have td9 := TXR_G g9 t9
  obtain ⟨v, hv, a0, b0⟩ := tok_both (w := w9) td5 td9 tk (i1 := 0) (L := 4) rfl (by omega) (by omega) ch0
  have z0 : d9 0 = c9 0 := g9 0 (by omega) (by omega) (by omega) (by omega) (by omega)
  unfold md_X8_read md_X2_readAll md_X7_rewind md_X9_read
  rw [bd1_s, f1, bd1_s, show md_X9_lookAt FU c9 w9 0 = some d9 from f2, bd1_s, show md_X9_spells FU d9 w9 4 99 97 115 101 0 0 = some v from b0, bd1_s]
  rcases hv with rfl | rfl
  · -- no case
    obtain ⟨j, j1, j2, j3⟩ := TK_at hT tk
    have l1 : ¬ (150 : Int32) < 0 := by decide
    obtain ⟨q, hq⟩ : ∃ q, FU = q + 1 := ⟨1999999, by decide⟩
    have A5 : ld_X2_readAll_16 FU FU c4 d5 0 = some (-1, c4, d5) := by
      rw [show ld_X2_readAll_16 FU FU = ld_X2_readAll_16 FU (q + 1) from by rw [← hq], ld_X2_readAll_16, if_neg l1, if_pos rfl]
      unfold jd_X2_readAll_37 md_X2_readItem
      rw [if_pos rfl, lt1_r, if_neg ne10, a0, bd1_s, if00, bd3_s, if00]
    rw [A5, bd3_s, if_pos rfl, if00, j2, j3]
    refine ⟨_, _, _, _, _, _, rfl, rfl, by rw [z0]; exact h, hg, ⟨T, hT, td5.2.1, td9.2.1, fun z hz => by rw [td5.2.2 z hz, td9.2.2]⟩, fun k hk => f9 k (by omega) (by omega) (by omega) (by omega)⟩
  · -- a case
    have hne : ¬ d9 24 0 = 0 := fun z => by
      unfold md_X9_spells at b0
      rw [lt1_r, z, if_neg (show ¬ (0 : Int32) = 1 by decide)] at b0
      obtain ⟨q, hq⟩ : ∃ q, FU = q + 1 := ⟨1999999, by decide⟩
      rw [show ld_X9_spells_26 FU d9 w9 FU = ld_X9_spells_26 FU d9 w9 (q + 1) from by rw [← hq], ld_X9_spells_26, if_pos or00, if_pos rfl] at b0
      have : (some (0 : Int32)) = some 1 := by
        rw [← b0]
        split <;> rfl
      exact absurd (Option.some.inj this) (by decide)
    have k33 := keep33 (n := 1999909) (c := d9) (w := w9) 90 0 (d9 26) (by omega)
    rw [cp2_0, rs_id, show 1999909 + 1 + 90 = FU from by omega] at k33
    generalize he : rs d9 26 (cp2 (d9 26) (d9 0) 0 0 90) = e9 at k33
    have e0 : e9 0 = c9 0 := by rw [← he, rs_n _ _ (by omega), z0]
    have eb : TXR e9 (c9 20) T := by
      rw [← he]
      exact td9
    have etk : TK T 0 d5 e9 := by
      rw [← he]
      exact tk
    have ene : ¬ e9 24 0 = 0 := by
      rw [← he]
      exact hne
    have e26 : ∀ x, x < 90 → e9 26 x = c9 0 x := fun x hx => by
      have := cp2_in (b := d9 26) (a := d9 0) (D := 0) (S := 0) hx
      rw [Nat.zero_add] at this
      rw [← he, rs_s, this, z0]
    have eK : ∀ k, (k = 1 ∨ k = 2 ∨ k = 3 ∨ k = 20 ∨ k = 21) → e9 k = c9 k := fun k hk => by
      rw [← he, rs_n _ _ (by omega)]
      exact f9 k (by omega) (by omega) (by omega) (by omega)
    have R := it_case (n1 := 1999847) (n2 := 0) (row0 := c9 0) (w := w9) eb td5 etk ene hg (fun x hx => by rw [e0]) (fun _ _ => rfl) a0 (by omega)
    rw [if10, show ld_X9_read_33 FU w9 FU d9 0 = _ from k33]
    rcases R with ⟨K, P, cc, x5, x9, r1, r2, r3, r4, r5, r6, r7⟩ | ⟨j, cc, x5, x9, r1, r2, r3, r4, r5, r6, r7, r8⟩
    · have hz : (0 : Int32) ≤ nI K := nI_pos' (by omega)
      obtain ⟨q, hq⟩ : ∃ q, FU = q + 1 := ⟨1999999, by decide⟩
      have p64 : ld_X9_read_64 FU w9 FU x9 (nI K) 0 = some (nI K, x9) := by
        rw [show ld_X9_read_64 FU w9 FU = ld_X9_read_64 FU w9 (q + 1) from by rw [← hq], ld_X9_read_64, if_pos hz]
        split <;> rfl
      obtain ⟨c2', y1, y2⟩ := copy5 cc (bgC c2 0 0)
      rw [r2, bd3_s, if_neg (nI_m1 (by omega)), begin1, bd2_s, y1, bd1_s, r3, bd2_s, p64]
      have xt := KD_T r6 eb
      refine ⟨nI K, _, _, _, _, _, rfl, rfl, RB_of (CE_R1 y2 r4) (R2_0 r5.2.2.2.1 ?_) (R3_0 r5.1 ?_) (R4_0 r5.2.1 ?_) (R5_0 r5.2.2.1 ?_), R1_GC r4, ⟨T, hT, r7.2.1, xt.2.1, fun z hz => by rw [r7.2.2 z hz, xt.2.2]⟩, fun k hk => (r6 k (by omega)).trans (eK k hk)⟩
      · simp [bgB, rs]; rfl
      · simp [bgB, rs]; rfl
      · simp [bgB, rs]; rfl
      · simp [bgB, rs]; rfl
    · have hz := fault_neg j r1
      have p64 := put64 (n := 1999909) (c := x9) (w := w9) hz 90 0 (x9 0) (by omega)
      rw [cp2_0, rs_id, show 1999909 + 1 + 90 = FU from by omega] at p64
      have xt := KD_T r7 eb
      have back : cp2 (x9 0) (x9 26) 0 0 90 = c9 0 := by
        funext x
        by_cases hx : x < 90
        · have := cp2_in (b := x9 0) (a := x9 26) (D := 0) (S := 0) hx
          rw [Nat.zero_add] at this
          rw [this, r7 26 (by omega), e26 x hx]
        · rw [cp2_out (by omega), r6 x (by omega)]
      rw [r2, bd3_s, if_pos rfl, r4, bd2_s, show ld_X9_read_64 FU w9 FU x9 (-10 - nI j) 0 = _ from p64, r3, back]
      refine ⟨_, _, _, _, _, _, rfl, rfl, by rw [rs_s]; exact h, r5, ⟨T, hT, r8.2.1, xt.2.1, fun z hz => by rw [r8.2.2 z hz]; exact (congrFun xt.2.2 z).symm⟩, fun k hk => by rw [rs_n _ _ (by omega), r7 k (by omega), eK k hk]⟩
