-- the calls: bows, point
theorem R1_bows {P i b : Nat} {cc : Nat → Nat → Int32} {a : Nat → Int32} (hi : i < 2) (hb : b < 4) (r : R1 P cc a) : R1 P (rs cc 1 (upd (cc 1) i (nI b))) (upd a (12 + i) (nI b)) := by
  obtain ⟨hP, a0, ⟨⟨S, hS, h0, h11⟩, hg, hb0, hb1, hs, hm, h12, hls⟩, hx, ⟨c5, c6, c4, c10, c11, c8, c7, c9, cg⟩, hf⟩ := r
  have lo : ∀ x, x ≠ 12 + i → upd a (12 + i) (nI b) x = a x := fun x x1 => upd_n x1
  have ld : ∀ j, j ≠ 7 + i → dyn (upd a (12 + i) (nI b)) j = dyn a j := fun j hj => lo (5 + j) (by omega)
  have ln : dyn (upd a (12 + i) (nI b)) (7 + i) = nI b := by
    show upd a (12 + i) (nI b) (5 + (7 + i)) = _
    rw [show 5 + (7 + i) = 12 + i from by omega, upd_s]
  have hi2 : i = 0 ∨ i = 1 := by omega
  refine ⟨hP, ?_, ⟨⟨S, hS, ?_, ?_⟩, ?_, ?_, ?_, ?_, ?_, ?_, fun T o hT ho t0 t12 => hls T o hT ho ((ld 0 (by omega)).symm.trans t0) ((ld 12 (by omega)).symm.trans t12)⟩, FXd_ext (f := fxd a) (fun j hj => lo (24 + j) (by omega)) hx, ⟨?_, ?_, ?_, ?_, ?_, ?_, ?_, ?_, ?_⟩, fun j hj => ?_, ?_, ?_⟩
  · rw [lo 0 (by omega), a0]
  · rw [ld 0 (by omega), h0]
  · rw [ld 11 (by omega), h11]
  · intro j hj
    rw [ld (1 + j) (by omega)]
    exact hg j hj
  · rcases hi2 with rfl | rfl
    · exact ⟨b, hb, ln⟩
    · rw [ld 7 (by omega)]; exact hb0
  · rcases hi2 with rfl | rfl
    · rw [ld 8 (by omega)]; exact hb1
    · exact ⟨b, hb, ln⟩
  · rw [ld 9 (by omega)]; exact hs
  · rw [ld 10 (by omega)]; exact hm
  · rw [ld 12 (by omega)]; exact h12
  · rw [rs_n _ _ (by omega), c5]
  · rw [rs_n _ _ (by omega), ld 0 (by omega), c6]
  · intro j hj
    rw [rs_n _ _ (by omega), ld (1 + j) (by omega), c4 j hj]
  · rw [rs_s]
    rcases hi2 with rfl | rfl
    · rw [upd_s]; exact ln.symm
    · rw [upd_n (by omega), ld 7 (by omega), c10]
  · rw [rs_s]
    rcases hi2 with rfl | rfl
    · rw [upd_n (by omega), ld 8 (by omega), c11]
    · rw [upd_s]; exact ln.symm
  · rw [rs_n _ _ (by omega), ld 9 (by omega), c8]
  · rw [rs_n _ _ (by omega), ld 10 (by omega), c7]
  · rw [rs_n _ _ (by omega), ld 12 (by omega), c9]
  · intro j hj
    rw [rs_n _ _ (by omega)]
    exact cg j hj
  · rw [rs_n _ _ (by omega), rs_n _ _ (by omega)]
    exact ⟨(hf.1 j hj).1.trans (lo (18 + j) (by omega)).symm, (hf.1 j hj).2.trans (lo (24 + j) (by omega)).symm⟩
  · rw [rs_n _ _ (by omega)]
    exact hf.2.1.trans (lo 30 (by omega)).symm
  · rw [rs_n _ _ (by omega)]
    exact hf.2.2.trans (lo 31 (by omega)).symm
theorem call_bows {c0 c1 c2 c9 : Nat → Nat → Int32} {w0 w1 w9 : Nat → Nat → Int64} (p q : Int32) (h : RB c1 w1 c2 (c9 0)) : ∃ r c0' c1' c2' c9', md_X8_bows c0 w0 c1 w1 c2 p q = some (r, c0', c1', c2') ∧ md_X9_bows c9 w9 p q = some (r, c9') ∧ RB c1' w1 c2' (c9' 0) ∧ SR c0 c9 c0' c9' := by
  obtain ⟨P, K, E, N, M, r1, r2, r3, r4, r5⟩ := RB_to h
  unfold md_X8_bows md_X9_bows
  rw [cn8, cn9, bd1_s, bd1_s]
  rcases b01_c (0 ≤ p ∧ p ≤ 1) with ⟨hb, e⟩ | ⟨hb, e⟩
  · rw [e, if10, if10, wi8, in_03, bd1_s, bd1_s]
    rcases b01_c (0 ≤ q ∧ q ≤ 3) with ⟨hb2, e2⟩ | ⟨hb2, e2⟩
    · obtain ⟨i, hi, rfl⟩ := nI_b hb (n := 1) (by decide)
      obtain ⟨b, hb3, rfl⟩ := nI_b hb2 (n := 3) (by decide)
      have h12 : (12 : Int32) + nI i = nI (12 + i) := nI_add 12 i
      have i1 : inb (nI i) 2 := inb_nI (by omega) (by omega)
      have i2 : inb (nI (12 + i)) 194 := inb_nI (by omega) (by omega)
      have hr := R1_bows (i := i) (b := b) (by omega) (by omega) r1
      rw [e2, if10, if10, if_pos i1, if_pos i1, h12, if_pos i2, lt1_r, if_pos i2]
      unfold md_X1_dropPast
      rw [bd1_s, ix_nI (by omega), ix_nI (by omega)]
      have hold : c2 1 i = c9 0 (12 + i) := by
        have hq := ccb r1.2.2.2.2.1 i (by omega)
        rw [hq]
        show c9 0 (5 + (7 + i)) = _
        rw [show 5 + (7 + i) = 12 + i from by omega]
      rw [hold]
      refine ⟨_, _, _, _, _, rfl, rfl, ?_, Or.inl ⟨rfl, fun k hk => rs_n _ _ hk⟩⟩
      rw [rs_s]
      have lo : ∀ x, ¬ (x = 4) → ¬ (5 ≤ x ∧ x < 32) → upd (upd (c9 0) (12 + i) (nI b)) 4 0 x = c9 0 x := fun x x1 x2 => by rw [upd_n x1, upd_n (by omega)]
      refine RB_of (R1_ext (fun x hx => upd_n (by omega)) hr) (R2_0 (upd_s) (by rw [rs_s]; rfl)) (R3_ext (fun x hx => lo x (by omega) (by omega)) (rs_n _ _ (by omega)) (rs_n _ _ (by omega)) r3) (R4_ext (fun x hx => lo x (by omega) (by omega)) (rs_n _ _ (by omega)) (rs_n _ _ (by omega)) r4) (R5_ext (fun x hx => lo x (by omega) (by omega)) (rs_n _ _ (by omega)) (rs_n _ _ (by omega)) r5)
    · rw [e2, if00, if00]
      exact ⟨_, _, _, _, _, rfl, rfl, h, Or.inr ⟨0, by omega, rfl, rfl⟩⟩
  · rw [e, if00, if00]
    exact ⟨_, _, _, _, _, rfl, rfl, h, Or.inr ⟨0, by omega, rfl, rfl⟩⟩
def addC (cc : Nat → Nat → Int32) (P : Nat) (k s g : Int32) : Nat → Nat → Int32 := rs (rs (rs (rs cc 2 (upd (cc 2) P k)) 3 (upd (cc 3) P s)) 4 (upd (cc 4) P g)) 5 (fun _ => nI (P + 1))
def addA (a : Nat → Int32) (P : Nat) (k s g : Int32) : Nat → Int32 := upd (upd (upd (upd a (18 + P) k) (24 + P) s) (6 + P) g) 0 (nI (P + 1))
theorem pow_up {P S : Nat} (h : S < 2 ^ P) : S < 2 ^ (P + 1) := by
  have : 2 ^ (P + 1) = 2 ^ P * 2 := Nat.pow_succ 2 P
  omega
theorem R1_point {P G g : Nat} {cc : Nat → Nat → Int32} {a : Nat → Int32} (k : Int32) (h6 : P < 6) (hG1 : 1 ≤ G) (hG : G < 10) (hg4 : g < 4) (r : R1 P cc a) : R1 (P + 1) (addC cc P k (nI G) (nI g)) (addA a P k (nI G) (nI g)) := by
  obtain ⟨hP, a0, ⟨⟨S, hS, h0, h11⟩, hg, hb0, hb1, hs, hm, h12, hls⟩, hx, ⟨c5, c6, c4, c10, c11, c8, c7, c9, cg⟩, hf⟩ := r
  have lo : ∀ x, x ≠ 0 → x ≠ 6 + P → x ≠ 18 + P → x ≠ 24 + P → addA a P k (nI G) (nI g) x = a x := fun x x1 x2 x3 x4 => by
    unfold addA
    rw [upd_n x1, upd_n x2, upd_n x4, upd_n x3]
  have l18 : addA a P k (nI G) (nI g) (18 + P) = k := by
    unfold addA
    rw [upd_n (by omega), upd_n (by omega), upd_n (by omega), upd_s]
  have l24 : addA a P k (nI G) (nI g) (24 + P) = nI G := by
    unfold addA
    rw [upd_n (by omega), upd_n (by omega), upd_s]
  have l6 : addA a P k (nI G) (nI g) (6 + P) = nI g := by
    unfold addA
    rw [upd_n (by omega), upd_s]
  have ld : ∀ j, j ≠ 1 + P → j < 13 → dyn (addA a P k (nI G) (nI g)) j = dyn a j := fun j hj h13 => lo (5 + j) (by omega) (by omega) (by omega) (by omega)
  have lg : dyn (addA a P k (nI G) (nI g)) (1 + P) = nI g := by
    show addA a P k (nI G) (nI g) (5 + (1 + P)) = _
    rw [show 5 + (1 + P) = 6 + P from by omega, l6]
  have n2 : addC cc P k (nI G) (nI g) 2 = upd (cc 2) P k := by
    unfold addC
    rw [rs_n _ _ (by omega), rs_n _ _ (by omega), rs_n _ _ (by omega), rs_s]
  have n3 : addC cc P k (nI G) (nI g) 3 = upd (cc 3) P (nI G) := by
    unfold addC
    rw [rs_n _ _ (by omega), rs_n _ _ (by omega), rs_s]
  have n4 : addC cc P k (nI G) (nI g) 4 = upd (cc 4) P (nI g) := by
    unfold addC
    rw [rs_n _ _ (by omega), rs_s]
  have n5 : addC cc P k (nI G) (nI g) 5 = fun _ => nI (P + 1) := by
    unfold addC
    rw [rs_s]
  have nn : ∀ q, q ≠ 2 → q ≠ 3 → q ≠ 4 → q ≠ 5 → addC cc P k (nI G) (nI g) q = cc q := fun q q1 q2 q3 q4 => by
    unfold addC
    rw [rs_n _ _ q4, rs_n _ _ q3, rs_n _ _ q2, rs_n _ _ q1]
  refine ⟨by omega, upd_s, ⟨⟨S, pow_up hS, ?_, ?_⟩, ?_, ?_, ?_, ?_, ?_, ?_, fun T o hT ho t0 t12 => ?_⟩, ?_, ⟨?_, ?_, ?_, ?_, ?_, ?_, ?_, ?_, ?_⟩, fun j hj => ?_, ?_, ?_⟩
  · rw [ld 0 (by omega) (by omega), h0]
  · rw [ld 11 (by omega) (by omega), h11]
  · intro j hj
    by_cases hjP : j = P
    · subst hjP
      exact ⟨g, hg4, lg⟩
    · rw [ld (1 + j) (by omega) (by omega)]
      exact hg j (by omega)
  · rw [ld 7 (by omega) (by omega)]; exact hb0
  · rw [ld 8 (by omega) (by omega)]; exact hb1
  · rw [ld 9 (by omega) (by omega)]; exact hs
  · rw [ld 10 (by omega) (by omega)]; exact hm
  · rw [ld 12 (by omega) (by omega)]
    rcases h12 with h | ⟨o, o1, o2⟩
    · exact Or.inl h
    · exact Or.inr ⟨o, by omega, o2⟩
  · have t0' := (ld 0 (by omega) (by omega)).symm.trans t0
    have t12' := (ld 12 (by omega) (by omega)).symm.trans t12
    have h64 := pow_le6 (show P + 1 ≤ 6 by omega)
    have h64' := pow_le6 hP
    have eT : T = S := (nI_eq (by omega) (by omega)).mp (t0'.symm.trans h0)
    rcases h12 with h | ⟨z, z1, z2⟩
    · exact absurd (t12'.symm.trans h) (nI_m1 (by omega))
    · have eo : o = z := (nI_eq (by omega) (by omega)).mp (t12'.symm.trans z2)
      rw [eT, eo]
      exact hls S z hS z1 h0 z2
  · intro j hj
    by_cases hjP : j = P
    · subst hjP
      exact ⟨G, hG1, hG, l24⟩
    · obtain ⟨G', g1, g2, g3⟩ := hx j (by omega)
      exact ⟨G', g1, g2, (lo (24 + j) (by omega) (by omega) (by omega) (by omega)).trans g3⟩
  · rw [n5]
  · rw [nn 6 (by omega) (by omega) (by omega) (by omega), ld 0 (by omega) (by omega), c6]
  · intro j hj
    rw [n4]
    by_cases hjP : j = P
    · subst hjP
      rw [upd_s]; exact lg.symm
    · rw [upd_n hjP, ld (1 + j) (by omega) (by omega), c4 j (by omega)]
  · rw [nn 1 (by omega) (by omega) (by omega) (by omega), ld 7 (by omega) (by omega), c10]
  · rw [nn 1 (by omega) (by omega) (by omega) (by omega), ld 8 (by omega) (by omega), c11]
  · rw [nn 8 (by omega) (by omega) (by omega) (by omega), ld 9 (by omega) (by omega), c8]
  · rw [nn 7 (by omega) (by omega) (by omega) (by omega), ld 10 (by omega) (by omega), c7]
  · rw [nn 9 (by omega) (by omega) (by omega) (by omega), ld 12 (by omega) (by omega), c9]
  · intro j hj
    rw [n4]
    by_cases hjP : j = P
    · subst hjP
      exact ⟨g, hg4, upd_s⟩
    · rw [upd_n hjP]
      exact cg j hj
  · rw [n2, n3]
    by_cases hjP : j = P
    · subst hjP
      rw [upd_s, upd_s]
      exact ⟨l18.symm, l24.symm⟩
    · rw [upd_n hjP, upd_n hjP]
      exact ⟨(hf.1 j (by omega)).1.trans (lo (18 + j) (by omega) (by omega) (by omega) (by omega)).symm, (hf.1 j (by omega)).2.trans (lo (24 + j) (by omega) (by omega) (by omega) (by omega)).symm⟩
  · rw [nn 0 (by omega) (by omega) (by omega) (by omega)]
    exact hf.2.1.trans (lo 30 (by omega) (by omega) (by omega) (by omega)).symm
  · rw [nn 0 (by omega) (by omega) (by omega) (by omega)]
    exact hf.2.2.trans (lo 31 (by omega) (by omega) (by omega) (by omega)).symm
theorem add5 {P : Nat} {cc : Nat → Nat → Int32} (k s g : Int32) (h5 : cc 5 0 = nI P) (h6 : P < 6) : md_X3_add cc k s g = some (addC cc P k s g) := by
  have hb : (0 : Int32) ≤ nI P ∧ nI P ≤ 5 := ⟨nI_pos' (by omega), nI_le (b := 5) (by omega) (by omega)⟩
  have i1 : inb (nI P) 6 := inb_nI (by omega) (by omega)
  unfold md_X3_add
  rw [h5, wi8, bd1_s, show b01 ((0 : Int32) ≤ nI P ∧ nI P ≤ 5) = 1 from if_pos hb, if10, if_pos i1, if_pos i1, if_pos i1, ix_nI (by omega), nI_1]
  rfl
theorem lay9 {P : Nat} {c : Nat → Nat → Int32} (k s g : Int32) (h0 : c 0 0 = nI P) (h6 : P < 6) : md_X9_layPoint c k s g = some (rs c 0 (addA (c 0) P k s g)) := by
  have e18 : (18 : Int32) + nI P = nI (18 + P) := nI_add 18 P
  have e24 : (24 : Int32) + nI P = nI (24 + P) := nI_add 24 P
  have e6 : (6 : Int32) + nI P = nI (6 + P) := nI_add 6 P
  have i1 : inb (nI (18 + P)) 194 := inb_nI (by omega) (by omega)
  have i2 : inb (nI (24 + P)) 194 := inb_nI (by omega) (by omega)
  have i3 : inb (nI (6 + P)) 194 := inb_nI (by omega) (by omega)
  unfold md_X9_layPoint
  rw [h0, e18, e24, e6, if_pos i1, if_pos i2, if_pos i3, lt1_r, ix_nI (by omega), ix_nI (by omega), ix_nI (by omega), upd_n (by omega), upd_n (by omega), upd_n (by omega), h0, nI_1]
  rfl
theorem room5 {P : Nat} {cc : Nat → Nat → Int32} (h5 : cc 5 0 = nI P) (hP : P ≤ 6) : md_X3_hasRoom cc = some (b01 (P < 6)) := by
  unfold md_X3_hasRoom
  rw [h5, lt1_r]
  unfold b01
  by_cases h : P < 6
  · have e : ¬ (6 : Int32) ≤ nI P := nI_ge (a := P) (b := 6) h (by omega)
    rw [if_neg e, if_pos (Or.inr rfl), if_pos h]
  · have e : (6 : Int32) ≤ nI P := nI_le (a := 6) (b := P) (by omega) (by omega)
    rw [if_pos e, if_pos (Or.inl rfl), if_neg h]
theorem call_point {c0 c1 c2 c9 : Nat → Nat → Int32} {w0 w1 w9 : Nat → Nat → Int64} (p q s : Int32) (h : RB c1 w1 c2 (c9 0)) : ∃ r c0' c1' c2' c9', md_X8_point c0 w0 c1 w1 c2 p q s = some (r, c0', c1', c2') ∧ md_X9_point c9 w9 p q s = some (r, c9') ∧ RB c1' w1 c2' (c9' 0) ∧ SR c0 c9 c0' c9' := by
  obtain ⟨P, K, E, N, M, r1, r2, r3, r4, r5⟩ := RB_to h
  unfold md_X8_point md_X9_point
  rw [kd8, kd9, bd1_s, bd1_s]
  rcases b01_c (0 ≤ p ∧ p ≤ 5) with ⟨hb, e⟩ | ⟨hb, e⟩
  · rw [e, if10, if10, wi8, in_19, bd1_s, bd1_s]
    rcases b01_c (1 ≤ q ∧ q ≤ 9) with ⟨hb2, e2⟩ | ⟨hb2, e2⟩
    · rw [e2, if10, if10, wi8, in_03, bd1_s, bd1_s]
      rcases b01_c (0 ≤ s ∧ s ≤ 3) with ⟨hb3, e3⟩ | ⟨hb3, e3⟩
      · have q2 : 0 ≤ q ∧ q ≤ 9 := ⟨by have := (btw hb2).1; have e1 : (1 : Int32).toInt = 1 := rfl; rw [Int32.le_iff_toInt_le, Int32.toInt_zero]; omega, hb2.2⟩
        obtain ⟨G, hG, rfl⟩ := nI_b q2 (n := 9) (by decide)
        have hG1 : 1 ≤ G := by
          have := (btw hb2).1
          have e1 : (1 : Int32).toInt = 1 := rfl
          rw [nI_toInt (by omega)] at this
          omega
        obtain ⟨g, hg, rfl⟩ := nI_b hb3 (n := 3) (by decide)
        have hP := r1.1
        rw [e3, if10, if10, room5 r1.2.2.2.2.1.1 r1.1, bd1_s]
        unfold md_X9_many
        rw [bd1_s, r1.2.1]
        by_cases h6 : P < 6
        · have e6 : ¬ nI P = (6 : Int32) := fun z => by have := (nI_eq (b := 6) (by omega) (by omega)).mp z; omega
          rw [if_neg e6, show b01 (P < 6) = 1 from if_pos h6, if10, add5 _ _ _ r1.2.2.2.2.1.1 h6, bd1_s, lay9 (c := fun _ => c9 0) (P := P) _ _ _ r1.2.1 h6]
          unfold md_X1_dropPast
          rw [bd1_s, bd1_s, bd1_s]
          have z0 : upd (addA (c9 0) P p (nI G) (nI g)) 4 0 0 = nI (P + 1) := by
            rw [upd_n (by omega)]
            exact upd_s
          rw [r1.2.2.2.2.1.1, rs_s, rs_s, z0, nI_pred]
          refine ⟨_, _, _, _, _, rfl, rfl, ?_, Or.inl ⟨rfl, fun k hk => rs_n _ _ hk⟩⟩
          rw [rs_s]
          have hr := R1_point p h6 hG1 (by omega) (by omega : g < 4) r1
          have lo : ∀ x, ¬ (x = 4) → ¬ (x = 0) → ¬ (5 ≤ x ∧ x < 32) → upd (addA (c9 0) P p (nI G) (nI g)) 4 0 x = c9 0 x := fun x x1 x3 x2 => by
            unfold addA
            rw [upd_n x1, upd_n (by omega), upd_n (by omega), upd_n (by omega), upd_n (by omega)]
          refine RB_of (R1_ext (fun x hx => upd_n (by omega)) hr) (R2_0 (upd_s) (by rw [rs_s]; rfl)) (R3_ext (fun x hx => lo x (by omega) (by omega) (by omega)) (rs_n _ _ (by omega)) (rs_n _ _ (by omega)) r3) (R4_ext (fun x hx => lo x (by omega) (by omega) (by omega)) (rs_n _ _ (by omega)) (rs_n _ _ (by omega)) r4) (R5_ext (fun x hx => lo x (by omega) (by omega) (by omega)) (rs_n _ _ (by omega)) (rs_n _ _ (by omega)) r5)
        · have h66 : P = 6 := by omega
          rw [show b01 (P < 6) = 0 from if_neg h6, if00, if_pos (show nI P = (6 : Int32) from by rw [h66]; rfl)]
          exact ⟨_, _, _, _, _, rfl, rfl, h, Or.inr ⟨2, by omega, rfl, rfl⟩⟩
      · rw [e3, if00, if00]
        exact ⟨_, _, _, _, _, rfl, rfl, h, Or.inr ⟨0, by omega, rfl, rfl⟩⟩
    · rw [e2, if00, if00]
      exact ⟨_, _, _, _, _, rfl, rfl, h, Or.inr ⟨0, by omega, rfl, rfl⟩⟩
  · rw [e, if00, if00]
    exact ⟨_, _, _, _, _, rfl, rfl, h, Or.inr ⟨0, by omega, rfl, rfl⟩⟩
