-- kinds that fit what was noted, on both sides
theorem or_lt6 : ∀ S, S < 64 → ∀ p, p < 6 → S ||| 2 ^ p < 64 := by decide +kernel
def kset (g : Nat → Bool) : Nat → Nat → Nat → Nat
  | _, 0, S => S
  | i, m + 1, S => kset g (i + 1) m (if g i then S ||| 2 ^ i else S)
theorem kset_lt (g : Nat → Bool) : ∀ m i S, i + m = 6 → S < 64 → kset g i m S < 64
  | 0, i, S, h, hS => hS
  | m + 1, i, S, h, hS => by
    rw [kset]
    refine kset_lt g m (i + 1) _ (by omega) ?_
    split
    · exact or_lt6 S hS i (by omega)
    · exact hS
def fitN (a : Nat → Int32) (p kind : Int32) : Nat → Nat → Bool
  | _, 0 => true
  | i, m + 1 => if a (36 + i * 5) = p ∧ ¬ mvv kind (a (36 + (i * 5 + 1))) (a (36 + (i * 5 + 2))) (a (36 + (i * 5 + 3))) = a (36 + (i * 5 + 4)) then false else fitN a p kind (i + 1) m
theorem fitN_s {a : Nat → Int32} {p kind : Int32} {i m : Nat} (h : ¬ (a (36 + i * 5) = p ∧ ¬ mvv kind (a (36 + (i * 5 + 1))) (a (36 + (i * 5 + 2))) (a (36 + (i * 5 + 3))) = a (36 + (i * 5 + 4)))) : fitN a p kind i (m + 1) = fitN a p kind (i + 1) m := if_neg h
theorem fitN_f {a : Nat → Int32} {p kind : Int32} {i m : Nat} (h : a (36 + i * 5) = p ∧ ¬ mvv kind (a (36 + (i * 5 + 1))) (a (36 + (i * 5 + 2))) (a (36 + (i * 5 + 3))) = a (36 + (i * 5 + 4))) : fitN a p kind i (m + 1) = false := if_pos h
theorem fitN5 {F N n : Nat} {c : Nat → Nat → Int32} {w : Nat → Nat → Int64} {a : Nat → Int32} (p kind : Int32) (r : R4 N c a) : ∀ m i, i + m = N → ld_X1_notesFit_2 F c w (n + 1 + m) p kind (nI i) = some (if fitN a p kind i m then 1 else 0)
  | 0, i, h => by
    have : i = N := by omega
    subst this
    have l : nI i ≤ nI i := Int32.le_refl _
    rw [Nat.add_zero, ld_X1_notesFit_2, r.2.2.1, if_pos l]
    rfl
  | m + 1, i, h => by
    obtain ⟨hN, aN, cN, hn⟩ := r
    have g1 : ¬ nI N ≤ nI i := nI_ge (by omega) (by omega)
    have g2 : ¬ (6 : Int32) ≤ nI i := nI_ge (b := 6) (by omega) (by omega)
    have m5 : nI i * (5 : Int32) = nI (i * 5) := pk_mul i 5
    have p1 : nI (i * 5) + (1 : Int32) = nI (i * 5 + 1) := nI_add _ 1
    have p2 : nI (i * 5) + (2 : Int32) = nI (i * 5 + 2) := nI_add _ 2
    have p3 : nI (i * 5) + (3 : Int32) = nI (i * 5 + 3) := nI_add _ 3
    have p4 : nI (i * 5) + (4 : Int32) = nI (i * 5 + 4) := nI_add _ 4
    have i0 : inb (nI (i * 5)) 30 := inb_nI (by omega) (by omega)
    have i1 : inb (nI (i * 5 + 1)) 30 := inb_nI (by omega) (by omega)
    have i2 : inb (nI (i * 5 + 2)) 30 := inb_nI (by omega) (by omega)
    have i3 : inb (nI (i * 5 + 3)) 30 := inb_nI (by omega) (by omega)
    have i4 : inb (nI (i * 5 + 4)) 30 := inb_nI (by omega) (by omega)
    have e0 : c 3 (i * 5) = a (36 + i * 5) := (hn (i * 5) (by omega)).1
    have e1 : c 3 (i * 5 + 1) = a (36 + (i * 5 + 1)) := (hn (i * 5 + 1) (by omega)).1
    have e2 : c 3 (i * 5 + 2) = a (36 + (i * 5 + 2)) := (hn (i * 5 + 2) (by omega)).1
    have e3 : c 3 (i * 5 + 3) = a (36 + (i * 5 + 3)) := (hn (i * 5 + 3) (by omega)).1
    have e4 : c 3 (i * 5 + 4) = a (36 + (i * 5 + 4)) := (hn (i * 5 + 4) (by omega)).1
    have ih := fitN5 (F := F) (n := n) (w := w) p kind ⟨hN, aN, cN, hn⟩ m (i + 1) (by omega)
    show ld_X1_notesFit_2 F c w (n + 1 + m + 1) _ _ _ = _
    rw [ld_X1_notesFit_2, cN, if_neg g1, if_neg g2, m5, if_pos i0, ix_nI (by omega), e0]
    by_cases hp : a (36 + i * 5) = p
    · rw [if_pos hp, p1, if_pos i1, p2, if_pos i2, p3, if_pos i3, ix_nI (by omega), e1, ix_nI (by omega), e2, ix_nI (by omega), e3, mv5, bd1_s, p4, if_pos i4, ix_nI (by omega), e4]
      by_cases hv : mvv kind (a (36 + (i * 5 + 1))) (a (36 + (i * 5 + 2))) (a (36 + (i * 5 + 3))) = a (36 + (i * 5 + 4))
      · rw [if_pos hv, fitN_s (fun z => z.2 hv), nI_1]
        exact ih
      · rw [if_neg hv, fitN_f ⟨hp, hv⟩]
        rfl
    · rw [if_neg hp, fitN_s (fun z => hp z.1), nI_1]
      exact ih
theorem fitN9z {F N n : Nat} {c : Nat → Nat → Int32} {w : Nat → Nat → Int64} {k4 : Int32 → Int32 → Int32 → Option Int32} (x1 x2 x3 : Int32) (hN : N ≤ 6) (aN : c 0 2 = nI N) : ∀ m i, i + m = N → ld_X9_kindsOf_16 F c w k4 (n + 1 + m) x1 x2 x3 0 (nI i) = k4 x1 x2 (x3 + 1)
  | 0, i, h => by
    have : i = N := by omega
    subst this
    have l : nI i ≤ nI i := Int32.le_refl _
    rw [Nat.add_zero, ld_X9_kindsOf_16, aN, if_pos l, if_pos rfl, lt1_r, Int32.or_zero]
  | m + 1, i, h => by
    have g1 : ¬ nI N ≤ nI i := nI_ge (by omega) (by omega)
    show ld_X9_kindsOf_16 F c w k4 (n + 1 + m + 1) _ _ _ _ _ = _
    rw [ld_X9_kindsOf_16, aN, if_neg g1, lt1_r, if_pos rfl, nI_1]
    exact fitN9z x1 x2 x3 hN aN m (i + 1) (by omega)
theorem fitN9 {F N n : Nat} {c : Nat → Nat → Int32} {w : Nat → Nat → Int64} {k4 : Int32 → Int32 → Int32 → Option Int32} {a : Nat → Int32} (x1 x2 x3 : Int32) (hc : c 0 = a) (hN : N ≤ 6) (aN : a 2 = nI N) (nn : ∀ i, i < N → 0 ≤ (a (36 + (i * 5 + 3))).toInt) : ∀ m i, i + m = N → ld_X9_kindsOf_16 F c w k4 (n + 1 + m) x1 x2 x3 1 (nI i) = k4 x1 (x2 ||| (if fitN a x1 x3 i m then (1 : Int32) <<< (x3 &&& 31) else 0)) (x3 + 1)
  | 0, i, h => by
    have : i = N := by omega
    subst this
    have l : nI i ≤ nI i := Int32.le_refl _
    rw [Nat.add_zero, ld_X9_kindsOf_16, hc, aN, if_pos l, if_neg ne10, lt1_r]
    rfl
  | m + 1, i, h => by
    have g1 : ¬ nI N ≤ nI i := nI_ge (by omega) (by omega)
    have m5 : (36 : Int32) + (5 : Int32) * nI i = nI (36 + i * 5) := by
      have q1 : (36 : Int32) = nI 36 := rfl
      have q2 : (5 : Int32) = nI 5 := rfl
      rw [q1, q2, pk_mul, nI_add, Nat.mul_comm]
    have p1 : nI (36 + i * 5) + (1 : Int32) = nI (36 + (i * 5 + 1)) := (nI_add _ 1).trans (congrArg nI (by omega))
    have p2 : nI (36 + i * 5) + (2 : Int32) = nI (36 + (i * 5 + 2)) := (nI_add _ 2).trans (congrArg nI (by omega))
    have p3 : nI (36 + i * 5) + (3 : Int32) = nI (36 + (i * 5 + 3)) := (nI_add _ 3).trans (congrArg nI (by omega))
    have p4 : nI (36 + i * 5) + (4 : Int32) = nI (36 + (i * 5 + 4)) := (nI_add _ 4).trans (congrArg nI (by omega))
    have i0 : inb (nI (36 + i * 5)) 194 := inb_nI (by omega) (by omega)
    have i1 : inb (nI (36 + (i * 5 + 1))) 194 := inb_nI (by omega) (by omega)
    have i2 : inb (nI (36 + (i * 5 + 2))) 194 := inb_nI (by omega) (by omega)
    have i3 : inb (nI (36 + (i * 5 + 3))) 194 := inb_nI (by omega) (by omega)
    have i4 : inb (nI (36 + (i * 5 + 4))) 194 := inb_nI (by omega) (by omega)
    have ih := fitN9 (F := F) (n := n) (w := w) (k4 := k4) x1 x2 x3 hc hN aN nn m (i + 1) (by omega)
    have iz := fitN9z (F := F) (n := n) (w := w) (c := c) (k4 := k4) x1 x2 x3 hN (by rw [hc]; exact aN) m (i + 1) (by omega)
    show ld_X9_kindsOf_16 F c w k4 (n + 1 + m + 1) _ _ _ _ _ = _
    rw [ld_X9_kindsOf_16, hc, aN, if_neg g1, lt1_r, if_neg ne10, m5, if_pos i0, ix_nI (by omega)]
    by_cases hp : a (36 + i * 5) = x1
    · rw [if_pos hp, p1, if_pos i1, p2, if_pos i2, p3, if_pos i3, ix_nI (by omega), ix_nI (by omega), ix_nI (by omega), mv9 _ _ _ _ (nn i (by omega)), bd1_s, p4, if_pos i4, ix_nI (by omega)]
      by_cases hv : mvv x3 (a (36 + (i * 5 + 1))) (a (36 + (i * 5 + 2))) (a (36 + (i * 5 + 3))) = a (36 + (i * 5 + 4))
      · rw [if_pos hv, fitN_s (fun z => z.2 hv), nI_1]
        exact ih
      · rw [if_neg hv, fitN_f ⟨hp, hv⟩, nI_1, iz]
        rw [if_neg (show ¬ false = true by decide), Int32.or_zero]
    · rw [if_neg hp, fitN_s (fun z => hp z.1), nI_1]
      exact ih
theorem fitN5o {F N n : Nat} {c : Nat → Nat → Int32} {w : Nat → Nat → Int64} {a : Nat → Int32} (p : Int32) (r : R4 N c a) (hF : ∃ q, F = q + 1 + N) : ∀ m i S, i + m = 6 → S < 64 → ld_X1_pointKindsThatFit_4 F c w (n + 1 + m) p (nI S) (nI i) = some (nI (kset (fun k => fitN a p (nI k) 0 N) i m S))
  | 0, i, S, h, hS => by
    have : i = 6 := by omega
    subst this
    have l : (5 : Int32) < nI 6 := by decide
    rw [Nat.add_zero, ld_X1_pointKindsThatFit_4, if_pos l]
    rfl
  | m + 1, i, S, h, hS => by
    obtain ⟨q, hq⟩ := hF
    have g1 : ¬ (5 : Int32) < nI i := nI_nlt (b := i) (a := 5) (by omega) (by omega)
    have hi := fitN5 (F := F) (n := q) (w := w) p (nI i) r N 0 (by omega)
    rw [← hq] at hi
    show ld_X1_pointKindsThatFit_4 F c w (n + 1 + m + 1) _ _ _ = _
    rw [ld_X1_pointKindsThatFit_4, if_neg g1]
    unfold md_X1_notesFit
    rw [show (0 : Int32) = nI 0 from rfl, hi, bd1_s, lt1_r, kset]
    by_cases hf : fitN a p (nI i) 0 N = true
    · rw [if_pos hf, if_neg (show ¬ (1 : Int32) = nI 0 by decide), or_bit S hS i (by omega), nI_1, if_pos hf]
      exact fitN5o p r ⟨q, hq⟩ m (i + 1) _ (by omega) (or_lt6 S hS i (by omega))
    · rw [if_neg hf, if_pos (show (0 : Int32) = nI 0 from rfl), nI_1, if_neg hf]
      exact fitN5o p r ⟨q, hq⟩ m (i + 1) _ (by omega) hS
theorem fitN9o {F N n : Nat} {c : Nat → Nat → Int32} {w : Nat → Nat → Int64} {a : Nat → Int32} (p : Int32) (hc : c 0 = a) (hN : N ≤ 6) (aN : a 2 = nI N) (nn : ∀ i, i < N → 0 ≤ (a (36 + (i * 5 + 3))).toInt) (hF : ∃ q, F = q + 1 + N) : ∀ m i S, i + m = 6 → S < 64 → ld_X9_kindsOf_4 F c w (n + 1 + m) p (nI S) (nI i) = some (nI (kset (fun k => fitN a p (nI k) 0 N) i m S))
  | 0, i, S, h, hS => by
    have : i = 6 := by omega
    subst this
    have l : (6 : Int32) ≤ nI 6 := by decide
    rw [Nat.add_zero, ld_X9_kindsOf_4, if_pos l]
    rfl
  | m + 1, i, S, h, hS => by
    obtain ⟨q, hq⟩ := hF
    have g1 : ¬ (6 : Int32) ≤ nI i := nI_ge (b := 6) (by omega) (by omega)
    have hi := fitN9 (F := F) (n := q) (w := w) (k4 := ld_X9_kindsOf_4 F c w (n + 1 + m)) p (nI S) (nI i) hc hN aN nn N 0 (by omega)
    rw [← hq] at hi
    show ld_X9_kindsOf_4 F c w (n + 1 + m + 1) _ _ _ = _
    rw [ld_X9_kindsOf_4, if_neg g1, show (0 : Int32) = nI 0 from rfl, hi, kset]
    by_cases hf : fitN a p (nI i) 0 N = true
    · rw [if_pos hf, or_bit S hS i (by omega), nI_1, if_pos hf]
      exact fitN9o p hc hN aN nn ⟨q, hq⟩ m (i + 1) _ (by omega) (or_lt6 S hS i (by omega))
    · rw [if_neg hf, Int32.or_zero, nI_1, if_neg hf]
      exact fitN9o p hc hN aN nn ⟨q, hq⟩ m (i + 1) _ (by omega) hS
theorem fitN_fit {N : Nat} {c c9 : Nat → Nat → Int32} {w w9 : Nat → Nat → Int64} (p : Int32) (r : R4 N c (c9 0)) : ∃ S, S < 64 ∧ md_X1_pointKindsThatFit FU c w p = some (nI S) ∧ md_X9_kindsOf FU c9 w9 p = some (nI S) := by
  obtain ⟨hN, aN, cN, hn⟩ := r
  obtain ⟨q, hq⟩ : ∃ q, FU = q + 1 + 6 := ⟨1999993, by decide⟩
  have hF : ∃ q, FU = q + 1 + N := ⟨q + (6 - N), by omega⟩
  have nn : ∀ i, i < N → 0 ≤ (c9 0 (36 + (i * 5 + 3))).toInt := fun i hi => (hn (i * 5 + 3) (by omega)).2 (by omega)
  have h5 := fitN5o (F := FU) (n := q) (w := w) p ⟨hN, aN, cN, hn⟩ hF 6 0 0 (by omega) (by omega)
  have h9 := fitN9o (F := FU) (n := q) (w := w9) (c := c9) p rfl hN aN nn hF 6 0 0 (by omega) (by omega)
  rw [← hq] at h5 h9
  exact ⟨_, kset_lt _ 6 0 0 (by omega) (by omega), h5, h9⟩
def fitM (a : Nat → Int32) (p kind : Int32) : Nat → Nat → Bool
  | _, 0 => true
  | i, m + 1 => if a (66 + i * 4) = p ∧ ¬ cvv kind (a (66 + (i * 4 + 1))) (a (66 + (i * 4 + 2))) = a (66 + (i * 4 + 3)) then false else fitM a p kind (i + 1) m
theorem fitM_s {a : Nat → Int32} {p kind : Int32} {i m : Nat} (h : ¬ (a (66 + i * 4) = p ∧ ¬ cvv kind (a (66 + (i * 4 + 1))) (a (66 + (i * 4 + 2))) = a (66 + (i * 4 + 3)))) : fitM a p kind i (m + 1) = fitM a p kind (i + 1) m := if_neg h
theorem fitM_f {a : Nat → Int32} {p kind : Int32} {i m : Nat} (h : a (66 + i * 4) = p ∧ ¬ cvv kind (a (66 + (i * 4 + 1))) (a (66 + (i * 4 + 2))) = a (66 + (i * 4 + 3))) : fitM a p kind i (m + 1) = false := if_pos h
theorem fitM5 {F N n : Nat} {c : Nat → Nat → Int32} {w : Nat → Nat → Int64} {a : Nat → Int32} (p kind : Int32) (r : R5 N c a) : ∀ m i, i + m = N → ld_X1_marksFit_2 F c w (n + 1 + m) p kind (nI i) = some (if fitM a p kind i m then 1 else 0)
  | 0, i, h => by
    have : i = N := by omega
    subst this
    have l : nI i ≤ nI i := Int32.le_refl _
    rw [Nat.add_zero, ld_X1_marksFit_2, r.2.2.1, if_pos l]
    rfl
  | m + 1, i, h => by
    obtain ⟨hN, aN, cN, hn⟩ := r
    have g1 : ¬ nI N ≤ nI i := nI_ge (by omega) (by omega)
    have g2 : ¬ (6 : Int32) ≤ nI i := nI_ge (b := 6) (by omega) (by omega)
    have m5 : nI i * (4 : Int32) = nI (i * 4) := pk_mul i 4
    have p1 : nI (i * 4) + (1 : Int32) = nI (i * 4 + 1) := nI_add _ 1
    have p2 : nI (i * 4) + (2 : Int32) = nI (i * 4 + 2) := nI_add _ 2
    have p3 : nI (i * 4) + (3 : Int32) = nI (i * 4 + 3) := nI_add _ 3
    have i0 : inb (nI (i * 4)) 24 := inb_nI (by omega) (by omega)
    have i1 : inb (nI (i * 4 + 1)) 24 := inb_nI (by omega) (by omega)
    have i2 : inb (nI (i * 4 + 2)) 24 := inb_nI (by omega) (by omega)
    have i3 : inb (nI (i * 4 + 3)) 24 := inb_nI (by omega) (by omega)
    have e0 : c 5 (i * 4) = a (66 + i * 4) := (hn (i * 4) (by omega)).1
    have e1 : c 5 (i * 4 + 1) = a (66 + (i * 4 + 1)) := (hn (i * 4 + 1) (by omega)).1
    have e2 : c 5 (i * 4 + 2) = a (66 + (i * 4 + 2)) := (hn (i * 4 + 2) (by omega)).1
    have e3 : c 5 (i * 4 + 3) = a (66 + (i * 4 + 3)) := (hn (i * 4 + 3) (by omega)).1
    have ih := fitM5 (F := F) (n := n) (w := w) p kind ⟨hN, aN, cN, hn⟩ m (i + 1) (by omega)
    show ld_X1_marksFit_2 F c w (n + 1 + m + 1) _ _ _ = _
    rw [ld_X1_marksFit_2, cN, if_neg g1, if_neg g2, m5, if_pos i0, ix_nI (by omega), e0]
    by_cases hp : a (66 + i * 4) = p
    · rw [if_pos hp, p1, if_pos i1, p2, if_pos i2, ix_nI (by omega), e1, ix_nI (by omega), e2, ct5, bd1_s, p3, if_pos i3, ix_nI (by omega), e3]
      by_cases hv : cvv kind (a (66 + (i * 4 + 1))) (a (66 + (i * 4 + 2))) = a (66 + (i * 4 + 3))
      · rw [if_pos hv, fitM_s (fun z => z.2 hv), nI_1]
        exact ih
      · rw [if_neg hv, fitM_f ⟨hp, hv⟩]
        rfl
    · rw [if_neg hp, fitM_s (fun z => hp z.1), nI_1]
      exact ih
theorem fitM9z {F N n : Nat} {c : Nat → Nat → Int32} {w : Nat → Nat → Int64} {k4 : Int32 → Int32 → Int32 → Option Int32} (x1 x2 x3 : Int32) (hN : N ≤ 6) (aN : c 0 3 = nI N) : ∀ m i, i + m = N → ld_X9_kindsOfCounsel_16 F c w k4 (n + 1 + m) x1 x2 x3 0 (nI i) = k4 x1 x2 (x3 + 1)
  | 0, i, h => by
    have : i = N := by omega
    subst this
    have l : nI i ≤ nI i := Int32.le_refl _
    rw [Nat.add_zero, ld_X9_kindsOfCounsel_16, aN, if_pos l, if_pos rfl, lt1_r, Int32.or_zero]
  | m + 1, i, h => by
    have g1 : ¬ nI N ≤ nI i := nI_ge (by omega) (by omega)
    show ld_X9_kindsOfCounsel_16 F c w k4 (n + 1 + m + 1) _ _ _ _ _ = _
    rw [ld_X9_kindsOfCounsel_16, aN, if_neg g1, lt1_r, if_pos rfl, nI_1]
    exact fitM9z x1 x2 x3 hN aN m (i + 1) (by omega)
theorem fitM9 {F N n : Nat} {c : Nat → Nat → Int32} {w : Nat → Nat → Int64} {k4 : Int32 → Int32 → Int32 → Option Int32} {a : Nat → Int32} (x1 x2 x3 : Int32) (hc : c 0 = a) (hN : N ≤ 6) (aN : a 3 = nI N) (nn : ∀ i, i < N → 0 ≤ (a (66 + (i * 4 + 1))).toInt) : ∀ m i, i + m = N → ld_X9_kindsOfCounsel_16 F c w k4 (n + 1 + m) x1 x2 x3 1 (nI i) = k4 x1 (x2 ||| (if fitM a x1 x3 i m then (1 : Int32) <<< (x3 &&& 31) else 0)) (x3 + 1)
  | 0, i, h => by
    have : i = N := by omega
    subst this
    have l : nI i ≤ nI i := Int32.le_refl _
    rw [Nat.add_zero, ld_X9_kindsOfCounsel_16, hc, aN, if_pos l, if_neg ne10, lt1_r]
    rfl
  | m + 1, i, h => by
    have g1 : ¬ nI N ≤ nI i := nI_ge (by omega) (by omega)
    have m5 : (66 : Int32) + (4 : Int32) * nI i = nI (66 + i * 4) := by
      have q1 : (66 : Int32) = nI 66 := rfl
      have q2 : (4 : Int32) = nI 4 := rfl
      rw [q1, q2, pk_mul, nI_add, Nat.mul_comm]
    have p1 : nI (66 + i * 4) + (1 : Int32) = nI (66 + (i * 4 + 1)) := (nI_add _ 1).trans (congrArg nI (by omega))
    have p2 : nI (66 + i * 4) + (2 : Int32) = nI (66 + (i * 4 + 2)) := (nI_add _ 2).trans (congrArg nI (by omega))
    have p3 : nI (66 + i * 4) + (3 : Int32) = nI (66 + (i * 4 + 3)) := (nI_add _ 3).trans (congrArg nI (by omega))
    have i0 : inb (nI (66 + i * 4)) 194 := inb_nI (by omega) (by omega)
    have i1 : inb (nI (66 + (i * 4 + 1))) 194 := inb_nI (by omega) (by omega)
    have i2 : inb (nI (66 + (i * 4 + 2))) 194 := inb_nI (by omega) (by omega)
    have i3 : inb (nI (66 + (i * 4 + 3))) 194 := inb_nI (by omega) (by omega)
    have ih := fitM9 (F := F) (n := n) (w := w) (k4 := k4) x1 x2 x3 hc hN aN nn m (i + 1) (by omega)
    have iz := fitM9z (F := F) (n := n) (w := w) (c := c) (k4 := k4) x1 x2 x3 hN (by rw [hc]; exact aN) m (i + 1) (by omega)
    show ld_X9_kindsOfCounsel_16 F c w k4 (n + 1 + m + 1) _ _ _ _ _ = _
    rw [ld_X9_kindsOfCounsel_16, hc, aN, if_neg g1, lt1_r, if_neg ne10, m5, if_pos i0, ix_nI (by omega)]
    by_cases hp : a (66 + i * 4) = x1
    · rw [if_pos hp, p1, if_pos i1, p2, if_pos i2, ix_nI (by omega), ix_nI (by omega), ct9 _ _ _ (nn i (by omega)), bd1_s, p3, if_pos i3, ix_nI (by omega)]
      by_cases hv : cvv x3 (a (66 + (i * 4 + 1))) (a (66 + (i * 4 + 2))) = a (66 + (i * 4 + 3))
      · rw [if_pos hv, fitM_s (fun z => z.2 hv), nI_1]
        exact ih
      · rw [if_neg hv, fitM_f ⟨hp, hv⟩, nI_1, iz]
        rw [if_neg (show ¬ false = true by decide), Int32.or_zero]
    · rw [if_neg hp, fitM_s (fun z => hp z.1), nI_1]
      exact ih
theorem fitM5o {F N n : Nat} {c : Nat → Nat → Int32} {w : Nat → Nat → Int64} {a : Nat → Int32} (p : Int32) (r : R5 N c a) (hF : ∃ q, F = q + 1 + N) : ∀ m i S, i + m = 6 → S < 64 → ld_X1_counselKindsThatFit_4 F c w (n + 1 + m) p (nI S) (nI i) = some (nI (kset (fun k => fitM a p (nI k) 0 N) i m S))
  | 0, i, S, h, hS => by
    have : i = 6 := by omega
    subst this
    have l : (5 : Int32) < nI 6 := by decide
    rw [Nat.add_zero, ld_X1_counselKindsThatFit_4, if_pos l]
    rfl
  | m + 1, i, S, h, hS => by
    obtain ⟨q, hq⟩ := hF
    have g1 : ¬ (5 : Int32) < nI i := nI_nlt (b := i) (a := 5) (by omega) (by omega)
    have hi := fitM5 (F := F) (n := q) (w := w) p (nI i) r N 0 (by omega)
    rw [← hq] at hi
    show ld_X1_counselKindsThatFit_4 F c w (n + 1 + m + 1) _ _ _ = _
    rw [ld_X1_counselKindsThatFit_4, if_neg g1]
    unfold md_X1_marksFit
    rw [show (0 : Int32) = nI 0 from rfl, hi, bd1_s, lt1_r, kset]
    by_cases hf : fitM a p (nI i) 0 N = true
    · rw [if_pos hf, if_neg (show ¬ (1 : Int32) = nI 0 by decide), or_bit S hS i (by omega), nI_1, if_pos hf]
      exact fitM5o p r ⟨q, hq⟩ m (i + 1) _ (by omega) (or_lt6 S hS i (by omega))
    · rw [if_neg hf, if_pos (show (0 : Int32) = nI 0 from rfl), nI_1, if_neg hf]
      exact fitM5o p r ⟨q, hq⟩ m (i + 1) _ (by omega) hS
theorem fitM9o {F N n : Nat} {c : Nat → Nat → Int32} {w : Nat → Nat → Int64} {a : Nat → Int32} (p : Int32) (hc : c 0 = a) (hN : N ≤ 6) (aN : a 3 = nI N) (nn : ∀ i, i < N → 0 ≤ (a (66 + (i * 4 + 1))).toInt) (hF : ∃ q, F = q + 1 + N) : ∀ m i S, i + m = 6 → S < 64 → ld_X9_kindsOfCounsel_4 F c w (n + 1 + m) p (nI S) (nI i) = some (nI (kset (fun k => fitM a p (nI k) 0 N) i m S))
  | 0, i, S, h, hS => by
    have : i = 6 := by omega
    subst this
    have l : (6 : Int32) ≤ nI 6 := by decide
    rw [Nat.add_zero, ld_X9_kindsOfCounsel_4, if_pos l]
    rfl
  | m + 1, i, S, h, hS => by
    obtain ⟨q, hq⟩ := hF
    have g1 : ¬ (6 : Int32) ≤ nI i := nI_ge (b := 6) (by omega) (by omega)
    have hi := fitM9 (F := F) (n := q) (w := w) (k4 := ld_X9_kindsOfCounsel_4 F c w (n + 1 + m)) p (nI S) (nI i) hc hN aN nn N 0 (by omega)
    rw [← hq] at hi
    show ld_X9_kindsOfCounsel_4 F c w (n + 1 + m + 1) _ _ _ = _
    rw [ld_X9_kindsOfCounsel_4, if_neg g1, show (0 : Int32) = nI 0 from rfl, hi, kset]
    by_cases hf : fitM a p (nI i) 0 N = true
    · rw [if_pos hf, or_bit S hS i (by omega), nI_1, if_pos hf]
      exact fitM9o p hc hN aN nn ⟨q, hq⟩ m (i + 1) _ (by omega) (or_lt6 S hS i (by omega))
    · rw [if_neg hf, Int32.or_zero, nI_1, if_neg hf]
      exact fitM9o p hc hN aN nn ⟨q, hq⟩ m (i + 1) _ (by omega) hS
theorem fitM_fit {N : Nat} {c c9 : Nat → Nat → Int32} {w w9 : Nat → Nat → Int64} (p : Int32) (r : R5 N c (c9 0)) : ∃ S, S < 64 ∧ md_X1_counselKindsThatFit FU c w p = some (nI S) ∧ md_X9_kindsOfCounsel FU c9 w9 p = some (nI S) := by
  obtain ⟨hN, aN, cN, hn⟩ := r
  obtain ⟨q, hq⟩ : ∃ q, FU = q + 1 + 6 := ⟨1999993, by decide⟩
  have hF : ∃ q, FU = q + 1 + N := ⟨q + (6 - N), by omega⟩
  have nn : ∀ i, i < N → 0 ≤ (c9 0 (66 + (i * 4 + 1))).toInt := fun i hi => (hn (i * 4 + 1) (by omega)).2 (by omega)
  have h5 := fitM5o (F := FU) (n := q) (w := w) p ⟨hN, aN, cN, hn⟩ hF 6 0 0 (by omega) (by omega)
  have h9 := fitM9o (F := FU) (n := q) (w := w9) (c := c9) p rfl hN aN nn hF 6 0 0 (by omega) (by omega)
  rw [← hq] at h5 h9
  exact ⟨_, kset_lt _ 6 0 0 (by omega) (by omega), h5, h9⟩
theorem call_is {c0 c1 c2 c9 : Nat → Nat → Int32} {w0 w1 w9 : Nat → Nat → Int64} (p : Int32) (h : RB c1 w1 c2 (c9 0)) : ∃ r c0' c9', md_X8_is FU c0 w0 c1 w1 c2 p = some (r, c0') ∧ md_X9_is FU c9 w9 p = some (r, c9') ∧ c9' 0 = c9 0 ∧ SR c0 c9 c0' c9' := by
  obtain ⟨P, K, E, N, M, r1, r2, r3, r4, r5⟩ := RB_to h
  unfold md_X8_is md_X9_is
  rw [hpA p r1.1 r1.2.2.2.2.1.1, ipA p r1.2.1, bd1_s, bd1_s]
  rcases b01_c (0 ≤ p ∧ p ≤ nI P - 1) with ⟨hb, e⟩ | ⟨hb, e⟩
  · obtain ⟨S, hS, e1, e2⟩ := fitN_fit (w := w1) (w9 := w9) p r4
    rw [e, if10, if10, e1, e2, bd1_s, bd1_s]
    exact ⟨_, _, _, rfl, rfl, rfl, Or.inl ⟨rfl, fun _ _ => rfl⟩⟩
  · rw [e, if00, if00]
    exact ⟨_, _, _, rfl, rfl, rs_n _ _ (by decide), Or.inr ⟨0, by omega, rfl, rfl⟩⟩
theorem call_kinds {c0 c1 c2 c9 : Nat → Nat → Int32} {w0 w1 w9 : Nat → Nat → Int64} (p : Int32) (h : RB c1 w1 c2 (c9 0)) : ∃ r c0' c9', md_X8_kinds FU c0 w0 c1 w1 p = some (r, c0') ∧ md_X9_kinds FU c9 w9 p = some (r, c9') ∧ c9' 0 = c9 0 ∧ SR c0 c9 c0' c9' := by
  obtain ⟨P, K, E, N, M, r1, r2, r3, r4, r5⟩ := RB_to h
  unfold md_X8_kinds md_X9_kinds
  rw [cn8, cn9, bd1_s, bd1_s]
  rcases b01_c (0 ≤ p ∧ p ≤ 1) with ⟨hb, e⟩ | ⟨hb, e⟩
  · obtain ⟨S, hS, e1, e2⟩ := fitM_fit (w := w1) (w9 := w9) p r5
    rw [e, if10, if10, e1, e2, bd1_s, bd1_s]
    exact ⟨_, _, _, rfl, rfl, rfl, Or.inl ⟨rfl, fun _ _ => rfl⟩⟩
  · rw [e, if00, if00]
    exact ⟨_, _, _, rfl, rfl, rs_n _ _ (by decide), Or.inr ⟨0, by omega, rfl, rfl⟩⟩
