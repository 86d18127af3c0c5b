-- the calls: count, digest
def gsm (a : Nat → Int32) : Nat → Nat → Int32 → Int32
  | _, 0, x => x
  | i, m + 1, x => gsm a (i + 1) m (x + a (6 + i))
theorem gs5 {P n : Nat} {cc : Nat → Nat → Int32} {a : Nat → Int32} (hP : P ≤ 6) (h5 : cc 5 0 = nI P) (hg : ∀ j, j < P → cc 4 j = a (6 + j)) : ∀ m i x, i + m = P → ld_X3_allGroundsLeft_4 FU cc (n + 1 + m) x (nI i) = some (gsm a i m x)
  | 0, i, x, h => by
    have : i = P := by omega
    subst this
    have l : nI i ≤ nI i := Int32.le_refl _
    rw [Nat.add_zero, ld_X3_allGroundsLeft_4, h5, if_pos l]
    split <;> rfl
  | m + 1, i, x, h => by
    have l1 : ¬ (6 : Int32) ≤ nI i := nI_ge (b := 6) (by omega) (by omega)
    have l2 : ¬ nI P ≤ nI i := nI_ge (by omega) (by omega)
    have i1 : inb (nI i) 6 := inb_nI (by omega) (by omega)
    show ld_X3_allGroundsLeft_4 FU cc (n + 1 + m + 1) _ _ = _
    rw [ld_X3_allGroundsLeft_4, if_neg l1, h5, if_neg l2, if_pos i1, ix_nI (by omega), hg i (by omega), nI_1]
    exact gs5 hP h5 hg m (i + 1) _ (by omega)
theorem seven (k : Nat) (h : k ≤ 7) : k = 0 ∨ k = 1 ∨ k = 2 ∨ k = 3 ∨ k = 4 ∨ k = 5 ∨ k = 6 ∨ k = 7 := by omega
/-- what count tells -/
def cnv (a : Nat → Int32) (T : Int32) (P S : Nat) (k : Nat) : Int32 := if k = 0 then nI P else if k = 1 then nI (pop S) else if k = 2 then gsm a 0 P 0 else if k = 3 then a 1 else if k = 4 then a 2 else if k = 5 then a 3 else if k = 6 then a 4 else T
theorem cnt9 {P S n : Nat} {c : Nat → Nat → Int32} {w : Nat → Nat → Int64} {k : Nat} (hP : P ≤ 6) (hS : S < 2 ^ P) (h0 : c 0 0 = nI P) (h5 : c 0 5 = nI S) (hk : k ≤ 7) : ∀ m i x, i + m = P → gsm (c 0) i m x = gsm (c 0) 0 P 0 → ld_X9_counted_4 FU c w (n + 1 + m) (nI k) x (nI i) = some (cnv (c 0) (c 21 0) P S k)
  | 0, i, x, h, hx => by
    have : i = P := by omega
    subst this
    have h64 := pow_le6 hP
    have l : nI i ≤ nI i := Int32.le_refl _
    rw [Nat.add_zero, ld_X9_counted_4]
    unfold md_X9_many
    rw [bd1_s, h0, if_pos l, h5, bits9 S (by omega), bd1_s, bd1_s]
    unfold jd_X9_counted_105
    have i3 : inb (((1 : Int32) + nI 3) - 3) 194 := by decide
    have i4 : inb (((1 : Int32) + nI 4) - 3) 194 := by decide
    have i5 : inb (((1 : Int32) + nI 5) - 3) 194 := by decide
    have x3 : ix (((1 : Int32) + nI 3) - 3) = 1 := by decide
    have x4 : ix (((1 : Int32) + nI 4) - 3) = 2 := by decide
    have x5 : ix (((1 : Int32) + nI 5) - 3) = 3 := by decide
    rcases seven k hk with rfl | rfl | rfl | rfl | rfl | rfl | rfl | rfl
    · rw [if_pos (show nI 0 = (0 : Int32) from rfl)]; rfl
    · rw [if_neg (show ¬ nI 1 = (0 : Int32) by decide), if_pos (show nI 1 = (1 : Int32) from rfl)]; rfl
    · rw [if_neg (show ¬ nI 2 = (0 : Int32) by decide), if_neg (show ¬ nI 2 = (1 : Int32) by decide), if_pos (show nI 2 = (2 : Int32) from rfl)]
      have : x = gsm (c 0) 0 i 0 := hx
      rw [this]; rfl
    · rw [if_neg (show ¬ nI 3 = (0 : Int32) by decide), if_neg (show ¬ nI 3 = (1 : Int32) by decide), if_neg (show ¬ nI 3 = (2 : Int32) by decide), if_pos (show nI 3 = (3 : Int32) from rfl), if_pos i3, x3]; rfl
    · rw [if_neg (show ¬ nI 4 = (0 : Int32) by decide), if_neg (show ¬ nI 4 = (1 : Int32) by decide), if_neg (show ¬ nI 4 = (2 : Int32) by decide), if_neg (show ¬ nI 4 = (3 : Int32) by decide), if_pos (show nI 4 = (4 : Int32) from rfl), if_pos i4, x4]; rfl
    · rw [if_neg (show ¬ nI 5 = (0 : Int32) by decide), if_neg (show ¬ nI 5 = (1 : Int32) by decide), if_neg (show ¬ nI 5 = (2 : Int32) by decide), if_neg (show ¬ nI 5 = (3 : Int32) by decide), if_neg (show ¬ nI 5 = (4 : Int32) by decide), if_pos (show nI 5 = (5 : Int32) from rfl), if_pos i5, x5]; rfl
    · rw [if_neg (show ¬ nI 6 = (0 : Int32) by decide), if_neg (show ¬ nI 6 = (1 : Int32) by decide), if_neg (show ¬ nI 6 = (2 : Int32) by decide), if_neg (show ¬ nI 6 = (3 : Int32) by decide), if_neg (show ¬ nI 6 = (4 : Int32) by decide), if_neg (show ¬ nI 6 = (5 : Int32) by decide), if_pos (show nI 6 = (6 : Int32) from rfl)]; rfl
    · rw [if_neg (show ¬ nI 7 = (0 : Int32) by decide), if_neg (show ¬ nI 7 = (1 : Int32) by decide), if_neg (show ¬ nI 7 = (2 : Int32) by decide), if_neg (show ¬ nI 7 = (3 : Int32) by decide), if_neg (show ¬ nI 7 = (4 : Int32) by decide), if_neg (show ¬ nI 7 = (5 : Int32) by decide), if_neg (show ¬ nI 7 = (6 : Int32) by decide), if_pos (show nI 7 = (7 : Int32) from rfl)]; rfl
  | m + 1, i, x, h, hx => by
    have l2 : ¬ nI P ≤ nI i := nI_ge (by omega) (by omega)
    have e6 : (6 : Int32) + nI i = nI (6 + i) := nI_add 6 i
    have i1 : inb (nI (6 + i)) 194 := inb_nI (by omega) (by omega)
    show ld_X9_counted_4 FU c w (n + 1 + m + 1) _ _ _ = _
    rw [ld_X9_counted_4]
    unfold md_X9_many
    rw [bd1_s, h0, if_neg l2, e6, if_pos i1, ix_nI (by omega), lt1_r, nI_1]
    exact cnt9 hP hS h0 h5 hk m (i + 1) _ (by omega) hx
theorem counted_ok {P S k : Nat} {c : Nat → Nat → Int32} {w : Nat → Nat → Int64} (hP : P ≤ 6) (hS : S < 2 ^ P) (h0 : c 0 0 = nI P) (h5 : c 0 5 = nI S) (hk : k ≤ 7) : md_X9_counted FU c w (nI k) = some (cnv (c 0) (c 21 0) P S k) := by
  have hF : FU = 2000000 := rfl
  have h := cnt9 (n := 1999999 - P) (w := w) hP hS h0 h5 hk P 0 0 (by omega) rfl
  rw [show 1999999 - P + 1 + P = FU from by omega] at h
  exact h
theorem count5 {c0 c1 c2 c5 c9 : Nat → Nat → Int32} {w0 w1 : Nat → Nat → Int64} (h : RB c1 w1 c2 (c9 0)) (ht : TR c5 c9) : ∃ P S, P ≤ 6 ∧ S < 2 ^ P ∧ c9 0 0 = nI P ∧ c9 0 5 = nI S ∧ ∀ k, k ≤ 7 → md_X8_count FU c0 w0 c1 w1 c2 c5 (nI k) = some (cnv (c9 0) (c9 21 0) P S k, c0) := by
  obtain ⟨P, K, E, N, M, r1, r2, r3, r4, r5⟩ := RB_to h
  obtain ⟨S, hS, h0, h11⟩ := r1.2.2.1.1
  obtain ⟨T, hT, t5, t9, -⟩ := ht
  have hP := r1.1
  have hd := r1.2.2.2.2.1
  have hF : FU = 2000000 := rfl
  have h6 : c2 6 0 = nI S := hd.2.1.trans h0
  refine ⟨P, S, hP, hS, r1.2.1, h0, fun k hk => ?_⟩
  have hg := gs5 (n := 1999999 - P) (a := c9 0) hP hd.1 (fun j hj => by
    rw [hd.2.2.1 j hj]
    show c9 0 (5 + (1 + j)) = _
    rw [show 5 + (1 + j) = 6 + j from by omega]) P 0 0 (by omega)
  rw [show 1999999 - P + 1 + P = FU from by omega] at hg
  have hg' : md_X3_allGroundsLeft FU c2 = some (gsm (c9 0) 0 P 0) := hg
  unfold md_X8_count
  rw [hg', bd1_s, trn5 hP hS h6, bd1_s, hd.1, r3.2.2.1, r4.2.2.1, r5.2.2.1, r2.2.2.1, t5]
  rcases seven k hk with rfl | rfl | rfl | rfl | rfl | rfl | rfl | rfl
  · rw [if_pos (show nI 0 = (0 : Int32) from rfl)]; rfl
  · rw [if_neg (show ¬ nI 1 = (0 : Int32) by decide), if_pos (show nI 1 = (1 : Int32) from rfl)]; rfl
  · rw [if_neg (show ¬ nI 2 = (0 : Int32) by decide), if_neg (show ¬ nI 2 = (1 : Int32) by decide), if_pos (show nI 2 = (2 : Int32) from rfl)]; rfl
  · rw [if_neg (show ¬ nI 3 = (0 : Int32) by decide), if_neg (show ¬ nI 3 = (1 : Int32) by decide), if_neg (show ¬ nI 3 = (2 : Int32) by decide), if_pos (show nI 3 = (3 : Int32) from rfl), ← r3.2.1]; rfl
  · rw [if_neg (show ¬ nI 4 = (0 : Int32) by decide), if_neg (show ¬ nI 4 = (1 : Int32) by decide), if_neg (show ¬ nI 4 = (2 : Int32) by decide), if_neg (show ¬ nI 4 = (3 : Int32) by decide), if_pos (show nI 4 = (4 : Int32) from rfl), ← r4.2.1]; rfl
  · rw [if_neg (show ¬ nI 5 = (0 : Int32) by decide), if_neg (show ¬ nI 5 = (1 : Int32) by decide), if_neg (show ¬ nI 5 = (2 : Int32) by decide), if_neg (show ¬ nI 5 = (3 : Int32) by decide), if_neg (show ¬ nI 5 = (4 : Int32) by decide), if_pos (show nI 5 = (5 : Int32) from rfl), ← r5.2.1]; rfl
  · rw [if_neg (show ¬ nI 6 = (0 : Int32) by decide), if_neg (show ¬ nI 6 = (1 : Int32) by decide), if_neg (show ¬ nI 6 = (2 : Int32) by decide), if_neg (show ¬ nI 6 = (3 : Int32) by decide), if_neg (show ¬ nI 6 = (4 : Int32) by decide), if_neg (show ¬ nI 6 = (5 : Int32) by decide), if_pos (show nI 6 = (6 : Int32) from rfl), ← r2.2.1]; rfl
  · rw [if_neg (show ¬ nI 7 = (0 : Int32) by decide), if_neg (show ¬ nI 7 = (1 : Int32) by decide), if_neg (show ¬ nI 7 = (2 : Int32) by decide), if_neg (show ¬ nI 7 = (3 : Int32) by decide), if_neg (show ¬ nI 7 = (4 : Int32) by decide), if_neg (show ¬ nI 7 = (5 : Int32) by decide), if_neg (show ¬ nI 7 = (6 : Int32) by decide), if_pos (show nI 7 = (7 : Int32) from rfl), ← t9]; rfl
theorem call_count {c0 c1 c2 c5 c9 : Nat → Nat → Int32} {w0 w1 w9 : Nat → Nat → Int64} (p : Int32) (h : RB c1 w1 c2 (c9 0)) (ht : TR c5 c9) : ∃ r c0' c9', md_X8_count FU c0 w0 c1 w1 c2 c5 p = some (r, c0') ∧ md_X9_count FU c9 w9 p = some (r, c9') ∧ c9' 0 = c9 0 ∧ SR c0 c9 c0' c9' := by
  obtain ⟨P, S, hP, hS, h0, h5, hc⟩ := count5 (c0 := c0) (w0 := w0) h ht
  unfold md_X9_count
  rw [in_07, bd1_s]
  rcases b01_c (0 ≤ p ∧ p ≤ 7) with ⟨hb, e⟩ | ⟨hb, e⟩
  · obtain ⟨k, hk, rfl⟩ := nI_b hb (n := 7) (by decide)
    rw [e, if10, counted_ok hP hS h0 h5 hk, bd1_s, hc k hk]
    exact ⟨_, _, _, rfl, rfl, rfl, Or.inl ⟨rfl, fun _ _ => rfl⟩⟩
  · have n : ∀ z : Int32, (0 ≤ z ∧ z ≤ 7) → ¬ p = z := fun z hz e => hb (e ▸ hz)
    unfold md_X8_count
    rw [e, if00, if_neg (n 0 (by decide)), if_neg (n 1 (by decide)), if_neg (n 2 (by decide)), if_neg (n 3 (by decide)), if_neg (n 4 (by decide)), if_neg (n 5 (by decide)), if_neg (n 6 (by decide)), if_neg (n 7 (by decide))]
    exact ⟨_, _, _, rfl, rfl, rs_n _ _ (by decide), Or.inr ⟨0, by omega, rfl, rfl⟩⟩
-- digest
theorem now_ok {c0 c1 c2 c9 : Nat → Nat → Int32} {w0 w1 w9 : Nat → Nat → Int64} (k : Nat) (hk : k ≤ 4) (h : RB c1 w1 c2 (c9 0)) : ∃ v, md_X8_now c0 w0 c1 w1 c2 (nI k) = some (v, c0) ∧ md_X9_toldNow c9 w9 (nI k) = some v := by
  obtain ⟨P, S, hP, hS, a0, ho, hx, hd, hf, h5, h6, h16⟩ := RB_get h
  have h64 := pow_le6 hP
  have hpop := pop_le S (by omega)
  have c7 : c2 7 0 = c9 0 15 := hd.2.2.2.2.2.2.1
  have c8 : c2 8 0 = c9 0 14 := hd.2.2.2.2.2.1
  unfold md_X8_now md_X9_toldNow
  have hk5 : k = 0 ∨ k = 1 ∨ k = 2 ∨ k = 3 ∨ k = 4 := by omega
  rcases hk5 with rfl | rfl | rfl | rfl | rfl
  · refine ⟨c9 0 15, ?_, ?_⟩
    · rw [if_pos (show nI 0 = (0 : Int32) from rfl), c7]
    · rw [if_pos (show nI 0 = (0 : Int32) from rfl)]
  · refine ⟨c9 0 14, ?_, ?_⟩
    · rw [if_neg (show ¬ nI 1 = (0 : Int32) by decide), if_pos (show nI 1 = (1 : Int32) from rfl), c8]
    · rw [if_neg (show ¬ nI 1 = (0 : Int32) by decide), if_pos (show nI 1 = (1 : Int32) from rfl)]
  · refine ⟨nI (pop S), ?_, ?_⟩
    · rw [if_neg (show ¬ nI 2 = (0 : Int32) by decide), if_neg (show ¬ nI 2 = (1 : Int32) by decide), if_pos (show nI 2 = (2 : Int32) from rfl), trn5 hP hS h6, bd1_s]
    · rw [if_neg (show ¬ nI 2 = (0 : Int32) by decide), if_neg (show ¬ nI 2 = (1 : Int32) by decide), if_pos (show nI 2 = (2 : Int32) from rfl), h16]
  · refine ⟨nI (pop S % 2), ?_, ?_⟩
    · rw [if_neg (show ¬ nI 3 = (0 : Int32) by decide), if_neg (show ¬ nI 3 = (1 : Int32) by decide), if_neg (show ¬ nI 3 = (2 : Int32) by decide), if_pos (show nI 3 = (3 : Int32) from rfl), spk5 hP hS h6, bd1_s]
    · rw [if_neg (show ¬ nI 3 = (0 : Int32) by decide), if_neg (show ¬ nI 3 = (1 : Int32) by decide), if_neg (show ¬ nI 3 = (2 : Int32) by decide), if_pos (show nI 3 = (3 : Int32) from rfl), h16, par2 _ (by omega)]
  · refine ⟨if spY (dyn (c9 0)) = 0 then 0 else 1, ?_, ?_⟩
    · rw [if_neg (show ¬ nI 4 = (0 : Int32) by decide), if_neg (show ¬ nI 4 = (1 : Int32) by decide), if_neg (show ¬ nI 4 = (2 : Int32) by decide), if_neg (show ¬ nI 4 = (3 : Int32) by decide), if_pos (show nI 4 = (4 : Int32) from rfl), may5 hP ho hd, bd1_s, lt1_r]
    · rw [if_neg (show ¬ nI 4 = (0 : Int32) by decide), if_neg (show ¬ nI 4 = (1 : Int32) by decide), if_neg (show ¬ nI 4 = (2 : Int32) by decide), if_neg (show ¬ nI 4 = (3 : Int32) by decide), if_pos (show nI 4 = (4 : Int32) from rfl), may9 hP ho, bd1_s, lt1_r]
/-- numbers told on -/
def hsm (a : Nat → Int32) : Nat → Nat → Int64 → Int64
  | _, 0, h => h
  | i, m + 1, h => hsm a (i + 1) m ((31 : Int64) * h + (a i).toInt64)
theorem hsm9 {F n f N : Nat} {c : Nat → Nat → Int32} {w : Nat → Nat → Int64} (hN : f + N ≤ 194) : ∀ m i h, i + m = N → ld_X9_sums_6 F c w (n + 1 + m) (nI f) (nI N) h (nI i) = some (hsm (c 0) (f + i) m h)
  | 0, i, h, hi => by
    have : i = N := by omega
    subst this
    have l : nI i ≤ nI i := Int32.le_refl _
    rw [Nat.add_zero, ld_X9_sums_6, if_pos l]
    rfl
  | m + 1, i, h, hi => by
    have l : ¬ nI N ≤ nI i := nI_ge (by omega) (by omega)
    have i1 : inb (nI (f + i)) 194 := inb_nI (by omega) (by omega)
    show ld_X9_sums_6 F c w (n + 1 + m + 1) _ _ _ _ = _
    rw [ld_X9_sums_6, if_neg l, nI_add, if_pos i1, ix_nI (by omega), lt1_r, nI_1]
    exact hsm9 hN m (i + 1) _ (by omega)
theorem sums_ok {f N : Nat} {c : Nat → Nat → Int32} {w : Nat → Nat → Int64} (h : Int64) (hN : f + N ≤ 194) : md_X9_sums FU c w h (nI f) (nI N) = some (hsm (c 0) f N h) := by
  have hF : FU = 2000000 := rfl
  have e := hsm9 (F := FU) (n := 1999999 - N) (w := w) (c := c) hN N 0 h (by omega)
  rw [show 1999999 - N + 1 + N = FU from by omega, Nat.add_zero] at e
  exact e
theorem dg86 {M n : Nat} {c : Nat → Nat → Int32} {w : Nat → Nat → Int64} {a : Nat → Int32} (r : R5 M c a) : ∀ m i h, i + m = M * 4 → ld_X1_digestOn_86 FU c w (n + 1 + m) h (nI i) = some (hsm a (66 + i) m h)
  | 0, i, h, hi => by
    have hM := r.1
    have l : nI M * (4 : Int32) ≤ nI i := by rw [show nI M * (4 : Int32) = nI (M * 4) from pk_mul M 4]; exact nI_le (by omega) (by omega)
    rw [Nat.add_zero, ld_X1_digestOn_86, r.2.2.1, if_pos l]
    rfl
  | m + 1, i, h, hi => by
    have hM := r.1
    have l : ¬ nI M * (4 : Int32) ≤ nI i := by rw [show nI M * (4 : Int32) = nI (M * 4) from pk_mul M 4]; exact nI_ge (by omega) (by omega)
    have l2 : ¬ (24 : Int32) ≤ nI i := nI_ge (b := 24) (by omega) (by omega)
    have i1 : inb (nI i) 24 := inb_nI (by omega) (by omega)
    show ld_X1_digestOn_86 FU c w (n + 1 + m + 1) _ _ = _
    rw [ld_X1_digestOn_86, r.2.2.1, if_neg l, if_neg l2, if_pos i1, ix_nI (by omega), (r.2.2.2 i (by omega)).1, lt1_r, nI_1]
    exact dg86 r m (i + 1) _ (by omega)
theorem dg86a {M : Nat} {c : Nat → Nat → Int32} {w : Nat → Nat → Int64} {a : Nat → Int32} (r : R5 M c a) (h : Int64) : ld_X1_digestOn_86 FU c w FU h 0 = some (hsm a 66 (M * 4) h) := by
  have hF : FU = 2000000 := rfl
  have hM := r.1
  have e := dg86 (n := 1999999 - M * 4) (w := w) r (M * 4) 0 h (by omega)
  rw [show 1999999 - M * 4 + 1 + M * 4 = FU from by omega] at e
  exact e
theorem dg44 {N M n : Nat} {c : Nat → Nat → Int32} {w : Nat → Nat → Int64} {a : Nat → Int32} (r : R4 N c a) (r5 : R5 M c a) : ∀ m i h, i + m = N * 5 → ld_X1_digestOn_44 FU c w (n + 1 + m) h (nI i) = some (hsm a 66 (M * 4) (hsm a (36 + i) m h))
  | 0, i, h, hi => by
    have hN := r.1
    have l : nI N * (5 : Int32) ≤ nI i := by rw [show nI N * (5 : Int32) = nI (N * 5) from pk_mul N 5]; exact nI_le (by omega) (by omega)
    rw [Nat.add_zero, ld_X1_digestOn_44, r.2.2.1, if_pos l, dg86a r5]
    rfl
  | m + 1, i, h, hi => by
    have hN := r.1
    have l : ¬ nI N * (5 : Int32) ≤ nI i := by rw [show nI N * (5 : Int32) = nI (N * 5) from pk_mul N 5]; exact nI_ge (by omega) (by omega)
    have l2 : ¬ (30 : Int32) ≤ nI i := nI_ge (b := 30) (by omega) (by omega)
    have i1 : inb (nI i) 30 := inb_nI (by omega) (by omega)
    show ld_X1_digestOn_44 FU c w (n + 1 + m + 1) _ _ = _
    rw [ld_X1_digestOn_44, r.2.2.1, if_neg l, if_neg l2, if_pos i1, ix_nI (by omega), (r.2.2.2 i (by omega)).1, lt1_r, nI_1]
    exact dg44 r r5 m (i + 1) _ (by omega)
theorem dg44a {N M : Nat} {c : Nat → Nat → Int32} {w : Nat → Nat → Int64} {a : Nat → Int32} (r : R4 N c a) (r5 : R5 M c a) (h : Int64) : ld_X1_digestOn_44 FU c w FU h 0 = some (hsm a 66 (M * 4) (hsm a 36 (N * 5) h)) := by
  have hF : FU = 2000000 := rfl
  have hN := r.1
  have e := dg44 (n := 1999999 - N * 5) (w := w) r r5 (N * 5) 0 h (by omega)
  rw [show 1999999 - N * 5 + 1 + N * 5 = FU from by omega] at e
  exact e
theorem dg5 {E N M n : Nat} {c : Nat → Nat → Int32} {w : Nat → Nat → Int64} {a : Nat → Int32} (r3 : R3 E c a) (r : R4 N c a) (r5 : R5 M c a) : ∀ m i h, i + m = E → ld_X1_digestOn_5 FU c w (n + 1 + m) h (nI i) = some (hsm a 66 (M * 4) (hsm a 36 (N * 5) (hsm a (32 + i) m h)))
  | 0, i, h, hi => by
    have : i = E := by omega
    subst this
    have l : nI i ≤ nI i := Int32.le_refl _
    rw [Nat.add_zero, ld_X1_digestOn_5, r3.2.2.1, if_pos l, dg44a r r5]
    rfl
  | m + 1, i, h, hi => by
    have hE := r3.1
    have l : ¬ nI E ≤ nI i := nI_ge (by omega) (by omega)
    have l2 : ¬ (4 : Int32) ≤ nI i := nI_ge (b := 4) (by omega) (by omega)
    have i1 : inb (nI i) 4 := inb_nI (by omega) (by omega)
    show ld_X1_digestOn_5 FU c w (n + 1 + m + 1) _ _ = _
    rw [ld_X1_digestOn_5, r3.2.2.1, if_neg l, if_neg l2, if_pos i1, ix_nI (by omega), r3.2.2.2 i (by omega), lt1_r, nI_1]
    exact dg5 r3 r r5 m (i + 1) _ (by omega)
theorem dgB {E N M : Nat} {c : Nat → Nat → Int32} {w : Nat → Nat → Int64} {a : Nat → Int32} (r3 : R3 E c a) (r : R4 N c a) (r5 : R5 M c a) (h : Int64) : md_X1_digestOn FU c w h = some (hsm a 66 (M * 4) (hsm a 36 (N * 5) (hsm a 32 E h))) := by
  have hF : FU = 2000000 := rfl
  have hE := r3.1
  have e := dg5 (n := 1999999 - E) (w := w) r3 r r5 E 0 h (by omega)
  rw [show 1999999 - E + 1 + E = FU from by omega] at e
  exact e
/-- the points told on -/
def hpt (a : Nat → Int32) (S : Nat) : Nat → Nat → Int64 → Int64
  | _, 0, h => h
  | i, m + 1, h => hpt a S (i + 1) m ((31 : Int64) * ((31 : Int64) * ((31 : Int64) * ((31 : Int64) * h + (a (18 + i)).toInt64) + (a (24 + i)).toInt64) + (a (6 + i)).toInt64) + (if S.testBit i then (1 : Int32) else 0).toInt64)
theorem dp5 {P S n : Nat} {cc : Nat → Nat → Int32} {a : Nat → Int32} (hS : S < 2 ^ P) (r : R1 P cc a) (h0 : a 5 = nI S) : ∀ m i h, i + m = P → ld_X3_digestOn_50 FU cc (n + 1 + m) h (nI i) = some (hpt a S i m h)
  | 0, i, h, hi => by
    have : i = P := by omega
    subst this
    have l : nI i ≤ nI i := Int32.le_refl _
    rw [Nat.add_zero, ld_X3_digestOn_50, r.2.2.2.2.1.1, if_pos l]
    split <;> rfl
  | m + 1, i, h, hi => by
    have hP := r.1
    have h64 := pow_le6 hP
    have l1 : ¬ (6 : Int32) ≤ nI i := nI_ge (b := 6) (by omega) (by omega)
    have l2 : ¬ nI P ≤ nI i := nI_ge (by omega) (by omega)
    have i1 : inb (nI i) 6 := inb_nI (by omega) (by omega)
    have g2 : cc 2 i = a (18 + i) := (r.2.2.2.2.2.1 i (by omega)).1
    have g3 : cc 3 i = a (24 + i) := (r.2.2.2.2.2.1 i (by omega)).2
    have g4 : cc 4 i = a (6 + i) := by
      rw [r.2.2.2.2.1.2.2.1 i (by omega)]
      show a (5 + (1 + i)) = _
      rw [show 5 + (1 + i) = 6 + i from by omega]
    have g6 : cc 6 0 = nI S := r.2.2.2.2.1.2.1.trans h0
    have hb : (if (if S.testBit i then (1 : Int32) else 0) = 0 then (0 : Int32) else 1) = (if S.testBit i then (1 : Int32) else 0) := by
      by_cases hb : S.testBit i = true
      · rw [if_pos hb, if_neg ne10]
      · rw [if_neg hb, if_pos rfl]
    show ld_X3_digestOn_50 FU cc (n + 1 + m + 1) _ _ = _
    rw [ld_X3_digestOn_50, if_neg l1, r.2.2.2.2.1.1, if_neg l2, if_pos i1, lt1_r, if_pos i1, lt1_r, if_pos i1, lt1_r, g6, has8 S (by omega) i (by omega), bd1_s, lt1_r, lt1_r, ix_nI (by omega), g2, g3, g4, hb, nI_1]
    exact dp5 hS r h0 m (i + 1) _ (by omega)
theorem dp5a {P S : Nat} {cc : Nat → Nat → Int32} {a : Nat → Int32} (hS : S < 2 ^ P) (r : R1 P cc a) (h0 : a 5 = nI S) (h : Int64) : ld_X3_digestOn_50 FU cc FU h 0 = some (hpt a S 0 P h) := by
  have hF : FU = 2000000 := rfl
  have hP := r.1
  have e := dp5 (n := 1999999 - P) hS r h0 P 0 h (by omega)
  rw [show 1999999 - P + 1 + P = FU from by omega] at e
  exact e
def hcn (a : Nat → Int32) (h : Int64) : Int64 := (31 : Int64) * ((31 : Int64) * ((31 : Int64) * ((31 : Int64) * h + (a 30).toInt64) + (a 12).toInt64) + (a 31).toInt64) + (a 13).toInt64
theorem dgC {P S : Nat} {cc : Nat → Nat → Int32} {a : Nat → Int32} (hS : S < 2 ^ P) (r : R1 P cc a) (h0 : a 5 = nI S) (h : Int64) : md_X3_digestOn FU cc h = some (hpt a S 0 P (hcn a h)) := by
  obtain ⟨n, hn⟩ : ∃ n, FU = n + 1 + 1 + 1 := ⟨1999997, by decide⟩
  have i0 : inb (0 : Int32) 2 := by decide
  have i1 : inb (1 : Int32) 2 := by decide
  have x0 : ix (0 : Int32) = 0 := by decide
  have x1 : ix (1 : Int32) = 1 := by decide
  have l0 : ¬ (2 : Int32) ≤ 0 := by decide
  have l1 : ¬ (2 : Int32) ≤ 1 := by decide
  have l2 : (2 : Int32) ≤ 2 := by decide
  have a0 : (0 : Int32) + 1 = 1 := by decide
  have a1 : (1 : Int32) + 1 = 2 := by decide
  have k0 : cc 0 0 = a 30 := r.2.2.2.2.2.2.1
  have k1 : cc 0 1 = a 31 := r.2.2.2.2.2.2.2
  have b0 : cc 1 0 = a 12 := r.2.2.2.2.1.2.2.2.1
  have b1 : cc 1 1 = a 13 := r.2.2.2.2.1.2.2.2.2.1
  have e : ld_X3_digestOn_5 FU cc (n + 1 + 1 + 1) h 0 = some (hpt a S 0 P (hcn a h)) := by
    rw [ld_X3_digestOn_5, if_neg l0, if_pos i0, lt1_r, if_pos i0, lt1_r, x0, a0, ld_X3_digestOn_5, if_neg l1, if_pos i1, lt1_r, if_pos i1, lt1_r, x1, a1, ld_X3_digestOn_5, if_pos l2, dp5a hS r h0, k0, k1, b0, b1]
    rfl
  rw [← hn] at e
  exact e
theorem dp9 {P S n : Nat} {c : Nat → Nat → Int32} {w : Nat → Nat → Int64} {E N M : Nat} (hP : P ≤ 6) (hS : S < 2 ^ P) (h0 : c 0 0 = nI P) (h5 : c 0 5 = nI S) (hE : E ≤ 4) (hN : N ≤ 6) (hM : M ≤ 6) (h1 : c 0 1 = nI E) (h2 : c 0 2 = nI N) (h3 : c 0 3 = nI M) : ∀ m i h, i + m = P → ld_X9_digest_104 FU c w (n + 1 + m) h (nI i) = some ((31 : Int64) * ((31 : Int64) * hsm (c 0) 66 (M * 4) (hsm (c 0) 36 (N * 5) (hsm (c 0) 32 E (hpt (c 0) S i m h))) + w 4 0) + w 5 0)
  | 0, i, h, hi => by
    have : i = P := by omega
    subst this
    have l : nI i ≤ nI i := Int32.le_refl _
    have m5 : (5 : Int32) * nI N = nI (N * 5) := by rw [Nat.mul_comm]; exact pk_mul 5 N
    have m4 : (4 : Int32) * nI M = nI (M * 4) := by rw [Nat.mul_comm]; exact pk_mul 4 M
    rw [Nat.add_zero, ld_X9_digest_104]
    unfold md_X9_many
    rw [bd1_s, h0, if_pos l, h1, h2, h3, m5, m4, show (32 : Int32) = nI 32 from rfl, show (36 : Int32) = nI 36 from rfl, show (66 : Int32) = nI 66 from rfl, sums_ok _ (by omega), bd1_s, sums_ok _ (by omega), bd1_s, sums_ok _ (by omega), bd1_s]
    rfl
  | m + 1, i, h, hi => by
    have h64 := pow_le6 hP
    have l : ¬ nI P ≤ nI i := nI_ge (by omega) (by omega)
    have e18 : (18 : Int32) + nI i = nI (18 + i) := nI_add 18 i
    have e24 : (24 : Int32) + nI i = nI (24 + i) := nI_add 24 i
    have e6 : (6 : Int32) + nI i = nI (6 + i) := nI_add 6 i
    have j1 : inb (nI (18 + i)) 194 := inb_nI (by omega) (by omega)
    have j2 : inb (nI (24 + i)) 194 := inb_nI (by omega) (by omega)
    have j3 : inb (nI (6 + i)) 194 := inb_nI (by omega) (by omega)
    show ld_X9_digest_104 FU c w (n + 1 + m + 1) _ _ = _
    rw [ld_X9_digest_104]
    unfold md_X9_many
    rw [bd1_s, h0, if_neg l, e18, e24, e6, if_pos j1, if_pos j2, lt1_r, if_pos j3, lt1_r, ix_nI (by omega), ix_nI (by omega), ix_nI (by omega), h5, bit9 S (by omega) i (by omega), nI_1]
    exact dp9 hP hS h0 h5 hE hN hM h1 h2 h3 m (i + 1) _ (by omega)
theorem call_digest {c0 c1 c2 c5 c9 : Nat → Nat → Int32} {w0 w1 w9 : Nat → Nat → Int64} (h : RB c1 w1 c2 (c9 0)) (ht : TR c5 c9) (z1 : w0 6 0 = w9 4 0) (z2 : w0 7 0 = w9 5 0) : ∃ r, md_X8_digest FU c0 w0 c1 w1 c2 c5 = some (r, c0) ∧ md_X9_digest FU c9 w9 = some r := by
  obtain ⟨P', S', hP', hS', h0', h5', hc⟩ := count5 (c0 := c0) (w0 := w0) h ht
  obtain ⟨P, K, E, N, M, r1, r2, r3, r4, r5⟩ := RB_to h
  obtain ⟨S, hS, h0, h11⟩ := r1.2.2.1.1
  have hF : FU = 2000000 := rfl
  have hP := r1.1
  -- counsel and points, and what was noted
  have tail5 : ∀ x, ld_X8_digest_33 FU w0 c1 w1 c2 c5 (1999994 + 1) c0 x (nI 5) = some ((31 : Int64) * ((31 : Int64) * hsm (c9 0) 66 (M * 4) (hsm (c9 0) 36 (N * 5) (hsm (c9 0) 32 E (hpt (c9 0) S 0 P (hcn (c9 0) x)))) + w0 6 0) + w0 7 0, c0) := by
    intro x
    have l : (4 : Int32) < nI 5 := by decide
    rw [ld_X8_digest_33, if_pos l, dgC hS r1 h0, bd1_s, dgB r3 r4 r5, bd1_s, lt1_r]
  have tail9 : ∀ x, ld_X9_digest_33 FU c9 w9 (1999994 + 1) x (nI 5) = some ((31 : Int64) * ((31 : Int64) * hsm (c9 0) 66 (M * 4) (hsm (c9 0) 36 (N * 5) (hsm (c9 0) 32 E (hpt (c9 0) S 0 P (hcn (c9 0) x)))) + w9 4 0) + w9 5 0) := by
    intro x
    obtain ⟨n, hn⟩ : ∃ n, FU = n + 1 + 1 + 1 := ⟨1999997, by decide⟩
    have l : (5 : Int32) ≤ nI 5 := by decide
    have i0 : inb ((30 : Int32) + 0) 194 := by decide
    have i1 : inb ((30 : Int32) + 1) 194 := by decide
    have j0 : inb ((12 : Int32) + 0) 194 := by decide
    have j1 : inb ((12 : Int32) + 1) 194 := by decide
    have x0 : ix ((30 : Int32) + 0) = 30 := by decide
    have x1 : ix ((30 : Int32) + 1) = 31 := by decide
    have y0 : ix ((12 : Int32) + 0) = 12 := by decide
    have y1 : ix ((12 : Int32) + 1) = 13 := by decide
    have l0 : ¬ (2 : Int32) ≤ 0 := by decide
    have l1 : ¬ (2 : Int32) ≤ 1 := by decide
    have l2 : (2 : Int32) ≤ 2 := by decide
    have a0 : (0 : Int32) + 1 = 1 := by decide
    have a1 : (1 : Int32) + 1 = 2 := by decide
    have e : ld_X9_digest_59 FU c9 w9 (n + 1 + 1 + 1) x 0 = ld_X9_digest_104 FU c9 w9 FU (hcn (c9 0) x) 0 := by
      rw [ld_X9_digest_59, if_neg l0, if_pos i0, if_pos j0, lt1_r, x0, y0, a0, ld_X9_digest_59, if_neg l1, if_pos i1, if_pos j1, lt1_r, x1, y1, a1, ld_X9_digest_59, if_pos l2]
      rfl
    rw [← hn] at e
    have d := dp9 (n := 1999999 - P) (w := w9) (c := c9) hP hS r1.2.1 h0 r3.1 r4.1 r5.1 r3.2.1 r4.2.1 r5.2.1 P 0 (hcn (c9 0) x) (by omega)
    rw [show 1999999 - P + 1 + P = FU from by omega] at d
    rw [ld_X9_digest_33, if_pos l, e]
    exact d
  have now_both : ∀ m i x, i + m = 5 → ∃ r, ld_X8_digest_33 FU w0 c1 w1 c2 c5 (1999994 + 1 + m) c0 x (nI i) = some (r, c0) ∧ ld_X9_digest_33 FU c9 w9 (1999994 + 1 + m) x (nI i) = some r := by
    intro m
    induction m with
    | zero =>
      intro i x hi
      have : i = 5 := by omega
      subst this
      refine ⟨_, tail5 x, ?_⟩
      rw [z1, z2]
      exact tail9 x
    | succ m ih =>
      intro i x hi
      have l : ¬ (4 : Int32) < nI i := nI_nlt (b := i) (a := 4) (by omega) (by omega)
      have l9 : ¬ (5 : Int32) ≤ nI i := nI_ge (b := 5) (by omega) (by omega)
      obtain ⟨v, v1, v2⟩ := now_ok (c0 := c0) (w0 := w0) (w9 := w9) i (by omega) h
      obtain ⟨r, e1, e2⟩ := ih (i + 1) ((31 : Int64) * x + v.toInt64) (by omega)
      refine ⟨r, ?_, ?_⟩
      · show ld_X8_digest_33 FU w0 c1 w1 c2 c5 (1999994 + 1 + m + 1) _ _ _ = _
        rw [ld_X8_digest_33, if_neg l, v1, bd2_s, lt1_r, nI_1]
        exact e1
      · show ld_X9_digest_33 FU c9 w9 (1999994 + 1 + m + 1) _ _ = _
        rw [ld_X9_digest_33, if_neg l9, v2, bd1_s, lt1_r, nI_1]
        exact e2
  have count_both : ∀ m i x, i + m = 8 → ∃ r, ld_X8_digest_6 FU w0 c1 w1 c2 c5 (1999991 + 1 + m) c0 x (nI i) = some (r, c0) ∧ ld_X9_digest_6 FU c9 w9 (1999991 + 1 + m) x (nI i) = some r := by
    intro m
    induction m with
    | zero =>
      intro i x hi
      have : i = 8 := by omega
      subst this
      have l : (7 : Int32) < nI 8 := by decide
      have l9 : (8 : Int32) ≤ nI 8 := by decide
      obtain ⟨r, e1, e2⟩ := now_both 5 0 x (by omega)
      rw [show 1999994 + 1 + 5 = FU from by omega] at e1 e2
      refine ⟨r, ?_, ?_⟩
      · rw [Nat.add_zero, ld_X8_digest_6, if_pos l]
        exact e1
      · rw [Nat.add_zero, ld_X9_digest_6, if_pos l9]
        exact e2
    | succ m ih =>
      intro i x hi
      have l : ¬ (7 : Int32) < nI i := nI_nlt (b := i) (a := 7) (by omega) (by omega)
      have l9 : ¬ (8 : Int32) ≤ nI i := nI_ge (b := 8) (by omega) (by omega)
      obtain ⟨r, e1, e2⟩ := ih (i + 1) ((31 : Int64) * x + (cnv (c9 0) (c9 21 0) P' S' i).toInt64) (by omega)
      refine ⟨r, ?_, ?_⟩
      · show ld_X8_digest_6 FU w0 c1 w1 c2 c5 (1999991 + 1 + m + 1) _ _ _ = _
        rw [ld_X8_digest_6, if_neg l, hc i (by omega), bd2_s, lt1_r, nI_1]
        exact e1
      · show ld_X9_digest_6 FU c9 w9 (1999991 + 1 + m + 1) _ _ = _
        rw [ld_X9_digest_6, if_neg l9, counted_ok hP' hS' h0' h5' (by omega), bd1_s, lt1_r, nI_1]
        exact e2
  obtain ⟨r, e1, e2⟩ := count_both 8 0 1597 (by omega)
  rw [show 1999991 + 1 + 8 = FU from by omega] at e1 e2
  exact ⟨r, e1, e2⟩
