-- the call: bowed
theorem subc : ∀ P, P ≤ 6 → ∀ S, S < 2 ^ P → ∀ s, s < 2 ^ P → (((nI s &&& (nI (2 ^ P - 1 - S) ^^^ (-1 : Int32))) = 0) ↔ s &&& S = 0) := by decide +kernel
theorem subr : ∀ S, S < 64 → ∀ s, s < 64 → (((nI s &&& nI S) = 0) ↔ s &&& S = 0) := by decide +kernel
theorem sub_gt : ∀ P, P ≤ 6 → ∀ S, S < 2 ^ P → ∀ s, s < 2 ^ P → 2 ^ P - 1 - S < s → ¬ (s &&& S = 0) := by decide +kernel
theorem shl1 : ∀ P, P ≤ 6 → (1 : Int32) <<< (nI P &&& 31) = nI (2 ^ P) := by decide +kernel
theorem sub_tb {s S i : Nat} (h : s &&& S = 0) (hi : s.testBit i = true) : S.testBit i = false := by
  have := congrArg (fun x => x.testBit i) h
  simp only [Nat.testBit_and, hi, Bool.true_and, Nat.zero_testBit] at this
  exact this
theorem tb_lt : ∀ P, P ≤ 6 → ∀ s, s < 2 ^ P → ∀ i, i < 6 → s.testBit i = true → i < P := by decide +kernel
theorem has8t {s i : Nat} (hs : s < 64) (hi : i < 6) (h : s.testBit i = true) : md_X8_has (nI s) (nI i) = some 1 := by rw [has8 s hs i hi, h]; rfl
theorem has8f {s i : Nat} (hs : s < 64) (hi : i < 6) (h : ¬ s.testBit i = true) : md_X8_has (nI s) (nI i) = some 0 := by rw [has8 s hs i hi, if_neg h]
theorem has9t {s i : Nat} (hs : s < 64) (hi : i < 6) (h : s.testBit i = true) : md_X9_has (nI s) (nI i) = some 1 := by rw [has9 s hs i hi, h]; rfl
theorem has9f {s i : Nat} (hs : s < 64) (hi : i < 6) (h : ¬ s.testBit i = true) : md_X9_has (nI s) (nI i) = some 0 := by rw [has9 s hs i hi, if_neg h]
/-- all said by numbers, a set objected to: whether that may be, what it comes to -/
def BW (f : Nat → Nat → Int32) (P S0 s : Nat) : Nat → Nat → (Nat → Int32) → Int32 → (Nat → Int32) → Prop
  | _, 0, d, b, d' => b = 1 ∧ d' = d
  | i, m + 1, d, b, d' => (opn P S0 i → (s.testBit i = true → (spY (spSay f d (nI i)) = 0 → b = 0 ∧ d' = spSay f d (nI i)) ∧ (spY (spSay f d (nI i)) = 1 → BW f P S0 s (i + 1) m (spBow (spSay f d (nI i))) b d')) ∧ (¬ s.testBit i = true → BW f P S0 s (i + 1) m (spSay f d (nI i)) b d')) ∧ (¬ opn P S0 i → BW f P S0 s (i + 1) m d b d')
theorem BW_ex {f : Nat → Nat → Int32} {P S0 s : Nat} : ∀ m i d, ∃ b d', BW f P S0 s i m d b d' ∧ (b = 0 ∨ b = 1)
  | 0, i, d => ⟨1, d, ⟨rfl, rfl⟩, Or.inr rfl⟩
  | m + 1, i, d => by
    rcases opn_d P S0 i with ho | ho
    · by_cases hs : s.testBit i = true
      · rcases spY01 (spSay f d (nI i)) with hy | hy
        · exact ⟨0, _, ⟨fun _ => ⟨fun _ => ⟨fun _ => ⟨rfl, rfl⟩, fun z => absurd (hy.symm.trans z) (by decide)⟩, fun z => absurd hs z⟩, fun z => absurd ho z⟩, Or.inl rfl⟩
        · obtain ⟨b, d', h, hb⟩ := BW_ex (f := f) (P := P) (S0 := S0) (s := s) m (i + 1) (spBow (spSay f d (nI i)))
          exact ⟨b, d', ⟨fun _ => ⟨fun _ => ⟨fun z => absurd (hy.symm.trans z) (by decide), fun _ => h⟩, fun z => absurd hs z⟩, fun z => absurd ho z⟩, hb⟩
      · obtain ⟨b, d', h, hb⟩ := BW_ex (f := f) (P := P) (S0 := S0) (s := s) m (i + 1) (spSay f d (nI i))
        exact ⟨b, d', ⟨fun _ => ⟨fun z => absurd z hs, fun _ => h⟩, fun z => absurd ho z⟩, hb⟩
    · obtain ⟨b, d', h, hb⟩ := BW_ex (f := f) (P := P) (S0 := S0) (s := s) m (i + 1) d
      exact ⟨b, d', ⟨fun z => absurd z ho, fun _ => h⟩, hb⟩
theorem BW_end {f : Nat → Nat → Int32} {P S0 s : Nat} : ∀ m i d b d', P ≤ i → BW f P S0 s i m d b d' → b = 1 ∧ d' = d
  | 0, i, d, b, d', h, hy => hy
  | m + 1, i, d, b, d', h, hy => BW_end m (i + 1) d b d' (by omega) (hy.2 (fun z => by have := z.1; omega))
theorem bw5 {f : Nat → Nat → Int32} {P S0 s n : Nat} {a : Nat → Int32} (hP : P ≤ 6) (hS : S0 < 2 ^ P) (hs : s < 64) : ∀ m i d b d' cc, i + m = 6 → LI P S0 a i d → CT P cc f d → BW f P S0 s i m d b d' → ∃ cc', ld_X4_bowsTo_7 FU (n + 1 + m) cc (nI s) (nI (2 ^ P - 1 - S0)) (nI i) = some (b, cc') ∧ CT P cc' f d'
  | 0, i, d, b, d', cc, h, hl, hc, hy => by
    have : i = 6 := by omega
    subst this
    obtain ⟨rfl, rfl⟩ := hy
    have l : (6 : Int32) ≤ nI 6 := by decide
    exact ⟨cc, by rw [Nat.add_zero, ld_X4_bowsTo_7, if_pos l], hc⟩
  | m + 1, i, d, b, d', cc, h, hl, hc, hy => by
    have l : ¬ (6 : Int32) ≤ nI i := nI_ge (b := 6) (by omega) (by omega)
    have hu := has_un (P := P) (S := S0) (i := i) hP hS (by omega)
    rcases opn_d P S0 i with ho | ho
    · obtain ⟨c1, e1, h1⟩ := CT_say hP hl.1 hc ho.1
      have hl1 := LI_say (f := f) hP hl ho.1 ho.2
      by_cases ht : s.testBit i = true
      · have hd := (hy.1 ho).1 ht
        rcases spY01 (spSay f d (nI i)) with hy0 | hy1
        · obtain ⟨rfl, rfl⟩ := hd.1 hy0
          refine ⟨c1, ?_, h1⟩
          show ld_X4_bowsTo_7 FU (n + 1 + m + 1) _ _ _ _ = _
          rw [ld_X4_bowsTo_7, if_neg l, hu.1 ho, bd1_s, if10, e1, bd1_s, has8t hs (by omega) ht, bd1_s, if10, may5 hP hl1.1 h1.1, bd1_s, hy0, if00]
        · obtain ⟨c2, e2, h2, h3⟩ := bow5 hP hl1.1 h1.1 h1.2 hy1
          obtain ⟨cc', e3, h4⟩ := bw5 (n := n) hP hS hs m (i + 1) _ b d' c2 (by omega) (LI_bow hP hl1 spSay_12 ho.1 hy1) ⟨h2, h3⟩ (hd.2 hy1)
          refine ⟨cc', ?_, h4⟩
          show ld_X4_bowsTo_7 FU (n + 1 + m + 1) _ _ _ _ = _
          rw [ld_X4_bowsTo_7, if_neg l, hu.1 ho, bd1_s, if10, e1, bd1_s, has8t hs (by omega) ht, bd1_s, if10, may5 hP hl1.1 h1.1, bd1_s, hy1, if10, e2, bd1_s, nI_1]
          exact e3
      · obtain ⟨cc', e3, h4⟩ := bw5 (n := n) hP hS hs m (i + 1) _ b d' c1 (by omega) hl1 h1 ((hy.1 ho).2 ht)
        refine ⟨cc', ?_, h4⟩
        show ld_X4_bowsTo_7 FU (n + 1 + m + 1) _ _ _ _ = _
        rw [ld_X4_bowsTo_7, if_neg l, hu.1 ho, bd1_s, if10, e1, bd1_s, has8f hs (by omega) ht, bd1_s, if00, nI_1]
        exact e3
    · obtain ⟨cc', e3, h4⟩ := bw5 (n := n) hP hS hs m (i + 1) d b d' cc (by omega) (LI_up hl) hc (hy.2 ho)
      refine ⟨cc', ?_, h4⟩
      show ld_X4_bowsTo_7 FU (n + 1 + m + 1) _ _ _ _ = _
      rw [ld_X4_bowsTo_7, if_neg l, hu.2 ho, bd1_s, if00, nI_1]
      exact e3
theorem or01 : (1 : Int32) = 0 ∨ (1 : Int32) = 1 := Or.inr rfl
theorem or00 : (0 : Int32) = 0 ∨ (0 : Int32) = 1 := Or.inl rfl
theorem bw9 {f : Nat → Nat → Int32} {P S0 s n : Nat} {a : Nat → Int32} {w : Nat → Nat → Int64} (hP : P ≤ 6) (hS : S0 < 2 ^ P) (hs : s < 64) (hx : FXd P f) : ∀ m i d b d' c, i + m = 6 → i ≤ P → LI P S0 a i d → QQ c d → RQ P S0 f a c → BW f P S0 s i m d b d' → ∃ c', ld_X9_goesAll_8 FU w (n + 1 + m) c (nI s) 1 (nI i) = some (b, c') ∧ QQ c' d' ∧ KQ c c'
  | m, i, d, b, d', c, h, hiP, hl, hq, hr, hy => by
    rcases Nat.lt_or_ge i P with hi | hi
    · obtain ⟨m, rfl⟩ : ∃ m', m = m' + 1 := ⟨m - 1, by omega⟩
      have l : ¬ nI P ≤ nI i := nI_ge hi (by omega)
      have hu := has_on (P := P) (S := S0) (i := i) hP hS hi
      rcases opn_d P S0 i with ho | ho
      · obtain ⟨c1, e1, q1, k1⟩ := QQ_say (w := w) hP hl.1 hx hr.2.2.1 hq ho.1
        have hl1 := LI_say (f := f) hP hl ho.1 ho.2
        have hr1 := RQ_K hr k1
        by_cases ht : s.testBit i = true
        · have hg : c1 0 (6 + i) = spSay f d (nI i) (1 + i) := by
            rw [hr1.2.2.2 i (by omega), spSay_n (by omega) (by omega) (by omega) (by omega), hl.2.2 i (by omega) hi]
          have em := QQ_may (w := w) hP hl1.1 q1 hi spSay_12 hg
          have hd := (hy.1 ho).1 ht
          rcases spY01 (spSay f d (nI i)) with hy0 | hy1
          · obtain ⟨rfl, rfl⟩ := hd.1 hy0
            refine ⟨c1, ?_, q1, k1⟩
            show ld_X9_goesAll_8 FU w (n + 1 + m + 1) _ _ _ _ = _
            unfold ld_X9_goesAll_8 md_X9_many jd_X9_goesAll_59
            rw [bd1_s, hr.1, if_neg l, if10, hr.2.1, hu.1 ho, bd1_s, if00, e1, bd1_s, has9t hs (by omega) ht, bd1_s, if10, em, bd1_s, hy0, if00, if00, nI_1, show n + 1 + m = n + m + 1 from by omega]
            unfold ld_X9_goesAll_8 md_X9_many
            rw [bd1_s, hr1.1, if_pos or00, if00]
            split <;> rfl
          · obtain ⟨c2, e2, q2, k2⟩ := QQ_bow (w := w) hP hl1.1 q1 hi spSay_12
            obtain ⟨c', e3, q3, k3⟩ := bw9 (n := n) (w := w) hP hS hs hx m (i + 1) _ b d' c2 (by omega) (by omega) (LI_bow hP hl1 spSay_12 hi hy1) q2 (RQ_K hr1 k2) (hd.2 hy1)
            refine ⟨c', ?_, q3, KQ_t k1 (KQ_t k2 k3)⟩
            show ld_X9_goesAll_8 FU w (n + 1 + m + 1) _ _ _ _ = _
            unfold ld_X9_goesAll_8 md_X9_many jd_X9_goesAll_59
            rw [bd1_s, hr.1, if_neg l, if10, hr.2.1, hu.1 ho, bd1_s, if00, e1, bd1_s, has9t hs (by omega) ht, bd1_s, if10, em, bd1_s, hy1, if10, if10, bd1_s, if10, e2, bd1_s, nI_1]
            exact e3
        · obtain ⟨c', e3, q3, k3⟩ := bw9 (n := n) (w := w) hP hS hs hx m (i + 1) _ b d' c1 (by omega) (by omega) hl1 q1 hr1 ((hy.1 ho).2 ht)
          refine ⟨c', ?_, q3, KQ_t k1 k3⟩
          show ld_X9_goesAll_8 FU w (n + 1 + m + 1) _ _ _ _ = _
          unfold ld_X9_goesAll_8 md_X9_many jd_X9_goesAll_59
          rw [bd1_s, hr.1, if_neg l, if10, hr.2.1, hu.1 ho, bd1_s, if00, e1, bd1_s, has9f hs (by omega) ht, bd1_s, if00, if10, bd1_s, if00, nI_1]
          exact e3
      · obtain ⟨c', e3, q3, k3⟩ := bw9 (n := n) (w := w) hP hS hs hx m (i + 1) d b d' c (by omega) (by omega) (LI_up hl) hq hr (hy.2 ho)
        refine ⟨c', ?_, q3, k3⟩
        show ld_X9_goesAll_8 FU w (n + 1 + m + 1) _ _ _ _ = _
        unfold ld_X9_goesAll_8 md_X9_many
        rw [bd1_s, hr.1, if_neg l, if10, hr.2.1, hu.2 ho, bd1_s, if10, nI_1]
        exact e3
    · obtain ⟨rfl, rfl⟩ := BW_end m i d b d' hi hy
      have : i = P := by omega
      subst this
      have l : nI i ≤ nI i := Int32.le_refl _
      refine ⟨c, ?_, hq, KQ_r c⟩
      rw [show n + 1 + m = n + m + 1 from by omega]
      unfold ld_X9_goesAll_8 md_X9_many
      rw [bd1_s, hr.1, if_pos l, if_pos or01]
  termination_by m => m
-- are all ends so
def eaN (a : Nat → Int32) (x : Int32) : Nat → Nat → Bool
  | _, 0 => true
  | j, m + 1 => if x = a (32 + j) then eaN a x (j + 1) m else false
theorem ea5 {F E n : Nat} {c : Nat → Nat → Int32} {w : Nat → Nat → Int64} {a : Nat → Int32} (x : Int32) (r : R3 E c a) : ∀ m j, j + m = E → ld_X1_allEndsAre_2 F c w (n + 1 + m) x (nI j) = some (if eaN a x j m = true then 1 else 0)
  | 0, j, h => by
    have : j = E := by omega
    subst this
    have l : nI j ≤ nI j := Int32.le_refl _
    rw [Nat.add_zero, ld_X1_allEndsAre_2, r.2.2.1, if_pos l]
    rfl
  | m + 1, j, h => by
    have hE := r.1
    have g1 : ¬ nI E ≤ nI j := nI_ge (by omega) (by omega)
    have g2 : ¬ (4 : Int32) ≤ nI j := nI_ge (b := 4) (by omega) (by omega)
    have i4 : inb (nI j) 4 := inb_nI (by omega) (by omega)
    have ih := ea5 (F := F) (n := n) (w := w) x r m (j + 1) (by omega)
    show ld_X1_allEndsAre_2 F c w (n + 1 + m + 1) _ _ = _
    rw [ld_X1_allEndsAre_2, r.2.2.1, if_neg g1, if_neg g2, if_pos i4, ix_nI (by omega), r.2.2.2 j (by omega), eaN]
    by_cases hx : x = a (32 + j)
    · rw [if_pos hx, if_pos hx.symm, nI_1]
      exact ih
    · rw [if_neg hx, if_neg (fun z => hx z.symm)]
      rfl
theorem ea9z {F n : Nat} {c : Nat → Nat → Int32} {w : Nat → Nat → Int64} {k32 : (Nat → Nat → Int32) → Int32 → Int32 → Int32 → Int32 → Int32 → Option (Int32 × (Nat → Nat → Int32))} (x1 x2 x3 x4 x5 x7 : Int32) : ld_X9_bowed_74 F w k32 (n + 1) c x1 x2 x3 x4 x5 0 x7 = k32 c x1 x2 x3 x4 (x5 + 1) := by
  have e : jd_X9_bowed_120 F w k32 c x1 x2 x3 x4 x5 0 = k32 c x1 x2 x3 x4 (x5 + 1) := by
    unfold jd_X9_bowed_120
    rw [lt1_r, lt1_r, lt1_r, if00, if00, if00, Int32.add_zero, Int32.and_self, Int32.or_zero]
  rw [ld_X9_bowed_74, e, if00]
  split <;> rfl
theorem ea9 {F E n : Nat} {c : Nat → Nat → Int32} {w : Nat → Nat → Int64} {a : Nat → Int32} {k32 : (Nat → Nat → Int32) → Int32 → Int32 → Int32 → Int32 → Int32 → Option (Int32 × (Nat → Nat → Int32))} (x1 x2 x3 x4 x5 : Int32) (hc : c 0 = a) (hE : E ≤ 4) (a1 : a 1 = nI E) : ∀ m j, j + m = E → ld_X9_bowed_74 F w k32 (n + 1 + 1 + m) c x1 x2 x3 x4 x5 1 (nI j) = (if eaN a (c 16 0) j m = true then k32 c x1 (x2 + 1) (x3 &&& x5) (x4 ||| x5) (x5 + 1) else k32 c x1 x2 x3 x4 (x5 + 1))
  | 0, j, h => by
    have : j = E := by omega
    subst this
    have l : nI j ≤ nI j := Int32.le_refl _
    rw [Nat.add_zero, ld_X9_bowed_74, hc, a1, if_pos l]
    unfold jd_X9_bowed_120
    rw [lt1_r, lt1_r, lt1_r, if10, if10, if10]
    rfl
  | m + 1, j, h => by
    have g1 : ¬ nI E ≤ nI j := nI_ge (by omega) (by omega)
    have e32 : (32 : Int32) + nI j = nI (32 + j) := nI_add 32 j
    have i4 : inb (nI (32 + j)) 194 := inb_nI (by omega) (by omega)
    have ih := ea9 (F := F) (n := n) (w := w) (k32 := k32) x1 x2 x3 x4 x5 hc hE a1 m (j + 1) (by omega)
    show ld_X9_bowed_74 F w k32 (n + 1 + 1 + m + 1) _ _ _ _ _ _ _ _ = _
    rw [ld_X9_bowed_74, hc, a1, if_neg g1, if10, e32, if_pos i4, ix_nI (by omega), lt1_r, eaN]
    by_cases hx : c 16 0 = a (32 + j)
    · rw [if_pos hx, if_pos hx, nI_1]
      exact ih
    · rw [if_neg hx, if_neg hx, show n + 1 + 1 + m = n + 1 + m + 1 from by omega, ea9z]
      rfl
-- all sets
theorem pow_pos2 (P : Nat) : 0 < 2 ^ P := Nat.pow_pos (by omega)
theorem bowed_both {P S0 E n1 n2 : Nat} {c2 c9 c0 c1 : Nat → Nat → Int32} {w0 w1 w9 : Nat → Nat → Int64} (x1 : Int32) (hS : S0 < 2 ^ P) (r : R1 P c2 (c9 0)) (r3 : R3 E c1 (c9 0)) (h5 : c9 0 5 = nI S0) : ∀ m s c3 e9 k1 k2 k3, s + m = 2 ^ P - S0 → KQ c9 e9 → ∃ y c3' e9', ld_X8_bowed_41 FU w0 c1 w1 c2 (n1 + 1 + m) c0 c3 x1 (nI (2 ^ P - 1 - S0)) k1 k2 k3 (nI s) = some (y, c0, c3') ∧ ld_X9_bowed_32 FU w9 (n2 + 1 + S0 + m) e9 x1 k1 k2 k3 (nI s) = some (y, e9') ∧ KQ c9 e9'
  | 0, s, c3, e9, k1, k2, k3, h, hk => by
    have hP := r.1
    have h64 := pow_le6 hP
    have hpp := pow_pos2 P
    have l : nI (2 ^ P - 1 - S0) < nI s := nI_lt (by omega) (by omega)
    have hend : ∀ t u, u + t = 2 ^ P → 2 ^ P - 1 - S0 < u → ld_X9_bowed_32 FU w9 (n2 + 1 + t) e9 x1 k1 k2 k3 (nI u) = some (if x1 = 0 then k1 else (if x1 = (2 : Int32) then k3 else (if k1 = 0 then (-1 : Int32) else k2)), e9) := by
      intro t
      induction t with
      | zero =>
        intro u hu1 hu2
        have : u = 2 ^ P := by omega
        subst this
        have l2 : nI (2 ^ P) ≤ nI (2 ^ P) := Int32.le_refl _
        rw [Nat.add_zero]
        unfold ld_X9_bowed_32 md_X9_many
        rw [bd1_s, KQ_0 hk, r.2.1, shl1 P hP, if_pos l2, lt1_r]
      | succ t ih =>
        intro u hu1 hu2
        have l2 : ¬ nI (2 ^ P) ≤ nI u := nI_ge (by omega) (by omega)
        obtain ⟨q, hq⟩ : ∃ q, FU = q + 1 := ⟨1999999, by decide⟩
        show ld_X9_bowed_32 FU w9 (n2 + 1 + t + 1) _ _ _ _ _ _ = _
        unfold ld_X9_bowed_32 md_X9_many
        rw [bd1_s, KQ_0 hk, r.2.1, shl1 P hP, if_neg l2, h5, if_neg (fun z => sub_gt P hP S0 hS u (by omega) hu2 ((subr S0 (by omega) u (by omega)).mp z))]
        have := ea9z (F := FU) (n := q) (c := e9) (w := w9) (k32 := ld_X9_bowed_32 FU w9 (n2 + 1 + t)) x1 k1 k2 k3 (nI u) 0
        rw [← hq, nI_1] at this
        rw [this]
        exact ih (u + 1) (by omega) (by omega)
    refine ⟨_, c3, e9, ?_, hend S0 s (by omega) (by omega), hk⟩
    rw [Nat.add_zero, ld_X8_bowed_41, if_pos l]
    by_cases hx : x1 = 0
    · rw [if_pos hx, if_pos hx]
    · rw [if_neg hx, if_neg hx, lt1_r]
  | m + 1, s, c3, e9, k1, k2, k3, h, hk => by
    have hP := r.1
    have h64 := pow_le6 hP
    have hpp := pow_pos2 P
    have l : ¬ nI (2 ^ P - 1 - S0) < nI s := nI_nlt (by omega) (by omega)
    have l2 : ¬ nI (2 ^ P) ≤ nI s := nI_ge (by omega) (by omega)
    obtain ⟨q0, hq0⟩ : ∃ q, FU = q + 1 := ⟨1999999, by decide⟩
    obtain ⟨q, hq⟩ : ∃ q, FU = q + 1 + 6 := ⟨1999993, by decide⟩
    obtain ⟨qe, hqe⟩ : ∃ q, FU = q + 1 + E := ⟨1999999 - E, by have := r3.1; have : FU = 2000000 := rfl; omega⟩
    obtain ⟨qf, hqf⟩ : ∃ q, FU = q + 1 + 1 + E := ⟨1999998 - E, by have := r3.1; have : FU = 2000000 := rfl; omega⟩
    by_cases hsub : s &&& S0 = 0
    · obtain ⟨cc, e1, ce⟩ := copy5 c2 c3
      have r1 := CE_R1 ce r
      have ct : CT P cc (fxd (c9 0)) (dyn (c9 0)) := ⟨r1.2.2.2.2.1, r1.2.2.2.2.2⟩
      obtain ⟨b, d', hy, hb01⟩ := BW_ex (f := fxd (c9 0)) (P := P) (S0 := S0) (s := s) 6 0 (dyn (c9 0))
      have li := LI_0 r.2.2.1 hS (show dyn (c9 0) 0 = nI S0 from h5)
      obtain ⟨c4, e2, ct4⟩ := bw5 (n := q) hP hS (by omega : s < 64) 6 0 _ b d' cc (by omega) li ct hy
      obtain ⟨e, g1, qe1, ke⟩ := lay9n e9 w9
      rw [KQ_0 hk] at qe1
      have rq : RQ P S0 (fxd (c9 0)) (dyn (c9 0)) e := RQ_K (RQ_0 (c := c9) r.2.1 h5) (KQ_t hk ke)
      obtain ⟨e', g2, qe', ke'⟩ := bw9 (n := q) (w := w9) hP hS (by omega : s < 64) r.2.2.2.1 6 0 _ b d' e (by omega) (by omega) li qe1 rq hy
      rw [← hq] at e2 g2
      have hk' : KQ c9 e' := KQ_t hk (KQ_t ke ke')
      have h6 : cc 6 0 = nI S0 := r1.2.2.2.2.1.2.1.trans h5
      have hc7 : c4 7 0 = d' 10 := ct4.1.2.2.2.2.2.2.1
      have A : ∀ rest, ld_X8_bowed_41 FU w0 c1 w1 c2 (n1 + 1 + m + 1) c0 c3 x1 (nI (2 ^ P - 1 - S0)) k1 k2 k3 (nI s) = rest ↔ (if b = 0 then ld_X8_bowed_41 FU w0 c1 w1 c2 (n1 + 1 + m) c0 c4 x1 (nI (2 ^ P - 1 - S0)) k1 k2 k3 (nI (s + 1)) else bd1 (md_X1_allEndsAre FU c1 w1 (c4 7 0)) (fun r25 => (if r25 = 0 then ld_X8_bowed_41 FU w0 c1 w1 c2 (n1 + 1 + m) c0 c4 x1 (nI (2 ^ P - 1 - S0)) k1 k2 k3 (nI (s + 1)) else ld_X8_bowed_41 FU w0 c1 w1 c2 (n1 + 1 + m) c0 c4 x1 (nI (2 ^ P - 1 - S0)) (k1 + 1) (k2 &&& nI s) (k3 ||| nI s) (nI (s + 1))))) = rest := by
        intro rest
        rw [ld_X8_bowed_41]
        unfold md_X4_bowsTo
        rw [if_neg l, if_pos ((subc P hP S0 hS s (by omega)).mpr hsub), e1, bd1_s, un5 hP hS r1.2.2.2.2.1.1 h6, bd1_s, show ld_X4_bowsTo_7 FU FU cc (nI s) (nI (2 ^ P - 1 - S0)) 0 = some (b, c4) from e2, bd2_s, nI_1]
      have B : ∀ rest, ld_X9_bowed_32 FU w9 (n2 + 1 + S0 + m + 1) e9 x1 k1 k2 k3 (nI s) = rest ↔ (if b = 0 then ld_X9_bowed_74 FU w9 (ld_X9_bowed_32 FU w9 (n2 + 1 + S0 + m)) FU e' x1 k1 k2 k3 (nI s) 0 0 else ld_X9_bowed_74 FU w9 (ld_X9_bowed_32 FU w9 (n2 + 1 + S0 + m)) FU e' x1 k1 k2 k3 (nI s) 1 0) = rest := by
        intro rest
        unfold ld_X9_bowed_32 md_X9_many md_X9_goesAll
        rw [bd1_s, KQ_0 hk, r.2.1, shl1 P hP, if_neg l2, h5, if_pos ((subr S0 (by omega) s (by omega)).mpr hsub), g1, bd1_s, show ld_X9_goesAll_8 FU w9 FU e (nI s) 1 0 = some (b, e') from g2, bd2_s]
      rcases hb01 with hb | hb
      · obtain ⟨y, c3', e9', f1, f2, kf⟩ := bowed_both (n1 := n1) (n2 := n2) (c0 := c0) (w0 := w0) (w1 := w1) (w9 := w9) x1 hS r r3 h5 m (s + 1) c4 e' k1 k2 k3 (by omega) hk'
        refine ⟨y, c3', e9', ?_, ?_, kf⟩
        · show ld_X8_bowed_41 FU w0 c1 w1 c2 (n1 + 1 + m + 1) _ _ _ _ _ _ _ _ = _
          rw [A, if_pos hb]
          exact f1
        · show ld_X9_bowed_32 FU w9 (n2 + 1 + S0 + m + 1) _ _ _ _ _ _ = _
          have := ea9z (F := FU) (n := q0) (c := e') (w := w9) (k32 := ld_X9_bowed_32 FU w9 (n2 + 1 + S0 + m)) x1 k1 k2 k3 (nI s) 0
          rw [← hq0, nI_1] at this
          rw [B, if_pos hb, this]
          exact f2
      · have hb0 : ¬ b = 0 := by rw [hb]; decide
        have ea5' := ea5 (F := FU) (n := qe) (w := w1) (c4 7 0) r3 E 0 (by omega)
        rw [← hqe] at ea5'
        have ea9' := ea9 (F := FU) (n := qf) (w := w9) (c := e') (k32 := ld_X9_bowed_32 FU w9 (n2 + 1 + S0 + m)) x1 k1 k2 k3 (nI s) (KQ_0 hk') r3.1 r3.2.1 E 0 (by omega)
        rw [← hqf, qe'.2.1, nI_1] at ea9'
        rw [hc7] at ea5'
        by_cases hea : eaN (c9 0) (d' 10) 0 E = true
        · rw [if_pos hea] at ea5' ea9'
          obtain ⟨y, c3', e9', f1, f2, kf⟩ := bowed_both (n1 := n1) (n2 := n2) (c0 := c0) (w0 := w0) (w1 := w1) (w9 := w9) x1 hS r r3 h5 m (s + 1) c4 e' (k1 + 1) (k2 &&& nI s) (k3 ||| nI s) (by omega) hk'
          refine ⟨y, c3', e9', ?_, ?_, kf⟩
          · show ld_X8_bowed_41 FU w0 c1 w1 c2 (n1 + 1 + m + 1) _ _ _ _ _ _ _ _ = _
            rw [A, if_neg hb0, hc7]
            unfold md_X1_allEndsAre
            rw [show ld_X1_allEndsAre_2 FU c1 w1 FU (d' 10) 0 = some 1 from ea5', bd1_s, if10]
            exact f1
          · show ld_X9_bowed_32 FU w9 (n2 + 1 + S0 + m + 1) _ _ _ _ _ _ = _
            rw [B, if_neg hb0]
            exact ea9'.trans f2
        · rw [if_neg hea] at ea5' ea9'
          obtain ⟨y, c3', e9', f1, f2, kf⟩ := bowed_both (n1 := n1) (n2 := n2) (c0 := c0) (w0 := w0) (w1 := w1) (w9 := w9) x1 hS r r3 h5 m (s + 1) c4 e' k1 k2 k3 (by omega) hk'
          refine ⟨y, c3', e9', ?_, ?_, kf⟩
          · show ld_X8_bowed_41 FU w0 c1 w1 c2 (n1 + 1 + m + 1) _ _ _ _ _ _ _ _ = _
            rw [A, if_neg hb0, hc7]
            unfold md_X1_allEndsAre
            rw [show ld_X1_allEndsAre_2 FU c1 w1 FU (d' 10) 0 = some 0 from ea5', bd1_s, if00]
            exact f1
          · show ld_X9_bowed_32 FU w9 (n2 + 1 + S0 + m + 1) _ _ _ _ _ _ = _
            rw [B, if_neg hb0]
            exact ea9'.trans f2
    · obtain ⟨y, c3', e9', f1, f2, kf⟩ := bowed_both (n1 := n1) (n2 := n2) (c0 := c0) (w0 := w0) (w1 := w1) (w9 := w9) x1 hS r r3 h5 m (s + 1) c3 e9 k1 k2 k3 (by omega) hk
      refine ⟨y, c3', e9', ?_, ?_, kf⟩
      · show ld_X8_bowed_41 FU w0 c1 w1 c2 (n1 + 1 + m + 1) _ _ _ _ _ _ _ _ = _
        rw [ld_X8_bowed_41, if_neg l, if_neg (fun z => hsub ((subc P hP S0 hS s (by omega)).mp z)), nI_1]
        exact f1
      · show ld_X9_bowed_32 FU w9 (n2 + 1 + S0 + m + 1) _ _ _ _ _ _ = _
        unfold ld_X9_bowed_32 md_X9_many
        have := ea9z (F := FU) (n := q0) (c := e9) (w := w9) (k32 := ld_X9_bowed_32 FU w9 (n2 + 1 + S0 + m)) x1 k1 k2 k3 (nI s) 0
        rw [← hq0, nI_1] at this
        rw [bd1_s, KQ_0 hk, r.2.1, shl1 P hP, if_neg l2, h5, if_neg (fun z => hsub ((subr S0 (by omega) s (by omega)).mp z)), this]
        exact f2
theorem call_bowed {c0 c1 c2 c3 c9 : Nat → Nat → Int32} {w0 w1 w9 : Nat → Nat → Int64} (p : Int32) (h : RB c1 w1 c2 (c9 0)) : ∃ r c0' c3' c9', md_X8_bowed FU c0 w0 c1 w1 c2 c3 p = some (r, c0', c3') ∧ md_X9_bowed FU c9 w9 p = some (r, c9') ∧ c9' 0 = c9 0 ∧ ST c0 c9 c0' c9' := by
  obtain ⟨P, K, E, N, M, r1, r2, r3, r4, r5⟩ := RB_to h
  unfold md_X8_bowed md_X9_bowed
  rw [wi8, in_02, bd1_s, bd1_s]
  rcases b01_c (0 ≤ p ∧ p ≤ 2) with ⟨hb, e⟩ | ⟨hb, e⟩
  · obtain ⟨S, hS, h0, h11⟩ := r1.2.2.1.1
    have h64 := pow_le6 r1.1
    have hF : FU = 2000000 := rfl
    have h6 : c2 6 0 = nI S := r1.2.2.2.2.1.2.1.trans h0
    obtain ⟨y, c3', e9', f1, f2, kf⟩ := bowed_both (n1 := 1999999 - (2 ^ P - S)) (n2 := 1999999 - 2 ^ P) (c0 := c0) (w0 := w0) (w1 := w1) (w9 := w9) p hS r1 r3 h0 (2 ^ P - S) 0 c3 c9 0 (nI (2 ^ P - 1 - S)) 0 (by omega) (KQ_r c9)
    rw [show 1999999 - (2 ^ P - S) + 1 + (2 ^ P - S) = FU from by omega] at f1
    rw [show 1999999 - 2 ^ P + 1 + S + (2 ^ P - S) = FU from by omega] at f2
    rw [e, if10, if10, un5 r1.1 hS r1.2.2.2.2.1.1 h6, bd1_s, op9 r1.1 hS r1.2.1 h0, bd1_s]
    exact ⟨y, c0, c3', e9', f1, f2, KQ_0 kf, Or.inl ⟨rfl, KQ_KE kf⟩⟩
  · rw [e, if00, if00]
    exact ⟨_, _, _, _, rfl, rfl, rs_n _ _ (by decide), Or.inr ⟨0, by omega, rfl, rfl⟩⟩
