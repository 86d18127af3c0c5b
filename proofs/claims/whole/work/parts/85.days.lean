-- the call: days
theorem opn_d (P S i : Nat) : opn P S i ∨ ¬ opn P S i := Classical.em _
def nx (x : Int64) : Int64 := ((x * (1103515245 : Int64)) + (12345 : Int64)) - ((x * (1103515245 : Int64)) + (12345 : Int64)) / (2147483648 : Int64) * (2147483648 : Int64)
theorem nx_d (x : Int64) : ((x * (1103515245 : Int64)) + (12345 : Int64)) - ((x * (1103515245 : Int64)) + (12345 : Int64)) / (2147483648 : Int64) * (2147483648 : Int64) = nx x := rfl
def oddL (x : Int64) : Prop := (lg_cmp ((x / (65536 : Int64)) - (x / (65536 : Int64)) / (2 : Int64) * (2 : Int64)) (1 : Int64)) = 0
theorem oddL_p {x : Int64} (h : oddL x) : (lg_cmp ((x / (65536 : Int64)) - (x / (65536 : Int64)) / (2 : Int64) * (2 : Int64)) (1 : Int64)) = 0 := h
theorem oddL_n {x : Int64} (h : ¬ oddL x) : ¬ (lg_cmp ((x / (65536 : Int64)) - (x / (65536 : Int64)) / (2 : Int64) * (2 : Int64)) (1 : Int64)) = 0 := h
/-- a day from point i on: what it comes to, and the number left behind -/
def DY (f : Nat → Nat → Int32) (P S0 : Nat) : Nat → Nat → (Nat → Int32) → Int64 → (Nat → Int32) → Int64 → Prop
  | _, 0, d, x, d', x' => d' = d ∧ x' = x
  | i, m + 1, d, x, d', x' => (opn P S0 i → (oddL (nx x) → DY f P S0 (i + 1) m (mbow (spSay f d (nI i))) (nx x) d' x') ∧ (¬ oddL (nx x) → DY f P S0 (i + 1) m (spSay f d (nI i)) (nx x) d' x')) ∧ (¬ opn P S0 i → DY f P S0 (i + 1) m d x d' x')
theorem DY_ex {f : Nat → Nat → Int32} {P S0 : Nat} : ∀ m i d x, ∃ d' x', DY f P S0 i m d x d' x'
  | 0, i, d, x => ⟨d, x, rfl, rfl⟩
  | m + 1, i, d, x => by
    rcases opn_d P S0 i with ho | ho
    · rcases Classical.em (oddL (nx x)) with hx | hx
      · obtain ⟨d', x', h⟩ := DY_ex (f := f) (P := P) (S0 := S0) m (i + 1) (mbow (spSay f d (nI i))) (nx x)
        exact ⟨d', x', fun _ => ⟨fun _ => h, fun z => absurd hx z⟩, fun z => absurd ho z⟩
      · obtain ⟨d', x', h⟩ := DY_ex (f := f) (P := P) (S0 := S0) m (i + 1) (spSay f d (nI i)) (nx x)
        exact ⟨d', x', fun _ => ⟨fun z => absurd z hx, fun _ => h⟩, fun z => absurd ho z⟩
    · obtain ⟨d', x', h⟩ := DY_ex (f := f) (P := P) (S0 := S0) m (i + 1) d x
      exact ⟨d', x', fun z => absurd z ho, fun _ => h⟩
theorem DY_end {f : Nat → Nat → Int32} {P S0 : Nat} : ∀ m i d x d' x', P ≤ i → DY f P S0 i m d x d' x' → d' = d ∧ x' = x
  | 0, i, d, x, d', x', h, hy => hy
  | m + 1, i, d, x, d', x', h, hy => DY_end m (i + 1) d x d' x' (by omega) (hy.2 (fun z => by have := z.1; omega))
theorem day5 {f : Nat → Nat → Int32} {P S0 n : Nat} {a : Nat → Int32} (hP : P ≤ 6) (hS : S0 < 2 ^ P) : ∀ m i d x d' x' cc, i + m = 6 → LI P S0 a i d → CT P cc f d → DY f P S0 i m d x d' x' → ∃ cc', ld_X4_dayBy_11 FU (n + 1 + m) cc x (nI (2 ^ P - 1 - S0)) (nI i) = some (x', cc') ∧ CT P cc' f d'
  | 0, i, d, x, d', x', cc, h, hl, hc, hy => by
    have : i = 6 := by omega
    subst this
    obtain ⟨rfl, rfl⟩ := hy
    have l : (6 : Int32) ≤ nI 6 := by decide
    exact ⟨cc, by rw [Nat.add_zero, ld_X4_dayBy_11, if_pos l], hc⟩
  | m + 1, i, d, x, d', x', cc, h, hl, hc, hy => by
    have l : ¬ (6 : Int32) ≤ nI i := nI_ge (b := 6) (by omega) (by omega)
    have hu := has_un (P := P) (S := S0) (i := i) hP hS (by omega)
    rcases opn_d P S0 i with ho | ho
    · obtain ⟨c1, e1, h1⟩ := CT_say hP hl.1 hc ho.1
      have hl1 := LI_say (f := f) hP hl ho.1 ho.2
      rcases Classical.em (oddL (nx x)) with hx | hx
      · obtain ⟨c2, e2, h2⟩ := CT_mbow hP hl1.1 h1
        obtain ⟨cc', e3, h3⟩ := day5 (n := n) hP hS m (i + 1) _ _ d' x' c2 (by omega) (LI_mbow hP hl1 spSay_12 ho.1) h2 ((hy.1 ho).1 hx)
        refine ⟨cc', ?_, h3⟩
        show ld_X4_dayBy_11 FU (n + 1 + m + 1) _ _ _ _ = _
        rw [ld_X4_dayBy_11, if_neg l, hu.1 ho, bd1_s, if10, lt1_r, nx_d, e1, bd1_s, if_pos (oddL_p hx), e2, bd1_s, nI_1]
        exact e3
      · obtain ⟨cc', e3, h3⟩ := day5 (n := n) hP hS m (i + 1) _ _ d' x' c1 (by omega) hl1 h1 ((hy.1 ho).2 hx)
        refine ⟨cc', ?_, h3⟩
        show ld_X4_dayBy_11 FU (n + 1 + m + 1) _ _ _ _ = _
        rw [ld_X4_dayBy_11, if_neg l, hu.1 ho, bd1_s, if10, lt1_r, nx_d, e1, bd1_s, if_neg (oddL_n hx), nI_1]
        exact e3
    · obtain ⟨cc', e3, h3⟩ := day5 (n := n) hP hS m (i + 1) d x d' x' cc (by omega) (LI_up hl) hc (hy.2 ho)
      refine ⟨cc', ?_, h3⟩
      show ld_X4_dayBy_11 FU (n + 1 + m + 1) _ _ _ _ = _
      rw [ld_X4_dayBy_11, if_neg l, hu.2 ho, bd1_s, if00, nI_1]
      exact e3
/-- what stays of the reference's rows while it goes through points -/
def RQ (P S0 : Nat) (f : Nat → Nat → Int32) (a : Nat → Int32) (c : Nat → Nat → Int32) : Prop := c 0 0 = nI P ∧ c 0 5 = nI S0 ∧ RRf P (c 0) f ∧ ∀ j, j < 6 → c 0 (6 + j) = a (1 + j)
theorem RQ_K {P S0 : Nat} {f : Nat → Nat → Int32} {a : Nat → Int32} {c e : Nat → Nat → Int32} (h : RQ P S0 f a c) (hk : KQ c e) : RQ P S0 f a e := by
  unfold RQ
  rw [KQ_0 hk]
  exact h
theorem RQ_0 {P S0 : Nat} {c : Nat → Nat → Int32} (h0 : c 0 0 = nI P) (h5 : c 0 5 = nI S0) : RQ P S0 (fxd (c 0)) (dyn (c 0)) c := ⟨h0, h5, fxd_RRf P _, fun j _ => by show c 0 (6 + j) = c 0 (5 + (1 + j)); rw [show 5 + (1 + j) = 6 + j from by omega]⟩
theorem has_on {P S i : Nat} (hP : P ≤ 6) (hS : S < 2 ^ P) (hi : i < P) : (opn P S i → md_X9_has (nI S) (nI i) = some 0) ∧ (¬ opn P S i → md_X9_has (nI S) (nI i) = some 1) := by
  have h64 := pow_le6 hP
  have h := has9 S (by omega) i (by omega)
  refine ⟨fun o => ?_, fun o => ?_⟩
  · rw [h, o.2]
    rfl
  · have : S.testBit i = true := by
      by_cases hb : S.testBit i = true
      · exact hb
      · exact absurd ⟨hi, by simpa using hb⟩ o
    rw [h, this]
    rfl
theorem day9 {f : Nat → Nat → Int32} {P S0 n : Nat} {a : Nat → Int32} {w : Nat → Nat → Int64} {k40 : (Nat → Nat → Int32) → Int32 → Int64 → Int32 → Int32 → Option (Int32 × (Nat → Nat → Int32))} (x2 x5 x6 : Int32) (hP : P ≤ 6) (hS : S0 < 2 ^ P) (hx : FXd P f) : ∀ m i d x d' x' c, i + m = 6 → i ≤ P → LI P S0 a i d → QQ c d → RQ P S0 f a c → DY f P S0 i m d x d' x' → ∃ c', ld_X9_days_53 FU w k40 (n + 1 + m) c x2 x x5 x6 (nI i) = k40 c' x2 x' (x5 + (if wonD d' = 0 then 0 else 1)) (x6 + 1) ∧ KQ c c'
  | m, i, d, x, d', x', c, h, hiP, hl, hq, hr, hy => by
    rcases Nat.lt_or_ge i P with hi | hi
    · obtain ⟨m, rfl⟩ : ∃ m', m = m' + 1 := ⟨m - 1, by omega⟩
      have l : ¬ nI P ≤ nI i := nI_ge hi (by omega)
      have hu := has_on (P := P) (S := S0) (i := i) hP hS hi
      rcases opn_d P S0 i with ho | ho
      · obtain ⟨c1, e1, q1, k1⟩ := QQ_say (w := w) hP hl.1 hx hr.2.2.1 hq ho.1
        have hl1 := LI_say (f := f) hP hl ho.1 ho.2
        have hr1 := RQ_K hr k1
        rcases Classical.em (oddL (nx x)) with hx2 | hx2
        · have hg : c1 0 (6 + i) = spSay f d (nI i) (1 + i) := by
            rw [hr1.2.2.2 i (by omega), spSay_n (by omega) (by omega) (by omega) (by omega), hl.2.2 i (by omega) hi]
          have em := QQ_may (w := w) hP hl1.1 q1 hi spSay_12 hg
          have hd := (hy.1 ho).1 hx2
          rcases spY01 (spSay f d (nI i)) with hy0 | hy1
          · unfold mbow at hd
            rw [if_neg (by rw [hy0]; decide)] at hd
            obtain ⟨c', e3, k3⟩ := day9 (n := n) (w := w) (k40 := k40) x2 x5 x6 hP hS hx m (i + 1) _ _ d' x' c1 (by omega) (by omega) hl1 q1 hr1 hd
            refine ⟨c', ?_, KQ_t k1 k3⟩
            show ld_X9_days_53 FU w k40 (n + 1 + m + 1) _ _ _ _ _ _ = _
            unfold ld_X9_days_53 md_X9_many
            rw [bd1_s, hr.1, if_neg l, hr.2.1, hu.1 ho, bd1_s, if00, lt1_r, nx_d, e1, bd1_s, if_pos (oddL_p hx2), em, bd1_s, hy0, if00, nI_1]
            exact e3
          · unfold mbow at hd
            rw [if_pos hy1] at hd
            obtain ⟨c2, e2, q2, k2⟩ := QQ_bow (w := w) hP hl1.1 q1 hi spSay_12
            obtain ⟨c', e3, k3⟩ := day9 (n := n) (w := w) (k40 := k40) x2 x5 x6 hP hS hx m (i + 1) _ _ d' x' c2 (by omega) (by omega) (LI_bow hP hl1 spSay_12 hi hy1) q2 (RQ_K hr1 k2) hd
            refine ⟨c', ?_, KQ_t k1 (KQ_t k2 k3)⟩
            show ld_X9_days_53 FU w k40 (n + 1 + m + 1) _ _ _ _ _ _ = _
            unfold ld_X9_days_53 md_X9_many
            rw [bd1_s, hr.1, if_neg l, hr.2.1, hu.1 ho, bd1_s, if00, lt1_r, nx_d, e1, bd1_s, if_pos (oddL_p hx2), em, bd1_s, hy1, if10, e2, bd1_s, nI_1]
            exact e3
        · obtain ⟨c', e3, k3⟩ := day9 (n := n) (w := w) (k40 := k40) x2 x5 x6 hP hS hx m (i + 1) _ _ d' x' c1 (by omega) (by omega) hl1 q1 hr1 ((hy.1 ho).2 hx2)
          refine ⟨c', ?_, KQ_t k1 k3⟩
          show ld_X9_days_53 FU w k40 (n + 1 + m + 1) _ _ _ _ _ _ = _
          unfold ld_X9_days_53 md_X9_many
          rw [bd1_s, hr.1, if_neg l, hr.2.1, hu.1 ho, bd1_s, if00, lt1_r, nx_d, e1, bd1_s, if_neg (oddL_n hx2), nI_1]
          exact e3
      · obtain ⟨c', e3, k3⟩ := day9 (n := n) (w := w) (k40 := k40) x2 x5 x6 hP hS hx m (i + 1) d x d' x' c (by omega) (by omega) (LI_up hl) hq hr (hy.2 ho)
        refine ⟨c', ?_, k3⟩
        show ld_X9_days_53 FU w k40 (n + 1 + m + 1) _ _ _ _ _ _ = _
        unfold ld_X9_days_53 md_X9_many
        rw [bd1_s, hr.1, if_neg l, hr.2.1, hu.2 ho, bd1_s, if10, nI_1]
        exact e3
    · obtain ⟨rfl, rfl⟩ := DY_end m i d x d' x' hi hy
      have : i = P := by omega
      subst this
      have l : nI i ≤ nI i := Int32.le_refl _
      refine ⟨c, ?_, KQ_r c⟩
      rw [show n + 1 + m = n + m + 1 from by omega]
      unfold ld_X9_days_53 md_X9_many
      rw [bd1_s, hr.1, if_pos l, QQ_won hq, bd1_s, lt1_r]
  termination_by m => m
theorem days_both {P S0 L n1 n2 : Nat} {c2 c9 : Nat → Nat → Int32} {c0 c1 : Nat → Nat → Int32} {w0 w1 w9 : Nat → Nat → Int64} (hS : S0 < 2 ^ P) (r : R1 P c2 (c9 0)) (h5 : c9 0 5 = nI S0) (hL : L ≤ 60) : ∀ m i c3 e9 x won, i + m = L → KQ c9 e9 → ∃ r c3' e9', ld_X8_days_37 FU w0 c1 w1 c2 (n1 + 1 + m) c0 c3 (nI L) x won (nI i) = some (r, c0, c3') ∧ ld_X9_days_40 FU w9 (n2 + 1 + m) e9 (nI L) x won (nI i) = some (r, e9') ∧ KQ c9 e9'
  | 0, i, c3, e9, x, won, h, hk => by
    have : i = L := by omega
    subst this
    have l : nI i ≤ nI i := Int32.le_refl _
    exact ⟨won, c3, e9, by rw [Nat.add_zero, ld_X8_days_37, if_pos l], by rw [Nat.add_zero, ld_X9_days_40, if_pos l], hk⟩
  | m + 1, i, c3, e9, x, won, h, hk => by
    have l : ¬ nI L ≤ nI i := nI_ge (by omega) (by omega)
    obtain ⟨q, hq⟩ : ∃ q, FU = q + 1 + 6 := ⟨1999993, by decide⟩
    obtain ⟨hP, a0, ho, hx, hd, hf⟩ := r
    obtain ⟨cc, e1, ce⟩ := copy5 c2 c3
    have r1 := CE_R1 ce ⟨hP, a0, ho, hx, hd, hf⟩
    have ct : CT P cc (fxd (c9 0)) (dyn (c9 0)) := ⟨r1.2.2.2.2.1, r1.2.2.2.2.2⟩
    obtain ⟨d', x', hy⟩ := DY_ex (f := fxd (c9 0)) (P := P) (S0 := S0) 6 0 (dyn (c9 0)) x
    have li := LI_0 ho hS (show dyn (c9 0) 0 = nI S0 from h5)
    obtain ⟨c4, e2, ct4⟩ := day5 (n := q) hP hS 6 0 _ x d' x' cc (by omega) li ct hy
    obtain ⟨e, g1, qe, ke⟩ := lay9n e9 w9
    rw [KQ_0 hk] at qe
    have rq : RQ P S0 (fxd (c9 0)) (dyn (c9 0)) e := RQ_K (RQ_0 (c := c9) a0 h5) (KQ_t hk ke)
    obtain ⟨e', g2, ke'⟩ := day9 (n := q) (w := w9) (k40 := ld_X9_days_40 FU w9 (n2 + 1 + m)) (nI L) won (nI i) hP hS hx 6 0 _ x d' x' e (by omega) (by omega) li qe rq hy
    obtain ⟨r, c3', e9', f1, f2, kf⟩ := days_both (n1 := n1) (n2 := n2) (c0 := c0) (c1 := c1) (w0 := w0) (w1 := w1) (w9 := w9) hS ⟨hP, a0, ho, hx, hd, hf⟩ h5 hL m (i + 1) c4 e' x' (won + (if wonD d' = 0 then 0 else 1)) (by omega) (KQ_t hk (KQ_t ke ke'))
    rw [← hq] at e2 g2
    have h6 : cc 6 0 = nI S0 := r1.2.2.2.2.1.2.1.trans h5
    refine ⟨r, c3', e9', ?_, ?_, kf⟩
    · show ld_X8_days_37 FU w0 c1 w1 c2 (n1 + 1 + m + 1) _ _ _ _ _ _ = _
      unfold ld_X8_days_37 md_X4_dayBy
      rw [if_neg l, e1, bd1_s, un5 hP hS r1.2.2.2.2.1.1 h6, bd1_s, show (0 : Int32) = nI 0 from rfl, e2, bd2_s, CT_won ct4, bd1_s, lt1_r, nI_1]
      exact f1
    · show ld_X9_days_40 FU w9 (n2 + 1 + m + 1) _ _ _ _ _ = _
      rw [ld_X9_days_40, if_neg l, g1, bd1_s, show (0 : Int32) = nI 0 from rfl, g2, nI_1]
      exact f2
theorem call_days {c0 c1 c2 c3 c9 : Nat → Nat → Int32} {w0 w1 w9 : Nat → Nat → Int64} (p s : Int32) (h : RB c1 w1 c2 (c9 0)) : ∃ r c0' c3' c9', md_X8_days FU c0 w0 c1 w1 c2 c3 p s = some (r, c0', c3') ∧ md_X9_days FU c9 w9 p s = some (r, c9') ∧ c9' 0 = c9 0 ∧ ST c0 c9 c0' c9' := by
  obtain ⟨P, K, E, N, M, r1, r2, r3, r4, r5⟩ := RB_to h
  unfold md_X8_days md_X9_days
  rw [wi8, in_0M, bd1_s, bd1_s]
  rcases b01_c (0 ≤ p ∧ p ≤ 999999) with ⟨hb, e⟩ | ⟨hb, e⟩
  · rw [e, if10, if10, wi8, in_060, bd1_s, bd1_s]
    rcases b01_c (0 ≤ s ∧ s ≤ 60) with ⟨hb2, e2⟩ | ⟨hb2, e2⟩
    · obtain ⟨L, hL, rfl⟩ := nI_b hb2 (n := 60) (by decide)
      obtain ⟨S, hS, h0, h11⟩ := r1.2.2.1.1
      obtain ⟨q, hq⟩ : ∃ q, FU = q + 1 + 60 := ⟨1999939, by decide⟩
      obtain ⟨r, c3', e9', f1, f2, kf⟩ := days_both (n1 := q + (60 - L)) (n2 := q + (60 - L)) (c0 := c0) (c1 := c1) (w0 := w0) (w1 := w1) (w9 := w9) hS r1 h0 hL L 0 c3 c9 p.toInt64 0 (by omega) (KQ_r c9)
      rw [show q + (60 - L) + 1 + L = FU from by omega] at f1 f2
      rw [e2, if10, if10]
      exact ⟨r, c0, c3', e9', f1, f2, KQ_0 kf, Or.inl ⟨rfl, KQ_KE kf⟩⟩
    · rw [e2, if00, if00]
      exact ⟨_, _, _, _, rfl, rfl, rs_n _ _ (by decide), Or.inr ⟨0, by omega, rfl, rfl⟩⟩
  · rw [e, if00, if00]
    exact ⟨_, _, _, _, rfl, rfl, rs_n _ _ (by decide), Or.inr ⟨0, by omega, rfl, rfl⟩⟩
