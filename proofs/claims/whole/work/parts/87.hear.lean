-- the call: hearings
theorem nL_lN (n : Nat) : nL n = lN n := rfl
theorem ld0 {x : Nat} (h : x < 2 ^ 63) : (lg_cmp (lN x) (0 : Int64) ≤ 0) ↔ x = 0 := by
  rw [lg_cmp_le, show (0 : Int64) = lN 0 from rfl, pk_lLE h (by omega)]
  omega
theorem le0 {x : Nat} (h : x < 2 ^ 63) : (lg_cmp (lN x) (0 : Int64) = 0) ↔ x = 0 := by
  rw [lg_cmp_eq, show (0 : Int64) = lN 0 from rfl, pk_lEQ h (by omega)]
theorem lz0 {x : Nat} (h : x < 2 ^ 63) : (lN x = 0) ↔ x = 0 := by
  rw [show (0 : Int64) = lN 0 from rfl, pk_lEQ h (by omega)]
/-- Euclid on both sides -/
theorem euclid {F n1 n2 : Nat} {c0 c9 : Nat → Nat → Int32} {w0 w9 : Nat → Nat → Int64} (x1 x3 : Int64) : ∀ k a b j, b < 2 ^ k → a < 2 ^ 31 → b < 2 ^ 31 → (0 < a ∨ 0 < b) → j + 2 * k < 128 → ∃ g, 0 < g ∧ g < 2 ^ 31 ∧ ld_X8_keepFraction_9 F c0 (n1 + 1 + 2 * k) w0 x1 x3 (lN a) (lN b) (nI j) = jd_X8_keepFraction_45 F c0 w0 x1 x3 (lN g) ∧ ld_X9_fraction_6 F c9 (n2 + 1 + 2 * k) w9 x1 x3 (lN a) (lN b) = some (rs (rs w9 4 (fun _ => x1 / lN g)) 5 (fun _ => x3 / lN g)) := by
  have stop : ∀ N1 N2 a j, 0 < a → a < 2 ^ 31 → j < 128 → ld_X8_keepFraction_9 F c0 (N1 + 1) w0 x1 x3 (lN a) (lN 0) (nI j) = jd_X8_keepFraction_45 F c0 w0 x1 x3 (lN a) ∧ ld_X9_fraction_6 F c9 (N2 + 1) w9 x1 x3 (lN a) (lN 0) = some (rs (rs w9 4 (fun _ => x1 / lN a)) 5 (fun _ => x3 / lN a)) := by
    intro N1 N2 a j ha ha2 hj
    have l : ¬ (128 : Int32) ≤ nI j := nI_ge (b := 128) hj (by omega)
    have z : ¬ lN a = 0 := fun z => by have := (lz0 (by omega)).mp z; omega
    have y : lg_cmp (lN 0) (0 : Int64) = 0 := (le0 (by omega)).mpr rfl
    refine ⟨?_, ?_⟩
    · rw [ld_X8_keepFraction_9, if_neg l, if_pos y]
    · rw [ld_X9_fraction_6, if_pos y, if_pos z, if_pos z]
  have step : ∀ N1 N2 a b j, 0 < b → a < 2 ^ 31 → b < 2 ^ 31 → j < 128 → ld_X8_keepFraction_9 F c0 (N1 + 1) w0 x1 x3 (lN a) (lN b) (nI j) = ld_X8_keepFraction_9 F c0 N1 w0 x1 x3 (lN b) (lN (a % b)) (nI (j + 1)) ∧ ld_X9_fraction_6 F c9 (N2 + 1) w9 x1 x3 (lN a) (lN b) = ld_X9_fraction_6 F c9 N2 w9 x1 x3 (lN b) (lN (a % b)) := by
    intro N1 N2 a b j hb ha2 hb2 hj
    have l : ¬ (128 : Int32) ≤ nI j := nI_ge (b := 128) hj (by omega)
    have z : ¬ lN b = 0 := fun z => by have := (lz0 (by omega)).mp z; omega
    have y : ¬ lg_cmp (lN b) (0 : Int64) = 0 := fun z => by have := (le0 (by omega)).mp z; omega
    refine ⟨?_, ?_⟩
    · rw [ld_X8_keepFraction_9, if_neg l, if_neg y, if_pos z, pk_lRem (by omega) hb (by omega), nI_1]
    · rw [ld_X9_fraction_6, if_neg y, if_pos z, pk_lRem (by omega) hb (by omega)]
  intro k
  induction k with
  | zero =>
    intro a b j hb ha hb2 hp hj
    have : b = 0 := by simpa using hb
    subst this
    obtain ⟨s1, s2⟩ := stop n1 n2 a j (by omega) ha (by omega)
    exact ⟨a, by omega, ha, s1, s2⟩
  | succ k ih =>
    intro a b j hb ha hb2 hp hj
    rcases Nat.eq_zero_or_pos b with h0 | h0
    · subst h0
      obtain ⟨s1, s2⟩ := stop (n1 + 2 * (k + 1)) (n2 + 2 * (k + 1)) a j (by omega) ha (by omega)
      rw [show n1 + 1 + 2 * (k + 1) = n1 + 2 * (k + 1) + 1 from by omega, show n2 + 1 + 2 * (k + 1) = n2 + 2 * (k + 1) + 1 from by omega]
      exact ⟨a, by omega, ha, s1, s2⟩
    · obtain ⟨t1, t2⟩ := step (n1 + 1 + 2 * k + 1) (n2 + 1 + 2 * k + 1) a b j h0 ha hb2 (by omega)
      rw [show n1 + 1 + 2 * (k + 1) = n1 + 1 + 2 * k + 1 + 1 from by omega, show n2 + 1 + 2 * (k + 1) = n2 + 1 + 2 * k + 1 + 1 from by omega, t1, t2]
      have hr : a % b < b := Nat.mod_lt _ h0
      rcases Nat.eq_zero_or_pos (a % b) with h1 | h1
      · rw [h1]
        obtain ⟨s1, s2⟩ := stop (n1 + 1 + 2 * k) (n2 + 1 + 2 * k) b (j + 1) h0 hb2 (by omega)
        exact ⟨b, h0, hb2, s1, s2⟩
      · obtain ⟨u1, u2⟩ := step (n1 + 1 + 2 * k) (n2 + 1 + 2 * k) b (a % b) (j + 1) h1 hb2 (by omega) (by omega)
        rw [u1, u2]
        have hr2 : b % (a % b) < a % b := Nat.mod_lt _ h1
        have hr3 : b % (a % b) + a % b ≤ b := by
          have e := Nat.div_add_mod b (a % b)
          have q : 1 ≤ b / (a % b) := (Nat.one_le_div_iff h1).mpr (by omega)
          have := Nat.mul_le_mul_left (a % b) q
          omega
        have hk : 2 ^ (k + 1) = 2 ^ k * 2 := Nat.pow_succ 2 k
        exact ih (a % b) (b % (a % b)) (j + 1 + 1) (by omega) (by omega) (by omega) (Or.inl h1) (by omega)
theorem frac_both {over under : Nat} {c0 c9 : Nat → Nat → Int32} (w0 w9 : Nat → Nat → Int64) (h1 : over < 2 ^ 31) (h2 : 0 < under) (h3 : under < 2 ^ 20) : ∃ a b : Int64, md_X8_keepFraction FU c0 w0 (lN over) (lN under) = some (rs (rs w0 6 (fun _ => a)) 7 (fun _ => b)) ∧ md_X9_fraction FU c9 w9 (lN over) (lN under) = some (rs (rs w9 4 (fun _ => a)) 5 (fun _ => b)) := by
  obtain ⟨q, hq⟩ : ∃ q, FU = q + 1 + 2 * 20 := ⟨1999959, by decide⟩
  obtain ⟨g, g1, g2, e1, e2⟩ := euclid (F := FU) (n1 := q) (n2 := q) (c0 := c0) (c9 := c9) (w0 := w0) (w9 := w9) (lN over) (lN under) 20 over under 0 h3 h1 (by omega) (Or.inr h2) (by omega)
  have z : ¬ lN g = 0 := fun z => by have := (lz0 (by omega)).mp z; omega
  have y : ¬ lg_cmp (lN g) (0 : Int64) ≤ 0 := fun z => by have := (ld0 (by omega)).mp z; omega
  rw [← hq] at e1 e2
  refine ⟨lN over / lN g, lN under / lN g, ?_, e2⟩
  refine e1.trans ?_
  unfold jd_X8_keepFraction_45
  rw [if_neg y, if_pos z, if_pos z]
/-- a run with weights -/
def HR (f : Nat → Nat → Int32) (P S0 s c : Nat) : Nat → Nat → (Nat → Int32) → Nat → (Nat → Int32) → Nat → Prop
  | _, 0, d, w, d', w' => d' = d ∧ w' = w
  | i, m + 1, d, w, d', w' => (opn P S0 i → (s.testBit i = true → HR f P S0 s c (i + 1) m (mbow (spSay f d (nI i))) (w * (if spY (spSay f d (nI i)) = 0 then 0 else c)) d' w') ∧ (¬ s.testBit i = true → HR f P S0 s c (i + 1) m (spSay f d (nI i)) (w * (if spY (spSay f d (nI i)) = 0 then 10 else 10 - c)) d' w')) ∧ (¬ opn P S0 i → HR f P S0 s c (i + 1) m d w d' w')
theorem HR_ex {f : Nat → Nat → Int32} {P S0 s c : Nat} (hc : c ≤ 10) : ∀ m i d w, w ≤ 10 ^ i → ∃ d' w', HR f P S0 s c i m d w d' w' ∧ w' ≤ 10 ^ (i + m) ∧ (w = 0 → w' = 0)
  | 0, i, d, w, h => ⟨d, w, ⟨rfl, rfl⟩, h, fun z => z⟩
  | m + 1, i, d, w, h => by
    have hp : 10 ^ (i + 1) = 10 ^ i * 10 := Nat.pow_succ 10 i
    have hx : ∀ z, z ≤ 10 → w * z ≤ 10 ^ (i + 1) := fun z hz => by
      rw [hp]
      exact Nat.mul_le_mul h hz
    rw [show i + (m + 1) = i + 1 + m from by omega]
    rcases opn_d P S0 i with ho | ho
    · by_cases hs : s.testBit i = true
      · obtain ⟨d', w', r, r2, r3⟩ := HR_ex (f := f) (P := P) (S0 := S0) (s := s) hc m (i + 1) (mbow (spSay f d (nI i))) (w * (if spY (spSay f d (nI i)) = 0 then 0 else c)) (hx _ (by split <;> omega))
        exact ⟨d', w', ⟨fun _ => ⟨fun _ => r, fun z => absurd hs z⟩, fun z => absurd ho z⟩, r2, fun z => r3 (by rw [z, Nat.zero_mul])⟩
      · obtain ⟨d', w', r, r2, r3⟩ := HR_ex (f := f) (P := P) (S0 := S0) (s := s) hc m (i + 1) (spSay f d (nI i)) (w * (if spY (spSay f d (nI i)) = 0 then 10 else 10 - c)) (hx _ (by split <;> omega))
        exact ⟨d', w', ⟨fun _ => ⟨fun z => absurd z hs, fun _ => r⟩, fun z => absurd ho z⟩, r2, fun z => r3 (by rw [z, Nat.zero_mul])⟩
    · obtain ⟨d', w', r, r2, r3⟩ := HR_ex (f := f) (P := P) (S0 := S0) (s := s) hc m (i + 1) d w (by have := hx 1 (by omega); omega)
      exact ⟨d', w', ⟨fun z => absurd z ho, fun _ => r⟩, r2, r3⟩
theorem HR_z {f : Nat → Nat → Int32} {P S0 s c : Nat} : ∀ m i d d' w', HR f P S0 s c i m d 0 d' w' → w' = 0
  | 0, i, d, d', w', h => h.2
  | m + 1, i, d, d', w', h => by
    rcases opn_d P S0 i with ho | ho
    · by_cases hs : s.testBit i = true
      · have := (h.1 ho).1 hs
        rw [Nat.zero_mul] at this
        exact HR_z m (i + 1) _ _ _ this
      · have := (h.1 ho).2 hs
        rw [Nat.zero_mul] at this
        exact HR_z m (i + 1) _ _ _ this
    · exact HR_z m (i + 1) _ _ _ (h.2 ho)
theorem HR_end {f : Nat → Nat → Int32} {P S0 s c : Nat} : ∀ m i d w d' w', P ≤ i → HR f P S0 s c i m d w d' w' → d' = d ∧ w' = w
  | 0, i, d, w, d', w', h, hy => hy
  | m + 1, i, d, w, d', w', h, hy => HR_end m (i + 1) d w d' w' (by omega) (hy.2 (fun z => by have := z.1; omega))
theorem tenL {c : Nat} (hc : c ≤ 10) : ((10 : Int32) - nI c).toInt64 = lN (10 - c) := by
  rw [show (10 : Int32) = nI 10 from rfl, pk_sub hc, nI_L (by omega)]
  rfl
theorem hr5 {f : Nat → Nat → Int32} {P S0 s c n : Nat} {a : Nat → Int32} (hP : P ≤ 6) (hS : S0 < 2 ^ P) (hs : s < 64) (hc10 : c ≤ 10) : ∀ m i d w d' w' cc, i + m = 6 → LI P S0 a i d → CT P cc f d → HR f P S0 s c i m d w d' w' → ∃ cc', ld_X4_weightOf_11 FU (n + 1 + m) cc (nI s) (nI c) (nI (2 ^ P - 1 - S0)) (lN w) (nI i) = some (lN w', cc') ∧ CT P cc' f d'
  | 0, i, d, w, d', w', cc, h, hl, hc, hy => by
    have : i = 6 := by omega
    subst this
    obtain ⟨rfl, rfl⟩ := hy
    have l : (6 : Int32) ≤ nI 6 := by decide
    exact ⟨cc, by rw [Nat.add_zero, ld_X4_weightOf_11, if_pos l], hc⟩
  | m + 1, i, d, w, d', w', cc, h, hl, hc, hy => by
    have l : ¬ (6 : Int32) ≤ nI i := nI_ge (b := 6) (by omega) (by omega)
    have hu := has_un (P := P) (S := S0) (i := i) hP hS (by omega)
    rcases opn_d P S0 i with ho | ho
    · obtain ⟨c1, e1, h1⟩ := CT_say hP hl.1 hc ho.1
      have hl1 := LI_say (f := f) hP hl ho.1 ho.2
      by_cases ht : s.testBit i = true
      · obtain ⟨c2, e2, h2⟩ := CT_mbow hP hl1.1 h1
        obtain ⟨cc', e3, h3⟩ := hr5 (n := n) hP hS hs hc10 m (i + 1) _ _ d' w' c2 (by omega) (LI_mbow hP hl1 spSay_12 ho.1) h2 ((hy.1 ho).1 ht)
        refine ⟨cc', ?_, h3⟩
        have ev : lN w * (if spY (spSay f d (nI i)) = 0 then (0 : Int64) else (nI c).toInt64) = lN (w * (if spY (spSay f d (nI i)) = 0 then 0 else c)) := by
          rw [← lN_mul]
          split
          · rfl
          · rw [nI_L (by omega)]; rfl
        show ld_X4_weightOf_11 FU (n + 1 + m + 1) _ _ _ _ _ _ = _
        rw [ld_X4_weightOf_11, if_neg l, hu.1 ho, bd1_s, if10, e1, bd1_s, may5 hP hl1.1 h1.1, bd1_s, has8t hs (by omega) ht, bd1_s, if10, e2, bd1_s, lt1_r, ev, nI_1]
        exact e3
      · obtain ⟨cc', e3, h3⟩ := hr5 (n := n) hP hS hs hc10 m (i + 1) _ _ d' w' c1 (by omega) hl1 h1 ((hy.1 ho).2 ht)
        refine ⟨cc', ?_, h3⟩
        have ev : lN w * (if spY (spSay f d (nI i)) = 0 then (10 : Int64) else ((10 : Int32) - nI c).toInt64) = lN (w * (if spY (spSay f d (nI i)) = 0 then 10 else 10 - c)) := by
          rw [← lN_mul]
          split
          · rfl
          · rw [tenL hc10]
        show ld_X4_weightOf_11 FU (n + 1 + m + 1) _ _ _ _ _ _ = _
        rw [ld_X4_weightOf_11, if_neg l, hu.1 ho, bd1_s, if10, e1, bd1_s, may5 hP hl1.1 h1.1, bd1_s, has8f hs (by omega) ht, bd1_s, if00, lt1_r, ev, nI_1]
        exact e3
    · obtain ⟨cc', e3, h3⟩ := hr5 (n := n) hP hS hs hc10 m (i + 1) d w d' w' cc (by omega) (LI_up hl) hc (hy.2 ho)
      refine ⟨cc', ?_, h3⟩
      show ld_X4_weightOf_11 FU (n + 1 + m + 1) _ _ _ _ _ _ = _
      rw [ld_X4_weightOf_11, if_neg l, hu.2 ho, bd1_s, if00, nI_1]
      exact e3
theorem p10_6 {w i : Nat} (h : w ≤ 10 ^ i) (hi : i ≤ 6) : w ≤ 1000000 := by
  have : 10 ^ i ≤ 10 ^ 6 := Nat.pow_le_pow_right (by omega) hi
  omega
theorem p10_s {w i z : Nat} (h : w ≤ 10 ^ i) (hz : z ≤ 10) : w * z ≤ 10 ^ (i + 1) := by
  rw [Nat.pow_succ]
  exact Nat.mul_le_mul h hz
theorem hr9 {f : Nat → Nat → Int32} {P S0 s c n : Nat} {a : Nat → Int32} {w0 : Nat → Nat → Int64} {k56 : (Nat → Nat → Int32) → (Nat → Nat → Int64) → Int32 → Int64 → Int64 → Int32 → Option (Int32 × (Nat → Nat → Int32) × (Nat → Nat → Int64))} (x2 x4 : Int64) (hP : P ≤ 6) (hS : S0 < 2 ^ P) (hs : s < 64) (hc10 : c ≤ 10) (hx : FXd P f) : ∀ m i d w d' w' e, i + m = 6 → i ≤ P → w ≤ 10 ^ i → LI P S0 a i d → QQ e d → RQ P S0 f a e → HR f P S0 s c i m d w d' w' → ∃ e', ld_X9_hearings_93 FU k56 (n + 1 + m) e w0 (nI c) x2 x4 (nI s) (lN w) (nI i) = jd_X9_hearings_204 FU k56 e' w0 (nI c) x2 x4 (nI s) (lN w') ∧ (¬ w' = 0 → QQ e' d') ∧ KQ e e'
  | m, i, d, w, d', w', e, h, hiP, hw, hl, hq, hr, hy => by
    have hw6 := p10_6 hw (by omega)
    rcases Nat.lt_or_ge i P with hi | hi
    · obtain ⟨m, rfl⟩ : ∃ m', m = m' + 1 := ⟨m - 1, by omega⟩
      have l : ¬ nI P ≤ nI i := nI_ge hi (by omega)
      have hu := has_on (P := P) (S := S0) (i := i) hP hS hi
      rcases Nat.eq_zero_or_pos w with h0 | h0
      · subst h0
        have := HR_z _ _ _ _ _ hy
        subst this
        refine ⟨e, ?_, fun z => absurd rfl z, KQ_r e⟩
        show ld_X9_hearings_93 FU k56 (n + 1 + m + 1) _ _ _ _ _ _ _ _ = _
        unfold ld_X9_hearings_93 md_X9_many
        rw [bd1_s, hr.1, if_neg l, if_pos ((ld0 (by omega)).mpr rfl)]
      · have nz : ¬ lg_cmp (lN w) (0 : Int64) ≤ 0 := fun z => by have := (ld0 (by omega)).mp z; omega
        rcases opn_d P S0 i with ho | ho
        · obtain ⟨c1, e1, q1, k1⟩ := QQ_say (w := w0) hP hl.1 hx hr.2.2.1 hq ho.1
          have hl1 := LI_say (f := f) hP hl ho.1 ho.2
          have hr1 := RQ_K hr k1
          have hg : c1 0 (6 + i) = spSay f d (nI i) (1 + i) := by
            rw [hr1.2.2.2 i (by omega), spSay_n (by omega) (by omega) (by omega) (by omega), hl.2.2 i (by omega) hi]
          have em := QQ_may (w := w0) hP hl1.1 q1 hi spSay_12 hg
          by_cases ht : s.testBit i = true
          · have hd := (hy.1 ho).1 ht
            rcases spY01 (spSay f d (nI i)) with hy0 | hy1
            · rw [if_pos hy0, Nat.mul_zero] at hd
              have hz := HR_z _ _ _ _ _ hd
              subst hz
              unfold mbow at hd
              rw [if_neg (by rw [hy0]; decide)] at hd
              obtain ⟨e', e3, q3, k3⟩ := hr9 (n := n) (w0 := w0) (k56 := k56) x2 x4 hP hS hs hc10 hx m (i + 1) _ 0 d' 0 c1 (by omega) (by omega) (by omega) hl1 q1 hr1 hd
              refine ⟨e', ?_, fun z => absurd rfl z, KQ_t k1 k3⟩
              have ev : lN w * (0 : Int64) = lN 0 := by rw [show (0 : Int64) = lN 0 from rfl, lN_mul, Nat.mul_zero]
              have ez : lg_cmp (lN 0) (0 : Int64) ≤ 0 := (ld0 (by omega)).mpr rfl
              show ld_X9_hearings_93 FU k56 (n + 1 + m + 1) _ _ _ _ _ _ _ _ = _
              unfold ld_X9_hearings_93 md_X9_many
              rw [bd1_s, hr.1, if_neg l, if_neg nz, hr.2.1, hu.1 ho, bd1_s, if00, e1, bd1_s, has9t hs (by omega) ht, bd1_s, em, bd1_s, hy0, lt1_r, if00, if10, if10, ev, if_pos ez, nI_1]
              exact e3
            · rw [if_neg (by rw [hy1]; decide)] at hd
              unfold mbow at hd
              rw [if_pos hy1] at hd
              have hwc := p10_s hw hc10
              have hwc6 := p10_6 hwc (by omega)
              have ev : lN w * (nI c).toInt64 = lN (w * c) := by
                rw [nI_L (by omega), nL_lN, lN_mul]
              rcases Nat.eq_zero_or_pos (w * c) with hz | hz
              · rw [hz] at hd ev
                have hz2 := HR_z _ _ _ _ _ hd
                subst hz2
                have ez : lg_cmp (lN 0) (0 : Int64) ≤ 0 := (ld0 (by omega)).mpr rfl
                obtain ⟨d2, w2, r2, -, hw2⟩ := HR_ex (f := f) (P := P) (S0 := S0) (s := s) hc10 m (i + 1) (spSay f d (nI i)) 0 (by omega)
                have hw20 := hw2 rfl
                subst hw20
                obtain ⟨e', e3, q3, k3⟩ := hr9 (n := n) (w0 := w0) (k56 := k56) x2 x4 hP hS hs hc10 hx m (i + 1) _ 0 d2 0 c1 (by omega) (by omega) (by omega) hl1 q1 hr1 r2
                refine ⟨e', ?_, fun z => absurd rfl z, KQ_t k1 k3⟩
                show ld_X9_hearings_93 FU k56 (n + 1 + m + 1) _ _ _ _ _ _ _ _ = _
                unfold ld_X9_hearings_93 md_X9_many
                rw [bd1_s, hr.1, if_neg l, if_neg nz, hr.2.1, hu.1 ho, bd1_s, if00, e1, bd1_s, has9t hs (by omega) ht, bd1_s, em, bd1_s, hy1, lt1_r, if10, if10, if10, ev, if_pos ez, nI_1]
                exact e3
              · have ez : ¬ lg_cmp (lN (w * c)) (0 : Int64) ≤ 0 := fun z => by have := (ld0 (by omega)).mp z; omega
                obtain ⟨c2, e2, q2, k2⟩ := QQ_bow (w := w0) hP hl1.1 q1 hi spSay_12
                obtain ⟨e', e3, q3, k3⟩ := hr9 (n := n) (w0 := w0) (k56 := k56) x2 x4 hP hS hs hc10 hx m (i + 1) _ (w * c) d' w' c2 (by omega) (by omega) hwc (LI_bow hP hl1 spSay_12 hi hy1) q2 (RQ_K hr1 k2) hd
                refine ⟨e', ?_, q3, KQ_t k1 (KQ_t k2 k3)⟩
                show ld_X9_hearings_93 FU k56 (n + 1 + m + 1) _ _ _ _ _ _ _ _ = _
                unfold ld_X9_hearings_93 md_X9_many
                rw [bd1_s, hr.1, if_neg l, if_neg nz, hr.2.1, hu.1 ho, bd1_s, if00, e1, bd1_s, has9t hs (by omega) ht, bd1_s, em, bd1_s, hy1, lt1_r, if10, if10, if10, ev, if_neg ez, e2, bd1_s, nI_1]
                exact e3
          · have hd := (hy.1 ho).2 ht
            have ev : lN w * (if spY (spSay f d (nI i)) = 0 then (if (0 : Int32) = 0 then (10 : Int64) else (0 : Int64)) else (if (0 : Int32) = 0 then ((10 : Int32) - nI c).toInt64 else (nI c).toInt64)) = lN (w * (if spY (spSay f d (nI i)) = 0 then 10 else 10 - c)) := by
              rw [← lN_mul, if00, if00]
              split
              · rfl
              · rw [tenL hc10]
            obtain ⟨e', e3, q3, k3⟩ := hr9 (n := n) (w0 := w0) (k56 := k56) x2 x4 hP hS hs hc10 hx m (i + 1) _ _ d' w' c1 (by omega) (by omega) (p10_s hw (by split <;> omega)) hl1 q1 hr1 hd
            refine ⟨e', ?_, q3, KQ_t k1 k3⟩
            show ld_X9_hearings_93 FU k56 (n + 1 + m + 1) _ _ _ _ _ _ _ _ = _
            unfold ld_X9_hearings_93 md_X9_many
            rw [bd1_s, hr.1, if_neg l, if_neg nz, hr.2.1, hu.1 ho, bd1_s, if00, e1, bd1_s, has9f hs (by omega) ht, bd1_s, em, bd1_s, lt1_r, ev, if00, nI_1]
            exact e3
        · obtain ⟨e', e3, q3, k3⟩ := hr9 (n := n) (w0 := w0) (k56 := k56) x2 x4 hP hS hs hc10 hx m (i + 1) d w d' w' e (by omega) (by omega) (by have := p10_s (z := 1) hw (by omega); omega) (LI_up hl) hq hr (hy.2 ho)
          refine ⟨e', ?_, q3, k3⟩
          show ld_X9_hearings_93 FU k56 (n + 1 + m + 1) _ _ _ _ _ _ _ _ = _
          unfold ld_X9_hearings_93 md_X9_many
          rw [bd1_s, hr.1, if_neg l, if_neg nz, hr.2.1, hu.2 ho, bd1_s, if10, nI_1]
          exact e3
    · obtain ⟨rfl, rfl⟩ := HR_end m i d w d' w' hi hy
      have : i = P := by omega
      subst this
      have l : nI i ≤ nI i := Int32.le_refl _
      refine ⟨e, ?_, fun _ => hq, KQ_r e⟩
      rw [show n + 1 + m = n + m + 1 from by omega]
      unfold ld_X9_hearings_93 md_X9_many
      rw [bd1_s, hr.1, if_pos l]
  termination_by m => m
theorem won_any (c : Nat → Nat → Int32) (w : Nat → Nat → Int64) : ∃ v, md_X9_isWon c w = some v := by
  unfold md_X9_isWon
  rw [lt1_r]
  split
  · split
    · exact ⟨_, if_pos or00⟩
    · exact ⟨_, if_pos or01⟩
  · split
    · exact ⟨_, if_pos or00⟩
    · exact ⟨_, if_pos or01⟩
theorem jd204z {k56 : (Nat → Nat → Int32) → (Nat → Nat → Int64) → Int32 → Int64 → Int64 → Int32 → Option (Int32 × (Nat → Nat → Int32) × (Nat → Nat → Int64))} (c : Nat → Nat → Int32) (w : Nat → Nat → Int64) (x1 : Int32) (t : Nat) (x4 : Int64) (s : Nat) : jd_X9_hearings_204 FU k56 c w x1 (lN t) x4 (nI s) (lN 0) = k56 c w x1 (lN t) x4 (nI (s + 1)) := by
  obtain ⟨v, hv⟩ := won_any c w
  unfold jd_X9_hearings_204
  rw [hv, bd1_s, lt1_r, show (lN 0 : Int64) = 0 from rfl]
  rw [show (if v = 0 then (0 : Int64) else 0) = 0 from by split <;> rfl, Int64.add_zero, nI_1]
theorem hear_both {P S0 c T n1 n2 : Nat} {c2 c9 c0 c1 : Nat → Nat → Int32} {w0 w1 w9 : Nat → Nat → Int64} (hc10 : c ≤ 10) (hS : S0 < 2 ^ P) (r : R1 P c2 (c9 0)) (h5 : c9 0 5 = nI S0) (k8 : Nat → (Nat → Nat → Int32) → Option (Int32 × (Nat → Nat → Int32) × (Nat → Nat → Int64) × (Nat → Nat → Int32))) (hk8 : ∀ t c3, k8 t c3 = bd1 (md_J6_bitCount_0f7a4 (nI (2 ^ P - 1 - S0))) (fun r12 => ld_X8_hearings_107 FU c1 w1 c2 FU c0 w0 c3 (lN t) (1 : Int64) r12)) : ∀ m s t c3 e9, s + m = 2 ^ P - S0 → t ≤ s * 1000000 → KQ c9 e9 → ∃ t' c3' e9', t' ≤ 64000000 ∧ ld_X8_hearings_36 FU c1 w1 c2 (n1 + 1 + m) c0 w0 c3 (nI c) (nI (2 ^ P - 1 - S0)) (lN t) (nI s) = k8 t' c3' ∧ ld_X9_hearings_56 FU (n2 + 1 + S0 + m) e9 w9 (nI c) (lN t) (lN T) (nI s) = bd1 (md_X9_fraction FU e9' w9 (lN t') (lN T)) (fun wv33 => some ((1 : Int32), e9', wv33)) ∧ KQ c9 e9'
  | 0, s, t, c3, e9, h, ht, hk => by
    have hP := r.1
    have h64 := pow_le6 hP
    have hpp := pow_pos2 P
    have l : nI (2 ^ P - 1 - S0) < nI s := nI_lt (by omega) (by omega)
    have hend : ∀ z u e, u + z = 2 ^ P → 2 ^ P - 1 - S0 < u → KQ c9 e → ∃ e', ld_X9_hearings_56 FU (n2 + 1 + z) e w9 (nI c) (lN t) (lN T) (nI u) = bd1 (md_X9_fraction FU e' w9 (lN t) (lN T)) (fun wv33 => some ((1 : Int32), e', wv33)) ∧ KQ c9 e' := by
      intro z
      induction z with
      | zero =>
        intro u e hu1 hu2 hke
        have : u = 2 ^ P := by omega
        subst this
        have l2 : nI (2 ^ P) ≤ nI (2 ^ P) := Int32.le_refl _
        refine ⟨e, ?_, hke⟩
        rw [Nat.add_zero]
        unfold ld_X9_hearings_56 md_X9_many
        rw [bd1_s, KQ_0 hke, r.2.1, shl1 P hP, if_pos l2]
      | succ z ih =>
        intro u e hu1 hu2 hke
        have l2 : ¬ nI (2 ^ P) ≤ nI u := nI_ge (by omega) (by omega)
        obtain ⟨q, hq⟩ : ∃ q, FU = q + 1 := ⟨1999999, by decide⟩
        obtain ⟨e1, g1, qe, ke⟩ := lay9n e w9
        obtain ⟨e2, g2, ke2⟩ := ih (u + 1) e1 (by omega) (by omega) (KQ_t hke ke)
        refine ⟨e2, ?_, ke2⟩
        show ld_X9_hearings_56 FU (n2 + 1 + z + 1) _ _ _ _ _ _ = _
        rw [ld_X9_hearings_56]
        unfold md_X9_many
        rw [bd1_s, KQ_0 hke, r.2.1, shl1 P hP, if_neg l2, h5, if_neg (fun z => sub_gt P hP S0 hS u (by omega) hu2 ((subr S0 (by omega) u (by omega)).mp z)), lt1_r, g1, bd1_s]
        have hz : ld_X9_hearings_93 FU (ld_X9_hearings_56 FU (n2 + 1 + z)) FU e1 w9 (nI c) (lN t) (lN T) (nI u) 0 0 = jd_X9_hearings_204 FU (ld_X9_hearings_56 FU (n2 + 1 + z)) e1 w9 (nI c) (lN t) (lN T) (nI u) (lN 0) := by
          rw [show ld_X9_hearings_93 FU (ld_X9_hearings_56 FU (n2 + 1 + z)) FU = ld_X9_hearings_93 FU (ld_X9_hearings_56 FU (n2 + 1 + z)) (q + 1) from by rw [← hq], ld_X9_hearings_93]
          unfold md_X9_many
          rw [bd1_s, if_pos (show lg_cmp (0 : Int64) 0 ≤ 0 by decide)]
          split <;> rfl
        rw [hz, jd204z]
        exact g2
    obtain ⟨e', g, ke⟩ := hend S0 s e9 (by omega) (by omega) hk
    refine ⟨t, c3, e', by omega, ?_, g, ke⟩
    rw [Nat.add_zero, ld_X8_hearings_36, if_pos l, hk8]
  | m + 1, s, t, c3, e9, h, ht, hk => by
    have hP := r.1
    have h64 := pow_le6 hP
    have hpp := pow_pos2 P
    have l : ¬ nI (2 ^ P - 1 - S0) < nI s := nI_nlt (by omega) (by omega)
    have l2 : ¬ nI (2 ^ P) ≤ nI s := nI_ge (by omega) (by omega)
    obtain ⟨q0, hq0⟩ : ∃ q, FU = q + 1 := ⟨1999999, by decide⟩
    obtain ⟨q, hq⟩ : ∃ q, FU = q + 1 + 6 := ⟨1999993, by decide⟩
    obtain ⟨e, g1, qe1, ke⟩ := lay9n e9 w9
    by_cases hsub : s &&& S0 = 0
    · obtain ⟨cc, e1, ce⟩ := copy5 c2 c3
      have r1 := CE_R1 ce r
      have ct : CT P cc (fxd (c9 0)) (dyn (c9 0)) := ⟨r1.2.2.2.2.1, r1.2.2.2.2.2⟩
      obtain ⟨d', w', hy, hw', -⟩ := HR_ex (f := fxd (c9 0)) (P := P) (S0 := S0) (s := s) hc10 6 0 (dyn (c9 0)) 1 (by omega)
      have hw6 := p10_6 hw' (by omega)
      have li := LI_0 r.2.2.1 hS (show dyn (c9 0) 0 = nI S0 from h5)
      obtain ⟨c4, e2, ct4⟩ := hr5 (n := q) hP hS (by omega : s < 64) hc10 6 0 _ 1 d' w' cc (by omega) li ct hy
      rw [KQ_0 hk] at qe1
      have rq : RQ P S0 (fxd (c9 0)) (dyn (c9 0)) e := RQ_K (RQ_0 (c := c9) r.2.1 h5) (KQ_t hk ke)
      obtain ⟨e', g2, qe', ke'⟩ := hr9 (n := q) (w0 := w9) (k56 := ld_X9_hearings_56 FU (n2 + 1 + S0 + m)) (lN t) (lN T) hP hS (by omega : s < 64) hc10 r.2.2.2.1 6 0 _ 1 d' w' e (by omega) (by omega) (by omega) li qe1 rq hy
      rw [← hq] at e2 g2
      have hk' : KQ c9 e' := KQ_t hk (KQ_t ke ke')
      have h6 : cc 6 0 = nI S0 := r1.2.2.2.2.1.2.1.trans h5
      have jj : jd_X9_hearings_204 FU (ld_X9_hearings_56 FU (n2 + 1 + S0 + m)) e' w9 (nI c) (lN t) (lN T) (nI s) (lN w') = ld_X9_hearings_56 FU (n2 + 1 + S0 + m) e' w9 (nI c) (lN (t + (if wonD d' = 0 then 0 else w'))) (lN T) (nI (s + 1)) := by
        rcases Nat.eq_zero_or_pos w' with hz | hz
        · subst hz
          rw [jd204z]
          congr 1
          split <;> rfl
        · unfold jd_X9_hearings_204
          rw [QQ_won (qe' (by omega)), bd1_s, lt1_r, nI_1, ← lN_add]
          congr 2
          split <;> rfl
      have hle : (if wonD d' = 0 then 0 else w') ≤ 1000000 := by
        split <;> omega
      obtain ⟨t', c3', e9', ht', f1, f2, kf⟩ := hear_both (T := T) (n1 := n1) (n2 := n2) (w9 := w9) hc10 hS r h5 k8 hk8 m (s + 1) (t + (if wonD d' = 0 then 0 else w')) c4 e' (by omega) (by omega) hk'
      refine ⟨t', c3', e9', ht', ?_, ?_, kf⟩
      · show ld_X8_hearings_36 FU c1 w1 c2 (n1 + 1 + m + 1) _ _ _ _ _ _ _ = _
        rw [ld_X8_hearings_36]
        unfold md_X4_weightOf
        rw [if_neg l, if_pos ((subc P hP S0 hS s (by omega)).mpr hsub), e1, bd1_s, un5 hP hS r1.2.2.2.2.1.1 h6, bd1_s, show ld_X4_weightOf_11 FU FU cc (nI s) (nI c) (nI (2 ^ P - 1 - S0)) 1 0 = some (lN w', c4) from e2, bd2_s, CT_won ct4, bd1_s, lt1_r, nI_1]
        rw [show lN t + (if wonD d' = 0 then (0 : Int64) else lN w') = lN (t + (if wonD d' = 0 then 0 else w')) from by rw [← lN_add]; congr 1; split <;> rfl]
        exact f1
      · show ld_X9_hearings_56 FU (n2 + 1 + S0 + m + 1) _ _ _ _ _ _ = _
        rw [ld_X9_hearings_56]
        unfold md_X9_many
        rw [bd1_s, KQ_0 hk, r.2.1, shl1 P hP, if_neg l2, h5, if_pos ((subr S0 (by omega) s (by omega)).mpr hsub), lt1_r, g1, bd1_s, show ld_X9_hearings_93 FU (ld_X9_hearings_56 FU (n2 + 1 + S0 + m)) FU e w9 (nI c) (lN t) (lN T) (nI s) 1 0 = _ from g2, jj]
        exact f2
    · have hst : s + 1 + m = 2 ^ P - S0 := by omega
      have htt : t ≤ (s + 1) * 1000000 := Nat.le_trans ht (Nat.mul_le_mul_right _ (Nat.le_succ s))
      obtain ⟨t', c3', e9', ht', f1, f2, kf⟩ := hear_both (T := T) (n1 := n1) (n2 := n2) (w9 := w9) hc10 hS r h5 k8 hk8 m (s + 1) t c3 e hst htt (KQ_t hk ke)
      refine ⟨t', c3', e9', ht', ?_, ?_, kf⟩
      · show ld_X8_hearings_36 FU c1 w1 c2 (n1 + 1 + m + 1) _ _ _ _ _ _ _ = _
        rw [ld_X8_hearings_36, if_neg l, if_neg (fun z => hsub ((subc P hP S0 hS s (by omega)).mp z)), nI_1]
        exact f1
      · show ld_X9_hearings_56 FU (n2 + 1 + S0 + m + 1) _ _ _ _ _ _ = _
        rw [ld_X9_hearings_56]
        unfold md_X9_many
        rw [bd1_s, KQ_0 hk, r.2.1, shl1 P hP, if_neg l2, h5, if_neg (fun z => hsub ((subr S0 (by omega) s (by omega)).mp z)), lt1_r, g1, bd1_s]
        have hz : ld_X9_hearings_93 FU (ld_X9_hearings_56 FU (n2 + 1 + S0 + m)) FU e w9 (nI c) (lN t) (lN T) (nI s) 0 0 = jd_X9_hearings_204 FU (ld_X9_hearings_56 FU (n2 + 1 + S0 + m)) e w9 (nI c) (lN t) (lN T) (nI s) (lN 0) := by
          rw [show ld_X9_hearings_93 FU (ld_X9_hearings_56 FU (n2 + 1 + S0 + m)) FU = ld_X9_hearings_93 FU (ld_X9_hearings_56 FU (n2 + 1 + S0 + m)) (q0 + 1) from by rw [← hq0], ld_X9_hearings_93]
          unfold md_X9_many
          rw [bd1_s, if_pos (show lg_cmp (0 : Int64) 0 ≤ 0 by decide)]
          split <;> rfl
        rw [hz, jd204z]
        exact f2
theorem ten5 {n : Nat} {c0 c1 c2 c3 : Nat → Nat → Int32} {w0 w1 : Nat → Nat → Int64} (x4 : Int64) : ∀ k y, k < 100 → ld_X8_hearings_107 FU c1 w1 c2 (n + 1 + k) c0 w0 c3 x4 (lN y) (nI k) = bd1 (md_X8_keepFraction FU c0 w0 x4 (lN (y * 10 ^ k))) (fun wv2 => some ((1 : Int32), c0, wv2, c3))
  | 0, y, h => by
    have l : nI 0 ≤ 0 := by decide
    rw [Nat.add_zero, ld_X8_hearings_107, if_pos l, Nat.pow_zero, Nat.mul_one]
  | k + 1, y, h => by
    have l : ¬ nI (k + 1) ≤ 0 := nI_nle (by omega) (by omega)
    show ld_X8_hearings_107 FU c1 w1 c2 (n + 1 + k + 1) _ _ _ _ _ _ = _
    rw [ld_X8_hearings_107, if_neg l, pk_m1, show (10 : Int64) = lN 10 from rfl, lN_mul, ten5 x4 k (y * 10) (by omega), Nat.pow_succ, Nat.mul_assoc, Nat.mul_comm 10]
theorem ten9 {n U : Nat} {c : Nat → Nat → Int32} {w : Nat → Nat → Int64} (x1 : Int32) (x2 : Int64) (hop : md_X9_open c w = some (nI U)) (hU : U < 64) : ∀ m i y, i + m = pop U → ld_X9_hearings_27 FU (n + 1 + m) c w x1 x2 (lN y) (nI i) = ld_X9_hearings_56 FU FU c w x1 x2 (lN (y * 10 ^ m)) (0 : Int32)
  | 0, i, y, h => by
    have hp := pop_le U hU
    have l : nI (pop U) ≤ nI i := nI_le (by omega) (by omega)
    rw [Nat.add_zero, ld_X9_hearings_27, hop, bd1_s, bits9 U hU, bd1_s, if_pos l, Nat.pow_zero, Nat.mul_one]
  | m + 1, i, y, h => by
    have hp := pop_le U hU
    have l : ¬ nI (pop U) ≤ nI i := nI_ge (by omega) (by omega)
    show ld_X9_hearings_27 FU (n + 1 + m + 1) _ _ _ _ _ _ = _
    rw [ld_X9_hearings_27, hop, bd1_s, bits9 U hU, bd1_s, if_neg l, show (10 : Int64) = lN 10 from rfl, lN_mul, nI_1, ten9 x1 x2 hop hU m (i + 1) (y * 10) (by omega), Nat.pow_succ, Nat.mul_assoc, Nat.mul_comm 10]
theorem call_hearings {c0 c1 c2 c3 c9 : Nat → Nat → Int32} {w0 w1 w9 : Nat → Nat → Int64} (p : Int32) (h : RB c1 w1 c2 (c9 0)) (z1 : w0 6 0 = w9 4 0) (z2 : w0 7 0 = w9 5 0) : ∃ r c0' w0' c3' c9' w9', md_X8_hearings FU c0 w0 c1 w1 c2 c3 p = some (r, c0', w0', c3') ∧ md_X9_hearings FU c9 w9 p = some (r, c9', w9') ∧ c9' 0 = c9 0 ∧ ST c0 c9 c0' c9' ∧ w0' 6 0 = w9' 4 0 ∧ w0' 7 0 = w9' 5 0 := by
  obtain ⟨P, K, E, N, M, r1, r2, r3, r4, r5⟩ := RB_to h
  unfold md_X8_hearings md_X9_hearings
  rw [wi8, in_010, bd1_s, bd1_s]
  rcases b01_c (0 ≤ p ∧ p ≤ 10) with ⟨hb, e⟩ | ⟨hb, e⟩
  · obtain ⟨c, hc, rfl⟩ := nI_b hb (n := 10) (by decide)
    obtain ⟨S, hS, h0, h11⟩ := r1.2.2.1.1
    have hP := r1.1
    have h64 := pow_le6 r1.1
    have hF : FU = 2000000 := rfl
    have hU := un_lt (P := P) (S := S) hP
    have hpop := pop_le _ hU
    have h6 : c2 6 0 = nI S := r1.2.2.2.2.1.2.1.trans h0
    obtain ⟨t, c3', e9', ht, f1, f2, kf⟩ := hear_both (T := 10 ^ pop (2 ^ P - 1 - S)) (n1 := 1999999 - (2 ^ P - S)) (n2 := 1999999 - 2 ^ P) (c0 := c0) (w0 := w0) (w1 := w1) (w9 := w9) hc hS r1 h0 (fun t c3 => bd1 (md_J6_bitCount_0f7a4 (nI (2 ^ P - 1 - S))) (fun r12 => ld_X8_hearings_107 FU c1 w1 c2 FU c0 w0 c3 (lN t) (1 : Int64) r12)) (fun _ _ => rfl) (2 ^ P - S) 0 0 c3 c9 (by omega) (by omega) (KQ_r c9)
    rw [show 1999999 - (2 ^ P - S) + 1 + (2 ^ P - S) = FU from by omega] at f1
    rw [show 1999999 - 2 ^ P + 1 + S + (2 ^ P - S) = FU from by omega] at f2
    have t5 := ten5 (n := 1999999 - pop (2 ^ P - 1 - S)) (c0 := c0) (c1 := c1) (c2 := c2) (c3 := c3') (w0 := w0) (w1 := w1) (lN t) (pop (2 ^ P - 1 - S)) 1 (by omega)
    have t9 := ten9 (n := 1999999 - pop (2 ^ P - 1 - S)) (c := c9) (w := w9) (nI c) (lN 0) (op9 hP hS r1.2.1 h0) hU (pop (2 ^ P - 1 - S)) 0 1 (by omega)
    rw [show 1999999 - pop (2 ^ P - 1 - S) + 1 + pop (2 ^ P - 1 - S) = FU from by omega, Nat.one_mul] at t5 t9
    have hT : 10 ^ pop (2 ^ P - 1 - S) ≤ 10 ^ 6 := Nat.pow_le_pow_right (by omega) hpop
    obtain ⟨x, y, g1, g2⟩ := frac_both (over := t) (under := 10 ^ pop (2 ^ P - 1 - S)) (c0 := c0) (c9 := e9') w0 w9 (by omega) (Nat.pow_pos (by omega)) (by omega)
    refine ⟨1, c0, rs (rs w0 6 (fun _ => x)) 7 (fun _ => y), c3', e9', rs (rs w9 4 (fun _ => x)) 5 (fun _ => y), ?_, ?_, KQ_0 kf, Or.inl ⟨rfl, KQ_KE kf⟩, ?_, ?_⟩
    · rw [e, if10, un5 hP hS r1.2.2.2.2.1.1 h6, bd1_s, show ld_X8_hearings_36 FU c1 w1 c2 FU c0 w0 c3 (nI c) (nI (2 ^ P - 1 - S)) 0 0 = _ from f1, bc64 _ hU, bd1_s, show ld_X8_hearings_107 FU c1 w1 c2 FU c0 w0 c3' (lN t) 1 (nI (pop (2 ^ P - 1 - S))) = _ from t5, g1, bd1_s]
    · rw [e, if10, show ld_X9_hearings_27 FU FU c9 w9 (nI c) 0 1 0 = _ from t9, show ld_X9_hearings_56 FU FU c9 w9 (nI c) (lN 0) (lN (10 ^ pop (2 ^ P - 1 - S))) 0 = _ from f2, g2, bd1_s]
    · rw [rs_n _ _ (by omega), rs_s, rs_n _ _ (by omega), rs_s]
    · rw [rs_s, rs_s]
  · rw [e, if00, if00]
    exact ⟨_, _, _, _, _, _, rfl, rfl, rs_n _ _ (by decide), Or.inr ⟨0, by omega, rfl, rfl⟩, z1, z2⟩
