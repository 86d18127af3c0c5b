-- the call: proof
def saD (f : Nat → Nat → Int32) (s : Nat) : Nat → Nat → (Nat → Int32) → (Nat → Int32)
  | _, 0, d => d
  | i, m + 1, d => if s.testBit i = true then saD f s (i + 1) m (spSay f d (nI i)) else saD f s (i + 1) m d
theorem saD_t {f : Nat → Nat → Int32} {s i m : Nat} {d : Nat → Int32} (h : s.testBit i = true) : saD f s i (m + 1) d = saD f s (i + 1) m (spSay f d (nI i)) := if_pos h
theorem saD_f {f : Nat → Nat → Int32} {s i m : Nat} {d : Nat → Int32} (h : ¬ s.testBit i = true) : saD f s i (m + 1) d = saD f s (i + 1) m d := if_neg h
theorem saD_end {f : Nat → Nat → Int32} {P s : Nat} (hP : P ≤ 6) (hs : s < 2 ^ P) : ∀ m i d, i + m = 6 → P ≤ i → saD f s i m d = d
  | 0, i, d, h, hi => rfl
  | m + 1, i, d, h, hi => by
    rw [saD_f (fun z => by have := tb_lt P hP s hs i (by omega) z; omega)]
    exact saD_end hP hs m (i + 1) d (by omega) (by omega)
theorem sa5 {f : Nat → Nat → Int32} {P S0 s n : Nat} {a : Nat → Int32} (hP : P ≤ 6) (hs : s < 2 ^ P) (hsub : s &&& S0 = 0) : ∀ m i d cc, i + m = 6 → LI P S0 a i d → CT P cc f d → ∃ cc', ld_X4_speakAll_2 FU (n + 1 + m) cc (nI s) (nI i) = some cc' ∧ CT P cc' f (saD f s i m d)
  | 0, i, d, cc, h, hl, hc => by
    have : i = 6 := by omega
    subst this
    have l : (6 : Int32) ≤ nI 6 := by decide
    exact ⟨cc, by rw [Nat.add_zero, ld_X4_speakAll_2, if_pos l], hc⟩
  | m + 1, i, d, cc, h, hl, hc => by
    have h64 := pow_le6 hP
    have l : ¬ (6 : Int32) ≤ nI i := nI_ge (b := 6) (by omega) (by omega)
    by_cases ht : s.testBit i = true
    · have hi := tb_lt P hP s hs i (by omega) ht
      obtain ⟨c1, e1, h1⟩ := CT_say hP hl.1 hc hi
      obtain ⟨cc', e2, h2⟩ := sa5 (n := n) hP hs hsub m (i + 1) _ c1 (by omega) (LI_say (f := f) hP hl hi (sub_tb hsub ht)) h1
      refine ⟨cc', ?_, ?_⟩
      · show ld_X4_speakAll_2 FU (n + 1 + m + 1) _ _ _ = _
        rw [ld_X4_speakAll_2, if_neg l, has8t (by omega) (by omega) ht, bd1_s, if10, e1, bd1_s, nI_1]
        exact e2
      · rw [saD_t ht]
        exact h2
    · obtain ⟨cc', e2, h2⟩ := sa5 (n := n) hP hs hsub m (i + 1) d cc (by omega) (LI_up hl) hc
      refine ⟨cc', ?_, ?_⟩
      · show ld_X4_speakAll_2 FU (n + 1 + m + 1) _ _ _ = _
        rw [ld_X4_speakAll_2, if_neg l, has8f (by omega) (by omega) ht, bd1_s, if00, nI_1]
        exact e2
      · rw [saD_f ht]
        exact h2
/-- which is best now, the merit being x -/
def bst (c x b s : Int32) : Int32 := if c = 0 then (if x ≤ 0 then b else s) else (if 0 ≤ x then b else s)
theorem bst9 {c x b s : Int32} (hc : c = 0 ∨ c = 1) : (if c = 0 then (if 0 < x then s else (if c = (1 : Int32) then (if 0 ≤ x then b else s) else b)) else (if c = (1 : Int32) then (if 0 ≤ x then b else s) else b)) = bst c x b s := by
  unfold bst
  rcases hc with rfl | rfl
  · rw [if_pos rfl, if_pos rfl, if_neg (show ¬ (0 : Int32) = 1 by decide)]
    by_cases h : x ≤ 0
    · rw [if_pos h, if_neg (fun z => absurd h (by rw [Int32.le_iff_toInt_le, Int32.toInt_zero]; rw [Int32.lt_iff_toInt_lt, Int32.toInt_zero] at z; omega))]
    · rw [if_neg h, if_pos (by rw [Int32.le_iff_toInt_le, Int32.toInt_zero] at h; rw [Int32.lt_iff_toInt_lt, Int32.toInt_zero]; omega)]
  · rw [if_neg ne10, if_neg ne10, if_pos rfl]
theorem sa9 {f : Nat → Nat → Int32} {P S0 s n : Nat} {a : Nat → Int32} {w : Nat → Nat → Int64} {k21 : (Nat → Nat → Int32) → Int32 → Int32 → Int32 → Option (Int32 × (Nat → Nat → Int32))} {c : Int32} (b : Int32) (hc : c = 0 ∨ c = 1) (hP : P ≤ 6) (hs : s < 2 ^ P) (hsub : s &&& S0 = 0) (hx : FXd P f) : ∀ m i d e, i + m = 6 → i ≤ P → LI P S0 a i d → QQ e d → RQ P S0 f a e → ∃ e', ld_X9_proof_77 FU w k21 (n + 1 + m) e c b (nI s) (nI i) = k21 e' c (bst c (saD f s i m d 10) b (nI s)) (nI (s + 1)) ∧ KQ e e'
  | m, i, d, e, h, hiP, hl, hq, hr => by
    have h64 := pow_le6 hP
    rcases Nat.lt_or_ge i P with hi | hi
    · obtain ⟨m, rfl⟩ : ∃ m', m = m' + 1 := ⟨m - 1, by omega⟩
      have l : ¬ nI P ≤ nI i := nI_ge hi (by omega)
      by_cases ht : s.testBit i = true
      · obtain ⟨c1, e1, q1, k1⟩ := QQ_say (w := w) hP hl.1 hx hr.2.2.1 hq hi
        obtain ⟨e', e3, k3⟩ := sa9 (n := n) (w := w) (k21 := k21) b hc hP hs hsub hx m (i + 1) _ c1 (by omega) (by omega) (LI_say (f := f) hP hl hi (sub_tb hsub ht)) q1 (RQ_K hr k1)
        refine ⟨e', ?_, KQ_t k1 k3⟩
        show ld_X9_proof_77 FU w k21 (n + 1 + m + 1) _ _ _ _ _ = _
        rw [saD_t ht, ld_X9_proof_77]
        unfold md_X9_many
        rw [bd1_s, hr.1, if_neg l, has9t (by omega) (by omega) ht, bd1_s, if10, e1, bd1_s, nI_1]
        exact e3
      · obtain ⟨e', e3, k3⟩ := sa9 (n := n) (w := w) (k21 := k21) b hc hP hs hsub hx m (i + 1) d e (by omega) (by omega) (LI_up hl) hq hr
        refine ⟨e', ?_, k3⟩
        show ld_X9_proof_77 FU w k21 (n + 1 + m + 1) _ _ _ _ _ = _
        rw [saD_f ht, ld_X9_proof_77]
        unfold md_X9_many
        rw [bd1_s, hr.1, if_neg l, has9f (by omega) (by omega) ht, bd1_s, if00, nI_1]
        exact e3
    · have : i = P := by omega
      subst this
      have l : nI i ≤ nI i := Int32.le_refl _
      refine ⟨e, ?_, KQ_r e⟩
      rw [saD_end hP hs m i d h hi, show n + 1 + m = n + m + 1 from by omega, ld_X9_proof_77]
      unfold md_X9_many
      rw [bd1_s, hr.1, if_pos l, lt1_r, hq.2.1, bst9 hc, nI_1]
  termination_by m => m
/-- none yet, or a set -/
def BB (b : Int32) : Prop := b = -1 ∨ ∃ s, s < 64 ∧ b = nI s
theorem BB_bst {c x b : Int32} {s : Nat} (hs : s < 64) (h : BB b) : BB (bst c x b (nI s)) := by
  unfold bst
  split
  · split
    · exact h
    · exact Or.inr ⟨s, hs, rfl⟩
  · split
    · exact h
    · exact Or.inr ⟨s, hs, rfl⟩
theorem proof_both {P S0 n1 n2 : Nat} {c9 : Nat → Nat → Int32} {w9 : Nat → Nat → Int64} {p0 : Int64} {c : Int32} (hc : c = 0 ∨ c = 1) (hS : S0 < 2 ^ P) (hP : P ≤ 6) (a0 : c9 0 0 = nI P) (ho : OKd P (dyn (c9 0))) (hx : FXd P (fxd (c9 0))) (h5 : c9 0 5 = nI S0) (hp0 : PKd P (dyn (c9 0)) p0) : ∀ m s b cc e9, s + m = 2 ^ P - S0 → BB b → (∃ d, CT P cc (fxd (c9 0)) d) → KQ c9 e9 → ∃ y cc' e9', ld_X4_proofFor_17 FU (n1 + 1 + m) cc c p0 (nI (2 ^ P - 1 - S0)) b (nI s) = some (y, cc') ∧ ld_X9_proof_21 FU w9 (n2 + 1 + S0 + m) e9 c b (nI s) = some (y, e9') ∧ KQ c9 e9'
  | 0, s, b, cc, e9, h, hb, hcc, hk => by
    have h64 := pow_le6 hP
    have hpp := pow_pos2 P
    have l : nI (2 ^ P - 1 - S0) < nI s := nI_lt (by omega) (by omega)
    have hend : ∀ z u, u + z = 2 ^ P → 2 ^ P - 1 - S0 < u → ld_X9_proof_21 FU w9 (n2 + 1 + z) e9 c b (nI u) = some (b, e9) := by
      intro z
      induction z with
      | zero =>
        intro u hu1 hu2
        have : u = 2 ^ P := by omega
        subst this
        have l2 : nI (2 ^ P) ≤ nI (2 ^ P) := Int32.le_refl _
        rw [Nat.add_zero]
        unfold ld_X9_proof_21 md_X9_many
        rw [bd1_s, KQ_0 hk, a0, shl1 P hP, if_pos l2]
      | succ z ih =>
        intro u hu1 hu2
        have l2 : ¬ nI (2 ^ P) ≤ nI u := nI_ge (by omega) (by omega)
        have nsub : ¬ (nI u &&& nI S0) = 0 := fun z => sub_gt P hP S0 hS u (by omega) hu2 ((subr S0 (by omega) u (by omega)).mp z)
        have ih' := ih (u + 1) (by omega) (by omega)
        show ld_X9_proof_21 FU w9 (n2 + 1 + z + 1) _ _ _ _ = _
        rw [ld_X9_proof_21]
        unfold md_X9_many jd_X9_proof_52
        rw [bd1_s, KQ_0 hk, a0, shl1 P hP, if_neg l2, h5, if_neg nsub, if_neg nsub, nI_1, ih']
        rcases hb with rfl | ⟨s', hs', rfl⟩
        · rw [if_pos rfl]
        · rw [if_neg (nI_m1 (by omega)), bits9 u (by omega), bd1_s, bits9 s' hs', bd1_s]
          split <;> rfl
    refine ⟨b, cc, e9, ?_, hend S0 s (by omega) (by omega), hk⟩
    rw [Nat.add_zero, ld_X4_proofFor_17, if_pos l]
  | m + 1, s, b, cc, e9, h, hb, hcc, hk => by
    have h64 := pow_le6 hP
    have hpp := pow_pos2 P
    have l : ¬ nI (2 ^ P - 1 - S0) < nI s := nI_nlt (by omega) (by omega)
    have l2 : ¬ nI (2 ^ P) ≤ nI s := nI_ge (by omega) (by omega)
    obtain ⟨q, hq⟩ : ∃ q, FU = q + 1 + 6 := ⟨1999993, by decide⟩
    by_cases hsub : s &&& S0 = 0
    · have ysub : (nI s &&& nI S0) = 0 := (subr S0 (by omega) s (by omega)).mpr hsub
      have ysub5 := (subc P hP S0 hS s (by omega)).mpr hsub
      by_cases hf : b = -1 ∨ ∃ s', s' < 64 ∧ b = nI s' ∧ pop s < pop s'
      · -- tried
        obtain ⟨d0, ct0⟩ := hcc
        obtain ⟨c1, e1, r1, z0, z2, z3, z5⟩ := back_ok hP hp0 ct0.1.1
        have ct1 : CT P c1 (fxd (c9 0)) (dyn (c9 0)) := by
          refine ⟨r1, fun j hj => ?_, ?_, ?_⟩
          · rw [z2, z3]; exact ct0.2.1 j hj
          · rw [z0]; exact ct0.2.2.1
          · rw [z0]; exact ct0.2.2.2
        have li := LI_0 ho hS (show dyn (c9 0) 0 = nI S0 from h5)
        obtain ⟨c2, e2, ct2⟩ := sa5 (n := q) hP (by omega : s < 2 ^ P) hsub 6 0 _ c1 (by omega) li ct1
        obtain ⟨e, g1, qe1, ke⟩ := lay9n e9 w9
        rw [KQ_0 hk] at qe1
        have rq : RQ P S0 (fxd (c9 0)) (dyn (c9 0)) e := RQ_K (RQ_0 (c := c9) a0 h5) (KQ_t hk ke)
        obtain ⟨e', g2, ke'⟩ := sa9 (n := q) (w := w9) (k21 := ld_X9_proof_21 FU w9 (n2 + 1 + S0 + m)) b hc hP (by omega : s < 2 ^ P) hsub hx 6 0 _ e (by omega) (by omega) li qe1 rq
        rw [← hq] at e2 g2
        have hk' : KQ c9 e' := KQ_t hk (KQ_t ke ke')
        obtain ⟨y, cc', e9', f1, f2, kf⟩ := proof_both (n1 := n1) (n2 := n2) (w9 := w9) hc hS hP a0 ho hx h5 hp0 m (s + 1) (bst c (saD (fxd (c9 0)) s 0 6 (dyn (c9 0)) 10) b (nI s)) c2 e' (by omega) (BB_bst (by omega) hb) ⟨_, ct2⟩ hk'
        have c7 : c2 7 0 = saD (fxd (c9 0)) s 0 6 (dyn (c9 0)) 10 := ct2.1.2.2.2.2.2.2.1
        have J5 : jd_X4_proofFor_53 FU (ld_X4_proofFor_17 FU (n1 + 1 + m)) cc c p0 (nI (2 ^ P - 1 - S0)) b (nI s) = some (y, cc') := by
          unfold jd_X4_proofFor_53 md_X4_speakAll
          rw [e1, bd1_s, show ld_X4_speakAll_2 FU FU c1 (nI s) 0 = some c2 from e2, bd1_s, c7, nI_1, ← f1]
          unfold bst
          by_cases h0 : c = 0
          · rw [if_pos h0, if_pos h0]
            split <;> rfl
          · rw [if_neg h0, if_neg h0]
            split <;> rfl
        have J9 : jd_X9_proof_52 FU w9 (ld_X9_proof_21 FU w9 (n2 + 1 + S0 + m)) e9 c b (nI s) 1 = some (y, e9') := by
          unfold jd_X9_proof_52
          rw [KQ_0 hk, h5, if_pos ysub, if10, g1, bd1_s, show ld_X9_proof_77 FU w9 (ld_X9_proof_21 FU w9 (n2 + 1 + S0 + m)) FU e c b (nI s) 0 = _ from g2]
          exact f2
        refine ⟨y, cc', e9', ?_, ?_, kf⟩
        · show ld_X4_proofFor_17 FU (n1 + 1 + m + 1) _ _ _ _ _ _ = _
          rw [ld_X4_proofFor_17, if_neg l, if_pos ysub5]
          rcases hf with rfl | ⟨s', hs', rfl, hlt⟩
          · rw [if_pos rfl]
            exact J5
          · have := pop_le s' hs'
            rw [if_neg (nI_m1 (by omega)), bc64 s (by omega), bd1_s, bc64 s' hs', bd1_s, if_neg (nI_ge hlt (by omega))]
            exact J5
        · show ld_X9_proof_21 FU w9 (n2 + 1 + S0 + m + 1) _ _ _ _ = _
          rw [ld_X9_proof_21]
          unfold md_X9_many
          rw [bd1_s, KQ_0 hk, a0, shl1 P hP, if_neg l2]
          rcases hf with rfl | ⟨s', hs', rfl, hlt⟩
          · rw [if_pos rfl]
            exact J9
          · have := pop_le s' hs'
            rw [if_neg (nI_m1 (by omega)), bits9 s (by omega), bd1_s, bits9 s' hs', bd1_s, if_neg (nI_ge hlt (by omega))]
            exact J9
      · -- not fewer
        rcases hb with hb | ⟨s', hs', rfl⟩
        · exact absurd (Or.inl hb) hf
        · have hlt : pop s' ≤ pop s := by
            rcases Nat.lt_or_ge (pop s) (pop s') with z | z
            · exact absurd (Or.inr ⟨s', hs', rfl, z⟩) hf
            · exact z
          have := pop_le s (by omega)
          obtain ⟨y, cc', e9', f1, f2, kf⟩ := proof_both (n1 := n1) (n2 := n2) (w9 := w9) hc hS hP a0 ho hx h5 hp0 m (s + 1) (nI s') cc e9 (by omega) (Or.inr ⟨s', hs', rfl⟩) hcc hk
          refine ⟨y, cc', e9', ?_, ?_, kf⟩
          · show ld_X4_proofFor_17 FU (n1 + 1 + m + 1) _ _ _ _ _ _ = _
            rw [ld_X4_proofFor_17, if_neg l, if_pos ysub5, if_neg (nI_m1 (by omega)), bc64 s (by omega), bd1_s, bc64 s' hs', bd1_s, if_pos (nI_le hlt (by omega)), nI_1]
            exact f1
          · show ld_X9_proof_21 FU w9 (n2 + 1 + S0 + m + 1) _ _ _ _ = _
            rw [ld_X9_proof_21]
            unfold md_X9_many jd_X9_proof_52
            rw [bd1_s, KQ_0 hk, a0, shl1 P hP, if_neg l2, if_neg (nI_m1 (by omega)), bits9 s (by omega), bd1_s, bits9 s' hs', bd1_s, if_pos (nI_le hlt (by omega)), h5, if_pos ysub, if00, nI_1]
            exact f2
    · have nsub : ¬ (nI s &&& nI S0) = 0 := fun z => hsub ((subr S0 (by omega) s (by omega)).mp z)
      obtain ⟨y, cc', e9', f1, f2, kf⟩ := proof_both (n1 := n1) (n2 := n2) (w9 := w9) hc hS hP a0 ho hx h5 hp0 m (s + 1) b cc e9 (by omega) hb hcc hk
      refine ⟨y, cc', e9', ?_, ?_, kf⟩
      · show ld_X4_proofFor_17 FU (n1 + 1 + m + 1) _ _ _ _ _ _ = _
        rw [ld_X4_proofFor_17, if_neg l, if_neg (fun z => hsub ((subc P hP S0 hS s (by omega)).mp z)), nI_1]
        exact f1
      · show ld_X9_proof_21 FU w9 (n2 + 1 + S0 + m + 1) _ _ _ _ = _
        rw [ld_X9_proof_21]
        unfold md_X9_many jd_X9_proof_52
        rw [bd1_s, KQ_0 hk, a0, shl1 P hP, if_neg l2, h5, if_neg nsub, if_neg nsub, nI_1, f2]
        rcases hb with rfl | ⟨s', hs', rfl⟩
        · rw [if_pos rfl]
        · rw [if_neg (nI_m1 (by omega)), bits9 s (by omega), bd1_s, bits9 s' hs', bd1_s]
          split <;> rfl
theorem call_proof {c0 c1 c2 c3 c9 : Nat → Nat → Int32} {w0 w1 w9 : Nat → Nat → Int64} (p : Int32) (h : RB c1 w1 c2 (c9 0)) : ∃ r c0' c3' c9', md_X8_proof FU c0 w0 c1 w1 c2 c3 p = some (r, c0', c3') ∧ md_X9_proof FU c9 w9 p = some (r, c9') ∧ c9' 0 = c9 0 ∧ ST c0 c9 c0' c9' := by
  obtain ⟨P, K, E, N, M, r1, r2, r3, r4, r5⟩ := RB_to h
  unfold md_X8_proof md_X9_proof
  rw [ch8, in_01, bd1_s, bd1_s]
  rcases b01_c (0 ≤ p ∧ p ≤ 1) with ⟨hb, e⟩ | ⟨hb, e⟩
  · obtain ⟨S, hS, h0, h11⟩ := r1.2.2.1.1
    have hP := r1.1
    have h64 := pow_le6 r1.1
    have hF : FU = 2000000 := rfl
    obtain ⟨cc, e1, ce⟩ := copy5 c2 c3
    have s1 := CE_R1 ce r1
    have h6 : cc 6 0 = nI S := s1.2.2.2.2.1.2.1.trans h0
    obtain ⟨p0, g1, g2⟩ := keep_ok hP s1.2.2.1 s1.2.2.2.2.1
    obtain ⟨y, cc', e9', f1, f2, kf⟩ := proof_both (n1 := 1999999 - (2 ^ P - S)) (n2 := 1999999 - 2 ^ P) (w9 := w9) (two p hb) hS hP r1.2.1 r1.2.2.1 r1.2.2.2.1 h0 g2 (2 ^ P - S) 0 (-1) cc c9 (by omega) (Or.inl rfl) ⟨_, s1.2.2.2.2.1, s1.2.2.2.2.2⟩ (KQ_r c9)
    rw [show 1999999 - (2 ^ P - S) + 1 + (2 ^ P - S) = FU from by omega] at f1
    rw [show 1999999 - 2 ^ P + 1 + S + (2 ^ P - S) = FU from by omega] at f2
    unfold md_X4_proofFor
    rw [e, if10, if10, e1, bd1_s, g1, bd1_s, un5 hP hS s1.2.2.2.2.1.1 h6, bd1_s, show ld_X4_proofFor_17 FU FU cc p p0 (nI (2 ^ P - 1 - S)) (-1) 0 = _ from f1, bd2_s]
    exact ⟨y, c0, cc', e9', rfl, f2, KQ_0 kf, Or.inl ⟨rfl, KQ_KE kf⟩⟩
  · rw [e, if00, if00]
    exact ⟨_, _, _, _, rfl, rfl, rs_n _ _ (by decide), Or.inr ⟨0, by omega, rfl, rfl⟩⟩
