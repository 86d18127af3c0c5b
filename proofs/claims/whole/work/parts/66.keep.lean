-- keeping a court, putting it back
def pk6 (S : Nat) (g : Nat → Nat) : Nat := ((((((S * 4 + g 0) * 4 + g 1) * 4 + g 2) * 4 + g 3) * 4 + g 4) * 4 + g 5)
def pkd (S : Nat) (g : Nat → Nat) (b0 b1 s m o : Nat) : Nat := ((((pk6 S g * 4 + b0) * 4 + b1) * 2 + s) * 256 + m) * 8 + o
def PKd (P : Nat) (d : Nat → Int32) (p : Int64) : Prop := ∃ S g b0 b1 s m o, p = nL (pkd S g b0 b1 s m o) ∧ S < 64 ∧ (∀ j, j < 6 → g j < 4) ∧ b0 < 4 ∧ b1 < 4 ∧ s < 2 ∧ m < 256 ∧ o < 8 ∧ d 0 = nI S ∧ (∀ j, j < P → d (1 + j) = nI (g j)) ∧ d 7 = nI b0 ∧ d 8 = nI b1 ∧ d 9 = nI s ∧ d 10 = nI m - 99 ∧ d 12 = nI o - 1
theorem sm2 : ((2 : Int32).toInt64 &&& 63).toBitVec.smod 64 = BitVec.ofNat 64 2 := by decide
theorem sm1 : ((1 : Int32).toInt64 &&& 63).toBitVec.smod 64 = BitVec.ofNat 64 1 := by decide
theorem sm8 : ((8 : Int32).toInt64 &&& 63).toBitVec.smod 64 = BitVec.ofNat 64 8 := by decide
theorem sm3 : ((3 : Int32).toInt64 &&& 63).toBitVec.smod 64 = BitVec.ofNat 64 3 := by decide
theorem keep_step {cc : Nat → Nat → Int32} {n X i g : Nat} (hi : i < 6) (hg : g < 4) (h : cc 4 i = nI g) (hX : X < 2 ^ 40) : ld_X3_keep_8 FU cc (n + 1) (nL X) (nI i) = ld_X3_keep_8 FU cc n (nL (X * 4 + g)) (nI (i + 1)) := by
  have e6 : ¬ (6 : Int32) ≤ nI i := nI_ge (a := i) (b := 6) hi (by omega)
  have e1 : (1 : Int32) = nI 1 := rfl
  rw [ld_X3_keep_8, if_neg e6, if_pos (inb_nI hi (by omega)), lt1_r, ix_nI (by omega), h, nI_L (by omega), shl_or (k := 2) (by omega) sm2 hX (by omega), e1, nI_add]
theorem keep_end {cc : Nat → Nat → Int32} {n X b0 b1 s m o : Nat} (hX : X < 2 ^ 26) (h0 : b0 < 4) (h1 : b1 < 4) (hs : s < 2) (hm : m < 256) (ho : o < 8) (e0 : cc 1 0 = nI b0) (e1 : cc 1 1 = nI b1) (es : cc 8 0 = nI s) (em : cc 7 0 + 99 = nI m) (eo : cc 9 0 + 1 = nI o) : ld_X3_keep_8 FU cc (n + 1) (nL X) (nI 6) = some (nL (((((X * 4 + b0) * 4 + b1) * 2 + s) * 256 + m) * 8 + o)) := by
  have e6 : (6 : Int32) ≤ nI 6 := by decide
  rw [ld_X3_keep_8, if_pos e6]
  simp only [lt1_r]
  rw [e0, e1, es, em, eo, nI_L (by omega), nI_L (by omega), nI_L (by omega), nI_L (by omega), nI_L (by omega), shl_or (k := 2) (by omega) sm2 (by omega) (by omega), shl_or (k := 2) (by omega) sm2 (by omega) (by omega), shl_or (k := 1) (by omega) sm1 (by omega) (by omega), shl_or (k := 8) (by omega) sm8 (by omega) (by omega), shl_or (k := 3) (by omega) sm3 (by omega) (by omega)]
theorem keep_ok {P : Nat} {cc : Nat → Nat → Int32} {d : Nat → Int32} (hP : P ≤ 6) (ho : OKd P d) (hd : RCd P cc d) : ∃ p, md_X3_keep FU cc = some p ∧ PKd P d p := by
  obtain ⟨⟨S, hS, h0, h11⟩, hg, ⟨b0, hb0, eb0⟩, ⟨b1, hb1, eb1⟩, hs, hm, h12, -⟩ := ho
  obtain ⟨c5, c6, c4, c10, c11, c8, c7, c9, cg⟩ := hd
  have h64 := pow_le6 hP
  obtain ⟨g, hgg⟩ : ∃ g : Nat → Nat, ∀ j, j < 6 → g j < 4 ∧ cc 4 j = nI (g j) := by
    refine ⟨fun j => if h : j < 6 then (cg j h).choose else 0, ?_⟩
    intro j hj
    simp only [dif_pos hj]
    exact (cg j hj).choose_spec
  obtain ⟨s, hs1, hs2⟩ : ∃ s, s < 2 ∧ d 9 = nI s := by
    rcases hs with h | h
    · exact ⟨0, by omega, h⟩
    · exact ⟨1, by omega, h⟩
  obtain ⟨m, hm1, hm2⟩ : ∃ m, m < 256 ∧ d 10 + 99 = nI m := by
    refine ⟨((d 10).toInt + 99).toNat, by omega, ?_⟩
    apply Int32.toInt_inj.mp
    have e99 : (99 : Int32).toInt = 99 := rfl
    rw [nI_toInt (by omega), Int32.toInt_add, e99, Int.bmod_eq_of_le (by omega) (by omega)]
    omega
  obtain ⟨o, ho1, ho2⟩ : ∃ o, o < 8 ∧ d 12 + 1 = nI o := by
    rcases h12 with h | ⟨o, h1, h⟩
    · exact ⟨0, by omega, by rw [h]; rfl⟩
    · refine ⟨o + 1, by omega, ?_⟩
      have e1 : (1 : Int32) = nI 1 := rfl
      rw [h, e1, nI_add]
  have g0 := hgg 0 (by omega)
  have g1 := hgg 1 (by omega)
  have g2 := hgg 2 (by omega)
  have g3 := hgg 3 (by omega)
  have g4 := hgg 4 (by omega)
  have g5 := hgg 5 (by omega)
  refine ⟨nL (pkd S g b0 b1 s m o), ?_, S, g, b0, b1, s, m, o, rfl, by omega, fun j hj => (hgg j hj).1, hb0, hb1, hs1, hm1, ho1, h0, ?_, eb0, eb1, hs2, ?_, ?_⟩
  · unfold md_X3_keep
    rw [c6, h0, nI_L (by omega)]
    show ld_X3_keep_8 FU cc (1999993 + 1 + 1 + 1 + 1 + 1 + 1 + 1) _ (nI 0) = _
    rw [keep_step (by omega) g0.1 g0.2 (by omega), keep_step (by omega) g1.1 g1.2 (by omega), keep_step (by omega) g2.1 g2.2 (by omega), keep_step (by omega) g3.1 g3.2 (by omega), keep_step (by omega) g4.1 g4.2 (by omega), keep_step (by omega) g5.1 g5.2 (by omega), keep_end (by omega) hb0 hb1 hs1 hm1 ho1 (c10.trans eb0) (c11.trans eb1) (c8.trans hs2) (by rw [c7, hm2]) (by rw [c9, ho2])]
    rfl
  · intro j hj
    rw [← c4 j hj, (hgg j (by omega)).2]
  · rw [← hm2, Int32.add_sub_cancel]
  · rw [← ho2, Int32.add_sub_cancel]
theorem back_step {F n Y i : Nat} (cc : Nat → Nat → Int32) (hi : i < 6) (hY : Y < 2 ^ 60) : ld_X3_back_83 F (n + 1) cc (nL Y) (nI i) = ld_X3_back_83 F n (rs cc 4 (upd (cc 4) i (nI (Y % 4)))) (nL (Y / 4)) (nI i + (-1)) := by
  have e3 : (3 : Int64) = nL (2 ^ 2 - 1) := rfl
  rw [ld_X3_back_83, if_neg (nI_pos (by omega)), if_pos (inb_nI hi (by omega)), lt1_r, shrL (k := 2) (by omega) sm2 hY, ix_nI (by omega), e3, andL (by omega) hY, nL_I (by omega)]
theorem back_loop (F n : Nat) (cc : Nat → Nat → Int32) {q : Nat} (hq : q < 2 ^ 20) : ld_X3_back_83 F (n + 1 + 1 + 1 + 1 + 1 + 1 + 1) cc (nL q) (5 : Int32) = some (rs (rs (rs (rs (rs (rs (rs cc 4 (upd (cc 4) 5 (nI (q % 4)))) 4 (upd (upd (cc 4) 5 (nI (q % 4))) 4 (nI (q / 4 % 4)))) 4 (upd (upd (upd (cc 4) 5 (nI (q % 4))) 4 (nI (q / 4 % 4))) 3 (nI (q / 4 / 4 % 4)))) 4 (upd (upd (upd (upd (cc 4) 5 (nI (q % 4))) 4 (nI (q / 4 % 4))) 3 (nI (q / 4 / 4 % 4))) 2 (nI (q / 4 / 4 / 4 % 4)))) 4 (upd (upd (upd (upd (upd (cc 4) 5 (nI (q % 4))) 4 (nI (q / 4 % 4))) 3 (nI (q / 4 / 4 % 4))) 2 (nI (q / 4 / 4 / 4 % 4))) 1 (nI (q / 4 / 4 / 4 / 4 % 4)))) 4 (upd (upd (upd (upd (upd (upd (cc 4) 5 (nI (q % 4))) 4 (nI (q / 4 % 4))) 3 (nI (q / 4 / 4 % 4))) 2 (nI (q / 4 / 4 / 4 % 4))) 1 (nI (q / 4 / 4 / 4 / 4 % 4))) 0 (nI (q / 4 / 4 / 4 / 4 / 4 % 4)))) 6 (fun _ => nI (q / 4 / 4 / 4 / 4 / 4 / 4))) := by
  have m5 : nI 5 + (-1 : Int32) = nI 4 := by decide
  have m4 : nI 4 + (-1 : Int32) = nI 3 := by decide
  have m3 : nI 3 + (-1 : Int32) = nI 2 := by decide
  have m2 : nI 2 + (-1 : Int32) = nI 1 := by decide
  have m1 : nI 1 + (-1 : Int32) = nI 0 := by decide
  have m0 : nI 0 + (-1 : Int32) = -1 := by decide
  have e5 : (5 : Int32) = nI 5 := rfl
  rw [e5, back_step _ (by omega) (by omega), m5, back_step _ (by omega) (by omega), m4, back_step _ (by omega) (by omega), m3, back_step _ (by omega) (by omega), m2, back_step _ (by omega) (by omega), m1, back_step _ (by omega) (by omega), m0, ld_X3_back_83, if_pos (by decide), nL_I (by omega)]
  simp only [rs_s]
theorem back_open (F : Nat) (cc : Nat → Nat → Int32) {X : Nat} (xb : X < 2 ^ 60) : md_X3_back F cc (nL X) = ld_X3_back_83 F F (rs (rs (rs (rs cc 1 (upd (upd (cc 1) 1 (nI (X / 8 / 256 / 2 % 4))) 0 (nI (X / 8 / 256 / 2 / 4 % 4)))) 7 (fun _ => nI (X / 8 % 256) - 99)) 8 (fun _ => nI (X / 8 / 256 % 2))) 9 (fun _ => nI (X % 8) - 1)) (nL (X / 8 / 256 / 2 / 4 / 4)) 5 := by
  have e7 : (7 : Int64) = nL (2 ^ 3 - 1) := by decide
  have e255 : (255 : Int64) = nL (2 ^ 8 - 1) := by decide
  have e3 : (3 : Int64) = nL (2 ^ 2 - 1) := by decide
  have e1 : (1 : Int64) = nL (2 ^ 1 - 1) := by decide
  have f1 := shrL (k := 3) (by omega) sm3 xb
  have f2 := shrL (k := 8) (by omega) sm8 (Y := X / 8) (by omega)
  have f3 := shrL (k := 1) (by omega) sm1 (Y := X / 8 / 256) (by omega)
  have f4 := shrL (k := 2) (by omega) sm2 (Y := X / 8 / 256 / 2) (by omega)
  have f5 := shrL (k := 2) (by omega) sm2 (Y := X / 8 / 256 / 2 / 4) (by omega)
  have h1 := andL (k := 3) (by omega) xb
  have h2 := andL (k := 8) (Y := X / 8) (by omega) (by omega)
  have h3 := andL (k := 1) (Y := X / 8 / 256) (by omega) (by omega)
  have h4 := andL (k := 2) (Y := X / 8 / 256 / 2) (by omega) (by omega)
  have h5 := andL (k := 2) (Y := X / 8 / 256 / 2 / 4) (by omega) (by omega)
  rw [← e7] at h1
  rw [← e255] at h2
  rw [← e1] at h3
  rw [← e3] at h4 h5
  have p3 : (2 : Nat) ^ 3 = 8 := by decide
  have p8 : (2 : Nat) ^ 8 = 256 := by decide
  have p1 : (2 : Nat) ^ 1 = 2 := by decide
  have p2 : (2 : Nat) ^ 2 = 4 := by decide
  rw [p3] at f1 h1
  rw [p8] at f2 h2
  rw [p1] at f3 h3
  rw [p2] at f4 f5 h4 h5
  unfold md_X3_back
  simp only [lt1_r, f1, f2, f3, f4, f5, h1, h2, h3, h4, h5]
  rw [nL_I (by omega), nL_I (by omega), nL_I (by omega), nL_I (by omega), nL_I (by omega)]
theorem back_ok {P : Nat} {cc : Nat → Nat → Int32} {d : Nat → Int32} {p : Int64} (hP : P ≤ 6) (hp : PKd P d p) (h5 : cc 5 0 = nI P) : ∃ cc', md_X3_back FU cc p = some cc' ∧ RCd P cc' d ∧ cc' 0 = cc 0 ∧ cc' 2 = cc 2 ∧ cc' 3 = cc 3 ∧ cc' 5 = cc 5 := by
  obtain ⟨S, g, b0, b1, s, m, o, rfl, hS, hg, h0, h1, hs, hm, ho, d0, dg, d7, d8, d9, d10, d12⟩ := hp
  have g0 := hg 0 (by omega)
  have g1 := hg 1 (by omega)
  have g2 := hg 2 (by omega)
  have g3 := hg 3 (by omega)
  have g4 := hg 4 (by omega)
  have g5 := hg 5 (by omega)
  have E : ∀ X : Nat, X = pkd S g b0 b1 s m o → X < 2 ^ 60 ∧ X % 8 = o ∧ X / 8 % 256 = m ∧ X / 8 / 256 % 2 = s ∧ X / 8 / 256 / 2 % 4 = b1 ∧ X / 8 / 256 / 2 / 4 % 4 = b0 ∧ X / 8 / 256 / 2 / 4 / 4 = pk6 S g := by
    intro X hX
    have hq : pk6 S g < 2 ^ 20 := by unfold pk6; omega
    unfold pkd at hX
    generalize pk6 S g = q at hX hq
    omega
  have E2 : ∀ q : Nat, q = pk6 S g → q < 2 ^ 20 ∧ q % 4 = g 5 ∧ q / 4 % 4 = g 4 ∧ q / 4 / 4 % 4 = g 3 ∧ q / 4 / 4 / 4 % 4 = g 2 ∧ q / 4 / 4 / 4 / 4 % 4 = g 1 ∧ q / 4 / 4 / 4 / 4 / 4 % 4 = g 0 ∧ q / 4 / 4 / 4 / 4 / 4 / 4 = S := by
    intro q hq
    unfold pk6 at hq
    omega
  generalize hX : pkd S g b0 b1 s m o = X
  obtain ⟨xb, x1, x2, x3, x4, x5, x6⟩ := E X hX.symm
  generalize hq : pk6 S g = q at x6
  obtain ⟨qb, q1, q2, q3, q4, q5, q6, q7⟩ := E2 q hq.symm
  obtain ⟨N, hN⟩ : ∃ N, FU = N + 1 + 1 + 1 + 1 + 1 + 1 + 1 := ⟨1999993, by decide⟩
  rw [hN, back_open _ _ xb, x1, x2, x3, x4, x5, x6]
  have hl := back_loop (N + 1 + 1 + 1 + 1 + 1 + 1 + 1) N (rs (rs (rs (rs cc 1 (upd (upd (cc 1) 1 (nI b1)) 0 (nI b0))) 7 (fun _ => nI m - 99)) 8 (fun _ => nI s)) 9 (fun _ => nI o - 1)) qb
  rw [q1, q2, q3, q4, q5, q6, q7] at hl
  refine ⟨_, hl, ?_⟩
  refine ⟨⟨?_, ?_, ?_, ?_, ?_, ?_, ?_, ?_, ?_⟩, ?_, ?_, ?_, ?_⟩
  · simp [rs, h5]
  · simp [rs, d0]
  · intro j hj
    have : j = 0 ∨ j = 1 ∨ j = 2 ∨ j = 3 ∨ j = 4 ∨ j = 5 := by omega
    rcases this with rfl | rfl | rfl | rfl | rfl | rfl <;> simp [rs, upd, dg _ hj]
  · simp [rs, upd, d7]
  · simp [rs, upd, d8]
  · simp [rs, d9]
  · simp [rs, d10]
  · simp [rs, d12]
  · intro j hj
    have : j = 0 ∨ j = 1 ∨ j = 2 ∨ j = 3 ∨ j = 4 ∨ j = 5 := by omega
    rcases this with rfl | rfl | rfl | rfl | rfl | rfl <;> exact ⟨g _, hg _ (by omega), by simp [rs, upd]⟩
  · simp [rs]
  · simp [rs]
  · simp [rs]
  · simp [rs]
