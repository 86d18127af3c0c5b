-- objecting: whether it may be, and the bow
def spY (d : Nat → Int32) : Int32 := if d 12 = -1 then 0 else if d (1 + ix (d 12)) ≤ 0 then 0 else if d (7 + ix (spW d)) ≤ 0 then 0 else 1
def spBow (d : Nat → Int32) : Nat → Int32 := upd (upd (upd (upd d (7 + ix (spW d)) (d (7 + ix (spW d)) - 1)) (1 + ix (d 12)) (d (1 + ix (d 12)) - 1)) 9 (1 - d 9)) 12 (-1)
theorem spY01 (d : Nat → Int32) : spY d = 0 ∨ spY d = 1 := by
  unfold spY
  split
  · exact Or.inl rfl
  split
  · exact Or.inl rfl
  split
  · exact Or.inl rfl
  · exact Or.inr rfl
theorem nI_m1 {n : Nat} (h : n < 2 ^ 31) : ¬ nI n = -1 := by
  intro e
  have := congrArg Int32.toInt e
  rw [nI_toInt h] at this
  have e2 : (-1 : Int32).toInt = -1 := rfl
  omega
theorem bow7 {d : Nat → Int32} {P : Nat} (ho : OKd P d) (w : Nat) (hw : w < 2) : ∃ b, b < 4 ∧ d (7 + w) = nI b := by
  obtain ⟨-, -, h7, h8, -⟩ := ho
  have : w = 0 ∨ w = 1 := by omega
  rcases this with rfl | rfl
  · exact h7
  · exact h8
theorem ccb {P : Nat} {cc : Nat → Nat → Int32} {d : Nat → Int32} (hd : RCd P cc d) (w : Nat) (hw : w < 2) : cc 1 w = d (7 + w) := by
  obtain ⟨-, -, -, h7, h8, -⟩ := hd
  have : w = 0 ∨ w = 1 := by omega
  rcases this with rfl | rfl
  · exact h7
  · exact h8
theorem may5 {P : Nat} {cc : Nat → Nat → Int32} {d : Nat → Int32} (hP : P ≤ 6) (ho : OKd P d) (hd : RCd P cc d) : md_X3_mayObject cc = some (spY d) := by
  have ho0 := ho
  have hd0 := hd
  obtain ⟨⟨S, hS, h0, h11⟩, -, -, -, -, -, h12, -⟩ := ho
  obtain ⟨c5, c6, c4, -, -, -, -, c9, -⟩ := hd
  have hw := spW_eq hP hS h11
  unfold md_X3_mayObject spY
  rw [c9]
  rcases h12 with h | ⟨o, h1, h⟩
  · rw [h, hp5m, bd1_s, if_pos rfl, if_pos rfl]
  · rw [h, hp5 c5 hP h1, bd1_s, if_neg (by decide), if_neg (nI_m1 (by omega)), if_pos (inb_nI (by omega) (by omega)), ix_nI (by omega), c4 o h1, spk5 hP hS (c6.trans h0), bd1_s, if_pos (inb_nI (by omega) (by omega)), hw, ix_nI (by omega), ccb hd0 _ (by omega)]
    simp only [ite_some]
theorem bow5_0 {P : Nat} {cc : Nat → Nat → Int32} {d : Nat → Int32} (hP : P ≤ 6) (ho : OKd P d) (hd : RCd P cc d) (hy : spY d = 0) : md_X3_bow cc = some cc := by
  unfold md_X3_bow
  rw [may5 hP ho hd, hy, bd1_s, if_pos rfl]
theorem spY1 {d : Nat → Int32} (hy : spY d = 1) : ¬ d 12 = -1 ∧ ¬ d (1 + ix (d 12)) ≤ 0 ∧ ¬ d (7 + ix (spW d)) ≤ 0 := by
  unfold spY at hy
  by_cases h1 : d 12 = -1
  · rw [if_pos h1] at hy; exact absurd hy (by decide)
  · rw [if_neg h1] at hy
    by_cases h2 : d (1 + ix (d 12)) ≤ 0
    · rw [if_pos h2] at hy; exact absurd hy (by decide)
    · rw [if_neg h2] at hy
      by_cases h3 : d (7 + ix (spW d)) ≤ 0
      · rw [if_pos h3] at hy; exact absurd hy (by decide)
      · exact ⟨h1, h2, h3⟩
theorem dec4 {b : Nat} (hb : b < 4) (h : ¬ nI b ≤ 0) : ∃ b', b' < 4 ∧ nI b - 1 = nI b' := by
  have : b ≠ 0 := fun e => by subst e; exact h (by decide)
  refine ⟨b - 1, by omega, ?_⟩
  have h1 : (1 : Int32) = nI 1 := rfl
  rw [h1, pk_sub (by omega)]
theorem bow5 {P : Nat} {cc f : Nat → Nat → Int32} {d : Nat → Int32} (hP : P ≤ 6) (ho : OKd P d) (hd : RCd P cc d) (hf : RCf P cc f) (hy : spY d = 1) : ∃ cc', md_X3_bow cc = some cc' ∧ RCd P cc' (spBow d) ∧ RCf P cc' f := by
  have ho0 := ho
  have hd0 := hd
  obtain ⟨y1, y2, y3⟩ := spY1 hy
  obtain ⟨⟨S, hS, h0, h11⟩, -, -, -, -, -, h12, -⟩ := ho
  obtain ⟨c5, c6, c4, c10, c11, c8, c7, c9, cg⟩ := hd
  have hw := spW_eq hP hS h11
  rcases h12 with h | ⟨o, h1, h⟩
  · exact absurd h y1
  rw [h, ix_nI (by omega)] at y2
  have wl : pop S % 2 < 2 := by omega
  generalize hwq : pop S % 2 = wq at hw wl
  unfold md_X3_bow
  rw [may5 hP ho0 hd0, hy, bd1_s, if_neg (by decide), spk5 hP hS (c6.trans h0), hwq, bd1_s, if_pos (inb_nI wl (by omega)), if_pos (inb_nI wl (by omega)), c9, h, if_pos (inb_nI (by omega) (by omega)), if_pos (inb_nI (by omega) (by omega)), ix_nI (by omega), ix_nI (by omega)]
  unfold spBow
  rw [hw, h, ix_nI (by omega), ix_nI (by omega)]
  have hwc : wq = 0 ∨ wq = 1 := by omega
  refine ⟨_, rfl, ⟨?_, ?_, ?_, ?_, ?_, ?_, ?_, ?_, ?_⟩, ?_, ?_, ?_⟩
  · simp [rs, c5]
  · have e1 : (0 : Nat) ≠ 1 + o := by omega
    have e2 : (0 : Nat) ≠ 7 + wq := by omega
    simp [rs, upd, c6, e1, e2]
  · intro j hj
    have e1 : 1 + j ≠ 12 := by omega
    have e2 : 1 + j ≠ 9 := by omega
    have e3 : 1 + j ≠ 7 + wq := by omega
    by_cases hjo : j = o
    · subst hjo
      simp [rs, upd, e1, e2, c4 j hj]
    · have e4 : 1 + j ≠ 1 + o := by omega
      simp [rs, upd, e1, e2, e3, e4, hjo, c4 j hj]
  · have e1 : (7 : Nat) ≠ 1 + o := by omega
    rcases hwc with rfl | rfl <;> simp [rs, upd, e1, c10]
  · have e1 : (8 : Nat) ≠ 1 + o := by omega
    rcases hwc with rfl | rfl <;> simp [rs, upd, e1, c11]
  · simp [rs, upd, c8]
  · have e1 : (10 : Nat) ≠ 1 + o := by omega
    have e2 : (10 : Nat) ≠ 7 + wq := by omega
    simp [rs, upd, c7, e1, e2]
  · simp [rs, upd]
  · intro j hj
    by_cases hjo : j = o
    · subst hjo
      obtain ⟨g, g1, g2⟩ := cg j hj
      obtain ⟨g', g3, g4⟩ := dec4 g1 (by rw [← g2, c4 j h1]; exact y2)
      exact ⟨g', g3, by simp [rs, upd, g2, g4]⟩
    · obtain ⟨g, g1, g2⟩ := cg j hj
      exact ⟨g, g1, by simp [rs, upd, hjo, g2]⟩
  · intro j hj
    simp [rs, hf.1 j hj]
  · simp [rs, hf.2.1]
  · simp [rs, hf.2.2]
theorem bow_ok {P : Nat} {d : Nat → Int32} (hP : P ≤ 6) (ho : OKd P d) (hy : spY d = 1) : OKd P (spBow d) := by
  have ho0 := ho
  obtain ⟨y1, y2, y3⟩ := spY1 hy
  obtain ⟨⟨S, hS, h0, h11⟩, hg, hb0, hb1, hs, hm, h12, hls⟩ := ho
  have hw := spW_eq hP hS h11
  rcases h12 with h | ⟨o, h1, h⟩
  · exact absurd h y1
  have wl : pop S % 2 < 2 := by omega
  generalize pop S % 2 = wq at hw wl
  rw [h, ix_nI (by omega)] at y2
  rw [hw, ix_nI (by omega)] at y3
  unfold spBow
  rw [hw, h, ix_nI (by omega), ix_nI (by omega)]
  have hwc : wq = 0 ∨ wq = 1 := by omega
  obtain ⟨b, b1, b2⟩ := bow7 ho0 wq wl
  obtain ⟨b', b3, b4⟩ := dec4 b1 (by rw [← b2]; exact y3)
  obtain ⟨g, g1, g2⟩ := hg o h1
  obtain ⟨g', g3, g4⟩ := dec4 g1 (by rw [← g2]; exact y2)
  refine ⟨⟨S, hS, ?_, ?_⟩, ?_, ?_, ?_, ?_, ?_, ?_, ?_⟩
  · have e1 : (0 : Nat) ≠ 1 + o := by omega
    have e2 : (0 : Nat) ≠ 7 + wq := by omega
    simp [upd, e1, e2, h0]
  · have e1 : (11 : Nat) ≠ 1 + o := by omega
    have e2 : (11 : Nat) ≠ 7 + wq := by omega
    simp [upd, e1, e2, h11]
  · intro j hj
    have e1 : 1 + j ≠ 12 := by omega
    have e2 : 1 + j ≠ 9 := by omega
    have e3 : 1 + j ≠ 7 + wq := by omega
    by_cases hjo : j = o
    · subst hjo
      exact ⟨g', g3, by simp [upd, e1, e2, g2, g4]⟩
    · have e4 : 1 + j ≠ 1 + o := by omega
      obtain ⟨z, z1, z2⟩ := hg j hj
      exact ⟨z, z1, by simp [upd, e1, e2, e3, hjo, z2]⟩
  · have e1 : (7 : Nat) ≠ 1 + o := by omega
    rcases hwc with rfl | rfl
    · exact ⟨b', b3, by simp [upd, e1, b2, b4]⟩
    · obtain ⟨z, z1, z2⟩ := hb0
      exact ⟨z, z1, by simp [upd, e1, z2]⟩
  · have e1 : (8 : Nat) ≠ 1 + o := by omega
    rcases hwc with rfl | rfl
    · obtain ⟨z, z1, z2⟩ := hb1
      exact ⟨z, z1, by simp [upd, e1, z2]⟩
    · exact ⟨b', b3, by simp [upd, e1, b2, b4]⟩
  · rcases hs with e | e
    · exact Or.inr (by simp [upd, e])
    · exact Or.inl (by simp [upd, e])
  · have e1 : (10 : Nat) ≠ 1 + o := by omega
    have e2 : (10 : Nat) ≠ 7 + wq := by omega
    simpa [upd, e1, e2] using hm
  · exact Or.inl (by simp [upd])
  · intro T z hT hz t0 t12
    have e12 : upd (upd (upd (upd d (7 + wq) (d (7 + wq) - 1)) (1 + o) (d (1 + o) - 1)) 9 (1 - d 9)) 12 (-1) 12 = -1 := upd_s
    exact absurd (t12.symm.trans e12) (nI_m1 (by omega))
/-- the reference's row as a dynamic block -/
def dyn (a : Nat → Int32) : Nat → Int32 := fun k => a (5 + k)
theorem may9 {P : Nat} {c : Nat → Nat → Int32} {w : Nat → Nat → Int64} (hP : P ≤ 6) (ho : OKd P (dyn (c 0))) : md_X9_may c w = some (spY (dyn (c 0))) := by
  obtain ⟨⟨S, hS, h0, h11⟩, -, -, -, -, -, h12, -⟩ := ho
  have hw := spW_eq hP hS h11
  have e12 : dyn (c 0) 12 = c 0 17 := rfl
  have e11 : dyn (c 0) 11 = c 0 16 := rfl
  unfold md_X9_may spY
  rw [e12] at h12 ⊢
  have h64 := pow_le6 hP
  have hT := pop_le S (by omega)
  rcases h12 with h | ⟨o, h1, h⟩
  · rw [h, if_pos rfl, if_pos rfl]
  · have h6 : (6 : Int32) + nI o = nI (6 + o) := nI_add 6 o
    have h12b : (12 : Int32) + nI (pop S % 2) = nI (12 + pop S % 2) := nI_add 12 _
    rw [e11] at h11
    have d1 : dyn (c 0) (1 + o) = c 0 (6 + o) := by show c 0 (5 + (1 + o)) = _; congr 1; omega
    have d2 : dyn (c 0) (7 + pop S % 2) = c 0 (12 + pop S % 2) := by show c 0 (5 + (7 + pop S % 2)) = _; congr 1; omega
    rw [h, if_neg (nI_m1 (by omega)), if_neg (nI_m1 (by omega)), h6, if_pos (inb_nI (by omega) (by omega)), ix_nI (by omega), ix_nI (by omega), h11, par2 _ (by omega), h12b, if_pos (inb_nI (by omega) (by omega)), ix_nI (by omega), hw, ix_nI (by omega), d1, d2]
    simp only [ite_some]
