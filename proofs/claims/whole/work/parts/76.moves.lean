-- the calls that only look: moves, now
/-- the reading parts of RB -/
theorem RB_get {c cc : Nat → Nat → Int32} {w : Nat → Nat → Int64} {a : Nat → Int32} (h : RB c w cc a) : ∃ P S, P ≤ 6 ∧ S < 2 ^ P ∧ a 0 = nI P ∧ OKd P (dyn a) ∧ FXd P (fxd a) ∧ RCd P cc (dyn a) ∧ RCf P cc (fxd a) ∧ a 5 = nI S ∧ cc 6 0 = nI S ∧ a 16 = nI (pop S) := by
  obtain ⟨P, K, E, N, M, ⟨hP, a0, ho, hx, hd, hf⟩, -⟩ := h
  have ho2 := ho
  obtain ⟨⟨S, hS, h0, h11⟩, -⟩ := ho2
  exact ⟨P, S, hP, hS, a0, ho, hx, hd, hf, h0, hd.2.1.trans h0, h11⟩
theorem call_moves {c0 c1 c2 c9 : Nat → Nat → Int32} {w0 w1 w9 : Nat → Nat → Int64} (p : Int32) (h : RB c1 w1 c2 (c9 0)) : ∃ r c0' c9', md_X8_moves c0 w0 c1 w1 c2 p = some (r, c0') ∧ md_X9_moves c9 w9 p = some (r, c9') ∧ c9' 0 = c9 0 ∧ SR c0 c9 c0' c9' := by
  obtain ⟨P, S, hP, hS, a0, ho, hx, hd, hf, h5, h6, h16⟩ := RB_get h
  have h64 := pow_le6 hP
  unfold md_X8_moves md_X9_moves
  rw [hpA p hP hd.1, ipA p a0, bd1_s, bd1_s]
  by_cases hp : 0 ≤ p ∧ p ≤ nI P - 1
  · obtain ⟨k, hk, rfl⟩ := pt_of hP hp
    have b1 : b01 (0 ≤ nI k ∧ nI k ≤ nI P - 1) = 1 := if_pos hp
    rw [b1, if_neg (by decide), if_neg (by decide), h6, h5, has8 S (by omega) k (by omega), has9 S (by omega) k (by omega), bd1_s, bd1_s]
    by_cases hb : S.testBit k = true
    · rw [if_pos hb, if_neg (by decide), if_neg (by decide)]
      exact ⟨_, _, _, rfl, rfl, rs_n _ _ (by decide), Or.inr ⟨1, by omega, rfl, rfl⟩⟩
    · have hpop := pop_le S (by omega)
      have hcb := cb9 (P := P) (k := k) (T := pop S) (c := c9) (f := fxd (c9 0)) (w := w9) (s := c9 0 14) (e := c9 0 15) hP hx (fxd_RRf P _) hk (by omega)
      rw [if_neg hb, if_pos rfl, if_pos rfl, cnt5 hP ho hd hf hk, bd1_s, h16, hcb, bd1_s]
      refine ⟨_, _, c9, rfl, ?_, rfl, Or.inl ⟨rfl, fun _ _ => rfl⟩⟩
      rw [spC_cx, ← h16]
      rfl
  · have b0 : b01 (0 ≤ p ∧ p ≤ nI P - 1) = 0 := if_neg hp
    rw [b0, if_pos rfl, if_pos rfl]
    exact ⟨_, _, _, rfl, rfl, rs_n _ _ (by decide), Or.inr ⟨0, by omega, rfl, rfl⟩⟩
