-- the call: objects
def bowrow (a : Nat → Int32) (w o : Nat) : Nat → Int32 := upd (upd (upd (upd a (12 + w) (a (12 + w) - 1)) (6 + o) ((upd a (12 + w) (a (12 + w) - 1)) (6 + o) - 1)) 14 (1 - (upd (upd a (12 + w) (a (12 + w) - 1)) (6 + o) ((upd a (12 + w) (a (12 + w) - 1)) (6 + o) - 1)) 14)) 17 (-1)
theorem call_objects {c0 c1 c2 c9 : Nat → Nat → Int32} {w0 w1 w9 : Nat → Nat → Int64} (h : RB c1 w1 c2 (c9 0)) : ∃ r c0' c1' w1' c2' c9', md_X8_objects FU c0 w0 c1 w1 c2 = some (r, c0', c1', w1', c2') ∧ md_X9_objects FU c9 w9 = some (r, c9') ∧ RB c1' w1' c2' (c9' 0) ∧ SR c0 c9 c0' c9' := by
  obtain ⟨P, K, c', w', hP, hK, a0, a4, ho, hx, hd, hf, hr, hq⟩ := RB_sv h
  have h64 := pow_le6 hP
  unfold md_X8_objects md_X9_objects
  rw [may5 hP ho hd, may9 hP ho, bd1_s, bd1_s]
  rcases spY01 (dyn (c9 0)) with hy | hy
  · rw [hy, if_pos rfl, if_pos rfl]
    exact ⟨_, _, _, _, _, _, rfl, rfl, h, Or.inr ⟨1, by omega, rfl, rfl⟩⟩
  · obtain ⟨cc', s1, s2, s3⟩ := bow5 hP ho hd hf hy
    have ok := bow_ok hP ho hy
    have ho0 := ho
    obtain ⟨⟨S, hS, h0, h11⟩, -, -, -, -, -, h12, -⟩ := ho
    have hw := spW_eq hP hS h11
    obtain ⟨y1, -, -⟩ := spY1 hy
    rcases h12 with h12 | ⟨o, ho1, h12⟩
    · exact absurd h12 y1
    have lo : ∀ x, x < 90 → x ≠ 4 → sv9 (c9 0) K x = c9 0 x := fun x x1 x2 => sv9_lo hK x1 x2
    have hpop := pop_le S (by omega)
    have l16 : sv9 (c9 0) K 16 = nI (pop S) := by rw [lo 16 (by omega) (by omega)]; exact h11
    have l17 : sv9 (c9 0) K 17 = nI o := by rw [lo 17 (by omega) (by omega)]; exact h12
    have wl : pop S % 2 < 2 := by omega
    have e12 : (12 : Int32) + nI (pop S % 2) = nI (12 + pop S % 2) := nI_add 12 _
    have e6 : (6 : Int32) + nI o = nI (6 + o) := nI_add 6 _
    rw [hy, if_neg (by decide), if_neg (by decide), hr, bd2_s, s1, bd1_s, save9 c9 w9 hK a4, bd1_s]
    simp only [rs_s, l16, par2 _ (show pop S < 7 by omega), e12, ix_nI (show 12 + pop S % 2 < 2 ^ 31 by omega), lt1_r]
    generalize pop S % 2 = wq at *
    rw [if_pos (inb_nI (by omega) (by omega)), if_pos (inb_nI (by omega) (by omega)), upd_n (k := 12 + wq) (j := 17) (by omega), l17, e6, ix_nI (by omega), if_pos (inb_nI (by omega) (by omega)), if_pos (inb_nI (by omega) (by omega))]
    have hy2 : ∀ j, j < 13 → dyn (bowrow (sv9 (c9 0) K) wq o) j = spBow (dyn (c9 0)) j := by
      intro j hj
      have e := lo (5 + j)
      have d12 : dyn (c9 0) 12 = nI o := h12
      have t1 : ix (nI wq) = wq := ix_nI (by omega)
      have t2 : ix (nI o) = o := ix_nI (by omega)
      have q1 := lo (12 + wq) (by omega) (by omega)
      have q2 := lo (6 + o) (by omega) (by omega)
      have q3 := lo 14 (by omega) (by omega)
      by_cases j0 : j = 12
      · subst j0; simp [dyn, bowrow, spBow, upd]
      by_cases j1 : j = 9
      · subst j1
        have z1 : (9 : Nat) ≠ 1 + o := by omega
        have z2 : (9 : Nat) ≠ 7 + wq := by omega
        have z3 : (14 : Nat) ≠ 6 + o := by omega
        have z4 : (14 : Nat) ≠ 12 + wq := by omega
        simp [dyn, bowrow, spBow, upd, q3, z3, z4]
      have u1 : 5 + j ≠ 17 := by omega
      have u2 : 5 + j ≠ 14 := by omega
      show bowrow (sv9 (c9 0) K) wq o (5 + j) = _
      unfold bowrow spBow
      rw [upd_n u1, upd_n u2, upd_n j0, upd_n j1, hw, t1, d12, t2]
      by_cases j2 : j = 1 + o
      · subst j2
        rw [show 5 + (1 + o) = 6 + o from by omega, upd_s, upd_s, upd_n (by omega), q2]
        show _ = c9 0 (5 + (1 + o)) - 1
        rw [show 5 + (1 + o) = 6 + o from by omega]
      · rw [upd_n (by omega), upd_n j2]
        by_cases j3 : j = 7 + wq
        · subst j3
          rw [show 5 + (7 + wq) = 12 + wq from by omega, upd_s, upd_s, q1]
          show _ = c9 0 (5 + (7 + wq)) - 1
          rw [show 5 + (7 + wq) = 12 + wq from by omega]
        · rw [upd_n (by omega), upd_n j3, lo (5 + j) (by omega) (by omega)]
          rfl
    have hc8 : cc' 8 0 = bowrow (sv9 (c9 0) K) wq o 14 := by
      rw [s2.2.2.2.2.2.1]
      exact (hy2 9 (by omega)).symm
    refine ⟨_, _, _, _, _, rs (rs c9 0 (sv9 (c9 0) K)) 0 (bowrow (sv9 (c9 0) K) wq o), rfl, ?_, ?_, Or.inl ⟨rfl, ?_⟩⟩
    · rw [hc8]
      rfl
    · rw [rs_s]
      refine hq _ _ ?_ (OKd_ext hP hy2 ok) (RCd_ext hP hy2 s2) s3
      intro x hx
      unfold bowrow
      rw [upd_n (by omega), upd_n (by omega), upd_n (by omega), upd_n (by omega)]
    · intro q hq
      rw [rs_n _ _ hq, rs_n _ _ hq]
