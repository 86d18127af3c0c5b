-- the call: undo
theorem un9_d {a : Nat → Int32} {K j : Nat} (hj : j < 13) : dyn (un9 a K) j = a (90 + 13 * K + j) := by
  unfold dyn un9 cp
  rw [if_pos (by omega), show 90 + 13 * K + (5 + j - 5) = 90 + 13 * K + j from by omega, upd_n (by omega)]
theorem un9_n {a : Nat → Int32} {K x : Nat} (hx : ¬ (5 ≤ x ∧ x < 18)) (h4 : x ≠ 4) : un9 a K x = a x := by
  unfold un9 cp
  rw [if_neg (by omega), upd_n h4]
theorem un9_4 {a : Nat → Int32} {K : Nat} : un9 a K 4 = nI K := by
  unfold un9 cp
  rw [if_neg (by omega), upd_s]
theorem call_undo {c0 c1 c2 c9 : Nat → Nat → Int32} {w0 w1 w9 : Nat → Nat → Int64} (h : RB c1 w1 c2 (c9 0)) : ∃ r c0' c1' c2' c9', md_X8_undo FU c0 w0 c1 w1 c2 = some (r, c0', c1', c2') ∧ md_X9_undo FU c9 w9 = some (r, c9') ∧ RB c1' w1 c2' (c9' 0) ∧ SR c0 c9 c0' c9' := by
  have h' := h
  obtain ⟨P, K, E, N, M, ⟨hP, a0, ho, hx, hd, hf⟩, ⟨hK, a4, c8, hp⟩, ⟨hE, a1, e2, he⟩, ⟨hN, aN, cN, hn⟩, ⟨hM, aM, cM, hm⟩⟩ := h
  rcases Nat.eq_zero_or_pos K with hz | hz
  · subst hz
    unfold md_X8_undo md_X9_undo
    rw [c8, a4, if_pos (show nI 0 = 0 from rfl), if_pos (show nI 0 = 0 from rfl)]
    exact ⟨_, _, _, _, _, rfl, rfl, h', Or.inr ⟨1, by omega, rfl, rfl⟩⟩
  · obtain ⟨k, rfl⟩ : ∃ k, K = k + 1 := ⟨K - 1, by omega⟩
    obtain ⟨po, pp⟩ := hp k (by omega)
    obtain ⟨cc', b1, b2, b3, b4, b5, b6⟩ := back_ok hP pp hd.1
    have hy : ∀ j, j < 13 → dyn (un9 (c9 0) k) j = (fun j => c9 0 (90 + 13 * k + j)) j := fun j hj => un9_d hj
    have po2 := po
    obtain ⟨⟨S, hS, h0, h11⟩, -⟩ := po2
    rw [undo9 c9 w9 (by omega) a4]
    unfold md_X8_undo md_X1_goBack
    rw [c8, if_neg (nI_ne0 (by omega) (by omega)), if_neg (nI_nle (by omega) (by omega)), nI_pred, if_pos (inb_nI (by omega) (by omega)), ix_nI (by omega), b1, bd1_s, bd2_s, trn5 hP hS (b2.2.1.trans h0), bd1_s]
    refine ⟨_, _, _, _, rs c9 0 (un9 (c9 0) k), rfl, ?_, ?_, Or.inl ⟨rfl, fun q hq => rs_n _ _ hq⟩⟩
    · rw [← h11]
    · rw [rs_s]
      have lo : ∀ x, ¬ (5 ≤ x ∧ x < 18) → x ≠ 4 → un9 (c9 0) k x = c9 0 x := fun x x1 x2 => un9_n x1 x2
      refine ⟨P, k, E, N, M, ⟨hP, ?_, OKd_ext hP hy po, ?_, RCd_ext hP hy b2, ?_⟩, ⟨by omega, un9_4, rs_s _ _ _ ▸ rfl, ?_⟩, ⟨hE, ?_, ?_, ?_⟩, ⟨hN, ?_, ?_, ?_⟩, ⟨hM, ?_, ?_, ?_⟩⟩
      · rw [lo 0 (by omega) (by omega), a0]
      · refine FXd_ext (fun j hj => ?_) hx
        exact lo (24 + j) (by omega) (by omega)
      · refine ⟨fun j hj => ?_, ?_, ?_⟩
        · rw [b4, b5]
          exact ⟨(hf.1 j hj).1.trans (lo (18 + j) (by omega) (by omega)).symm, (hf.1 j hj).2.trans (lo (24 + j) (by omega) (by omega)).symm⟩
        · rw [b3]
          exact hf.2.1.trans (lo 30 (by omega) (by omega)).symm
        · rw [b3]
          exact hf.2.2.trans (lo 31 (by omega) (by omega)).symm
      · exact RPs_ext hP (by omega) (fun x hx => lo x (by omega) (by omega)) (fun b hb => hp b (by omega))
      · rw [lo 1 (by omega) (by omega), a1]
      · rw [rs_n _ _ (by omega), e2]
      · intro j hj
        rw [rs_n _ _ (by omega), he j hj, lo (32 + j) (by omega) (by omega)]
      · rw [lo 2 (by omega) (by omega), aN]
      · rw [rs_n _ _ (by omega), cN]
      · intro j hj
        rw [rs_n _ _ (by omega), lo (36 + j) (by omega) (by omega)]
        exact hn j hj
      · rw [lo 3 (by omega) (by omega), aM]
      · rw [rs_n _ _ (by omega), cM]
      · intro j hj
        rw [rs_n _ _ (by omega), lo (66 + j) (by omega) (by omega)]
        exact hm j hj
