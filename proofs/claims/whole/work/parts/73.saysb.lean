-- the call: says
def sayrow (a : Nat → Int32) (v p : Int32) : Nat → Int32 := upd (upd (upd (upd a 15 v) 5 ((upd a 15 v) 5 ||| ((1 : Int32) <<< (p &&& 31)))) 16 ((upd (upd a 15 v) 5 ((upd a 15 v) 5 ||| ((1 : Int32) <<< (p &&& 31)))) 16 + 1)) 17 p
theorem sayrow_15 (a : Nat → Int32) (v p : Int32) : sayrow a v p 15 = v := by simp [sayrow, upd]
theorem sayrow_n (a : Nat → Int32) (v p : Int32) {x : Nat} (hx : ¬ (5 ≤ x ∧ x < 18)) : sayrow a v p x = a x := by
  unfold sayrow
  rw [upd_n (by omega), upd_n (by omega), upd_n (by omega), upd_n (by omega)]
theorem call_says {c0 c1 c2 c9 : Nat → Nat → Int32} {w0 w1 w9 : Nat → Nat → Int64} (p : Int32) (h : RB c1 w1 c2 (c9 0)) : ∃ r c0' c1' w1' c2' c9', md_X8_says FU c0 w0 c1 w1 c2 p = some (r, c0', c1', w1', c2') ∧ md_X9_says FU c9 w9 p = some (r, c9') ∧ RB c1' w1' c2' (c9' 0) ∧ SR c0 c9 c0' c9' := by
  obtain ⟨P, K, c', w', hP, hK, a0, a4, ho, hx, hd, hf, hr, hq⟩ := RB_sv h
  have h64 := pow_le6 hP
  have ho0 := ho
  obtain ⟨⟨S, hS, h0, h11⟩, -⟩ := ho
  have h05 : c9 0 5 = nI S := h0
  have hc6 : c2 6 0 = nI S := hd.2.1.trans h0
  unfold md_X8_says md_X9_says
  rw [hpA p hP hd.1, ipA p a0, bd1_s, bd1_s]
  by_cases hp : 0 ≤ p ∧ p ≤ nI P - 1
  · obtain ⟨k, hk, rfl⟩ := pt_of hP hp
    have b1 : b01 (0 ≤ nI k ∧ nI k ≤ nI P - 1) = 1 := if_pos hp
    rw [b1, if_neg (by decide), if_neg (by decide), hc6, h05, has8 S (by omega) k (by omega), has9 S (by omega) k (by omega), bd1_s, bd1_s]
    by_cases hb : S.testBit k = true
    · rw [if_pos hb, if_neg (by decide), if_neg (by decide)]
      exact ⟨_, _, _, _, _, _, rfl, rfl, h, Or.inr ⟨1, by omega, rfl, rfl⟩⟩
    · have hb' : S.testBit k = false := by simpa using hb
      obtain ⟨cc', s1, s2, s3⟩ := say5 hP ho0 hd hf hk
      have lo : ∀ x, x < 90 → x ≠ 4 → sv9 (c9 0) K x = c9 0 x := fun x x1 x2 => sv9_lo hK x1 x2
      have hpop := pop_le S (by omega)
      have hrr : RRf P ((rs c9 0 (sv9 (c9 0) K)) 0) (fxd (c9 0)) := by
        rw [rs_s]
        refine ⟨fun j hj => ⟨lo (18 + j) (by omega) (by omega), lo (24 + j) (by omega) (by omega)⟩, lo 30 (by omega) (by omega), lo 31 (by omega) (by omega)⟩
      have h16 : (rs c9 0 (sv9 (c9 0) K)) 0 16 = nI (pop S) := by rw [rs_s, lo 16 (by omega) (by omega)]; exact h11
      have hmb := mb9 (P := P) (k := k) (T := pop S) (c := rs c9 0 (sv9 (c9 0) K)) (f := fxd (c9 0)) (w := w9) (s := (rs c9 0 (sv9 (c9 0) K)) 0 14) (e := (rs c9 0 (sv9 (c9 0) K)) 0 15) hP hx hrr hk (by omega)
      rw [if_neg hb, if_pos rfl, if_pos rfl, hr, bd2_s, s1, bd1_s, save9 c9 w9 hK a4, bd1_s, h16, hmb, bd1_s, lt1_r]
      have hM : mx (fxd (c9 0)) (nI k) ((rs c9 0 (sv9 (c9 0) K)) 0 14) ((rs c9 0 (sv9 (c9 0) K)) 0 15) (nI (pop S)) = spM (fxd (c9 0)) (dyn (c9 0)) (nI k) := by
        rw [spM_mx, rs_s, lo 14 (by omega) (by omega), lo 15 (by omega) (by omega), ← h11]
        rfl
      rw [hM, rs_s]
      have hc7 : cc' 7 0 = spM (fxd (c9 0)) (dyn (c9 0)) (nI k) := by
        rw [s2.2.2.2.2.2.2.1]
        simp [spSay, upd]
      have hy : ∀ j, j < 13 → dyn (sayrow (sv9 (c9 0) K) (spM (fxd (c9 0)) (dyn (c9 0)) (nI k)) (nI k)) j = spSay (fxd (c9 0)) (dyn (c9 0)) (nI k) j := by
        intro j hj
        have : j = 0 ∨ j = 1 ∨ j = 2 ∨ j = 3 ∨ j = 4 ∨ j = 5 ∨ j = 6 ∨ j = 7 ∨ j = 8 ∨ j = 9 ∨ j = 10 ∨ j = 11 ∨ j = 12 := by omega
        rcases this with rfl | rfl | rfl | rfl | rfl | rfl | rfl | rfl | rfl | rfl | rfl | rfl | rfl <;> simp [dyn, spSay, sayrow, upd, lo]
      refine ⟨_, _, _, _, _, rs (rs c9 0 (sv9 (c9 0) K)) 0 (sayrow (sv9 (c9 0) K) (spM (fxd (c9 0)) (dyn (c9 0)) (nI k)) (nI k)), rfl, ?_, ?_, Or.inl ⟨rfl, ?_⟩⟩
      · rw [hc7]
        show some (sayrow (sv9 (c9 0) K) (spM (fxd (c9 0)) (dyn (c9 0)) (nI k)) (nI k) 15, _) = _
        rw [sayrow_15]
        rfl
      · rw [rs_s]
        refine hq _ _ ?_ (OKd_ext hP hy (say_ok hP ho0 hk hS h0 hb')) (RCd_ext hP hy s2) s3
        intro x hx
        exact sayrow_n _ _ _ hx
      · intro q hq
        rw [rs_n _ _ hq, rs_n _ _ hq]
  · have b0 : b01 (0 ≤ p ∧ p ≤ nI P - 1) = 0 := if_neg hp
    rw [b0, if_pos rfl, if_pos rfl]
    exact ⟨_, _, _, _, _, _, rfl, rfl, h, Or.inr ⟨0, by omega, rfl, rfl⟩⟩
