-- the call: now
theorem op9 {P S : Nat} {c : Nat → Nat → Int32} {w : Nat → Nat → Int64} (hP : P ≤ 6) (hS : S < 2 ^ P) (h0 : c 0 0 = nI P) (h5 : c 0 5 = nI S) : md_X9_open c w = some (nI (2 ^ P - 1 - S)) := by
  have : ∀ P, P ≤ 6 → ∀ S, S < 2 ^ P → ((((1 : Int32) <<< (nI P &&& 31)) - (1 : Int32)) &&& (nI S ^^^ (-1 : Int32))) = nI (2 ^ P - 1 - S) := by decide +kernel
  unfold md_X9_open md_X9_many
  rw [bd1_s, h0, h5, this P hP S hS]
theorem six (p : Int32) (h : 0 ≤ p ∧ p ≤ 5) : p = 0 ∨ p = 1 ∨ p = 2 ∨ p = 3 ∨ p = 4 ∨ p = 5 := by
  obtain ⟨n, hn, rfl⟩ := nI_of (x := p) (by rw [Int32.lt_iff_toInt_lt, Int32.toInt_zero]; have := h.1; rw [Int32.le_iff_toInt_le, Int32.toInt_zero] at this; omega)
  have h2 := h.2
  have e5 : (5 : Int32).toInt = 5 := rfl
  rw [Int32.le_iff_toInt_le, nI_toInt hn, e5] at h2
  have : n = 0 ∨ n = 1 ∨ n = 2 ∨ n = 3 ∨ n = 4 ∨ n = 5 := by omega
  rcases this with rfl | rfl | rfl | rfl | rfl | rfl
  · exact Or.inl rfl
  · exact Or.inr (Or.inl rfl)
  · exact Or.inr (Or.inr (Or.inl rfl))
  · exact Or.inr (Or.inr (Or.inr (Or.inl rfl)))
  · exact Or.inr (Or.inr (Or.inr (Or.inr (Or.inl rfl))))
  · exact Or.inr (Or.inr (Or.inr (Or.inr (Or.inr rfl))))
theorem call_now {c0 c1 c2 c9 : Nat → Nat → Int32} {w0 w1 w9 : Nat → Nat → Int64} (p : Int32) (h : RB c1 w1 c2 (c9 0)) : ∃ r c0' c9', md_X8_now c0 w0 c1 w1 c2 p = some (r, c0') ∧ md_X9_now c9 w9 p = some (r, c9') ∧ c9' 0 = c9 0 ∧ SR c0 c9 c0' c9' := by
  obtain ⟨P, S, hP, hS, a0, ho, hx, hd, hf, h5, h6, h16⟩ := RB_get h
  have h64 := pow_le6 hP
  have hpop := pop_le S (by omega)
  have c7 : c2 7 0 = c9 0 15 := hd.2.2.2.2.2.2.1
  have c8 : c2 8 0 = c9 0 14 := hd.2.2.2.2.2.1
  unfold md_X8_now md_X9_now
  rw [show (0 : Int64) = (0 : Int32).toInt64 from by decide, show (5 : Int64) = (5 : Int32).toInt64 from by decide, in9, bd1_s]
  by_cases hp : 0 ≤ p ∧ p ≤ 5
  · have b1 : b01 (0 ≤ p ∧ p ≤ 5) = 1 := if_pos hp
    rw [b1, if_neg (show ¬ (1 : Int32) = 0 by decide)]
    unfold md_X9_toldNow
    rcases six p hp with rfl | rfl | rfl | rfl | rfl | rfl
    · refine ⟨c9 0 15, c0, c9, ?_, ?_, rfl, Or.inl ⟨rfl, fun _ _ => rfl⟩⟩
      · rw [if_pos (show (0 : Int32) = 0 from rfl), c7]
      · rw [if_pos (show (0 : Int32) = 0 from rfl), bd1_s]
    · refine ⟨c9 0 14, c0, c9, ?_, ?_, rfl, Or.inl ⟨rfl, fun _ _ => rfl⟩⟩
      · rw [if_neg (show ¬ (1 : Int32) = 0 by decide), if_pos (show (1 : Int32) = 1 from rfl), c8]
      · rw [if_neg (show ¬ (1 : Int32) = 0 by decide), if_pos (show (1 : Int32) = 1 from rfl), bd1_s]
    · refine ⟨nI (pop S), c0, c9, ?_, ?_, rfl, Or.inl ⟨rfl, fun _ _ => rfl⟩⟩
      · rw [if_neg (show ¬ (2 : Int32) = 0 by decide), if_neg (show ¬ (2 : Int32) = 1 by decide), if_pos (show (2 : Int32) = 2 from rfl), trn5 hP hS h6, bd1_s]
      · rw [if_neg (show ¬ (2 : Int32) = 0 by decide), if_neg (show ¬ (2 : Int32) = 1 by decide), if_pos (show (2 : Int32) = 2 from rfl), h16, bd1_s]
    · refine ⟨nI (pop S % 2), c0, c9, ?_, ?_, rfl, Or.inl ⟨rfl, fun _ _ => rfl⟩⟩
      · rw [if_neg (show ¬ (3 : Int32) = 0 by decide), if_neg (show ¬ (3 : Int32) = 1 by decide), if_neg (show ¬ (3 : Int32) = 2 by decide), if_pos (show (3 : Int32) = 3 from rfl), spk5 hP hS h6, bd1_s]
      · rw [if_neg (show ¬ (3 : Int32) = 0 by decide), if_neg (show ¬ (3 : Int32) = 1 by decide), if_neg (show ¬ (3 : Int32) = 2 by decide), if_pos (show (3 : Int32) = 3 from rfl), h16, bd1_s, par2 _ (by omega)]
    · refine ⟨if spY (dyn (c9 0)) = 0 then 0 else 1, c0, c9, ?_, ?_, rfl, Or.inl ⟨rfl, fun _ _ => rfl⟩⟩
      · rw [if_neg (show ¬ (4 : Int32) = 0 by decide), if_neg (show ¬ (4 : Int32) = 1 by decide), if_neg (show ¬ (4 : Int32) = 2 by decide), if_neg (show ¬ (4 : Int32) = 3 by decide), if_pos (show (4 : Int32) = 4 from rfl), may5 hP ho hd, bd1_s, lt1_r]
      · rw [if_neg (show ¬ (4 : Int32) = 0 by decide), if_neg (show ¬ (4 : Int32) = 1 by decide), if_neg (show ¬ (4 : Int32) = 2 by decide), if_neg (show ¬ (4 : Int32) = 3 by decide), if_pos (show (4 : Int32) = 4 from rfl), may9 hP ho, bd1_s, lt1_r, bd1_s]
    · refine ⟨if nI (2 ^ P - 1 - S) = 0 then (if c9 0 15 ≤ 0 then 1 else 0) else -1, c0, c9, ?_, ?_, rfl, Or.inl ⟨rfl, fun _ _ => rfl⟩⟩
      · rw [if_neg (show ¬ (5 : Int32) = 0 by decide), if_neg (show ¬ (5 : Int32) = 1 by decide), if_neg (show ¬ (5 : Int32) = 2 by decide), if_neg (show ¬ (5 : Int32) = 3 by decide), if_neg (show ¬ (5 : Int32) = 4 by decide), if_pos (show (5 : Int32) = 5 from rfl), un5 hP hS hd.1 h6, bd1_s]
        unfold md_X3_winner
        rw [lt1_r, bd1_s, c7]
        by_cases hz : nI (2 ^ P - 1 - S) = 0
        · rw [if_pos hz, if_pos hz]
        · rw [if_neg hz, if_neg hz]
      · rw [if_neg (show ¬ (5 : Int32) = 0 by decide), if_neg (show ¬ (5 : Int32) = 1 by decide), if_neg (show ¬ (5 : Int32) = 2 by decide), if_neg (show ¬ (5 : Int32) = 3 by decide), if_neg (show ¬ (5 : Int32) = 4 by decide), op9 hP hS a0 h5, bd1_s, lt1_r, bd1_s]
  · have b0 : b01 (0 ≤ p ∧ p ≤ 5) = 0 := if_neg hp
    have n : ∀ q : Int32, (0 ≤ q ∧ q ≤ 5) → ¬ p = q := fun q hq e => hp (e ▸ hq)
    rw [b0, if_pos (show (0 : Int32) = 0 from rfl), if_neg (n 0 (by decide)), if_neg (n 1 (by decide)), if_neg (n 2 (by decide)), if_neg (n 3 (by decide)), if_neg (n 4 (by decide)), if_neg (n 5 (by decide))]
    exact ⟨_, _, _, rfl, rfl, rs_n _ _ (by decide), Or.inr ⟨0, by omega, rfl, rfl⟩⟩
