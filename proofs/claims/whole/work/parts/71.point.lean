-- is there such a point
theorem pm1 {P : Nat} (hP : P ≤ 6) : (nI P - 1).toInt = (P : Int) - 1 := by
  have : ∀ P, P ≤ 6 → (nI P - 1).toInt = (P : Int) - 1 := by decide +kernel
  exact this P hP
theorem pt_of {P : Nat} {p : Int32} (hP : P ≤ 6) (h : 0 ≤ p ∧ p ≤ nI P - 1) : ∃ k, k < P ∧ p = nI k := by
  obtain ⟨n, hn, rfl⟩ := nI_of (x := p) (by rw [Int32.lt_iff_toInt_lt, Int32.toInt_zero]; have := h.1; rw [Int32.le_iff_toInt_le, Int32.toInt_zero] at this; omega)
  have h2 := h.2
  rw [Int32.le_iff_toInt_le, pm1 hP, nI_toInt hn] at h2
  exact ⟨n, by omega, rfl⟩
theorem hpA {P : Nat} {cc : Nat → Nat → Int32} (p : Int32) (hP : P ≤ 6) (h5 : cc 5 0 = nI P) : md_X3_hasPoint cc p = some (b01 (0 ≤ p ∧ p ≤ nI P - 1)) := by
  unfold b01
  by_cases h : 0 ≤ p ∧ p ≤ nI P - 1
  · rw [if_pos h]
    obtain ⟨k, hk, rfl⟩ := pt_of hP h
    exact hp5 h5 hP hk
  · rw [if_neg h]
    have e : (if p < (0 : Int32) then (0 : Int32) else if cc 5 0 ≤ p then 0 else if (6 : Int32) ≤ p then 0 else 1) = 0 := by
      by_cases h1 : p < 0
      · rw [if_pos h1]
      · rw [if_neg h1]
        have h2 : cc 5 0 ≤ p := by
          have e2 := pm1 hP
          rw [h5, Int32.le_iff_toInt_le, nI_toInt (by omega)]
          rw [Int32.le_iff_toInt_le, Int32.le_iff_toInt_le, e2, Int32.toInt_zero] at h
          rw [Int32.lt_iff_toInt_lt, Int32.toInt_zero] at h1
          omega
        rw [if_pos h2]
    unfold md_X3_hasPoint
    rw [lt1_r, e]
    rfl
theorem ipA {P : Nat} {c : Nat → Nat → Int32} {w : Nat → Nat → Int64} (p : Int32) (h0 : c 0 0 = nI P) : md_X9_isPoint c w p = some (b01 (0 ≤ p ∧ p ≤ nI P - 1)) := by
  unfold md_X9_isPoint md_X9_many
  rw [bd1_s, h0, show (0 : Int64) = (0 : Int32).toInt64 from by decide, in9, bd1_s, if_pos (b01_s _)]
theorem un5 {P S : Nat} {cc : Nat → Nat → Int32} (hP : P ≤ 6) (hS : S < 2 ^ P) (h5 : cc 5 0 = nI P) (h6 : cc 6 0 = nI S) : md_X3_unsaid cc = some (nI (2 ^ P - 1 - S)) := by
  have : ∀ P, P ≤ 6 → ∀ S, S < 2 ^ P → ((((1 : Int32) <<< (nI P &&& 31)) - (1 : Int32)) &&& (nI S ^^^ (-1 : Int32))) = nI (2 ^ P - 1 - S) := by decide +kernel
  unfold md_X3_unsaid
  rw [h5, h6, this P hP S hS]
