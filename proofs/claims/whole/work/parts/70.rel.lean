-- what the class knows and what the reference knows
def b01 (p : Prop) [Decidable p] : Int32 := if p then 1 else 0
theorem b01_s (p : Prop) [Decidable p] : b01 p = 0 ∨ b01 p = 1 := by
  unfold b01
  by_cases h : p
  · rw [if_pos h]; exact Or.inr rfl
  · rw [if_neg h]; exact Or.inl rfl
theorem wi8 (lo x hi : Int32) : md_X8_within lo x hi = some (b01 (lo ≤ x ∧ x ≤ hi)) := by
  unfold md_X8_within b01
  rw [lt1_r]
  by_cases h1 : x < lo
  · have n1 : ¬ (lo ≤ x ∧ x ≤ hi) := fun z => by
      have a := z.1
      rw [Int32.le_iff_toInt_le] at a
      rw [Int32.lt_iff_toInt_lt] at h1
      omega
    rw [if_pos h1, if_pos (Or.inl rfl), if_neg n1]
  · rw [if_neg h1]
    by_cases h2 : hi < x
    · have n1 : ¬ (lo ≤ x ∧ x ≤ hi) := fun z => by
        have a := z.2
        rw [Int32.le_iff_toInt_le] at a
        rw [Int32.lt_iff_toInt_lt] at h2
        omega
      rw [if_pos h2, if_pos (Or.inl rfl), if_neg n1]
    · have n1 : lo ≤ x ∧ x ≤ hi := by
        rw [Int32.lt_iff_toInt_lt] at h1 h2
        rw [Int32.le_iff_toInt_le, Int32.le_iff_toInt_le]
        omega
      rw [if_neg h2, if_pos (Or.inr rfl), if_pos n1]
theorem in9 (lo x hi : Int32) : md_X9_in x.toInt64 lo.toInt64 hi.toInt64 = some (b01 (lo ≤ x ∧ x ≤ hi)) := by
  unfold md_X9_in b01
  rw [lt1_r]
  by_cases h1 : x < lo
  · have n1 : ¬ (lo ≤ x ∧ x ≤ hi) := fun z => by
      have a := z.1
      rw [Int32.le_iff_toInt_le] at a
      rw [Int32.lt_iff_toInt_lt] at h1
      omega
    have n2 : lg_cmp x.toInt64 lo.toInt64 < 0 := by
      rw [lg_cmp_lt, Int64.lt_iff_toInt_lt, Int32.toInt_toInt64, Int32.toInt_toInt64]
      rw [Int32.lt_iff_toInt_lt] at h1
      exact h1
    rw [if_pos n2, if_pos (Or.inl rfl), if_neg n1]
  · have n2 : ¬ lg_cmp x.toInt64 lo.toInt64 < 0 := by
      rw [lg_cmp_lt, Int64.lt_iff_toInt_lt, Int32.toInt_toInt64, Int32.toInt_toInt64]
      rw [Int32.lt_iff_toInt_lt] at h1
      exact h1
    rw [if_neg n2]
    by_cases h2 : hi < x
    · have n1 : ¬ (lo ≤ x ∧ x ≤ hi) := fun z => by
        have a := z.2
        rw [Int32.le_iff_toInt_le] at a
        rw [Int32.lt_iff_toInt_lt] at h2
        omega
      have n3 : 0 < lg_cmp x.toInt64 hi.toInt64 := by
        rw [lg_cmp_gt, Int64.lt_iff_toInt_lt, Int32.toInt_toInt64, Int32.toInt_toInt64]
        rw [Int32.lt_iff_toInt_lt] at h2
        exact h2
      rw [if_pos n3, if_pos (Or.inl rfl), if_neg n1]
    · have n3 : ¬ 0 < lg_cmp x.toInt64 hi.toInt64 := by
        rw [lg_cmp_gt, Int64.lt_iff_toInt_lt, Int32.toInt_toInt64, Int32.toInt_toInt64]
        rw [Int32.lt_iff_toInt_lt] at h2
        exact h2
      have n1 : lo ≤ x ∧ x ≤ hi := by
        rw [Int32.lt_iff_toInt_lt] at h1 h2
        rw [Int32.le_iff_toInt_le, Int32.le_iff_toInt_le]
        omega
      rw [if_neg n3, if_pos (Or.inr rfl), if_pos n1]
theorem kd9 (x : Int32) : md_X9_isKind x = some (b01 (0 ≤ x ∧ x ≤ 5)) := by
  unfold md_X9_isKind
  rw [show (0 : Int64) = (0 : Int32).toInt64 from by decide, show (5 : Int64) = (5 : Int32).toInt64 from by decide, in9, bd1_s, if_pos (b01_s _)]
theorem cn9 (x : Int32) : md_X9_isCounsel x = some (b01 (0 ≤ x ∧ x ≤ 1)) := by
  unfold md_X9_isCounsel
  rw [show (0 : Int64) = (0 : Int32).toInt64 from by decide, show (1 : Int64) = (1 : Int32).toInt64 from by decide, in9, bd1_s, if_pos (b01_s _)]
theorem kd8 (x : Int32) : md_X8_isKind x = some (b01 (0 ≤ x ∧ x ≤ 5)) := by
  unfold md_X8_isKind
  rw [wi8, bd1_s, if_pos (b01_s _)]
theorem cn8 (x : Int32) : md_X8_isCounsel x = some (b01 (0 ≤ x ∧ x ≤ 1)) := by
  unfold md_X8_isCounsel
  rw [wi8, bd1_s, if_pos (b01_s _)]
def fxd (a : Nat → Int32) : Nat → Nat → Int32 := fun k j => if k = 0 then a (18 + j) else if k = 1 then a (24 + j) else a (30 + j)
theorem fxd_RRf (P : Nat) (a : Nat → Int32) : RRf P a (fxd a) := ⟨fun _ _ => ⟨rfl, rfl⟩, rfl, rfl⟩
/-- a noted turn, a marked count is no less than 0 -/
def NB (m r j : Nat) (x : Int32) : Prop := j % m = r → 0 ≤ x.toInt
/-- a brief and its court against the reference's row -/
def RB (c : Nat → Nat → Int32) (w : Nat → Nat → Int64) (cc : Nat → Nat → Int32) (a : Nat → Int32) : Prop := ∃ P K E N M, (P ≤ 6 ∧ a 0 = nI P ∧ OKd P (dyn a) ∧ FXd P (fxd a) ∧ RCd P cc (dyn a) ∧ RCf P cc (fxd a)) ∧ (K ≤ 8 ∧ a 4 = nI K ∧ c 8 0 = nI K ∧ RPs P K a (w 7)) ∧ (E ≤ 4 ∧ a 1 = nI E ∧ c 2 0 = nI E ∧ ∀ j, j < E → c 1 j = a (32 + j)) ∧ (N ≤ 6 ∧ a 2 = nI N ∧ c 4 0 = nI N ∧ ∀ j, j < 5 * N → c 3 j = a (36 + j) ∧ NB 5 3 j (a (36 + j))) ∧ (M ≤ 6 ∧ a 3 = nI M ∧ c 6 0 = nI M ∧ ∀ j, j < 4 * M → c 5 j = a (66 + j) ∧ NB 4 1 j (a (66 + j)))
