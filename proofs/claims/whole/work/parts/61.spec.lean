-- what a point moves, what of it counts: one value for both
def mvv (k g e t : Int32) : Int32 := if k = 1 then (g + 1) / 2 else if k = 2 then (if 0 ≤ e then g else 2 * g) else if k = 3 then (g + 1) / 2 + t else if k = 4 then (if 0 ≤ e then g else 2 * g) + 2 else if k = 5 then (if t - t / 2 * 2 = 0 then g else 0) else g
def cvv (k n c : Int32) : Int32 := if k = 1 then n + 2 else if k = 2 then (if n ≤ 0 then 0 else n - 1) else if k = 3 then (if c = 0 then n + 2 else -(n + 2)) else if k = 4 then (if n - n / 2 * 2 = 0 then (if n ≤ 0 then 0 else n - 1) + 3 else (if n ≤ 0 then 0 else n - 1)) else if k = 5 then (n + 2) / 2 else n
theorem ite_some {α : Type} {c : Prop} [Decidable c] (a b : α) : (if c then some a else some b) = some (if c then a else b) := by by_cases h : c <;> simp [h]
theorem mv5 (k g e t : Int32) : md_X5_moved k g e t = some (mvv k g e t) := by
  unfold md_X5_moved md_X5_hearsay md_X5_evidence mvv
  simp only [lt1_r, bd1_s, ite_some]
theorem mv9 (k g e t : Int32) (ht : 0 ≤ t.toInt) : md_X9_movesAs k g e t = some (mvv k g e t) := by rw [mv_eq k g e t ht, mv5]
theorem ct5 (k n c : Int32) : md_X5_counted k n c = some (cvv k n c) := by
  unfold md_X5_counted md_X5_fierce md_X5_mild cvv
  simp only [lt1_r, bd1_s, ite_some]
theorem mild9 (n : Int32) (hn : 0 ≤ n.toInt) : (if n ≤ 1 then (0 : Int32) else n - 1) = if n ≤ 0 then 0 else n - 1 := by
  obtain ⟨m, hm, rfl⟩ := nI_of (x := n) (by rw [Int32.lt_iff_toInt_lt, Int32.toInt_zero]; omega)
  have h1 : (1 : Int32) = nI 1 := rfl
  have h0 : (0 : Int32) = nI 0 := rfl
  rw [h1, h0]
  by_cases h : m ≤ 1
  · rw [if_pos ((nI_leI hm (by omega)).mpr h)]
    by_cases h2 : m ≤ 0
    · rw [if_pos ((nI_leI hm (by omega)).mpr h2)]
    · rw [if_neg (fun z => h2 ((nI_leI hm (by omega)).mp z)), pk_sub (by omega)]
      have h3 : m = 1 := by omega
      subst h3
      rfl
  · rw [if_neg (fun z => h ((nI_leI hm (by omega)).mp z)), if_neg (fun z => h (Nat.le_trans ((nI_leI hm (by omega)).mp z) (by omega)))]
theorem neg2 (n : Int32) : (-n) - 2 = -(n + 2) := by
  rw [Int32.neg_add, Int32.sub_eq_add_neg]
theorem ct9 (k n c : Int32) (hn : 0 ≤ n.toInt) : md_X9_countsAs k n c = some (cvv k n c) := by
  unfold md_X9_countsAs cvv
  simp only [lt1_r, bd1_s, ite_some, mild9 n hn, neg2]
theorem mv_hs : ∀ G, G < 10 → (nI G + 1) / 2 = nI ((G + 1) / 2) := by decide +kernel
theorem mv_2g : ∀ G, G < 10 → 2 * nI G = nI (2 * G) := by decide +kernel
/-- what a point moves is small -/
theorem mv_rng (k e : Int32) {G T : Nat} (hG : G < 10) (hT : T < 10) : ∃ n, n ≤ 24 ∧ mvv k (nI G) e (nI T) = nI n := by
  unfold mvv
  rw [mv_hs G hG, mv_2g G hG]
  have h2 : (2 : Int32) = nI 2 := rfl
  split
  · exact ⟨_, by omega, rfl⟩
  split
  · split
    · exact ⟨_, by omega, rfl⟩
    · exact ⟨_, by omega, rfl⟩
  split
  · rw [nI_add]; exact ⟨_, by omega, rfl⟩
  split
  · split
    · rw [h2, nI_add]; exact ⟨_, by omega, rfl⟩
    · rw [h2, nI_add]; exact ⟨_, by omega, rfl⟩
  split
  · split
    · exact ⟨_, by omega, rfl⟩
    · exact ⟨0, by omega, rfl⟩
  · exact ⟨_, by omega, rfl⟩
