-- pure numbers: small ints, bits, counts
def FU : Nat := 2000000
def pop (S : Nat) : Nat := S % 2 + S / 2 % 2 + S / 4 % 2 + S / 8 % 2 + S / 16 % 2 + S / 32 % 2
theorem bc64 : ∀ S, S < 64 → md_J6_bitCount_0f7a4 (nI S) = some (nI (pop S)) := by decide +kernel
theorem has8 : ∀ S, S < 64 → ∀ p, p < 6 → md_X8_has (nI S) (nI p) = some (if S.testBit p then 1 else 0) := by decide +kernel
theorem has9 : ∀ S, S < 64 → ∀ p, p < 6 → md_X9_has (nI S) (nI p) = some (if S.testBit p then 1 else 0) := by decide +kernel
theorem bits9 : ∀ S, S < 64 → md_X9_bits FU (nI S) = some (nI (pop S)) := by decide +kernel
theorem pop_le : ∀ S, S < 64 → pop S ≤ 6 := by decide +kernel
theorem ix_nI {n : Nat} (h : n < 2 ^ 31) : ix (nI n) = n := nI_clamp h
theorem inb_nI {n N : Nat} (h : n < N) (hN : N < 2 ^ 31) : inb (nI n) N := by
  have e := nI_toInt (n := n) (by omega)
  refine ⟨by rw [e]; omega, by rw [e]; omega⟩
theorem of_inb {i : Int32} {N : Nat} (h : inb i N) (hN : N < 2 ^ 31) : ∃ n : Nat, n < N ∧ i = nI n := by
  obtain ⟨n, h1, h2⟩ := vp_in_of (inb_vp h) hN
  exact ⟨n, h1, h2⟩
theorem inb_iff {i : Int32} {N : Nat} (hN : N < 2 ^ 31) : inb i N ↔ ∃ n : Nat, n < N ∧ i = nI n := ⟨fun h => of_inb h hN, fun ⟨n, h, e⟩ => by rw [e]; exact inb_nI h hN⟩
theorem lt1_r {α γ : Type} (v : α) (K : α → Option γ) : lt1 v K = K v := rfl
theorem bd1_s {α γ : Type} (a : α) (K : α → Option γ) : bd1 (some a) K = K a := rfl
theorem bd2_s {α β γ : Type} (a : α) (b : β) (K : α → β → Option γ) : bd2 (some (a, b)) K = K a b := rfl
theorem bd3_s {α β δ γ : Type} (a : α) (b : β) (d : δ) (K : α → β → δ → Option γ) : bd3 (some (a, b, d)) K = K a b d := rfl
theorem rs_s {α : Type} (c : Nat → α) (k : Nat) (r : α) : rs c k r k = r := if_pos rfl
theorem rs_n {α : Type} (c : Nat → α) {k j : Nat} (r : α) (h : j ≠ k) : rs c k r j = c j := if_neg h
theorem mv_eq (k g e t : Int32) (ht : 0 ≤ t.toInt) : md_X9_movesAs k g e t = md_X5_moved k g e t := by
  have ht2 : (if t - t / 2 * 2 = (1 : Int32) then (0 : Int32) else g) = (if t - t / 2 * 2 = 0 then g else 0) := by
    have hr : t - t / 2 * 2 = 0 ∨ t - t / 2 * 2 = 1 := by
      obtain ⟨n, hn, rfl⟩ := nI_of (x := t) (by rw [Int32.lt_iff_toInt_lt, Int32.toInt_zero]; omega)
      have h2 : (2 : Int32) = nI 2 := rfl
      rw [h2, pk_rem hn (by omega) (by omega)]
      have : n % 2 = 0 ∨ n % 2 = 1 := by omega
      rcases this with h | h <;> rw [h]
      · exact Or.inl rfl
      · exact Or.inr rfl
    rcases hr with h | h <;> rw [h] <;> rfl
  unfold md_X9_movesAs md_X5_moved md_X5_hearsay md_X5_evidence
  simp only [lt1_r, bd1_s, ht2]
