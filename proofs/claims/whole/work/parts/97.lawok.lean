-- what holds ahead of every call of the law
theorem bd4_s {α β δ ε γ : Type} (a : α) (b : β) (d : δ) (e : ε) (K : α → β → δ → ε → Option γ) : bd4 (some (a, b, d, e)) K = K a b d e := rfl
theorem bd5_s {α β δ ε ζ γ : Type} (a : α) (b : β) (d : δ) (e : ε) (f : ζ) (K : α → β → δ → ε → ζ → Option γ) : bd5 (some (a, b, d, e, f)) K = K a b d e f := rfl
theorem bd8_s {α0 α1 α2 α3 α4 α5 α6 α7 γ : Type} (a0 : α0) (a1 : α1) (a2 : α2) (a3 : α3) (a4 : α4) (a5 : α5) (a6 : α6) (a7 : α7) (K : α0 → α1 → α2 → α3 → α4 → α5 → α6 → α7 → Option γ) : bd8 (some (a0, a1, a2, a3, a4, a5, a6, a7)) K = K a0 a1 a2 a3 a4 a5 a6 a7 := rfl
def IV (c0 : Nat → Nat → Int32) (w0 : Nat → Nat → Int64) (c1 : Nat → Nat → Int32) (w1 : Nat → Nat → Int64) (c2 c4 c5 c6 : Nat → Nat → Int32) (w6 : Nat → Nat → Int64) (c7 c8 : Nat → Nat → Int32) (w8 : Nat → Nat → Int64) (c9 c11 : Nat → Nat → Int32) (w11 : Nat → Nat → Int64) : Prop := RB c1 w1 c2 (c11 0) ∧ GC c4 ∧ TR c5 c11 ∧ IM 0 c0 c11 c6 w6 c7 ∧ IM 1 c0 c11 c8 w8 c9 ∧ SS c0 c11 ∧ w0 6 0 = w11 4 0 ∧ w0 7 0 = w11 5 0
theorem TR_keep {c5 c11 d11 : Nat → Nat → Int32} (h20 : d11 20 = c11 20) (h21 : d11 21 = c11 21) (h : TR c5 c11) : TR c5 d11 := by
  unfold TR
  rw [h20, h21]
  exact h
theorem SS_keep {c0 c11 d11 : Nat → Nat → Int32} (h3 : d11 3 = c11 3) (h : SS c0 c11) : SS c0 d11 := by
  unfold SS
  rw [h3]
  exact h
theorem IV_st {c0 c1 c2 c4 c5 c6 c7 c8 c9 c11 c0' c1' c2' c11' : Nat → Nat → Int32} {w0 w1 w6 w8 w11 w1' : Nat → Nat → Int64} (h : IV c0 w0 c1 w1 c2 c4 c5 c6 w6 c7 c8 w8 c9 c11 w11) (hR : RB c1' w1' c2' (c11' 0)) (hS : ST c0 c11 c0' c11') : IV c0' w0 c1' w1' c2' c4 c5 c6 w6 c7 c8 w8 c9 c11' w11 := by
  obtain ⟨h1, h2, h3, h4, h5, h6, h7, h8⟩ := h
  rcases hS with ⟨rfl, k⟩ | ⟨i, hi, rfl, rfl⟩
  · exact ⟨hR, h2, TR_keep (k 20 (by omega)) (k 21 (by omega)) h3, IM_keep rfl (k 1 (by omega)) (k 2 (by omega)) h4, IM_keep rfl (k 1 (by omega)) (k 2 (by omega)) h5, SS_keep (k 3 (by omega)) h6, h7, h8⟩
  · exact ⟨hR, h2, TR_keep (rs_n _ _ (by omega)) (rs_n _ _ (by omega)) h3, IM_keep (rs_n _ _ (by omega)) (rs_n _ _ (by omega)) (rs_n _ _ (by omega)) h4, IM_keep (rs_n _ _ (by omega)) (rs_n _ _ (by omega)) (rs_n _ _ (by omega)) h5, SS_rf hi h6, h7, h8⟩
theorem IV_lk {c0 c1 c2 c4 c5 c6 c7 c8 c9 c11 c0' c11' : Nat → Nat → Int32} {w0 w1 w6 w8 w11 : Nat → Nat → Int64} (h : IV c0 w0 c1 w1 c2 c4 c5 c6 w6 c7 c8 w8 c9 c11 w11) (h0 : c11' 0 = c11 0) (hS : ST c0 c11 c0' c11') : IV c0' w0 c1 w1 c2 c4 c5 c6 w6 c7 c8 w8 c9 c11' w11 := IV_st h (by rw [h0]; exact h.1) hS
theorem IV_wd {c0 c1 c2 c4 c5 c6 c7 c8 c9 c11 : Nat → Nat → Int32} {w0 w1 w6 w8 w11 w0' w11' : Nat → Nat → Int64} (h : IV c0 w0 c1 w1 c2 c4 c5 c6 w6 c7 c8 w8 c9 c11 w11) (z1 : w0' 6 0 = w11' 4 0) (z2 : w0' 7 0 = w11' 5 0) : IV c0 w0' c1 w1 c2 c4 c5 c6 w6 c7 c8 w8 c9 c11 w11' := ⟨h.1, h.2.1, h.2.2.1, h.2.2.2.1, h.2.2.2.2.1, h.2.2.2.2.2.1, z1, z2⟩
theorem IV_ty {c0 c1 c2 c4 c5 c6 c7 c8 c9 c11 c0' c5' c11' : Nat → Nat → Int32} {w0 w1 w6 w8 w11 : Nat → Nat → Int64} (h : IV c0 w0 c1 w1 c2 c4 c5 c6 w6 c7 c8 w8 c9 c11 w11) (hT : (TR c5' c11' ∧ c0' = c0 ∧ ∀ k, k ≠ 20 → k ≠ 21 → c11' k = c11 k) ∨ (c5' = c5 ∧ ∃ i, i < 3 ∧ c0' = rs c0 5 (upd (c0 5) i (c0 5 i + 1)) ∧ c11' = rs c11 3 (upd (c11 3) i (c11 3 i + 1)))) : IV c0' w0 c1 w1 c2 c4 c5' c6 w6 c7 c8 w8 c9 c11' w11 := by
  rcases hT with ⟨t, rfl, k⟩ | ⟨rfl, hr⟩
  · obtain ⟨h1, h2, h3, h4, h5, h6, h7, h8⟩ := h
    exact ⟨by rw [k 0 (by omega) (by omega)]; exact h1, h2, t, IM_keep rfl (k 1 (by omega) (by omega)) (k 2 (by omega) (by omega)) h4, IM_keep rfl (k 1 (by omega) (by omega)) (k 2 (by omega) (by omega)) h5, SS_keep (k 3 (by omega) (by omega)) h6, h7, h8⟩
  · have hr2 := hr
    obtain ⟨i, hi, e1, e2⟩ := hr2
    exact IV_lk h (by rw [e2, rs_n _ _ (by omega)]) (Or.inr hr)
theorem IV_rd {c0 c1 c2 c4 c5 c6 c7 c8 c9 c11 c1' c2' c4' c5' c11' : Nat → Nat → Int32} {w0 w1 w6 w8 w11 : Nat → Nat → Int64} (h : IV c0 w0 c1 w1 c2 c4 c5 c6 w6 c7 c8 w8 c9 c11 w11) (hR : RB c1' w1 c2' (c11' 0)) (hg : GC c4') (hT : TR c5' c11') (k : KE c11 c11') : IV c0 w0 c1' w1 c2' c4' c5' c6 w6 c7 c8 w8 c9 c11' w11 := by
  obtain ⟨h1, h2, h3, h4, h5, h6, h7, h8⟩ := h
  exact ⟨hR, hg, hT, IM_keep rfl (k 1 (by omega)) (k 2 (by omega)) h4, IM_keep rfl (k 1 (by omega)) (k 2 (by omega)) h5, SS_keep (k 3 (by omega)) h6, h7, h8⟩
-- the law's loop
theorem end6 {L i : Nat} (hL : L ≤ 384) (hi : i ≤ 400) : (Int32.ofNat L - (6 : Int32) < nI i) ↔ L < i + 6 := by
  have e : (Int32.ofNat L - (6 : Int32)).toInt = (L : Int) - 6 := pk_sub_toInt (a := L) (b := 6) (by omega) (by omega)
  rw [Int32.lt_iff_toInt_lt, e, nI_toInt (by omega)]
  omega
theorem law_ok {xs : Nat → Int32} {L : Nat} (hL : L ≤ 384) : ∀ m n i c0 w0 c1 w1 c2 c4 c5 c6 w6 c7 c8 w8 c9 c10 c11 w11, L < i + 6 * (m + 1) → i ≤ 390 → IV c0 w0 c1 w1 c2 c4 c5 c6 w6 c7 c8 w8 c9 c11 w11 → ld_L_law_18 xs L FU (n + m + 1) c0 w0 c1 w1 c2 c4 c5 c6 w6 c7 c8 w8 c9 c10 c11 w11 (nI i) = some 1
  | 0, n, i, c0, w0, c1, w1, c2, c4, c5, c6, w6, c7, c8, w8, c9, c10, c11, w11, hm, hi, hv => by
    rw [Nat.add_zero, ld_L_law_18, if_pos ((end6 hL (by omega)).mpr (by omega))]
  | m + 1, n, i, c0, w0, c1, w1, c2, c4, c5, c6, w6, c7, c8, w8, c9, c10, c11, w11, hm, hi, hv => by
    show ld_L_law_18 xs L FU (n + m + 1 + 1) c0 w0 c1 w1 c2 c4 c5 c6 w6 c7 c8 w8 c9 c10 c11 w11 (nI i) = some 1
    rw [ld_L_law_18]
    by_cases hend : L < i + 6
    · rw [if_pos ((end6 hL (by omega)).mpr hend)]
    have i0 : inb (nI i) L := inb_nI (by omega) (by omega)
    have i1 : inb (nI i + (1 : Int32)) L := by rw [show nI i + (1 : Int32) = nI (i + 1) from nI_add i 1]; exact inb_nI (by omega) (by omega)
    have i2 : inb (nI i + (2 : Int32)) L := by rw [show nI i + (2 : Int32) = nI (i + 2) from nI_add i 2]; exact inb_nI (by omega) (by omega)
    have i3 : inb (nI i + (3 : Int32)) L := by rw [show nI i + (3 : Int32) = nI (i + 3) from nI_add i 3]; exact inb_nI (by omega) (by omega)
    have i4 : inb (nI i + (4 : Int32)) L := by rw [show nI i + (4 : Int32) = nI (i + 4) from nI_add i 4]; exact inb_nI (by omega) (by omega)
    have i5 : inb (nI i + (5 : Int32)) L := by rw [show nI i + (5 : Int32) = nI (i + 5) from nI_add i 5]; exact inb_nI (by omega) (by omega)
    have e6 : nI i + (6 : Int32) = nI (i + 6) := nI_add i 6
    rw [if_neg (fun z => hend ((end6 hL (by omega)).mp z)), if_pos i0, lt1_r, e6]
    generalize (xs (ix (nI i)) &&& (63 : Int32)) = y
    by_cases h0 : y = (0 : Int32)
    · obtain ⟨r, d0, d1, d2, d11, e1, e2, hR, hS⟩ := call_suit (c0 := c0) (w0 := w0) (w9 := w11) (xs (ix (nI i + (1 : Int32)))) (xs (ix (nI i + (2 : Int32)))) hv.1
      rw [if_pos h0, if_pos i1, if_pos i2, e1, bd4_s, if_pos i1, if_pos i2, e2, bd2_s, if_pos rfl]
      exact law_ok hL m n (i + 6) _ _ _ _ _ _ _ _ _ _ _ _ _ _ _ _ (by omega) (by omega) (IV_st hv hR (ST_SR hS))
    rw [if_neg h0]
    by_cases h1 : y = (1 : Int32)
    · obtain ⟨r, d0, d1, d2, d11, e1, e2, hR, hS⟩ := call_bows (c0 := c0) (w0 := w0) (w9 := w11) (xs (ix (nI i + (1 : Int32)))) (xs (ix (nI i + (2 : Int32)))) hv.1
      rw [if_pos h1, if_pos i1, if_pos i2, e1, bd4_s, if_pos i1, if_pos i2, e2, bd2_s, if_pos rfl]
      exact law_ok hL m n (i + 6) _ _ _ _ _ _ _ _ _ _ _ _ _ _ _ _ (by omega) (by omega) (IV_st hv hR (ST_SR hS))
    rw [if_neg h1]
    by_cases h2 : y = (2 : Int32)
    · obtain ⟨r, d0, d1, d2, d11, e1, e2, hR, hS⟩ := call_point (c0 := c0) (w0 := w0) (w9 := w11) (xs (ix (nI i + (1 : Int32)))) (xs (ix (nI i + (2 : Int32)))) (xs (ix (nI i + (3 : Int32)))) hv.1
      rw [if_pos h2, if_pos i1, if_pos i2, if_pos i3, e1, bd4_s, if_pos i1, if_pos i2, if_pos i3, e2, bd2_s, if_pos rfl]
      exact law_ok hL m n (i + 6) _ _ _ _ _ _ _ _ _ _ _ _ _ _ _ _ (by omega) (by omega) (IV_st hv hR (ST_SR hS))
    rw [if_neg h2]
    by_cases h3 : y = (3 : Int32)
    · obtain ⟨r, d0, d5, d11, e1, e2, hT⟩ := call_type (c0 := c0) (w0 := w0) (w9 := w11) (xs (ix (nI i + (1 : Int32)))) hv.2.2.1
      rw [if_pos h3, if_pos i1, e1, bd3_s, if_pos i1, e2, bd2_s, if_pos rfl]
      exact law_ok hL m n (i + 6) _ _ _ _ _ _ _ _ _ _ _ _ _ _ _ _ (by omega) (by omega) (IV_ty hv hT)
    rw [if_neg h3]
    by_cases h4 : y = (4 : Int32)
    · obtain ⟨r, d5, d11, e1, e2, hT, hk⟩ := call_clear (c0 := c0) (w0 := w0) (w9 := w11) hv.2.2.1
      rw [if_pos h4, e1, bd2_s, e2, bd2_s, if_pos rfl]
      exact law_ok hL m n (i + 6) _ _ _ _ _ _ _ _ _ _ _ _ _ _ _ _ (by omega) (by omega) (IV_ty hv (Or.inl ⟨hT, rfl, fun k _ k2 => hk k k2⟩))
    rw [if_neg h4]
    by_cases h5 : y = (5 : Int32)
    · obtain ⟨r, d1, d2, d4, d5, d11, e1, e2, hR, hg, hT, hk⟩ := call_read (c0 := c0) (w0 := w0) (w9 := w11) hv.1 hv.2.1 hv.2.2.1
      rw [if_pos h5, e1, bd5_s, e2, bd2_s, if_pos rfl]
      exact law_ok hL m n (i + 6) _ _ _ _ _ _ _ _ _ _ _ _ _ _ _ _ (by omega) (by omega) (IV_rd hv hR hg hT hk)
    rw [if_neg h5]
    by_cases h6 : y = (6 : Int32)
    · obtain ⟨r, d0, d1, v1, d2, d11, e1, e2, hR, hS⟩ := call_says (c0 := c0) (w0 := w0) (w9 := w11) (xs (ix (nI i + (1 : Int32)))) hv.1
      rw [if_pos h6, if_pos i1, e1, bd5_s, if_pos i1, e2, bd2_s, if_pos rfl]
      exact law_ok hL m n (i + 6) _ _ _ _ _ _ _ _ _ _ _ _ _ _ _ _ (by omega) (by omega) (IV_st hv hR (ST_SR hS))
    rw [if_neg h6]
    by_cases h7 : y = (7 : Int32)
    · obtain ⟨r, d0, d1, v1, d2, d11, e1, e2, hR, hS⟩ := call_objects (c0 := c0) (w0 := w0) (w9 := w11) hv.1
      rw [if_pos h7, e1, bd5_s, e2, bd2_s, if_pos rfl]
      exact law_ok hL m n (i + 6) _ _ _ _ _ _ _ _ _ _ _ _ _ _ _ _ (by omega) (by omega) (IV_st hv hR (ST_SR hS))
    rw [if_neg h7]
    by_cases h8 : y = (8 : Int32)
    · obtain ⟨r, d0, d1, d2, d11, e1, e2, hR, hS⟩ := call_undo (c0 := c0) (w0 := w0) (w9 := w11) hv.1
      rw [if_pos h8, e1, bd4_s, e2, bd2_s, if_pos rfl]
      exact law_ok hL m n (i + 6) _ _ _ _ _ _ _ _ _ _ _ _ _ _ _ _ (by omega) (by omega) (IV_st hv hR (ST_SR hS))
    rw [if_neg h8]
    by_cases h9 : y = (9 : Int32)
    · obtain ⟨r, d0, d11, e1, e2, h0, hS⟩ := call_now (c0 := c0) (w0 := w0) (w9 := w11) (xs (ix (nI i + (1 : Int32)))) hv.1
      rw [if_pos h9, if_pos i1, e1, bd2_s, if_pos i1, e2, bd2_s, if_pos rfl]
      exact law_ok hL m n (i + 6) _ _ _ _ _ _ _ _ _ _ _ _ _ _ _ _ (by omega) (by omega) (IV_lk hv h0 (ST_SR hS))
    rw [if_neg h9]
    by_cases h10 : y = (10 : Int32)
    · obtain ⟨r, d0, d11, e1, e2, h0, hS⟩ := call_of (c0 := c0) (w0 := w0) (w9 := w11) (xs (ix (nI i + (1 : Int32)))) (xs (ix (nI i + (2 : Int32)))) hv.1
      rw [if_pos h10, if_pos i1, if_pos i2, e1, bd2_s, if_pos i1, if_pos i2, e2, bd2_s, if_pos rfl]
      exact law_ok hL m n (i + 6) _ _ _ _ _ _ _ _ _ _ _ _ _ _ _ _ (by omega) (by omega) (IV_lk hv h0 (ST_SR hS))
    rw [if_neg h10]
    by_cases h11 : y = (11 : Int32)
    · obtain ⟨r, d0, d11, e1, e2, h0, hS⟩ := call_about (c0 := c0) (w0 := w0) (w9 := w11) (xs (ix (nI i + (1 : Int32)))) (xs (ix (nI i + (2 : Int32)))) hv.1
      rw [if_pos h11, if_pos i1, if_pos i2, e1, bd2_s, if_pos i1, if_pos i2, e2, bd2_s, if_pos rfl]
      exact law_ok hL m n (i + 6) _ _ _ _ _ _ _ _ _ _ _ _ _ _ _ _ (by omega) (by omega) (IV_lk hv h0 (ST_SR hS))
    rw [if_neg h11]
    by_cases h12 : y = (12 : Int32)
    · obtain ⟨r, d0, d11, e1, e2, h0, hS⟩ := call_moves (c0 := c0) (w0 := w0) (w9 := w11) (xs (ix (nI i + (1 : Int32)))) hv.1
      rw [if_pos h12, if_pos i1, e1, bd2_s, if_pos i1, e2, bd2_s, if_pos rfl]
      exact law_ok hL m n (i + 6) _ _ _ _ _ _ _ _ _ _ _ _ _ _ _ _ (by omega) (by omega) (IV_lk hv h0 (ST_SR hS))
    rw [if_neg h12]
    by_cases h13 : y = (13 : Int32)
    · obtain ⟨r, d0, d3, d11, e1, e2, h0, hS⟩ := call_play (c0 := c0) (c3 := c10) (w0 := w0) (w9 := w11) (xs (ix (nI i + (1 : Int32)))) hv.1
      rw [if_pos h13, if_pos i1, e1, bd3_s, if_pos i1, e2, bd2_s, if_pos rfl]
      exact law_ok hL m n (i + 6) _ _ _ _ _ _ _ _ _ _ _ _ _ _ _ _ (by omega) (by omega) (IV_lk hv h0 hS)
    rw [if_neg h13]
    by_cases h14 : y = (14 : Int32)
    · obtain ⟨r, d0, d3, d11, e1, e2, h0, hS⟩ := call_proof (c0 := c0) (c3 := c10) (w0 := w0) (w9 := w11) (xs (ix (nI i + (1 : Int32)))) hv.1
      rw [if_pos h14, if_pos i1, e1, bd3_s, if_pos i1, e2, bd2_s, if_pos rfl]
      exact law_ok hL m n (i + 6) _ _ _ _ _ _ _ _ _ _ _ _ _ _ _ _ (by omega) (by omega) (IV_lk hv h0 hS)
    rw [if_neg h14]
    by_cases h15 : y = (15 : Int32)
    · obtain ⟨r, d0, d1, d11, e1, e2, hR, hS⟩ := call_ends (c0 := c0) (w0 := w0) (w9 := w11) (xs (ix (nI i + (1 : Int32)))) hv.1
      rw [if_pos h15, if_pos i1, e1, bd3_s, if_pos i1, e2, bd2_s, if_pos rfl]
      exact law_ok hL m n (i + 6) _ _ _ _ _ _ _ _ _ _ _ _ _ _ _ _ (by omega) (by omega) (IV_st hv hR (ST_SR hS))
    rw [if_neg h15]
    by_cases h16 : y = (16 : Int32)
    · obtain ⟨r, d0, d3, d11, e1, e2, h0, hS⟩ := call_bowed (c0 := c0) (c3 := c10) (w0 := w0) (w9 := w11) (xs (ix (nI i + (1 : Int32)))) hv.1
      rw [if_pos h16, if_pos i1, e1, bd3_s, if_pos i1, e2, bd2_s, if_pos rfl]
      exact law_ok hL m n (i + 6) _ _ _ _ _ _ _ _ _ _ _ _ _ _ _ _ (by omega) (by omega) (IV_lk hv h0 hS)
    rw [if_neg h16]
    by_cases h17 : y = (17 : Int32)
    · obtain ⟨r, d0, d1, d11, e1, e2, hR, hS⟩ := call_note (c0 := c0) (w0 := w0) (w9 := w11) (xs (ix (nI i + (1 : Int32)))) (xs (ix (nI i + (2 : Int32)))) (xs (ix (nI i + (3 : Int32)))) (xs (ix (nI i + (4 : Int32)))) (xs (ix (nI i + (5 : Int32)))) hv.1
      rw [if_pos h17, if_pos i1, if_pos i2, if_pos i3, if_pos i4, if_pos i5, e1, bd3_s, if_pos i1, if_pos i2, if_pos i3, if_pos i4, if_pos i5, e2, bd2_s, if_pos rfl]
      exact law_ok hL m n (i + 6) _ _ _ _ _ _ _ _ _ _ _ _ _ _ _ _ (by omega) (by omega) (IV_st hv hR (ST_SR hS))
    rw [if_neg h17]
    by_cases h18 : y = (18 : Int32)
    · obtain ⟨r, d0, d1, d11, e1, e2, hR, hS⟩ := call_mark (c0 := c0) (w0 := w0) (w9 := w11) (xs (ix (nI i + (1 : Int32)))) (xs (ix (nI i + (2 : Int32)))) (xs (ix (nI i + (3 : Int32)))) (xs (ix (nI i + (4 : Int32)))) hv.1
      rw [if_pos h18, if_pos i1, if_pos i2, if_pos i3, if_pos i4, e1, bd3_s, if_pos i1, if_pos i2, if_pos i3, if_pos i4, e2, bd2_s, if_pos rfl]
      exact law_ok hL m n (i + 6) _ _ _ _ _ _ _ _ _ _ _ _ _ _ _ _ (by omega) (by omega) (IV_st hv hR (ST_SR hS))
    rw [if_neg h18]
    by_cases h19 : y = (19 : Int32)
    · obtain ⟨r, d0, d1, d11, e1, e2, hR, hS⟩ := call_forget (c0 := c0) (w0 := w0) (w9 := w11) (xs (ix (nI i + (1 : Int32)))) hv.1
      rw [if_pos h19, if_pos i1, e1, bd3_s, if_pos i1, e2, bd2_s, if_pos rfl]
      exact law_ok hL m n (i + 6) _ _ _ _ _ _ _ _ _ _ _ _ _ _ _ _ (by omega) (by omega) (IV_st hv hR (ST_SR hS))
    rw [if_neg h19]
    by_cases h20 : y = (20 : Int32)
    · obtain ⟨r, d0, d11, e1, e2, h0, hS⟩ := call_is (c0 := c0) (w0 := w0) (w9 := w11) (xs (ix (nI i + (1 : Int32)))) hv.1
      rw [if_pos h20, if_pos i1, e1, bd2_s, if_pos i1, e2, bd2_s, if_pos rfl]
      exact law_ok hL m n (i + 6) _ _ _ _ _ _ _ _ _ _ _ _ _ _ _ _ (by omega) (by omega) (IV_lk hv h0 (ST_SR hS))
    rw [if_neg h20]
    by_cases h21 : y = (21 : Int32)
    · obtain ⟨r, d0, d11, e1, e2, h0, hS⟩ := call_look (c0 := c0) (w0 := w0) (w9 := w11) (xs (ix (nI i + (1 : Int32)))) hv.1
      rw [if_pos h21, if_pos i1, e1, bd2_s, if_pos i1, e2, bd2_s, if_pos rfl]
      exact law_ok hL m n (i + 6) _ _ _ _ _ _ _ _ _ _ _ _ _ _ _ _ (by omega) (by omega) (IV_lk hv h0 hS)
    rw [if_neg h21]
    by_cases h22 : y = (22 : Int32)
    · obtain ⟨r, d0, d11, e1, e2, h0, hS⟩ := call_kinds (c0 := c0) (w0 := w0) (w9 := w11) (xs (ix (nI i + (1 : Int32)))) hv.1
      rw [if_pos h22, if_pos i1, e1, bd2_s, if_pos i1, e2, bd2_s, if_pos rfl]
      exact law_ok hL m n (i + 6) _ _ _ _ _ _ _ _ _ _ _ _ _ _ _ _ (by omega) (by omega) (IV_lk hv h0 (ST_SR hS))
    rw [if_neg h22]
    by_cases h23 : y = (23 : Int32)
    · obtain ⟨r, d0, d11, e1, e2, h0, hS⟩ := call_ask (c0 := c0) (w0 := w0) (w9 := w11) (xs (ix (nI i + (1 : Int32)))) hv.1
      rw [if_pos h23, if_pos i1, e1, bd2_s, if_pos i1, e2, bd2_s, if_pos rfl]
      exact law_ok hL m n (i + 6) _ _ _ _ _ _ _ _ _ _ _ _ _ _ _ _ (by omega) (by omega) (IV_lk hv h0 hS)
    rw [if_neg h23]
    by_cases h24 : y = (24 : Int32)
    · obtain ⟨r, d0, d3, d11, e1, e2, h0, hS⟩ := call_settle (c0 := c0) (c3 := c10) (w0 := w0) (w9 := w11) (xs (ix (nI i + (1 : Int32)))) hv.1
      rw [if_pos h24, if_pos i1, e1, bd3_s, if_pos i1, e2, bd2_s, if_pos rfl]
      exact law_ok hL m n (i + 6) _ _ _ _ _ _ _ _ _ _ _ _ _ _ _ _ (by omega) (by omega) (IV_lk hv h0 hS)
    rw [if_neg h24]
    by_cases h25 : y = (25 : Int32)
    · obtain ⟨r, d0, v0, d3, d11, v11, e1, e2, h0, hS, z1, z2⟩ := call_hearings (c0 := c0) (c3 := c10) (w0 := w0) (w9 := w11) (xs (ix (nI i + (1 : Int32)))) hv.1 hv.2.2.2.2.2.2.1 hv.2.2.2.2.2.2.2
      rw [if_pos h25, if_pos i1, e1, bd4_s, if_pos i1, e2, bd3_s, if_pos rfl]
      exact law_ok hL m n (i + 6) _ _ _ _ _ _ _ _ _ _ _ _ _ _ _ _ (by omega) (by omega) (IV_wd (IV_lk hv h0 hS) z1 z2)
    rw [if_neg h25]
    by_cases h26 : y = (26 : Int32)
    · obtain ⟨r, d0, d3, d11, e1, e2, h0, hS⟩ := call_days (c0 := c0) (c3 := c10) (w0 := w0) (w9 := w11) (xs (ix (nI i + (1 : Int32)))) (xs (ix (nI i + (2 : Int32)))) hv.1
      rw [if_pos h26, if_pos i1, if_pos i2, e1, bd3_s, if_pos i1, if_pos i2, e2, bd2_s, if_pos rfl]
      exact law_ok hL m n (i + 6) _ _ _ _ _ _ _ _ _ _ _ _ _ _ _ _ (by omega) (by omega) (IV_lk hv h0 hS)
    rw [if_neg h26]
    by_cases h27 : y = (27 : Int32)
    · obtain ⟨r, d0, d11, e1, e2, h0, hS⟩ := call_part (c0 := c0) (c9 := c11) (w0 := w0) (w9 := w11) (xs (ix (nI i + (1 : Int32)))) hv.2.2.2.2.2.2.1 hv.2.2.2.2.2.2.2
      rw [if_pos h27, if_pos i1, e1, bd2_s, if_pos i1, e2, bd2_s, if_pos ((lg_cmp_eq _ _).mpr rfl)]
      exact law_ok hL m n (i + 6) _ _ _ _ _ _ _ _ _ _ _ _ _ _ _ _ (by omega) (by omega) (IV_lk hv h0 (ST_SR hS))
    rw [if_neg h27]
    by_cases h28 : y = (28 : Int32)
    · obtain ⟨r, d0, d6, v6, d7, d8, v8, d9, d11, e1, e2, h0, hs, m0, m1, k20, k21⟩ := call_image (w0 := w0) (w9 := w11) (xs (ix (nI i + (1 : Int32)))) hv.1 hv.2.2.2.2.2.1 hv.2.2.2.1 hv.2.2.2.2.1
      rw [if_pos h28, if_pos i1, e1, bd8_s, if_pos i1, e2, bd2_s, if_pos rfl]
      exact law_ok hL m n (i + 6) _ _ _ _ _ _ _ _ _ _ _ _ _ _ _ _ (by omega) (by omega) (⟨by rw [h0]; exact hv.1, hv.2.1, TR_keep k20 k21 hv.2.2.1, m0, m1, hs, hv.2.2.2.2.2.2.1, hv.2.2.2.2.2.2.2⟩)
    rw [if_neg h28]
    by_cases h29 : y = (29 : Int32)
    · obtain ⟨r, d0, d1, v1, d2, d11, e1, e2, hR, hS⟩ := call_from (w0 := w0) (w9 := w11) (xs (ix (nI i + (1 : Int32)))) hv.1 hv.2.2.2.1 hv.2.2.2.2.1
      rw [if_pos h29, if_pos i1, e1, bd5_s, if_pos i1, e2, bd2_s, if_pos rfl]
      exact law_ok hL m n (i + 6) _ _ _ _ _ _ _ _ _ _ _ _ _ _ _ _ (by omega) (by omega) (IV_st hv hR (ST_SR hS))
    rw [if_neg h29]
    by_cases h30 : y = (30 : Int32)
    · obtain ⟨r, d0, d11, e1, e2, h0, hS⟩ := call_status (w0 := w0) (w9 := w11) (xs (ix (nI i + (1 : Int32)))) hv.2.2.2.2.2.1
      rw [if_pos h30, if_pos i1, e1, bd2_s, if_pos i1, e2, bd2_s, if_pos rfl]
      exact law_ok hL m n (i + 6) _ _ _ _ _ _ _ _ _ _ _ _ _ _ _ _ (by omega) (by omega) (IV_lk hv h0 (ST_SR hS))
    rw [if_neg h30]
    by_cases h31 : y = (31 : Int32)
    · obtain ⟨r, d0, d11, e1, e2, h0, hS⟩ := call_count (c0 := c0) (w0 := w0) (w9 := w11) (xs (ix (nI i + (1 : Int32)))) hv.1 hv.2.2.1
      rw [if_pos h31, if_pos i1, e1, bd2_s, if_pos i1, e2, bd2_s, if_pos rfl]
      exact law_ok hL m n (i + 6) _ _ _ _ _ _ _ _ _ _ _ _ _ _ _ _ (by omega) (by omega) (IV_lk hv h0 (ST_SR hS))
    rw [if_neg h31]
    by_cases h32 : y = (32 : Int32)
    · obtain ⟨r, e1, e2⟩ := call_digest (c0 := c0) hv.1 hv.2.2.1 hv.2.2.2.2.2.2.1 hv.2.2.2.2.2.2.2
      rw [if_pos h32, e1, bd2_s, e2, bd1_s, if_pos ((lg_cmp_eq _ _).mpr rfl)]
      exact law_ok hL m n (i + 6) _ _ _ _ _ _ _ _ _ _ _ _ _ _ _ _ (by omega) (by omega) (hv)
    rw [if_neg h32]
    exact law_ok hL m n (i + 6) _ _ _ _ _ _ _ _ _ _ _ _ _ _ _ _ (by omega) (by omega) hv
-- the beginning
theorem GC_0 : GC cC0 := fun j hj => ⟨0, by omega, by simp [cC0, rs]; rfl⟩
theorem CE_0 : CE (bgC cC0 0 0) cC0 := by
  refine ⟨fun j hj => ?_, fun j hj => ?_, fun k h1 h2 => ?_⟩
  · have : j = 0 ∨ j = 1 := by omega
    rcases this with rfl | rfl <;> simp [bgC, cC0, rs, upd]
  · simp [bgC, cC0, rs]
  · have : k = 5 ∨ k = 6 ∨ k = 7 ∨ k = 8 ∨ k = 9 := by omega
    rcases this with rfl | rfl | rfl | rfl | rfl <;> simp [bgC, cC0, rs]
theorem IV_0 : IV cS0 wS0 cB0 wB0 cC0 cC0 cT0 cB0 wB0 cC0 cB0 wB0 cC0 (cM0 (rs (fun _ _ => 0) 0 (bg9 (fun _ => 0) 0 0))) wM0 := by
  have e0 : cM0 (rs (fun _ _ => 0) 0 (bg9 (fun _ => 0) 0 0)) 0 = bg9 (fun _ => 0) 0 0 := by
    unfold cM0
    rw [rs_s, rs_s]
  have en : ∀ k, k ≠ 0 → cM0 (rs (fun _ _ => 0) 0 (bg9 (fun _ => 0) 0 0)) k = fun _ => 0 := fun k hk => by
    unfold cM0
    rw [rs_n _ _ hk]
  refine ⟨?_, GC_0, ⟨0, by omega, rfl, ?_, fun j hj => by omega⟩, ⟨?_, fun z => absurd rfl z⟩, ⟨?_, fun z => absurd rfl z⟩, fun i hi => ?_, ?_, ?_⟩
  · rw [e0]
    refine RB_of (CE_R1 CE_0 (begin_R1 (fun _ => 0) 0 0 GC_0)) (R2_0 ?_ rfl) (R3_0 ?_ rfl) (R4_0 ?_ rfl) (R5_0 ?_ rfl)
    · simp [bg9, upd, zr]; rfl
    · simp [bg9, upd, zr]; rfl
    · simp [bg9, upd, zr]; rfl
    · simp [bg9, upd, zr]; rfl
  · rw [en 21 (by omega)]; rfl
  · rw [en 2 (by omega)]; rfl
  · rw [en 2 (by omega)]; rfl
  · rw [en 3 (by omega)]; rfl
  · simp [wS0, wM0, rs]
  · simp [wS0, wM0, rs]
theorem law_all (xs : Nat → Int32) {L : Nat} (hL : L ≤ 384) : md_L_law xs L FU cS0 wS0 cB0 wB0 cC0 cC0 cT0 cB0 wB0 cC0 cB0 wB0 cC0 cC0 (cM0 (rs (fun _ _ => 0) 0 (bg9 (fun _ => 0) 0 0))) wM0 = some (1 : Int32) := by
  have h := law_ok (xs := xs) hL 64 1999935 0 cS0 wS0 cB0 wB0 cC0 cC0 cT0 cB0 wB0 cC0 cB0 wB0 cC0 cC0 _ wM0 (by omega) (by omega) IV_0
  rw [show 1999935 + 64 + 1 = FU from by decide] at h
  exact h
