-- the reference's past: saving, taking back
theorem rs_rs {α : Type} (c : Nat → α) (k : Nat) (x y : α) : rs (rs c k x) k y = rs c k y := by
  funext j
  unfold rs
  by_cases h : j = k
  · rw [if_pos h, if_pos h]
  · rw [if_neg h, if_neg h, if_neg h]
theorem rs_id {α : Type} (c : Nat → α) (k : Nat) : rs c k (c k) = c := by
  funext j
  unfold rs
  by_cases h : j = k
  · rw [if_pos h, h]
  · rw [if_neg h]
def cp (a : Nat → Int32) (D S n : Nat) : Nat → Int32 := fun x => if D ≤ x ∧ x < D + n then a (S + (x - D)) else a x
theorem cp_0 (a : Nat → Int32) (D S : Nat) : cp a D S 0 = a := by
  funext x
  unfold cp
  rw [if_neg (by omega)]
theorem cp_s (a : Nat → Int32) {D S i : Nat} (h : D ≤ S ∨ S + i < D) : upd (cp a D S i) (D + i) (cp a D S i (S + i)) = cp a D S (i + 1) := by
  funext x
  by_cases hx : x = D + i
  · subst hx
    rw [upd_s]
    unfold cp
    rw [if_neg (by omega), if_pos (by omega), show D + i - D = i from by omega]
  · rw [upd_n hx]
    unfold cp
    by_cases h1 : D ≤ x ∧ x < D + i
    · rw [if_pos h1, if_pos (by omega)]
    · rw [if_neg h1, if_neg (by omega)]
theorem ad13 (K i : Nat) : (90 : Int32) + (13 : Int32) * nI K + nI i = nI (90 + 13 * K + i) := by
  have e1 : (90 : Int32) = nI 90 := rfl
  have e2 : (13 : Int32) = nI 13 := rfl
  rw [e1, e2, pk_mul, nI_add, nI_add]
theorem adk (k : Nat) {x : Int32} (hx : x = nI k) (i : Nat) : x + nI i = nI (k + i) := by rw [hx, nI_add]
theorem save53 {F : Nat} {w : Nat → Nat → Int64} {c : Nat → Nat → Int32} {a : Nat → Int32} {K n : Nat} (hK : K < 8) (h4 : a 4 = nI K) : ∀ m i, i + m = 13 → ld_X9_save_53 F w (n + 1 + m) (rs c 0 (cp a (90 + 13 * K) 5 i)) (nI i) = some (rs c 0 (upd (cp a (90 + 13 * K) 5 13) 4 (nI (K + 1))))
  | 0, i, h => by
    have : i = 13 := by omega
    subst this
    have e : (13 : Int32) ≤ nI 13 := by decide
    have e4 : cp a (90 + 13 * K) 5 13 4 = nI K := by
      unfold cp
      rw [if_neg (by omega), h4]
    rw [Nat.add_zero, ld_X9_save_53, if_pos e, rs_s, rs_rs, e4, nI_1]
  | m + 1, i, h => by
    have e : ¬ (13 : Int32) ≤ nI i := nI_ge (a := i) (b := 13) (by omega) (by omega)
    have e4 : cp a (90 + 13 * K) 5 i 4 = nI K := by
      unfold cp
      rw [if_neg (by omega), h4]
    show ld_X9_save_53 F w (n + 1 + m + 1) _ _ = _
    rw [ld_X9_save_53, if_neg e, rs_s, e4, ad13, adk 5 (x := (5 : Int32)) rfl, if_pos (inb_nI (by omega) (by omega)), if_pos (inb_nI (by omega) (by omega)), rs_rs, ix_nI (by omega), ix_nI (by omega), cp_s a (by omega), nI_1]
    exact save53 hK h4 m (i + 1) (by omega)
theorem save13 {F N : Nat} {w : Nat → Nat → Int64} {c : Nat → Nat → Int32} {a : Nat → Int32} {n : Nat} (hF : F = N + 1 + 13) : ∀ m i, i + m = 91 → ld_X9_save_13 F w (n + 1 + m) (rs c 0 (cp a 90 103 i)) (nI i) = some (rs c 0 (upd (cp (upd (cp a 90 103 91) 4 (nI 7)) 181 5 13) 4 (nI 8)))
  | 0, i, h => by
    have : i = 91 := by omega
    subst this
    have e : (91 : Int32) ≤ nI 91 := by decide
    have e7 : (7 : Int32) = nI 7 := rfl
    have h5 := save53 (F := F) (w := w) (c := c) (a := upd (cp a 90 103 91) 4 (nI 7)) (K := 7) (n := N) (by omega) upd_s 13 0 (by omega)
    rw [cp_0, ← hF] at h5
    rw [Nat.add_zero, ld_X9_save_13, if_pos e, rs_s, rs_rs, e7]
    exact h5
  | m + 1, i, h => by
    have e : ¬ (91 : Int32) ≤ nI i := nI_ge (a := i) (b := 91) (by omega) (by omega)
    show ld_X9_save_13 F w (n + 1 + m + 1) _ _ = _
    rw [ld_X9_save_13, if_neg e, rs_s, adk 103 (x := (103 : Int32)) rfl, adk 90 (x := (90 : Int32)) rfl, if_pos (inb_nI (by omega) (by omega)), if_pos (inb_nI (by omega) (by omega)), rs_rs, ix_nI (by omega), ix_nI (by omega), cp_s a (by omega), nI_1]
    exact save13 hF m (i + 1) (by omega)
def sv9 (a : Nat → Int32) (K : Nat) : Nat → Int32 := if K = 8 then upd (cp (upd (cp a 90 103 91) 4 (nI 7)) 181 5 13) 4 (nI 8) else upd (cp a (90 + 13 * K) 5 13) 4 (nI (K + 1))
theorem save9 (c : Nat → Nat → Int32) (w : Nat → Nat → Int64) {K : Nat} (hK : K ≤ 8) (h4 : c 0 4 = nI K) : md_X9_save FU c w = some (rs c 0 (sv9 (c 0) K)) := by
  obtain ⟨N, hN⟩ : ∃ N, FU = N + 1 + 91 := ⟨1999908, by decide⟩
  unfold md_X9_save sv9
  by_cases h8 : K = 8
  · subst h8
    have h := save13 (F := FU) (N := N + 78) (w := w) (c := c) (a := c 0) (n := N) (by omega) 91 0 (by omega)
    rw [cp_0, rs_id, ← hN] at h
    rw [h4, if_pos (show nI 8 = (8 : Int32) from rfl)]
    exact h
  · have e : ¬ nI K = (8 : Int32) := fun z => h8 ((nI_eq (b := 8) (by omega) (by omega)).mp z)
    have h := save53 (F := FU) (w := w) (c := c) (a := c 0) (K := K) (n := N + 78) (by omega) h4 13 0 (by omega)
    rw [cp_0, rs_id, show N + 78 + 1 + 13 = FU from by omega] at h
    rw [h4, if_neg e, if_neg h8]
    exact h
theorem undo28 {F : Nat} {w : Nat → Nat → Int64} {c : Nat → Nat → Int32} {a : Nat → Int32} {K n : Nat} (hK : K < 8) (h4 : a 4 = nI K) : ∀ m i, i + m = 13 → ld_X9_undo_28 F w (n + 1 + m) (rs c 0 (cp a 5 (90 + 13 * K) i)) (nI i) = some (a (90 + 13 * K + 11), rs c 0 (cp a 5 (90 + 13 * K) 13))
  | 0, i, h => by
    have : i = 13 := by omega
    subst this
    have e : (13 : Int32) ≤ nI 13 := by decide
    have e16 : cp a 5 (90 + 13 * K) 13 16 = a (90 + 13 * K + 11) := by
      unfold cp
      rw [if_pos (by omega)]
    rw [Nat.add_zero, ld_X9_undo_28, if_pos e, rs_s, e16]
  | m + 1, i, h => by
    have e : ¬ (13 : Int32) ≤ nI i := nI_ge (a := i) (b := 13) (by omega) (by omega)
    have e4 : cp a 5 (90 + 13 * K) i 4 = nI K := by
      unfold cp
      rw [if_neg (by omega), h4]
    show ld_X9_undo_28 F w (n + 1 + m + 1) _ _ = _
    rw [ld_X9_undo_28, if_neg e, rs_s, e4, ad13, adk 5 (x := (5 : Int32)) rfl, if_pos (inb_nI (by omega) (by omega)), lt1_r, if_pos (inb_nI (by omega) (by omega)), rs_rs, ix_nI (by omega), ix_nI (by omega), cp_s a (by omega), nI_1]
    exact undo28 hK h4 m (i + 1) (by omega)
def un9 (a : Nat → Int32) (K : Nat) : Nat → Int32 := cp (upd a 4 (nI K)) 5 (90 + 13 * K) 13
theorem undo9 (c : Nat → Nat → Int32) (w : Nat → Nat → Int64) {K : Nat} (hK : K < 8) (h4 : c 0 4 = nI (K + 1)) : md_X9_undo FU c w = some (c 0 (90 + 13 * K + 11), rs c 0 (un9 (c 0) K)) := by
  obtain ⟨N, hN⟩ : ∃ N, FU = N + 1 + 13 := ⟨1999986, by decide⟩
  have h := undo28 (F := FU) (w := w) (c := c) (a := upd (c 0) 4 (nI K)) (K := K) (n := N) hK upd_s 13 0 (by omega)
  rw [cp_0, ← hN, upd_n (by omega)] at h
  unfold md_X9_undo un9
  rw [h4, if_neg (nI_ne0 (by omega) (by omega)), nI_pred]
  exact h
