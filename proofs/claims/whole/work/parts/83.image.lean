-- copies of a court, images
theorem copy39 {F n : Nat} {s : Nat → Nat → Int32} : ∀ m i d, i + m = 6 → (∀ j, j < i → d 2 j = s 2 j ∧ d 3 j = s 3 j ∧ d 4 j = s 4 j) → ∃ e, ld_X3_copy_39 F s (n + 1 + m) d (nI i) = some e ∧ e 0 = d 0 ∧ e 1 = d 1 ∧ (∀ j, j < 6 → e 2 j = s 2 j ∧ e 3 j = s 3 j ∧ e 4 j = s 4 j) ∧ ∀ k, 5 ≤ k → k ≤ 9 → e k 0 = s k 0
  | 0, i, d, h, hd => by
    have : i = 6 := by omega
    subst this
    have l : (6 : Int32) ≤ nI 6 := by decide
    refine ⟨rs (rs (rs (rs (rs d 5 (fun _ => (s 5 0))) 6 (fun _ => (s 6 0))) 7 (fun _ => (s 7 0))) 8 (fun _ => (s 8 0))) 9 (fun _ => (s 9 0)), ?_, ?_, ?_, ?_, ?_⟩
    · rw [Nat.add_zero, ld_X3_copy_39, if_pos l]
    · simp [rs]
    · simp [rs]
    · intro j hj
      have := hd j hj
      simpa [rs] using this
    · intro k h1 h2
      have : k = 5 ∨ k = 6 ∨ k = 7 ∨ k = 8 ∨ k = 9 := by omega
      rcases this with rfl | rfl | rfl | rfl | rfl <;> simp [rs]
  | m + 1, i, d, h, hd => by
    have l : ¬ (6 : Int32) ≤ nI i := nI_ge (b := 6) (by omega) (by omega)
    have i6 : inb (nI i) 6 := inb_nI (by omega) (by omega)
    obtain ⟨e, e1, e2, e3, e4, e5⟩ := copy39 (F := F) (n := n) (s := s) m (i + 1) (rs (rs (rs d 2 (upd (d 2) i (s 2 i))) 3 (upd (d 3) i (s 3 i))) 4 (upd (d 4) i (s 4 i))) (by omega) (fun j hj => by
      by_cases hji : j = i
      · subst hji
        simp [rs, upd]
      · have := hd j (by omega)
        simpa [rs, upd, hji] using this)
    refine ⟨e, ?_, ?_, ?_, e4, e5⟩
    · show ld_X3_copy_39 F s (n + 1 + m + 1) _ _ = _
      rw [ld_X3_copy_39, if_neg l, if_pos i6, if_pos i6, if_pos i6, if_pos i6, if_pos i6, if_pos i6, ix_nI (by omega), nI_1]
      exact e1
    · rw [e2]; simp [rs]
    · rw [e3]; simp [rs]
theorem copy2 {n q : Nat} {F : Nat} (hF : F = q + 1 + 6) {s : Nat → Nat → Int32} : ∀ m i d, i + m = 2 → (∀ j, j < i → d 0 j = s 0 j ∧ d 1 j = s 1 j) → ∃ e, ld_X3_copy_2 F s (n + 1 + m) d (nI i) = some e ∧ (∀ j, j < 2 → e 0 j = s 0 j ∧ e 1 j = s 1 j) ∧ (∀ j, j < 6 → e 2 j = s 2 j ∧ e 3 j = s 3 j ∧ e 4 j = s 4 j) ∧ ∀ k, 5 ≤ k → k ≤ 9 → e k 0 = s k 0
  | 0, i, d, h, hd => by
    have : i = 2 := by omega
    subst this
    have l : (2 : Int32) ≤ nI 2 := by decide
    obtain ⟨e, e1, e2, e3, e4, e5⟩ := copy39 (F := F) (n := q) (s := s) 6 0 d (by omega) (fun j hj => by omega)
    rw [← hF] at e1
    refine ⟨e, ?_, fun j hj => ?_, e4, e5⟩
    · rw [Nat.add_zero, ld_X3_copy_2, if_pos l]
      exact e1
    · rw [e2, e3]
      exact hd j hj
  | m + 1, i, d, h, hd => by
    have l : ¬ (2 : Int32) ≤ nI i := nI_ge (b := 2) (by omega) (by omega)
    have i6 : inb (nI i) 2 := inb_nI (by omega) (by omega)
    obtain ⟨e, e1, e2⟩ := copy2 (n := n) hF (s := s) m (i + 1) (rs (rs d 0 (upd (d 0) i (s 0 i))) 1 (upd (d 1) i (s 1 i))) (by omega) (fun j hj => by
      by_cases hji : j = i
      · subst hji
        simp [rs, upd]
      · have := hd j (by omega)
        simpa [rs, upd, hji] using this)
    refine ⟨e, ?_, e2⟩
    show ld_X3_copy_2 F s (n + 1 + m + 1) _ _ = _
    rw [ld_X3_copy_2, if_neg l, if_pos i6, if_pos i6, if_pos i6, if_pos i6, ix_nI (by omega), nI_1]
    exact e1
/-- one court as another -/
def CE (s e : Nat → Nat → Int32) : Prop := (∀ j, j < 2 → e 0 j = s 0 j ∧ e 1 j = s 1 j) ∧ (∀ j, j < 6 → e 2 j = s 2 j ∧ e 3 j = s 3 j ∧ e 4 j = s 4 j) ∧ ∀ k, 5 ≤ k → k ≤ 9 → e k 0 = s k 0
theorem copy5 (s d : Nat → Nat → Int32) : ∃ e, md_X3_copy FU s d = some e ∧ CE s e := by
  obtain ⟨q, hq⟩ : ∃ q, FU = q + 1 + 6 := ⟨1999993, by decide⟩
  obtain ⟨n, hn⟩ : ∃ n, FU = n + 1 + 2 := ⟨1999997, by decide⟩
  obtain ⟨e, e1, e2⟩ := copy2 (n := n) hq (s := s) 2 0 d (by omega) (fun j hj => by omega)
  rw [← hn] at e1
  exact ⟨e, e1, e2⟩
theorem CE_R1 {P : Nat} {s e : Nat → Nat → Int32} {a : Nat → Int32} (h : CE s e) (r : R1 P s a) : R1 P e a := by
  obtain ⟨h1, h2, h3⟩ := h
  obtain ⟨hP, a0, ho, hx, ⟨c5, c6, c4, c10, c11, c8, c7, c9, cg⟩, hf⟩ := r
  refine ⟨hP, a0, ho, hx, ⟨?_, ?_, ?_, ?_, ?_, ?_, ?_, ?_, ?_⟩, fun j hj => ?_, ?_, ?_⟩
  · rw [h3 5 (by omega) (by omega), c5]
  · rw [h3 6 (by omega) (by omega), c6]
  · intro j hj
    rw [(h2 j (by omega)).2.2, c4 j hj]
  · rw [(h1 0 (by omega)).2, c10]
  · rw [(h1 1 (by omega)).2, c11]
  · rw [h3 8 (by omega) (by omega), c8]
  · rw [h3 7 (by omega) (by omega), c7]
  · rw [h3 9 (by omega) (by omega), c9]
  · intro j hj
    rw [(h2 j hj).2.2]
    exact cg j hj
  · rw [(h2 j (by omega)).1, (h2 j (by omega)).2.1]
    exact hf.1 j hj
  · rw [(h1 0 (by omega)).1]; exact hf.2.1
  · rw [(h1 1 (by omega)).1]; exact hf.2.2
theorem copyAll5 {c cc : Nat → Nat → Int32} {w : Nat → Nat → Int64} {a : Nat → Int32} (d dc : Nat → Nat → Int32) (dw : Nat → Nat → Int64) (h : RB c w cc a) : ∃ c' w' cc', md_X1_copyAll FU c w cc d dw dc = some (c', w', cc') ∧ RB c' w' cc' a := by
  obtain ⟨P, K, E, N, M, r1, ⟨hK, a4, c8, hp⟩, ⟨hE, a1, c2, he⟩, ⟨hN, a2, c4, hn⟩, ⟨hM, a3, c6, hm⟩⟩ := RB_to h
  obtain ⟨e, e1, e2⟩ := copy5 cc dc
  unfold md_X1_copyAll
  rw [e1, bd1_s]
  refine ⟨_, _, _, rfl, RB_of (CE_R1 e2 r1) (K := K) ⟨hK, a4, ?_, ?_⟩ (E := E) ⟨hE, a1, ?_, ?_⟩ (N := N) ⟨hN, a2, ?_, ?_⟩ (M := M) ⟨hM, a3, ?_, ?_⟩⟩
  · simp [rs, c8]
  · intro b hb
    have : rs dw 7 (va_cpy (w 7) (dw 7) 0 0 8) 7 b = w 7 b := by
      rw [rs_s, pk_cpy_in (by omega) (by omega), show 0 + (b - 0) = b from by omega]
    rw [this]
    exact hp b hb
  · simp [rs, c2]
  · intro j hj
    rw [rs_n _ _ (by omega), rs_n _ _ (by omega), rs_n _ _ (by omega), rs_n _ _ (by omega), rs_n _ _ (by omega), rs_n _ _ (by omega), rs_s, pk_cpy_in (by omega) (by omega), show 0 + (j - 0) = j from by omega]
    exact he j hj
  · simp [rs, c4]
  · intro j hj
    rw [rs_n _ _ (by omega), rs_n _ _ (by omega), rs_n _ _ (by omega), rs_n _ _ (by omega), rs_s, pk_cpy_in (by omega) (by omega), show 0 + (j - 0) = j from by omega]
    exact hn j hj
  · simp [rs, c6]
  · intro j hj
    rw [rs_n _ _ (by omega), rs_n _ _ (by omega), rs_s, pk_cpy_in (by omega) (by omega), show 0 + (j - 0) = j from by omega]
    exact hm j hj
theorem RB_ext {c cc : Nat → Nat → Int32} {w : Nat → Nat → Int64} {a b : Nat → Int32} (hx : ∀ x, x < 194 → b x = a x) (h : RB c w cc a) : RB c w cc b := by
  obtain ⟨P, K, E, N, M, r1, ⟨hK, a4, c8, hp⟩, r3, r4, r5⟩ := RB_to h
  refine RB_of (R1_ext (fun x _ => hx x (by omega)) r1) (K := K) ⟨hK, by rw [hx 4 (by omega), a4], c8, fun k hk => ?_⟩ (R3_ext (fun x _ => hx x (by omega)) rfl rfl r3) (R4_ext (fun x _ => hx x (by omega)) rfl rfl r4) (R5_ext (fun x _ => hx x (by omega)) rfl rfl r5)
  have hy : ∀ j, j < 13 → (fun j => b (90 + 13 * k + j)) j = (fun j => a (90 + 13 * k + j)) j := fun j hj => hx _ (by omega)
  exact ⟨OKd_ext r1.1 hy (hp k hk).1, PKd_ext r1.1 hy (hp k hk).2⟩
def cp2 (b a : Nat → Int32) (D S n : Nat) : Nat → Int32 := fun x => if D ≤ x ∧ x < D + n then a (S + (x - D)) else b x
theorem cp2_0 (b a : Nat → Int32) (D S : Nat) : cp2 b a D S 0 = b := by
  funext x
  unfold cp2
  rw [if_neg (by omega)]
theorem cp2_s (b a : Nat → Int32) (D S i : Nat) : upd (cp2 b a D S i) (D + i) (a (S + i)) = cp2 b a D S (i + 1) := by
  funext x
  by_cases hx : x = D + i
  · subst hx
    rw [upd_s]
    unfold cp2
    rw [if_pos (by omega), show D + i - D = i from by omega]
  · rw [upd_n hx]
    unfold cp2
    by_cases h1 : D ≤ x ∧ x < D + i
    · rw [if_pos h1, if_pos (by omega)]
    · rw [if_neg h1, if_neg (by omega)]
theorem cp2_in {b a : Nat → Int32} {D S n x : Nat} (h : x < n) : cp2 b a D S n (D + x) = a (S + x) := by
  unfold cp2
  rw [if_pos (by omega), show D + x - D = x from by omega]
theorem cp2_out {b a : Nat → Int32} {D S n x : Nat} (h : ¬ (D ≤ x ∧ x < D + n)) : cp2 b a D S n x = b x := if_neg h
theorem a194 (p i : Nat) : (194 : Int32) * nI p + nI i = nI (194 * p + i) := by
  have q1 : (194 : Int32) = nI 194 := rfl
  rw [q1, pk_mul, nI_add]
theorem img9 {F n p : Nat} {w : Nat → Nat → Int64} {c : Nat → Nat → Int32} {b : Nat → Int32} (hp : p < 2) : ∀ m i, i + m = 194 → ld_X9_image_19 F w (n + 1 + m) (rs c 1 (cp2 b (c 0) (194 * p) 0 i)) (nI p) (nI i) = some (1, rs (rs c 1 (cp2 b (c 0) (194 * p) 0 194)) 2 (upd (c 2) p 1))
  | 0, i, h => by
    have : i = 194 := by omega
    subst this
    have l : (194 : Int32) ≤ nI 194 := by decide
    have ip : inb (nI p) 2 := inb_nI (by omega) (by omega)
    rw [Nat.add_zero, ld_X9_image_19, if_pos l, if_pos ip, ix_nI (by omega), rs_n _ _ (by omega)]
  | m + 1, i, h => by
    have l : ¬ (194 : Int32) ≤ nI i := nI_ge (b := 194) (by omega) (by omega)
    have i1 : inb (nI i) 194 := inb_nI (by omega) (by omega)
    have i2 : inb (nI (194 * p + i)) 388 := inb_nI (by omega) (by omega)
    have hs := cp2_s b (c 0) (194 * p) 0 i
    rw [Nat.zero_add] at hs
    show ld_X9_image_19 F w (n + 1 + m + 1) _ _ _ = _
    rw [ld_X9_image_19, if_neg l, if_pos i1, a194, if_pos i2, rs_s, rs_rs, rs_n _ _ (by omega), ix_nI (by omega), ix_nI (by omega), hs, nI_1]
    exact img9 hp m (i + 1) (by omega)
theorem from9 {F n p : Nat} {w : Nat → Nat → Int64} {c : Nat → Nat → Int32} {b : Nat → Int32} (hp : p < 2) : ∀ m i, i + m = 194 → ld_X9_from_35 F w (n + 1 + m) (rs c 0 (cp2 b (c 1) 0 (194 * p) i)) (nI p) (nI i) = some (1, rs c 0 (cp2 b (c 1) 0 (194 * p) 194))
  | 0, i, h => by
    have : i = 194 := by omega
    subst this
    have l : (194 : Int32) ≤ nI 194 := by decide
    rw [Nat.add_zero, ld_X9_from_35, if_pos l]
  | m + 1, i, h => by
    have l : ¬ (194 : Int32) ≤ nI i := nI_ge (b := 194) (by omega) (by omega)
    have i1 : inb (nI i) 194 := inb_nI (by omega) (by omega)
    have i2 : inb (nI (194 * p + i)) 388 := inb_nI (by omega) (by omega)
    have hs := cp2_s b (c 1) 0 (194 * p) i
    rw [Nat.zero_add] at hs
    show ld_X9_from_35 F w (n + 1 + m + 1) _ _ _ = _
    rw [ld_X9_from_35, if_neg l, a194, if_pos i2, if_pos i1, rs_s, rs_rs, rs_n _ _ (by omega), ix_nI (by omega), ix_nI (by omega), hs, nI_1]
    exact from9 hp m (i + 1) (by omega)
/-- an image on both sides -/
def IM (i : Nat) (c0 c9 c : Nat → Nat → Int32) (w : Nat → Nat → Int64) (cc : Nat → Nat → Int32) : Prop := c0 2 i = c9 2 i ∧ (¬ c0 2 i = 0 → RB c w cc (fun x => c9 1 (194 * i + x)))
theorem IM_keep {i : Nat} {c0 c9 c0' c9' c cc : Nat → Nat → Int32} {w : Nat → Nat → Int64} (h0 : c0' 2 = c0 2) (h1 : c9' 1 = c9 1) (h2 : c9' 2 = c9 2) (h : IM i c0 c9 c w cc) : IM i c0' c9' c w cc := by
  unfold IM
  rw [h0, h1, h2]
  exact h
def SS (c0 c9 : Nat → Nat → Int32) : Prop := ∀ i, i < 3 → c0 5 i = c9 3 i
theorem SS_rf {c0 c9 : Nat → Nat → Int32} {i : Nat} (hi : i < 3) (h : SS c0 c9) : SS (rs c0 5 (upd (c0 5) i (c0 5 i + 1))) (rs c9 3 (upd (c9 3) i (c9 3 i + 1))) := by
  intro j hj
  rw [rs_s, rs_s]
  by_cases hji : j = i
  · subst hji
    rw [upd_s, upd_s, h j hj]
  · rw [upd_n hji, upd_n hji, h j hj]
theorem call_image {c0 c1 c2 c3 c4 c5 c6 c9 : Nat → Nat → Int32} {w0 w1 w3 w5 w9 : Nat → Nat → Int64} (p : Int32) (h : RB c1 w1 c2 (c9 0)) (hs : SS c0 c9) (m0 : IM 0 c0 c9 c3 w3 c4) (m1 : IM 1 c0 c9 c5 w5 c6) : ∃ r c0' c3' w3' c4' c5' w5' c6' c9', md_X8_image FU c0 w0 c1 w1 c2 c3 w3 c4 c5 w5 c6 p = some (r, c0', c3', w3', c4', c5', w5', c6') ∧ md_X9_image FU c9 w9 p = some (r, c9') ∧ c9' 0 = c9 0 ∧ SS c0' c9' ∧ IM 0 c0' c9' c3' w3' c4' ∧ IM 1 c0' c9' c5' w5' c6' ∧ c9' 20 = c9 20 ∧ c9' 21 = c9 21 := by
  unfold md_X8_image md_X9_image
  rw [wi8, in_01, bd1_s, bd1_s]
  rcases b01_c (0 ≤ p ∧ p ≤ 1) with ⟨hb, e⟩ | ⟨hb, e⟩
  · obtain ⟨q, hq⟩ : ∃ q, FU = q + 1 + 194 := ⟨1999805, by decide⟩
    rw [e, if10, if10]
    rcases two p hb with rfl | rfl
    · have i2 : inb (0 : Int32) 2 := by decide
      have x0 : ix (0 : Int32) = 0 := by decide
      have h9 := img9 (F := FU) (n := q) (w := w9) (c := c9) (b := c9 1) (p := 0) (by omega) 194 0 (by omega)
      obtain ⟨c', w', cc', e1, e2⟩ := copyAll5 c3 c4 w3 h
      rw [cp2_0, rs_id, ← hq] at h9
      rw [if_pos i2, if_pos (show (0 : Int32) = 0 from rfl), e1, bd3_s, if_pos i2, x0, show (0 : Int32) = nI 0 from rfl, h9]
      refine ⟨_, _, _, _, _, _, _, _, _, rfl, rfl, ?_, ?_, ⟨?_, ?_⟩, ⟨?_, ?_⟩, ?_, ?_⟩
      · rw [rs_n _ _ (by omega), rs_n _ _ (by omega)]
      · intro i hi
        rw [rs_n _ _ (by omega), rs_n _ _ (by omega), rs_n _ _ (by omega), hs i hi]
      · rw [rs_s, rs_s, upd_s, upd_s]
      · intro _
        refine RB_ext (fun x hx => ?_) e2
        rw [rs_n _ _ (by omega), rs_s, cp2_in hx, Nat.zero_add]
      · rw [rs_s, rs_s, upd_n (by omega), upd_n (by omega), m1.1]
      · rw [rs_s, upd_n (by omega)]
        intro hz
        refine RB_ext (fun x hx => ?_) (m1.2 hz)
        rw [rs_n _ _ (by omega), rs_s, cp2_out (by omega)]
      · rw [rs_n _ _ (by omega), rs_n _ _ (by omega)]
      · rw [rs_n _ _ (by omega), rs_n _ _ (by omega)]
    · have i2 : inb (1 : Int32) 2 := by decide
      have x0 : ix (1 : Int32) = 1 := by decide
      have h9 := img9 (F := FU) (n := q) (w := w9) (c := c9) (b := c9 1) (p := 1) (by omega) 194 0 (by omega)
      obtain ⟨c', w', cc', e1, e2⟩ := copyAll5 c5 c6 w5 h
      rw [cp2_0, rs_id, ← hq] at h9
      rw [if_pos i2, if_neg ne10, e1, bd3_s, if_pos i2, x0, show (1 : Int32) = nI 1 from rfl, show (0 : Int32) = nI 0 from rfl, h9]
      refine ⟨_, _, _, _, _, _, _, _, _, rfl, rfl, ?_, ?_, ⟨?_, ?_⟩, ⟨?_, ?_⟩, ?_, ?_⟩
      · rw [rs_n _ _ (by omega), rs_n _ _ (by omega)]
      · intro i hi
        rw [rs_n _ _ (by omega), rs_n _ _ (by omega), rs_n _ _ (by omega), hs i hi]
      · rw [rs_s, rs_s, upd_n (by omega), upd_n (by omega), m0.1]
      · rw [rs_s, upd_n (by omega)]
        intro hz
        refine RB_ext (fun x hx => ?_) (m0.2 hz)
        rw [rs_n _ _ (by omega), rs_s, cp2_out (by omega)]
      · rw [rs_s, rs_s, upd_s, upd_s]
        rfl
      · intro _
        refine RB_ext (fun x hx => ?_) e2
        rw [rs_n _ _ (by omega), rs_s, cp2_in hx, Nat.zero_add]
      · rw [rs_n _ _ (by omega), rs_n _ _ (by omega)]
      · rw [rs_n _ _ (by omega), rs_n _ _ (by omega)]
  · rw [e, if00, if00]
    refine ⟨_, _, _, _, _, _, _, _, _, rfl, rfl, rs_n _ _ (by omega), SS_rf (by omega) hs, IM_keep (rs_n _ _ (by omega)) (rs_n _ _ (by omega)) (rs_n _ _ (by omega)) m0, IM_keep (rs_n _ _ (by omega)) (rs_n _ _ (by omega)) (rs_n _ _ (by omega)) m1, rs_n _ _ (by omega), rs_n _ _ (by omega)⟩
theorem call_from {c0 c1 c2 c3 c4 c5 c6 c9 : Nat → Nat → Int32} {w0 w1 w3 w5 w9 : Nat → Nat → Int64} (p : Int32) (h : RB c1 w1 c2 (c9 0)) (m0 : IM 0 c0 c9 c3 w3 c4) (m1 : IM 1 c0 c9 c5 w5 c6) : ∃ r c0' c1' w1' c2' c9', md_X8_from FU c0 w0 c1 w1 c2 c3 w3 c4 c5 w5 c6 p = some (r, c0', c1', w1', c2') ∧ md_X9_from FU c9 w9 p = some (r, c9') ∧ RB c1' w1' c2' (c9' 0) ∧ SR c0 c9 c0' c9' := by
  unfold md_X8_from md_X9_from
  rw [wi8, in_01, bd1_s, bd1_s]
  rcases b01_c (0 ≤ p ∧ p ≤ 1) with ⟨hb, e⟩ | ⟨hb, e⟩
  · obtain ⟨q, hq⟩ : ∃ q, FU = q + 1 + 194 := ⟨1999805, by decide⟩
    rw [e, if10, if10]
    rcases two p hb with rfl | rfl
    · have i2 : inb (0 : Int32) 2 := by decide
      have x0 : ix (0 : Int32) = 0 := by decide
      rw [if_pos i2, if_pos i2, x0, ← m0.1]
      by_cases hz : c0 2 0 = 0
      · rw [if_pos hz, if_pos hz]
        exact ⟨_, _, _, _, _, _, rfl, rfl, h, Or.inr ⟨1, by omega, rfl, rfl⟩⟩
      · have h9 := from9 (F := FU) (n := q) (w := w9) (c := c9) (b := c9 0) (p := 0) (by omega) 194 0 (by omega)
        obtain ⟨c', w', cc', e1, e2⟩ := copyAll5 c1 c2 w1 (m0.2 hz)
        rw [cp2_0, rs_id, ← hq] at h9
        rw [if_neg hz, if_neg hz, if_pos i2, if_pos (show (0 : Int32) = 0 from rfl), e1, bd3_s, show (0 : Int32) = nI 0 from rfl, h9]
        refine ⟨_, _, _, _, _, _, rfl, rfl, ?_, Or.inl ⟨rfl, fun k hk => rs_n _ _ hk⟩⟩
        rw [rs_s]
        refine RB_ext (fun x hx => ?_) e2
        have := cp2_in (b := c9 0) (a := c9 1) (D := 0) (S := 194 * 0) hx
        show cp2 (c9 0) (c9 1) 0 (194 * 0) 194 x = c9 1 (194 * 0 + x)
        exact (congrArg (cp2 (c9 0) (c9 1) 0 (194 * 0) 194) (Nat.zero_add x).symm).trans this
    · have i2 : inb (1 : Int32) 2 := by decide
      have x0 : ix (1 : Int32) = 1 := by decide
      rw [if_pos i2, if_pos i2, x0, ← m1.1]
      by_cases hz : c0 2 1 = 0
      · rw [if_pos hz, if_pos hz]
        exact ⟨_, _, _, _, _, _, rfl, rfl, h, Or.inr ⟨1, by omega, rfl, rfl⟩⟩
      · have h9 := from9 (F := FU) (n := q) (w := w9) (c := c9) (b := c9 0) (p := 1) (by omega) 194 0 (by omega)
        obtain ⟨c', w', cc', e1, e2⟩ := copyAll5 c1 c2 w1 (m1.2 hz)
        rw [cp2_0, rs_id, ← hq] at h9
        rw [if_neg hz, if_neg hz, if_pos i2, if_neg ne10, e1, bd3_s, show (1 : Int32) = nI 1 from rfl, show (0 : Int32) = nI 0 from rfl, h9]
        refine ⟨_, _, _, _, _, _, rfl, rfl, ?_, Or.inl ⟨rfl, fun k hk => rs_n _ _ hk⟩⟩
        rw [rs_s]
        refine RB_ext (fun x hx => ?_) e2
        have := cp2_in (b := c9 0) (a := c9 1) (D := 0) (S := 194 * 1) hx
        rw [Nat.zero_add] at this
        exact this
  · rw [e, if00, if00]
    exact ⟨_, _, _, _, _, _, rfl, rfl, h, Or.inr ⟨0, by omega, rfl, rfl⟩⟩
