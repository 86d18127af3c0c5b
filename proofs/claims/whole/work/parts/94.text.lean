-- the text: tokens on both sides
def kd3 (x : Int32) : Int32 := if x = (59 : Int32) then 3 else (if x = (32 : Int32) then 5 else 4)
def kd2 (x : Int32) : Int32 := if x < (48 : Int32) then kd3 x else (if (57 : Int32) < x then kd3 x else 2)
def kdB (x : Int32) : Int32 := if x < (97 : Int32) then kd2 x else (if (122 : Int32) < x then kd2 x else 1)
def smB (x : Int32) : Prop := (97 : Int32) ≤ x ∧ x ≤ 122
def fgB (x : Int32) : Prop := (48 : Int32) ≤ x ∧ x ≤ 57
theorem kdB_c (x : Int32) : (smB x ∧ kdB x = 1) ∨ (¬ smB x ∧ fgB x ∧ kdB x = 2) ∨ (¬ smB x ∧ ¬ fgB x ∧ x = 59 ∧ kdB x = 3) ∨ (¬ smB x ∧ ¬ fgB x ∧ x ≠ 59 ∧ x = 32 ∧ kdB x = 5) ∨ (¬ smB x ∧ ¬ fgB x ∧ x ≠ 59 ∧ x ≠ 32 ∧ kdB x = 4) := by
  have e97 : (97 : Int32).toInt = 97 := rfl
  have e122 : (122 : Int32).toInt = 122 := rfl
  have e48 : (48 : Int32).toInt = 48 := rfl
  have e57 : (57 : Int32).toInt = 57 := rfl
  by_cases h1 : smB x
  · refine Or.inl ⟨h1, ?_⟩
    have a := btw h1
    unfold kdB
    rw [if_neg (fun z => by rw [Int32.lt_iff_toInt_lt] at z; omega), if_neg (fun z => by rw [Int32.lt_iff_toInt_lt] at z; omega)]
  · have hk : kdB x = kd2 x := by
      unfold kdB
      by_cases h2 : x < 97
      · rw [if_pos h2]
      · rw [if_neg h2]
        by_cases h3 : (122 : Int32) < x
        · rw [if_pos h3]
        · exact absurd ⟨by rw [Int32.le_iff_toInt_le]; rw [Int32.lt_iff_toInt_lt] at h2; omega, by rw [Int32.le_iff_toInt_le]; rw [Int32.lt_iff_toInt_lt] at h3; omega⟩ h1
    by_cases h4 : fgB x
    · refine Or.inr (Or.inl ⟨h1, h4, ?_⟩)
      have a := btw h4
      rw [hk]
      unfold kd2
      rw [if_neg (fun z => by rw [Int32.lt_iff_toInt_lt] at z; omega), if_neg (fun z => by rw [Int32.lt_iff_toInt_lt] at z; omega)]
    · have hk2 : kd2 x = kd3 x := by
        unfold kd2
        by_cases h2 : x < 48
        · rw [if_pos h2]
        · rw [if_neg h2]
          by_cases h3 : (57 : Int32) < x
          · rw [if_pos h3]
          · exact absurd ⟨by rw [Int32.le_iff_toInt_le]; rw [Int32.lt_iff_toInt_lt] at h2; omega, by rw [Int32.le_iff_toInt_le]; rw [Int32.lt_iff_toInt_lt] at h3; omega⟩ h4
      by_cases h5 : x = 59
      · exact Or.inr (Or.inr (Or.inl ⟨h1, h4, h5, by rw [hk, hk2]; unfold kd3; rw [if_pos h5]⟩))
      · by_cases h6 : x = 32
        · exact Or.inr (Or.inr (Or.inr (Or.inl ⟨h1, h4, h5, h6, by rw [hk, hk2]; unfold kd3; rw [if_neg h5, if_pos h6]⟩)))
        · exact Or.inr (Or.inr (Or.inr (Or.inr ⟨h1, h4, h5, h6, by rw [hk, hk2]; unfold kd3; rw [if_neg h5, if_neg h6]⟩)))
def TXT (c : Nat → Nat → Int32) (b : Nat → Int32) (T : Nat) : Prop := T ≤ 150 ∧ c 1 0 = nI T ∧ ∀ j, j < T → c 0 j = b j
def TXR (c : Nat → Nat → Int32) (b : Nat → Int32) (T : Nat) : Prop := T ≤ 150 ∧ c 21 0 = nI T ∧ c 20 = b
theorem byteAt5 {c : Nat → Nat → Int32} {b : Nat → Int32} {T i : Nat} (h : TXT c b T) (hi : i < T) : md_X7_byteAt c (nI i) = some (b i) := by
  obtain ⟨hT, h1, h2⟩ := h
  have l1 : ¬ nI i < (0 : Int32) := nI_pos (by omega)
  have l2 : ¬ nI T ≤ nI i := nI_ge (by omega) (by omega)
  have l3 : ¬ (150 : Int32) ≤ nI i := nI_ge (b := 150) (by omega) (by omega)
  have i1 : inb (nI i) 150 := inb_nI (by omega) (by omega)
  unfold md_X7_byteAt
  rw [if_neg l1, h1, if_neg l2, if_neg l3, if_pos i1, ix_nI (by omega), h2 i hi]
def kA (b : Nat → Int32) (T i : Nat) : Int32 := if i < T then kdB (b i) else 0
theorem kindAt5 {c : Nat → Nat → Int32} {b : Nat → Int32} {T i : Nat} (h : TXT c b T) (hi : i ≤ 150) : md_X7_kindAt c (nI i) = some (kA b T i) := by
  have hT := h.1
  unfold md_X7_kindAt kA
  rw [h.2.1]
  by_cases hl : i < T
  · rw [if_pos (nI_lt hl (by omega)), if_pos hl, byteAt5 h hl, bd1_s]
    unfold kdB kd2 kd3 jd_X7_kindAt_30 jd_X7_kindAt_44
    simp only [lt1_r, ite_some]
  · rw [if_neg (nI_nlt (by omega) (by omega)), if_neg hl]
theorem small9 (x : Int32) : md_X9_isSmall x = some (b01 ((97 : Int32) ≤ x ∧ x ≤ 122)) := by
  unfold md_X9_isSmall
  rw [in_az, bd1_s, if_pos (b01_s _)]
theorem figure9 (x : Int32) : md_X9_isFigure x = some (b01 ((48 : Int32) ≤ x ∧ x ≤ 57)) := by
  unfold md_X9_isFigure
  rw [in_fig, bd1_s, if_pos (b01_s _)]
-- blanks
theorem skip_both {b : Nat → Int32} {T n : Nat} {w : Nat → Nat → Int64} : ∀ m i c5 c9, i + m = T → TXT c5 b T → TXR c9 b T → c5 3 0 = nI i → c9 22 0 = nI i → ∃ j c5' c9', i ≤ j ∧ j ≤ T ∧ (j < T → ¬ b j = 32) ∧ c5' 3 0 = nI j ∧ c9' 22 0 = nI j ∧ (∀ k, k ≠ 3 → c5' k = c5 k) ∧ (∀ k, k ≠ 22 → c9' k = c9 k) ∧ ld_X7_next_8 FU (n + 1 + m) c5 = jd_X7_next_44 FU c5' ∧ ld_X9_lookAt_5 FU w (n + 1 + m) c9 = jd_X9_lookAt_43 FU w c9'
  | 0, i, c5, c9, h, t5, t9, s5, s9 => by
    have : i = T := by omega
    subst this
    have l : nI i ≤ nI i := Int32.le_refl _
    exact ⟨i, c5, c9, by omega, by omega, fun z => by omega, s5, s9, fun _ _ => rfl, fun _ _ => rfl, by rw [Nat.add_zero, ld_X7_next_8, t5.2.1, s5, if_pos l], by rw [Nat.add_zero, ld_X9_lookAt_5, t9.2.1, s9, if_pos l]⟩
  | m + 1, i, c5, c9, h, t5, t9, s5, s9 => by
    have hT := t5.1
    have l : ¬ nI T ≤ nI i := nI_ge (by omega) (by omega)
    have i1 : inb (nI i) 150 := inb_nI (by omega) (by omega)
    have hkA : kA b T i = kdB (b i) := if_pos (by omega)
    by_cases h32 : b i = 32
    · have hk5 : kdB (b i) = 5 := by rw [h32]; decide
      obtain ⟨j, c5', c9', j1, j2, j3, j4, j5, j6, j7, j8, j9⟩ := skip_both (n := n) (w := w) m (i + 1) (rs c5 3 (fun _ => nI (i + 1))) (rs c9 22 (fun _ => nI (i + 1))) (by omega) ⟨hT, t5.2.1, t5.2.2⟩ ⟨hT, t9.2.1, t9.2.2⟩ (by rw [rs_s]) (by rw [rs_s])
      refine ⟨j, c5', c9', by omega, j2, j3, j4, j5, fun k hk => by rw [j6 k hk, rs_n _ _ hk], fun k hk => by rw [j7 k hk, rs_n _ _ hk], ?_, ?_⟩
      · show ld_X7_next_8 FU (n + 1 + m + 1) _ = _
        rw [ld_X7_next_8, t5.2.1, s5, if_neg l, kindAt5 t5 (by omega), bd1_s, hkA, hk5, if_pos rfl, nI_1]
        exact j8
      · show ld_X9_lookAt_5 FU w (n + 1 + m + 1) _ = _
        rw [ld_X9_lookAt_5, t9.2.1, s9, if_neg l, if_pos i1, ix_nI (by omega), t9.2.2, if_pos h32, nI_1]
        exact j9
    · have hk5 : ¬ kdB (b i) = 5 := by
        rcases kdB_c (b i) with ⟨-, e⟩ | ⟨-, -, e⟩ | ⟨-, -, -, e⟩ | ⟨-, -, -, e, -⟩ | ⟨-, -, -, -, e⟩
        · rw [e]; decide
        · rw [e]; decide
        · rw [e]; decide
        · exact absurd e h32
        · rw [e]; decide
      refine ⟨i, c5, c9, by omega, by omega, fun _ => h32, s5, s9, fun _ _ => rfl, fun _ _ => rfl, ?_, ?_⟩
      · show ld_X7_next_8 FU (n + 1 + m + 1) _ = _
        rw [ld_X7_next_8, t5.2.1, s5, if_neg l, kindAt5 t5 (by omega), bd1_s, hkA, if_neg hk5]
      · show ld_X9_lookAt_5 FU w (n + 1 + m + 1) _ = _
        rw [ld_X9_lookAt_5, t9.2.1, s9, if_neg l, if_pos i1, ix_nI (by omega), t9.2.2, if_neg h32]
-- words and numbers go on
theorem same9 {t x : Int32} (ht : t = 1 ∨ t = 2) : (kdB x = t ∧ (if t = 1 then md_X9_isSmall x else md_X9_isFigure x) = some 1) ∨ (¬ kdB x = t ∧ (if t = 1 then md_X9_isSmall x else md_X9_isFigure x) = some 0) := by
  rcases ht with rfl | rfl
  · rw [if_pos rfl, small9]
    rcases kdB_c x with ⟨s, e⟩ | ⟨s, f, e⟩ | ⟨s, f, g, e⟩ | ⟨s, f, g, h, e⟩ | ⟨s, f, g, h, e⟩
    · exact Or.inl ⟨e, congrArg some (if_pos s)⟩
    · exact Or.inr ⟨by rw [e]; decide, congrArg some (if_neg s)⟩
    · exact Or.inr ⟨by rw [e]; decide, congrArg some (if_neg s)⟩
    · exact Or.inr ⟨by rw [e]; decide, congrArg some (if_neg s)⟩
    · exact Or.inr ⟨by rw [e]; decide, congrArg some (if_neg s)⟩
  · rw [if_neg (show ¬ (2 : Int32) = 1 by decide), figure9]
    rcases kdB_c x with ⟨s, e⟩ | ⟨s, f, e⟩ | ⟨s, f, g, e⟩ | ⟨s, f, g, h, e⟩ | ⟨s, f, g, h, e⟩
    · refine Or.inr ⟨by rw [e]; decide, congrArg some (if_neg (fun z => ?_))⟩
      have a := (btw s).1
      have b := (btw z).2
      have e97 : (97 : Int32).toInt = 97 := rfl
      have e57 : (57 : Int32).toInt = 57 := rfl
      omega
    · exact Or.inl ⟨e, congrArg some (if_pos f)⟩
    · exact Or.inr ⟨by rw [e]; decide, congrArg some (if_neg f)⟩
    · exact Or.inr ⟨by rw [e]; decide, congrArg some (if_neg f)⟩
    · exact Or.inr ⟨by rw [e]; decide, congrArg some (if_neg f)⟩
theorem ext_both {b : Nat → Int32} {T n n2 j : Nat} {w : Nat → Nat → Int64} {t : Int32} (ht : t = 1 ∨ t = 2) : ∀ m e c5 c9, e + m = T → j < e → TXT c5 b T → TXR c9 b T → c5 2 0 = t → c5 5 0 = nI e → c9 24 0 = t → c9 22 0 = nI j → c9 23 0 = nI (e - j) → ∃ e' c5' c9', e ≤ e' ∧ e' ≤ T ∧ c5' 5 0 = nI e' ∧ c9' 23 0 = nI (e' - j) ∧ (∀ k, k ≠ 5 → c5' k = c5 k) ∧ (∀ k, k ≠ 23 → c9' k = c9 k) ∧ ld_X7_next_80 FU (n + 1 + m) c5 = jd_X7_next_135 FU c5' ∧ ld_X9_lookAt_136 FU w (n2 + 1 + 1 + m) c9 1 = ld_X9_lookAt_218 FU w FU c9' 0
  | 0, e, c5, c9, h, hj, t5, t9, k2, k5, k24, k22, k23 => by
    have : e = T := by omega
    subst this
    have hT := t5.1
    have l : nI e ≤ nI e := Int32.le_refl _
    have ee : nI j + nI (e - j) = nI e := by rw [nI_add]; congr 1; omega
    exact ⟨e, c5, c9, by omega, by omega, k5, k23, fun _ _ => rfl, fun _ _ => rfl, by rw [Nat.add_zero, ld_X7_next_80, t5.2.1, k5, if_pos l], by rw [Nat.add_zero, ld_X9_lookAt_136, if_neg ne10, t9.2.1, k22, k23, ee, if_pos l]⟩
  | m + 1, e, c5, c9, h, hj, t5, t9, k2, k5, k24, k22, k23 => by
    have hT := t5.1
    have l : ¬ nI T ≤ nI e := nI_ge (by omega) (by omega)
    have ee : nI j + nI (e - j) = nI e := by rw [nI_add]; congr 1; omega
    have i1 : inb (nI e) 150 := inb_nI (by omega) (by omega)
    have hkA : kA b T e = kdB (b e) := if_pos (by omega)
    have A5 : ld_X7_next_80 FU (n + 1 + m + 1) c5 = jd_X7_next_107 FU (ld_X7_next_80 FU (n + 1 + m)) c5 := by
      rw [ld_X7_next_80, t5.2.1, k5, if_neg l, k2]
      rcases ht with rfl | rfl
      · rw [if_pos rfl]
      · rw [if_neg (show ¬ (2 : Int32) = 1 by decide), if_pos rfl]
    have A9 : ∀ r, (if t = 1 then md_X9_isSmall (b e) else md_X9_isFigure (b e)) = some r → ld_X9_lookAt_136 FU w (n2 + 1 + 1 + m + 1) c9 1 = jd_X9_lookAt_193 FU w (ld_X9_lookAt_136 FU w (n2 + 1 + 1 + m)) c9 r := by
      intro r hr
      rw [ld_X9_lookAt_136, if_neg ne10, t9.2.1, k22, k23, ee, if_neg l, if_pos i1, lt1_r, ix_nI (by omega), t9.2.2, k24]
      by_cases h1 : t = 1
      · rw [if_pos h1] at hr ⊢
        rw [hr, bd1_s]
      · rw [if_neg h1] at hr ⊢
        rw [hr, bd1_s]
    rcases same9 (x := b e) ht with ⟨s1, s2⟩ | ⟨s1, s2⟩
    · obtain ⟨e', c5', c9', e1, e2, e3, e4, e5, e6, e7, e8⟩ := ext_both (n := n) (n2 := n2) (w := w) ht m (e + 1) (rs c5 5 (fun _ => nI (e + 1))) (rs c9 23 (fun _ => nI (e + 1 - j))) (by omega) (by omega) ⟨hT, t5.2.1, t5.2.2⟩ ⟨hT, t9.2.1, t9.2.2⟩ k2 (by rw [rs_s]) k24 k22 (by rw [rs_s])
      refine ⟨e', c5', c9', by omega, e2, e3, e4, fun k hk => by rw [e5 k hk, rs_n _ _ hk], fun k hk => by rw [e6 k hk, rs_n _ _ hk], ?_, ?_⟩
      · show ld_X7_next_80 FU (n + 1 + m + 1) _ = _
        rw [A5]
        unfold jd_X7_next_107
        rw [k5, kindAt5 t5 (by omega), bd1_s, hkA, k2, if_pos s1, nI_1]
        exact e7
      · show ld_X9_lookAt_136 FU w (n2 + 1 + 1 + m + 1) _ _ = _
        rw [A9 1 s2]
        unfold jd_X9_lookAt_193
        rw [if_neg ne10, lt1_r, k23, nI_1, show e - j + 1 = e + 1 - j from by omega]
        exact e8
    · refine ⟨e, c5, rs c9 23 (fun _ => nI (e - j)), by omega, by omega, k5, by rw [rs_s], fun _ _ => rfl, fun k hk => rs_n _ _ hk, ?_, ?_⟩
      · show ld_X7_next_80 FU (n + 1 + m + 1) _ = _
        rw [A5]
        unfold jd_X7_next_107
        rw [k5, kindAt5 t5 (by omega), bd1_s, hkA, k2, if_neg s1]
      · show ld_X9_lookAt_136 FU w (n2 + 1 + 1 + m + 1) _ _ = _
        rw [A9 0 s2]
        unfold jd_X9_lookAt_193
        rw [if_pos rfl, lt1_r, k23, Int32.add_zero, show n2 + 1 + 1 + m = n2 + 1 + m + 1 from by omega, ld_X9_lookAt_136, if_pos rfl]
/-- the same token on both sides -/
def TK (T e0 : Nat) (c5 c9 : Nat → Nat → Int32) : Prop := ∃ j e, e0 ≤ j ∧ j ≤ e ∧ e ≤ T ∧ c5 3 0 = nI j ∧ c5 5 0 = nI e ∧ c9 22 0 = nI j ∧ c9 23 0 = nI (e - j) ∧ c5 2 0 = c9 24 0 ∧ (c9 24 0 = 2 → c5 4 0 = c9 25 0) ∧ (¬ c9 24 0 = 0 → j < e)
def F5 (c e : Nat → Nat → Int32) : Prop := e 0 = c 0 ∧ e 1 = c 1
def F9 (c e : Nat → Nat → Int32) : Prop := ∀ k, k ≠ 22 → k ≠ 23 → k ≠ 24 → k ≠ 25 → e k = c k
theorem step218 {b : Nat → Int32} {L j k n : Nat} {c : Nat → Nat → Int32} {w : Nat → Nat → Int64} (h23 : c 23 0 = nI L) (h24 : c 24 0 = 2) (h22 : c 22 0 = nI j) (h20 : c 20 = b) (hk : k < L) (hk2 : k < 2) (hL : L ≤ 150) (hj : j + k < 150) : ld_X9_lookAt_218 FU w (n + 1) c (nI k) = ld_X9_lookAt_218 FU w n (rs c 25 (fun _ => (10 : Int32) * c 25 0 + b (j + k) - 48)) (nI (k + 1)) := by
  have l1 : ¬ nI L ≤ nI k := nI_ge hk (by omega)
  have l2 : ¬ (2 : Int32) ≤ nI k := nI_ge (b := 2) hk2 (by omega)
  have i1 : inb (nI (j + k)) 150 := inb_nI hj (by omega)
  rw [ld_X9_lookAt_218, h23, if_neg l1, if_neg l2, h24, if_pos rfl, h22, nI_add, if_pos i1, lt1_r, ix_nI (by omega), h20, nI_1]
theorem stop218 {L k n : Nat} {c : Nat → Nat → Int32} {w : Nat → Nat → Int64} (h23 : c 23 0 = nI L) (h24 : c 24 0 = 2) (hk : L ≤ k ∨ 2 ≤ k) (hL : L ≤ 150) (hk3 : k ≤ 150) : ld_X9_lookAt_218 FU w (n + 1) c (nI k) = some (rs c 24 (fun _ => if L ≤ 2 then 2 else 4)) := by
  have e274 : jd_X9_lookAt_274 FU w c = some (rs c 24 (fun _ => if L ≤ 2 then 2 else 4)) := by
    unfold jd_X9_lookAt_274
    rw [h24, h23, if_pos rfl, lt1_r]
    by_cases h : L ≤ 2
    · rw [if_pos h, if_pos (show nI L ≤ (2 : Int32) from nI_le (b := 2) h (by omega))]
    · rw [if_neg h, if_neg (show ¬ nI L ≤ (2 : Int32) from nI_ge (a := 2) (by omega) (by omega))]
  rw [ld_X9_lookAt_218, h23, e274]
  by_cases h : L ≤ k
  · rw [if_pos (nI_le h (by omega))]
  · rw [if_neg (nI_ge (by omega) (by omega)), if_pos (show (2 : Int32) ≤ nI k from nI_le (a := 2) (by omega) (by omega))]
theorem num_both {b : Nat → Int32} {T j e : Nat} {c5 c9 : Nat → Nat → Int32} {w : Nat → Nat → Int64} (t5 : TXT c5 b T) (t9 : TXR c9 b T) (hj : j < e) (he : e ≤ T) (k3 : c5 3 0 = nI j) (k5 : c5 5 0 = nI e) (k22 : c9 22 0 = nI j) (k23 : c9 23 0 = nI (e - j)) (k2 : c5 2 0 = 2) (k24 : c9 24 0 = 2) (k25 : c9 25 0 = 0) : ∃ c5' c9', jd_X7_next_135 FU c5 = some c5' ∧ ld_X9_lookAt_218 FU w FU c9 0 = some c9' ∧ c5' 2 0 = c9' 24 0 ∧ (c9' 24 0 = 2 → c5' 4 0 = c9' 25 0) ∧ ¬ c9' 24 0 = 0 ∧ (∀ k, k ≠ 2 → k ≠ 4 → c5' k = c5 k) ∧ (∀ k, k ≠ 24 → k ≠ 25 → c9' k = c9 k) := by
  have hT := t5.1
  obtain ⟨q, hq⟩ : ∃ q, FU = q + 1 + 1 + 1 := ⟨1999997, by decide⟩
  have es : nI e - nI j = nI (e - j) := pk_sub (by omega)
  have i0 : inb (nI j + 0) 150 := by rw [Int32.add_zero]; exact inb_nI (by omega) (by omega)
  have x0 : ix (nI j + 0) = j := by rw [Int32.add_zero, ix_nI (by omega)]
  have l0 : ¬ nI (e - j) ≤ (0 : Int32) := nI_nle (by omega) (by omega)
  have m0 : ¬ (2 : Int32) ≤ 0 := by decide
  have m1 : ¬ (2 : Int32) ≤ 1 := by decide
  have m2 : (2 : Int32) ≤ 2 := by decide
  have a01 : (0 : Int32) + 1 = 1 := by decide
  have a11 : (1 : Int32) + 1 = 2 := by decide
  have z21 : ¬ nI e ≤ nI j := nI_ge (by omega) (by omega)
  unfold jd_X7_next_135 md_X7_takeNumber
  rw [k2, if_pos rfl, k5, k3, es]
  by_cases h1 : e - j = 1
  · have l1 : nI (e - j) ≤ (2 : Int32) := nI_le (b := 2) (by omega) (by omega)
    have l11 : nI (e - j) ≤ (1 : Int32) := nI_le (b := 1) (by omega) (by omega)
    have l2 : nI e ≤ nI (j + 1) := nI_le (by omega) (by omega)
    have f5 : ld_X7_takeNumber_29 FU FU (rs c5 4 (fun _ => (0 : Int32))) (nI j) = some (rs (rs c5 4 (fun _ => (0 : Int32))) 4 (fun _ => (10 : Int32) * 0 + b j - 48)) := by
      rw [show ld_X7_takeNumber_29 FU FU = ld_X7_takeNumber_29 FU (q + 1 + 1 + 1) from by rw [← hq], ld_X7_takeNumber_29, rs_n _ _ (by omega), k5, if_neg z21, byteAt5 (c := rs c5 4 (fun _ => (0 : Int32))) ⟨hT, t5.2.1, t5.2.2⟩ (by omega), bd1_s, rs_s, nI_1, ld_X7_takeNumber_29, rs_n _ _ (by omega), rs_n _ _ (by omega), k5, if_pos l2]
    rw [if_pos l1, f5, bd1_s]
    refine ⟨_, rs (rs c9 25 (fun _ => (10 : Int32) * 0 + b j - 48)) 24 (fun _ => 2), rfl, ?_, ?_, ?_, ?_, ?_, ?_⟩
    · have g1 := step218 (b := b) (n := q + 1 + 1) (w := w) (k := 0) k23 k24 k22 t9.2.2 (by omega) (by omega) (by omega) (by omega)
      have g2 := stop218 (n := q + 1) (w := w) (k := 1) (c := rs c9 25 (fun _ => (10 : Int32) * c9 25 0 + b (j + 0) - 48)) k23 k24 (Or.inl (by omega)) (by omega) (by omega)
      rw [← hq] at g1
      rw [show ld_X9_lookAt_218 FU w FU c9 0 = _ from g1, g2, k25, h1, Nat.add_zero, if_pos (by omega)]
    · rw [rs_n _ _ (by omega), rs_n _ _ (by omega), rs_s, k2]
    · intro _
      rw [rs_s, rs_n _ _ (by omega), rs_s]
    · rw [rs_s]; decide
    · intro k k1 k4
      rw [rs_n _ _ k4, rs_n _ _ k4]
    · intro k k1 k4
      rw [rs_n _ _ k1, rs_n _ _ k4]
  · have i1 : inb (nI j + 1) 150 := by rw [nI_1]; exact inb_nI (by omega) (by omega)
    have x1 : ix (nI j + 1) = j + 1 := by rw [nI_1, ix_nI (by omega)]
    have l11 : ¬ nI (e - j) ≤ (1 : Int32) := nI_ge (a := 1) (by omega) (by omega)
    have z22 : ¬ nI e ≤ nI (j + 1) := nI_ge (by omega) (by omega)
    by_cases h2 : e - j = 2
    · have l1 : nI (e - j) ≤ (2 : Int32) := nI_le (b := 2) (by omega) (by omega)
      have l2 : nI e ≤ nI (j + 1 + 1) := nI_le (by omega) (by omega)
      have f5 : ld_X7_takeNumber_29 FU FU (rs c5 4 (fun _ => (0 : Int32))) (nI j) = some (rs (rs (rs c5 4 (fun _ => (0 : Int32))) 4 (fun _ => (10 : Int32) * 0 + b j - 48)) 4 (fun _ => (10 : Int32) * ((10 : Int32) * 0 + b j - 48) + b (j + 1) - 48)) := by
        rw [show ld_X7_takeNumber_29 FU FU = ld_X7_takeNumber_29 FU (q + 1 + 1 + 1) from by rw [← hq], ld_X7_takeNumber_29, rs_n _ _ (by omega), k5, if_neg z21, byteAt5 (c := rs c5 4 (fun _ => (0 : Int32))) ⟨hT, t5.2.1, t5.2.2⟩ (by omega), bd1_s, rs_s, nI_1, ld_X7_takeNumber_29, rs_n _ _ (by omega), rs_n _ _ (by omega), k5, if_neg z22, byteAt5 (c := rs (rs c5 4 (fun _ => (0 : Int32))) 4 (fun _ => (10 : Int32) * 0 + b j - 48)) ⟨hT, t5.2.1, t5.2.2⟩ (by omega), bd1_s, rs_s, nI_1, ld_X7_takeNumber_29, rs_n _ _ (by omega), rs_n _ _ (by omega), rs_n _ _ (by omega), k5, if_pos l2]
      rw [if_pos l1, f5, bd1_s]
      refine ⟨_, rs (rs (rs c9 25 (fun _ => (10 : Int32) * 0 + b j - 48)) 25 (fun _ => (10 : Int32) * ((10 : Int32) * 0 + b j - 48) + b (j + 1) - 48)) 24 (fun _ => 2), rfl, ?_, ?_, ?_, ?_, ?_, ?_⟩
      · have g1 := step218 (b := b) (n := q + 1 + 1) (w := w) (k := 0) k23 k24 k22 t9.2.2 (by omega) (by omega) (by omega) (by omega)
        have g2 := step218 (b := b) (n := q + 1) (w := w) (k := 1) (c := rs c9 25 (fun _ => (10 : Int32) * c9 25 0 + b (j + 0) - 48)) k23 k24 k22 t9.2.2 (by omega) (by omega) (by omega) (by omega)
        have g3 := stop218 (n := q) (w := w) (k := 2) (c := rs (rs c9 25 (fun _ => (10 : Int32) * c9 25 0 + b (j + 0) - 48)) 25 (fun _ => (10 : Int32) * (rs c9 25 (fun _ => (10 : Int32) * c9 25 0 + b (j + 0) - 48)) 25 0 + b (j + 1) - 48)) k23 k24 (Or.inr (by omega)) (by omega) (by omega)
        rw [← hq] at g1
        rw [show ld_X9_lookAt_218 FU w FU c9 0 = _ from g1, g2, g3, k25, rs_s, Nat.add_zero, if_pos (by omega)]
      · rw [rs_n _ _ (by omega), rs_n _ _ (by omega), rs_n _ _ (by omega), rs_s, k2]
      · intro _
        rw [rs_s, rs_n _ _ (by omega), rs_s]
      · rw [rs_s]; decide
      · intro k k1 k4
        rw [rs_n _ _ k4, rs_n _ _ k4, rs_n _ _ k4]
      · intro k k1 k4
        rw [rs_n _ _ k1, rs_n _ _ k4, rs_n _ _ k4]
    · have l1 : ¬ nI (e - j) ≤ (2 : Int32) := nI_ge (a := 2) (by omega) (by omega)
      rw [if_neg l1, bd1_s]
      refine ⟨_, rs (rs (rs c9 25 (fun _ => (10 : Int32) * 0 + b j - 48)) 25 (fun _ => (10 : Int32) * ((10 : Int32) * 0 + b j - 48) + b (j + 1) - 48)) 24 (fun _ => 4), rfl, ?_, ?_, ?_, ?_, ?_, ?_⟩
      · have g1 := step218 (b := b) (n := q + 1 + 1) (w := w) (k := 0) k23 k24 k22 t9.2.2 (by omega) (by omega) (by omega) (by omega)
        have g2 := step218 (b := b) (n := q + 1) (w := w) (k := 1) (c := rs c9 25 (fun _ => (10 : Int32) * c9 25 0 + b (j + 0) - 48)) k23 k24 k22 t9.2.2 (by omega) (by omega) (by omega) (by omega)
        have g3 := stop218 (n := q) (w := w) (k := 2) (c := rs (rs c9 25 (fun _ => (10 : Int32) * c9 25 0 + b (j + 0) - 48)) 25 (fun _ => (10 : Int32) * (rs c9 25 (fun _ => (10 : Int32) * c9 25 0 + b (j + 0) - 48)) 25 0 + b (j + 1) - 48)) k23 k24 (Or.inr (by omega)) (by omega) (by omega)
        rw [← hq] at g1
        rw [show ld_X9_lookAt_218 FU w FU c9 0 = _ from g1, g2, g3, k25, rs_s, Nat.add_zero, if_neg (by omega)]
      · rw [rs_s, rs_s]
      · intro z
        rw [rs_s] at z
        exact absurd z (by decide)
      · rw [rs_s]; decide
      · intro k k1 k4
        rw [rs_n _ _ k1]
      · intro k k1 k4
        rw [rs_n _ _ k1, rs_n _ _ k4, rs_n _ _ k4]
theorem next_both {b : Nat → Int32} {T e0 : Nat} {c5 c9 : Nat → Nat → Int32} {w : Nat → Nat → Int64} (t5 : TXT c5 b T) (t9 : TXR c9 b T) (he : e0 ≤ T) (k5 : c5 5 0 = nI e0) : ∃ c5' c9', md_X7_next FU c5 = some c5' ∧ md_X9_lookAt FU c9 w (nI e0) = some c9' ∧ TK T e0 c5' c9' ∧ F5 c5 c5' ∧ F9 c9 c9' := by
  have hT := t5.1
  have hF : FU = 2000000 := rfl
  obtain ⟨j, d5, d9, j1, j2, j3, j4, j5, j6, j7, j8, j9⟩ := skip_both (b := b) (T := T) (n := 1999999 - (T - e0)) (w := w) (T - e0) e0 (rs c5 3 (fun _ => c5 5 0)) (rs c9 22 (fun _ => nI e0)) (by omega) ⟨hT, t5.2.1, t5.2.2⟩ ⟨hT, t9.2.1, t9.2.2⟩ (by rw [rs_s, k5]) (by rw [rs_s])
  rw [show 1999999 - (T - e0) + 1 + (T - e0) = FU from by omega] at j8 j9
  have d5t : TXT d5 b T := ⟨hT, by rw [j6 1 (by omega), rs_n _ _ (by omega)]; exact t5.2.1, fun z hz => by rw [j6 0 (by omega), rs_n _ _ (by omega)]; exact t5.2.2 z hz⟩
  have d9t : TXR d9 b T := ⟨hT, by rw [j7 21 (by omega), rs_n _ _ (by omega)]; exact t9.2.1, by rw [j7 20 (by omega), rs_n _ _ (by omega)]; exact t9.2.2⟩
  have G5 : ∀ k, k ≠ 3 → d5 k = c5 k := fun k hk => by rw [j6 k hk, rs_n _ _ hk]
  have G9 : ∀ k, k ≠ 22 → d9 k = c9 k := fun k hk => by rw [j7 k hk, rs_n _ _ hk]
  have N5 : md_X7_next FU c5 = jd_X7_next_44 FU d5 := j8
  have N9 : md_X9_lookAt FU c9 w (nI e0) = jd_X9_lookAt_43 FU w d9 := j9
  rw [N5, N9]
  unfold jd_X7_next_44 jd_X9_lookAt_43
  rw [j4, j5, kindAt5 d5t (by omega), bd1_s, lt1_r, d9t.2.1]
  obtain ⟨q1, hq1⟩ : ∃ q, FU = q + 1 := ⟨1999999, by decide⟩
  by_cases hjT : j = T
  · -- the text ends
    subst hjT
    have hk : kA b j j = 0 := if_neg (by omega)
    have l : nI j ≤ nI j := Int32.le_refl _
    rw [hk, if_pos rfl, if_pos rfl]
    refine ⟨rs (rs d5 2 (fun _ => 0)) 5 (fun _ => nI j), _, ?_, rfl, ⟨j, j, j1, by omega, by omega, ?_, ?_, ?_, ?_, ?_, ?_, ?_⟩, ⟨?_, ?_⟩, ?_⟩
    · rw [show ld_X7_next_80 FU FU = ld_X7_next_80 FU (q1 + 1) from by rw [← hq1], ld_X7_next_80, rs_s, rs_n _ _ (by omega), rs_n _ _ (by omega), d5t.2.1, if_pos l]
      unfold jd_X7_next_135
      rw [rs_n _ _ (by omega), rs_s, if_neg (show ¬ (0 : Int32) = 2 by decide)]
    · rw [rs_n _ _ (by omega), rs_n _ _ (by omega), j4]
    · rw [rs_s]
    · rw [rs_n _ _ (by omega), rs_n _ _ (by omega), rs_n _ _ (by omega), j5]
    · rw [rs_n _ _ (by omega), rs_n _ _ (by omega), rs_s, Nat.sub_self]; rfl
    · rw [rs_n _ _ (by omega), rs_s, rs_n _ _ (by omega), rs_s]
    · intro z
      rw [rs_n _ _ (by omega), rs_s] at z
      exact absurd z (by decide)
    · intro z
      rw [rs_n _ _ (by omega), rs_s] at z
      exact absurd rfl z
    · rw [rs_n _ _ (by omega), rs_n _ _ (by omega), G5 0 (by omega)]
    · rw [rs_n _ _ (by omega), rs_n _ _ (by omega), G5 1 (by omega)]
    · intro k k1 k2 k3 k4
      rw [rs_n _ _ k4, rs_n _ _ k3, rs_n _ _ k2, G9 k k1]
  · -- a token
    have hjl : j < T := by omega
    have hk : kA b T j = kdB (b j) := if_pos hjl
    have nI2 : ¬ nI j = nI T := fun z => hjT ((nI_eq (by omega) (by omega)).mp z)
    have i1 : inb (nI j) 150 := inb_nI (by omega) (by omega)
    -- its kind
    have K9 : ∀ X, (bd1 (md_X9_isSmall ((d9 20) (ix (nI j)))) (fun r33 => (if r33 = 0 then bd1 (md_X9_isFigure ((d9 20) (ix (nI j)))) (fun r36 => (if r36 = 0 then (if ((d9 20) (ix (nI j))) = (59 : Int32) then jd_X9_lookAt_114 FU w X (3 : Int32) else jd_X9_lookAt_114 FU w X (4 : Int32)) else jd_X9_lookAt_114 FU w X (2 : Int32))) else jd_X9_lookAt_114 FU w X (1 : Int32)))) = jd_X9_lookAt_114 FU w X (kdB (b j)) := by
      intro X
      rw [ix_nI (by omega), d9t.2.2, small9, bd1_s]
      rcases kdB_c (b j) with ⟨s, e⟩ | ⟨s, f, e⟩ | ⟨s, f, g, e⟩ | ⟨s, f, g, h, e⟩ | ⟨s, f, g, h, e⟩
      · rw [show b01 ((97 : Int32) ≤ b j ∧ b j ≤ 122) = 1 from if_pos s, if10, e]
      · rw [show b01 ((97 : Int32) ≤ b j ∧ b j ≤ 122) = 0 from if_neg s, if00, figure9, bd1_s, show b01 ((48 : Int32) ≤ b j ∧ b j ≤ 57) = 1 from if_pos f, if10, e]
      · rw [show b01 ((97 : Int32) ≤ b j ∧ b j ≤ 122) = 0 from if_neg s, if00, figure9, bd1_s, show b01 ((48 : Int32) ≤ b j ∧ b j ≤ 57) = 0 from if_neg f, if00, if_pos g, e]
      · exact absurd h (j3 hjl)
      · rw [show b01 ((97 : Int32) ≤ b j ∧ b j ≤ 122) = 0 from if_neg s, if00, figure9, bd1_s, show b01 ((48 : Int32) ≤ b j ∧ b j ≤ 57) = 0 from if_neg f, if00, if_neg g, e]
    have kne : ¬ kdB (b j) = 0 := by
      rcases kdB_c (b j) with ⟨s, e⟩ | ⟨s, f, e⟩ | ⟨s, f, g, e⟩ | ⟨s, f, g, h, e⟩ | ⟨s, f, g, h, e⟩ <;> rw [e] <;> decide
    have k4 : kdB (b j) = 1 ∨ kdB (b j) = 2 ∨ kdB (b j) = 3 ∨ kdB (b j) = 4 := by
      rcases kdB_c (b j) with ⟨s, e⟩ | ⟨s, f, e⟩ | ⟨s, f, g, e⟩ | ⟨s, f, g, h, e⟩ | ⟨s, f, g, h, e⟩
      · exact Or.inl e
      · exact Or.inr (Or.inl e)
      · exact Or.inr (Or.inr (Or.inl e))
      · exact absurd h (j3 hjl)
      · exact Or.inr (Or.inr (Or.inr e))
    rw [hk, if_neg kne, nI_1, if_neg nI2, if_pos i1, K9]
    unfold jd_X9_lookAt_114
    rw [lt1_r]
    generalize hu5 : rs (rs d5 2 (fun _ => kdB (b j))) 5 (fun _ => nI (j + 1)) = u5
    generalize hu9 : rs (rs (rs (rs (rs d9 23 (fun _ => (0 : Int32))) 24 (fun _ => (0 : Int32))) 25 (fun _ => (0 : Int32))) 23 (fun _ => (1 : Int32))) 24 (fun _ => kdB (b j)) = u9
    have U5 : ∀ k, k ≠ 2 → k ≠ 3 → k ≠ 5 → u5 k = c5 k := fun k k1 k2 k3 => by rw [← hu5, rs_n _ _ k3, rs_n _ _ k1, G5 k k2]
    have U52 : u5 2 0 = kdB (b j) := by rw [← hu5, rs_n _ _ (by omega), rs_s]
    have U53 : u5 3 0 = nI j := by rw [← hu5, rs_n _ _ (by omega), rs_n _ _ (by omega), j4]
    have U55 : u5 5 0 = nI (j + 1) := by rw [← hu5, rs_s]
    have U9 : ∀ k, k ≠ 22 → k ≠ 23 → k ≠ 24 → k ≠ 25 → u9 k = c9 k := fun k k1 k2 k3 k4 => by rw [← hu9, rs_n _ _ k3, rs_n _ _ k2, rs_n _ _ k4, rs_n _ _ k3, rs_n _ _ k2, G9 k k1]
    have U922 : u9 22 0 = nI j := by rw [← hu9, rs_n _ _ (by omega), rs_n _ _ (by omega), rs_n _ _ (by omega), rs_n _ _ (by omega), rs_n _ _ (by omega), j5]
    have U923 : u9 23 0 = nI (j + 1 - j) := by rw [← hu9, rs_n _ _ (by omega), rs_s, show j + 1 - j = 1 from by omega]; rfl
    have U924 : u9 24 0 = kdB (b j) := by rw [← hu9, rs_s]
    have U925 : u9 25 0 = 0 := by rw [← hu9, rs_n _ _ (by omega), rs_n _ _ (by omega), rs_s]
    have u5t : TXT u5 b T := ⟨hT, by rw [U5 1 (by omega) (by omega) (by omega)]; exact t5.2.1, fun z hz => by rw [U5 0 (by omega) (by omega) (by omega)]; exact t5.2.2 z hz⟩
    have u9t : TXR u9 b T := ⟨hT, by rw [U9 21 (by omega) (by omega) (by omega) (by omega)]; exact t9.2.1, by rw [U9 20 (by omega) (by omega) (by omega) (by omega)]; exact t9.2.2⟩
    by_cases ht12 : kdB (b j) = 1 ∨ kdB (b j) = 2
    · have y1 : (if (3 : Int32) ≤ kdB (b j) then (0 : Int32) else 1) = 1 := by
        rcases ht12 with e | e <;> rw [e] <;> decide
      obtain ⟨e', v5, v9, e1, e2, e3, e4, e5, e6, e7, e8⟩ := ext_both (b := b) (T := T) (n := 1999999 - (T - (j + 1))) (n2 := 1999998 - (T - (j + 1))) (w := w) ht12 (T - (j + 1)) (j + 1) u5 u9 (by omega) (by omega) u5t u9t U52 U55 U924 U922 U923
      rw [show 1999999 - (T - (j + 1)) + 1 + (T - (j + 1)) = FU from by omega] at e7
      rw [show 1999998 - (T - (j + 1)) + 1 + 1 + (T - (j + 1)) = FU from by omega] at e8
      rw [y1, e7, e8]
      have v5t : TXT v5 b T := ⟨hT, by rw [e5 1 (by omega)]; exact u5t.2.1, fun z hz => by rw [e5 0 (by omega)]; exact u5t.2.2 z hz⟩
      have v9t : TXR v9 b T := ⟨hT, by rw [e6 21 (by omega)]; exact u9t.2.1, by rw [e6 20 (by omega)]; exact u9t.2.2⟩
      rcases ht12 with ht | ht
      · -- a word
        have V2 : ¬ v5 2 0 = 2 := by rw [e5 2 (by omega), U52, ht]; decide
        have V24 : v9 24 0 = 1 := by rw [e6 24 (by omega), U924, ht]
        have V23 : ¬ v9 23 0 ≤ 0 := by rw [e4]; exact nI_nle (by omega) (by omega)
        refine ⟨v5, rs v9 24 (fun _ => 1), ?_, ?_, ⟨j, e', j1, by omega, e2, ?_, e3, ?_, ?_, ?_, ?_, ?_⟩, ⟨?_, ?_⟩, ?_⟩
        · unfold jd_X7_next_135
          rw [if_neg V2]
        · rw [show ld_X9_lookAt_218 FU w FU = ld_X9_lookAt_218 FU w (q1 + 1) from by rw [← hq1], ld_X9_lookAt_218, if_neg V23, if_neg (show ¬ (2 : Int32) ≤ 0 by decide), V24, if_neg (show ¬ (1 : Int32) = 2 by decide)]
          unfold jd_X9_lookAt_274
          rw [V24, if_neg (show ¬ (1 : Int32) = 2 by decide), lt1_r]
        · rw [e5 3 (by omega), U53]
        · rw [rs_n _ _ (by omega), e6 22 (by omega), U922]
        · rw [rs_n _ _ (by omega), e4]
        · rw [rs_s, e5 2 (by omega), U52, ht]
        · intro z
          rw [rs_s] at z
          exact absurd z (by decide)
        · intro _
          omega
        · rw [e5 0 (by omega), U5 0 (by omega) (by omega) (by omega)]
        · rw [e5 1 (by omega), U5 1 (by omega) (by omega) (by omega)]
        · intro k k1 k2 k3 k4
          rw [rs_n _ _ k3, e6 k k2, U9 k k1 k2 k3 k4]
      · -- a number
        obtain ⟨c5', c9', f1, f2, f3, f4, f5, f6, f7⟩ := num_both (w := w) v5t v9t (by omega : j < e') e2 (by rw [e5 3 (by omega), U53]) e3 (by rw [e6 22 (by omega), U922]) e4 (by rw [e5 2 (by omega), U52, ht]) (by rw [e6 24 (by omega), U924, ht]) (by rw [e6 25 (by omega), U925])
        refine ⟨c5', c9', f1, f2, ⟨j, e', j1, by omega, e2, ?_, ?_, ?_, ?_, f3, f4, fun _ => by omega⟩, ⟨?_, ?_⟩, ?_⟩
        · rw [f6 3 (by omega) (by omega), e5 3 (by omega), U53]
        · rw [f6 5 (by omega) (by omega), e3]
        · rw [f7 22 (by omega) (by omega), e6 22 (by omega), U922]
        · rw [f7 23 (by omega) (by omega), e4]
        · rw [f6 0 (by omega) (by omega), e5 0 (by omega), U5 0 (by omega) (by omega) (by omega)]
        · rw [f6 1 (by omega) (by omega), e5 1 (by omega), U5 1 (by omega) (by omega) (by omega)]
        · intro k k1 k2 k3 k4
          rw [f7 k k3 k4, e6 k k2, U9 k k1 k2 k3 k4]
    · -- a semicolon, or a byte that begins none
      have ht34 : kdB (b j) = 3 ∨ kdB (b j) = 4 := by
        rcases k4 with e | e | e | e
        · exact absurd (Or.inl e) ht12
        · exact absurd (Or.inr e) ht12
        · exact Or.inl e
        · exact Or.inr e
      have y0 : (if (3 : Int32) ≤ kdB (b j) then (0 : Int32) else 1) = 0 := by
        rcases ht34 with e | e <;> rw [e] <;> decide
      have n1 : ¬ kdB (b j) = 1 := fun z => ht12 (Or.inl z)
      have n2 : ¬ kdB (b j) = 2 := fun z => ht12 (Or.inr z)
      have V23 : ¬ u9 23 0 ≤ 0 := by rw [U923]; exact nI_nle (by omega) (by omega)
      rw [y0]
      refine ⟨u5, rs u9 24 (fun _ => kdB (b j)), ?_, ?_, ⟨j, j + 1, j1, by omega, by omega, U53, U55, ?_, ?_, ?_, ?_, ?_⟩, ⟨?_, ?_⟩, ?_⟩
      · have e135 : jd_X7_next_135 FU u5 = some u5 := by
          unfold jd_X7_next_135
          rw [U52, if_neg n2]
        rw [show ld_X7_next_80 FU FU = ld_X7_next_80 FU (q1 + 1) from by rw [← hq1], ld_X7_next_80, U52, if_neg n1, if_neg n2, e135]
        split <;> rfl
      · rw [show ld_X9_lookAt_136 FU w FU = ld_X9_lookAt_136 FU w (q1 + 1) from by rw [← hq1], ld_X9_lookAt_136, if_pos rfl, show ld_X9_lookAt_218 FU w FU = ld_X9_lookAt_218 FU w (q1 + 1) from by rw [← hq1], ld_X9_lookAt_218, if_neg V23, if_neg (show ¬ (2 : Int32) ≤ 0 by decide), U924, if_neg n2]
        unfold jd_X9_lookAt_274
        rw [U924, if_neg n2, lt1_r]
      · rw [rs_n _ _ (by omega), U922]
      · rw [rs_n _ _ (by omega), U923]
      · rw [rs_s, U52]
      · intro z
        rw [rs_s] at z
        exact absurd z n2
      · intro _
        omega
      · rw [U5 0 (by omega) (by omega) (by omega)]
      · rw [U5 1 (by omega) (by omega) (by omega)]
      · intro k k1 k2 k3 k4
        rw [rs_n _ _ k3, U9 k k1 k2 k3 k4]
