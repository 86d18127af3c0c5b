-- best play: the reference's way, level by level
def LV (c : Nat → Nat → Int32) (v : Nat) (d : Nat → Int32) (la : Int32) : Prop := c 6 v = d 0 ∧ c 7 v = d 9 ∧ c 8 v = d 10 ∧ c 9 v = d 11 ∧ c 10 (2 * v) = d 7 ∧ c 10 (2 * v + 1) = d 8 ∧ c 11 v = la
def FR (v : Nat) (c e : Nat → Nat → Int32) : Prop := (∀ k, 6 ≤ k → k ≤ 13 → k ≠ 10 → ∀ l, l < v → e k l = c k l) ∧ (∀ j, j < 2 * v → e 10 j = c 10 j) ∧ ∀ k, (k < 6 ∨ 14 < k) → e k = c k
theorem FR_r (v : Nat) (c : Nat → Nat → Int32) : FR v c c := ⟨fun _ _ _ _ _ _ => rfl, fun _ _ => rfl, fun _ _ => rfl⟩
theorem FR_t {v : Nat} {a b c : Nat → Nat → Int32} (h1 : FR v a b) (h2 : FR v b c) : FR v a c := ⟨fun k k1 k2 k3 l hl => (h2.1 k k1 k2 k3 l hl).trans (h1.1 k k1 k2 k3 l hl), fun j hj => (h2.2.1 j hj).trans (h1.2.1 j hj), fun k hk => (h2.2.2 k hk).trans (h1.2.2 k hk)⟩
theorem FR_le {v u : Nat} {a b : Nat → Nat → Int32} (hu : u ≤ v) (h : FR v a b) : FR u a b := ⟨fun k k1 k2 k3 l hl => h.1 k k1 k2 k3 l (by omega), fun j hj => h.2.1 j (by omega), h.2.2⟩
theorem LV_FR {v : Nat} {c e : Nat → Nat → Int32} {d : Nat → Int32} {la : Int32} (h : FR (v + 1) c e) (l : LV c v d la) : LV e v d la := by
  obtain ⟨l1, l2, l3, l4, l5, l6, l7⟩ := l
  refine ⟨?_, ?_, ?_, ?_, ?_, ?_, ?_⟩
  · rw [h.1 6 (by omega) (by omega) (by omega) v (by omega), l1]
  · rw [h.1 7 (by omega) (by omega) (by omega) v (by omega), l2]
  · rw [h.1 8 (by omega) (by omega) (by omega) v (by omega), l3]
  · rw [h.1 9 (by omega) (by omega) (by omega) v (by omega), l4]
  · rw [h.2.1 (2 * v) (by omega), l5]
  · rw [h.2.1 (2 * v + 1) (by omega), l6]
  · rw [h.1 11 (by omega) (by omega) (by omega) v (by omega), l7]
theorem FR_0 {v : Nat} {c e : Nat → Nat → Int32} (h : FR v c e) : e 0 = c 0 := h.2.2 0 (by omega)
theorem m2v (v : Nat) : (2 : Int32) * nI v = nI (2 * v) := pk_mul 2 v
theorem worst9 (q : Int32) : md_X9_worstOf q = some (fbs q) := by
  unfold md_X9_worstOf fbs
  by_cases h : q = 0
  · rw [if_pos h, if_pos h]
  · rw [if_neg h, if_neg h]
theorem open9 {v : Nat} (c : Nat → Nat → Int32) (w : Nat → Nat → Int64) (hv : v < 14) : md_X9_openLevel c w (nI v) = some (rs (rs c 12 (upd (c 12) v (-1 : Int32))) 13 (upd (c 13) v (fbs (c 9 v - c 9 v / 2 * 2)))) := by
  have i1 : inb (nI v) 14 := inb_nI hv (by omega)
  unfold md_X9_openLevel
  rw [if_pos i1, if_pos i1, ix_nI (by omega), worst9, bd1_s, if_pos i1]
theorem lay_ok {v : Nat} {c : Nat → Nat → Int32} {d : Nat → Int32} {la : Int32} (w : Nat → Nat → Int64) (hv : v ≤ 12) (h : LV c v d la) : ∃ e, md_X9_layLevel c w (nI (v + 1)) (nI v) = some e ∧ LV e (v + 1) d la ∧ e 12 (v + 1) = -1 ∧ e 13 (v + 1) = fbs (spW d) ∧ FR (v + 1) c e ∧ e 14 = c 14 := by
  obtain ⟨l1, l2, l3, l4, l5, l6, l7⟩ := h
  have i1 : inb (nI v) 14 := inb_nI (by omega) (by omega)
  have i2 : inb (nI (v + 1)) 14 := inb_nI (by omega) (by omega)
  have j1 : inb (nI (2 * v)) 28 := inb_nI (by omega) (by omega)
  have j2 : inb (nI (2 * (v + 1))) 28 := inb_nI (by omega) (by omega)
  have j3 : inb (nI (2 * v + 1)) 28 := inb_nI (by omega) (by omega)
  have j4 : inb (nI (2 * (v + 1) + 1)) 28 := inb_nI (by omega) (by omega)
  have x1 : ix (nI v) = v := ix_nI (by omega)
  have x2 : ix (nI (v + 1)) = v + 1 := ix_nI (by omega)
  have x3 : ix (nI (2 * v)) = 2 * v := ix_nI (by omega)
  have x4 : ix (nI (2 * (v + 1))) = 2 * (v + 1) := ix_nI (by omega)
  have x5 : ix (nI (2 * v + 1)) = 2 * v + 1 := ix_nI (by omega)
  have x6 : ix (nI (2 * (v + 1) + 1)) = 2 * (v + 1) + 1 := ix_nI (by omega)
  have n1 : 2 * v + 1 ≠ 2 * (v + 1) := by omega
  have n2 : v ≠ v + 1 := by omega
  unfold md_X9_layLevel
  simp only [m2v, nI_1, if_pos i1, if_pos i2, if_pos j1, if_pos j2, if_pos j3, if_pos j4, lt1_r, x1, x2, x3, x4, x5, x6, open9 _ _ (show v + 1 < 14 by omega), bd1_s]
  refine ⟨_, rfl, ⟨?_, ?_, ?_, ?_, ?_, ?_, ?_⟩, ?_, ?_, ⟨?_, ?_, ?_⟩, ?_⟩
  · simp [rs, upd, l1]
  · simp [rs, upd, l2]
  · simp [rs, upd, l3]
  · simp [rs, upd, l4]
  · simp [rs, upd, l5]
  · simp only [rs, upd]
    simp [n1, l6]
    exact upd_s
  · simp [rs, upd, l7]
  · simp [rs, upd]
  · simp [rs, upd, l4, spW]
  · intro k k1 k2 k3 l hl
    have hl2 : l ≠ v + 1 := by omega
    have : k = 6 ∨ k = 7 ∨ k = 8 ∨ k = 9 ∨ k = 11 ∨ k = 12 ∨ k = 13 := by omega
    rcases this with rfl | rfl | rfl | rfl | rfl | rfl | rfl <;> simp [rs, upd, hl2]
  · intro j hj
    have h1 : j ≠ 2 * (v + 1) := by omega
    have h2 : j ≠ 2 * (v + 1) + 1 := by omega
    simp [rs, upd, h1, h2]
  · intro k hk
    simp only [rs]
    rw [if_neg (by omega), if_neg (by omega), if_neg (by omega), if_neg (by omega), if_neg (by omega), if_neg (by omega), if_neg (by omega), if_neg (by omega)]
  · simp [rs]
theorem mayA_n {v : Nat} {c : Nat → Nat → Int32} {d : Nat → Int32} (w : Nat → Nat → Int64) (hv : v ≤ 13) (h : LV c v d (-1)) : md_X9_mayAt c w (nI v) = some 0 := by
  have i1 : inb (nI v) 14 := inb_nI (by omega) (by omega)
  unfold md_X9_mayAt
  rw [if_pos i1, ix_nI (by omega), h.2.2.2.2.2.2, if_pos rfl]
theorem LV_b {v : Nat} {c : Nat → Nat → Int32} {d : Nat → Int32} {la : Int32} (h : LV c v d la) (w : Nat) (hw : w < 2) : c 10 (2 * v + w) = d (7 + w) := by
  have : w = 0 ∨ w = 1 := by omega
  rcases this with rfl | rfl
  · exact h.2.2.2.2.1
  · exact h.2.2.2.2.2.1
theorem mayA_p {P v p : Nat} {c : Nat → Nat → Int32} {d : Nat → Int32} (w : Nat → Nat → Int64) (hP : P ≤ 6) (ho : OKd P d) (hv : v ≤ 13) (hp : p < P) (h12 : d 12 = nI p) (h : LV c v d (nI p)) (hg : c 0 (6 + p) = d (1 + p)) : md_X9_mayAt c w (nI v) = some (spY d) := by
  obtain ⟨q, hq, eq⟩ := spW_lt hP ho
  have i1 : inb (nI v) 14 := inb_nI (by omega) (by omega)
  have e6 : (6 : Int32) + nI p = nI (6 + p) := nI_add 6 p
  have i6 : inb (nI (6 + p)) 194 := inb_nI (by omega) (by omega)
  have ew : d 11 - d 11 / 2 * 2 = nI q := eq
  have i2 : inb (nI (2 * v + q)) 28 := inb_nI (by omega) (by omega)
  unfold md_X9_mayAt spY
  rw [if_pos i1, ix_nI (by omega), h.2.2.2.2.2.2, if_neg (nI_m1 (by omega)), e6, if_pos i6, ix_nI (by omega), hg, if_pos i1, h.2.2.2.1, ew, m2v, nI_add, if_pos i2, ix_nI (by omega), LV_b h q hq, h12, if_neg (nI_m1 (by omega)), ix_nI (by omega), eq, ix_nI (by omega)]
  simp only [ite_some]
/-- a level's own row is best and choice -/
def BC (c : Nat → Nat → Int32) (v : Nat) (ch b : Int32) : Prop := c 12 v = ch ∧ c 13 v = b
def bets (q b x k y : Int32) : Int32 := if q = 0 then (if x ≤ b then k else y) else (if b ≤ x then k else y)
theorem bets_same (q b x k : Int32) : bets q b x k k = k := by
  unfold bets
  split
  · split <;> rfl
  · split <;> rfl
/-- back at a level: the best so far, the choice that is first best at the first level -/
def upB (e : Nat → Nat → Int32) (v : Nat) (q X : Int32) : Nat → Nat → Int32 := rs (rs e 13 (upd (e 13) v (bet q (e 13 v) X))) 14 (fun _ => bets q (e 13 v) X (e 14 0) (if v = 0 then e 12 0 else e 14 0))
theorem nIv0 {v : Nat} (hv : v < 2 ^ 31) : (nI v = 0) ↔ v = 0 := by
  rw [show (0 : Int32) = nI 0 from rfl, nI_eq hv (by omega)]
theorem ret9 {v : Nat} {e : Nat → Nat → Int32} {w : Nat → Nat → Int64} {k41 : (Nat → Nat → Int32) → Int32 → Option (Int32 × (Nat → Nat → Int32))} {q X : Int32} (hv : v ≤ 12) (hq : e 9 v - e 9 v / 2 * 2 = q) : jd_X9_solve_107 FU w k41 e (nI (v + 1)) X = k41 (upB e v q X) (nI v) := by
  have i1 : inb (nI v) 14 := inb_nI (by omega) (by omega)
  have e1 : nI (v + 1) + (-1 : Int32) = nI v := pk_m1 v
  have n1 : ¬ nI v < 0 := nI_pos (by omega)
  have x1 : ix (nI v) = v := ix_nI (by omega)
  unfold jd_X9_solve_107 jd_X9_solve_159 jd_X9_solve_181 upB bet bets
  rw [e1, if_neg n1, if_pos i1, x1, hq]
  by_cases h0 : q = 0
  · rw [if_pos h0, if_pos h0, if_pos h0, if_pos i1]
    by_cases hX : X ≤ e 13 v
    · rw [if_pos hX, if_pos hX, if_pos hX, if_pos rfl, if_pos i1, if_pos i1, lt1_r, if_pos rfl]
    · rw [if_neg hX, if_neg hX, if_neg hX, if_neg ne10, if_pos i1, lt1_r, if_neg ne10]
      by_cases hv0 : v = 0
      · rw [if_pos ((nIv0 (by omega)).mpr hv0), if_pos hv0]
      · rw [if_neg (fun z => hv0 ((nIv0 (by omega)).mp z)), if_neg hv0]
  · rw [if_neg h0, if_neg h0, if_neg h0, if_pos i1]
    by_cases hX : e 13 v ≤ X
    · rw [if_pos hX, if_pos hX, if_pos hX, if_pos rfl, if_pos i1, if_pos i1, lt1_r, if_pos rfl]
    · rw [if_neg hX, if_neg hX, if_neg hX, if_neg ne10, if_pos i1, lt1_r, if_neg ne10]
      by_cases hv0 : v = 0
      · rw [if_pos ((nIv0 (by omega)).mpr hv0), if_pos hv0]
      · rw [if_neg (fun z => hv0 ((nIv0 (by omega)).mp z)), if_neg hv0]
theorem upB_13 (e : Nat → Nat → Int32) (v : Nat) (q X : Int32) : upB e v q X 13 v = bet q (e 13 v) X := by
  unfold upB
  rw [rs_n _ _ (by omega), rs_s, upd_s]
theorem upB_n {e : Nat → Nat → Int32} {v : Nat} {q X : Int32} {k : Nat} (h1 : k ≠ 13) (h2 : k ≠ 14) : upB e v q X k = e k := by
  unfold upB
  rw [rs_n _ _ h2, rs_n _ _ h1]
theorem upB_14 {e : Nat → Nat → Int32} {v : Nat} {q X : Int32} (hv : v ≠ 0) : upB e v q X 14 0 = e 14 0 := by
  unfold upB
  rw [rs_s, if_neg hv, bets_same]
theorem upB_FR (e : Nat → Nat → Int32) (v : Nat) (q X : Int32) : FR v e (upB e v q X) := by
  refine ⟨fun k k1 k2 k3 l hl => ?_, fun j hj => ?_, fun k hk => upB_n (by omega) (by omega)⟩
  · by_cases h : k = 13
    · subst h
      unfold upB
      rw [rs_n _ _ (by omega), rs_s, upd_n (by omega)]
    · rw [upB_n h (by omega)]
  · rw [upB_n (by omega) (by omega)]
theorem upB_LV {e : Nat → Nat → Int32} {v : Nat} {q X : Int32} {d : Nat → Int32} {la : Int32} (h : LV e v d la) : LV (upB e v q X) v d la := by
  unfold LV
  rw [upB_n (by omega) (by omega), upB_n (by omega) (by omega), upB_n (by omega) (by omega), upB_n (by omega) (by omega), upB_n (by omega) (by omega), upB_n (by omega) (by omega)]
  exact h
-- the next point that is still to come
theorem next9 {P S v n : Nat} {c : Nat → Nat → Int32} {w : Nat → Nat → Int64} (hP : P ≤ 6) (hS : S < 2 ^ P) (h0 : c 0 0 = nI P) (h6 : c 6 v = nI S) (hv : v ≤ 13) : ∀ m i, i + m = P → (∃ k, i ≤ k ∧ opn P S k ∧ (∀ j, i ≤ j → j < k → ¬ opn P S j) ∧ ld_X9_choosesAt_94 FU w (n + 1 + m) c (nI v) (nI i) = jd_X9_choosesAt_121 FU w c (nI v) (nI k)) ∨ ((∀ j, i ≤ j → ¬ opn P S j) ∧ ld_X9_choosesAt_94 FU w (n + 1 + m) c (nI v) (nI i) = some (0, c))
  | 0, i, h => by
    have : i = P := by omega
    subst this
    have l : nI i ≤ nI i := Int32.le_refl _
    refine Or.inr ⟨fun j hj z => by have := z.1; omega, ?_⟩
    rw [Nat.add_zero, ld_X9_choosesAt_94]
    unfold jd_X9_choosesAt_121 md_X9_many
    rw [bd1_s, h0, if_pos l, bd1_s, if_neg Int32.lt_irrefl]
  | m + 1, i, h => by
    have h64 := pow_le6 hP
    have l : ¬ nI P ≤ nI i := nI_ge (by omega) (by omega)
    have i1 : inb (nI v) 14 := inb_nI (by omega) (by omega)
    have hu := has_on (P := P) (S := S) (i := i) hP hS (by omega)
    rcases opn_d P S i with ho | ho
    · refine Or.inl ⟨i, by omega, ho, fun j j1 j2 => by omega, ?_⟩
      show ld_X9_choosesAt_94 FU w (n + 1 + m + 1) _ _ _ = _
      rw [ld_X9_choosesAt_94]
      unfold md_X9_many
      rw [bd1_s, h0, if_neg l, if_pos i1, ix_nI (by omega), h6, hu.1 ho, bd1_s, if00]
    · have step : ld_X9_choosesAt_94 FU w (n + 1 + (m + 1)) c (nI v) (nI i) = ld_X9_choosesAt_94 FU w (n + 1 + m) c (nI v) (nI (i + 1)) := by
        show ld_X9_choosesAt_94 FU w (n + 1 + m + 1) _ _ _ = _
        rw [ld_X9_choosesAt_94]
        unfold md_X9_many
        rw [bd1_s, h0, if_neg l, if_pos i1, ix_nI (by omega), h6, hu.2 ho, bd1_s, if10, nI_1]
      rw [step]
      rcases next9 (n := n) (w := w) hP hS h0 h6 hv m (i + 1) (by omega) with ⟨k, k1, k2, k3, k4⟩ | ⟨k1, k2⟩
      · refine Or.inl ⟨k, by omega, k2, fun j j1 j2 => ?_, k4⟩
        by_cases hj : j = i
        · subst hj; exact ho
        · exact k3 j (by omega) j2
      · refine Or.inr ⟨fun j j1 => ?_, k2⟩
        by_cases hj : j = i
        · subst hj; exact ho
        · exact k1 j (by omega)
theorem FBx_skip {g : Nat → Int32} {P S : Nat} {q b : Int32} : ∀ z i m, (∀ j, i ≤ j → j < i + z → ¬ opn P S j) → FBx g P S q i (z + m) b = FBx g P S q (i + z) m b
  | 0, i, m, h => by rw [Nat.zero_add, Nat.add_zero]
  | z + 1, i, m, h => by
    rw [show z + 1 + m = z + m + 1 from by omega, FBx_f (h i (by omega) (by omega)), FBx_skip z (i + 1) m (fun j j1 j2 => h j (by omega) (by omega)), show i + 1 + z = i + (z + 1) from by omega]
theorem FBx_none {g : Nat → Int32} {P S : Nat} {q b : Int32} : ∀ m i, (∀ j, i ≤ j → ¬ opn P S j) → FBx g P S q i m b = b
  | 0, i, h => rfl
  | m + 1, i, h => by
    rw [FBx_f (h i (by omega))]
    exact FBx_none m (i + 1) (fun j hj => h j (by omega))
/-- the first best one -/
def FCx (g : Nat → Int32) (P S : Nat) (q : Int32) : Nat → Nat → Int32 → Int32 → Int32
  | _, 0, _, fc => fc
  | i, m + 1, b, fc => if ob P S i = true then FCx g P S q (i + 1) m (bet q b (g i)) (bets q b (g i) fc (nI i)) else FCx g P S q (i + 1) m b fc
theorem FCx_t {g : Nat → Int32} {P S i m : Nat} {q b fc : Int32} (h : opn P S i) : FCx g P S q i (m + 1) b fc = FCx g P S q (i + 1) m (bet q b (g i)) (bets q b (g i) fc (nI i)) := by
  rw [FCx, if_pos (ob_opn.mpr h)]
theorem FCx_f {g : Nat → Int32} {P S i m : Nat} {q b fc : Int32} (h : ¬ opn P S i) : FCx g P S q i (m + 1) b fc = FCx g P S q (i + 1) m b fc := by
  rw [FCx, if_neg (fun z => h (ob_opn.mp z))]
theorem FCx_skip {g : Nat → Int32} {P S : Nat} {q b fc : Int32} : ∀ z i m, (∀ j, i ≤ j → j < i + z → ¬ opn P S j) → FCx g P S q i (z + m) b fc = FCx g P S q (i + z) m b fc
  | 0, i, m, h => by rw [Nat.zero_add, Nat.add_zero]
  | z + 1, i, m, h => by
    rw [show z + 1 + m = z + m + 1 from by omega, FCx_f (h i (by omega) (by omega)), FCx_skip z (i + 1) m (fun j j1 j2 => h j (by omega) (by omega)), show i + 1 + z = i + (z + 1) from by omega]
theorem FCx_none {g : Nat → Int32} {P S : Nat} {q b fc : Int32} : ∀ m i, (∀ j, i ≤ j → ¬ opn P S j) → FCx g P S q i m b fc = fc
  | 0, i, h => rfl
  | m + 1, i, h => by
    rw [FCx_f (h i (by omega))]
    exact FCx_none m (i + 1) (fun j hj => h j (by omega))
def cnt (P S : Nat) : Nat → Nat → Nat
  | _, 0 => 0
  | i, m + 1 => (if ob P S i = true then 1 else 0) + cnt P S (i + 1) m
theorem cnt_t {P S i m : Nat} (h : opn P S i) : cnt P S i (m + 1) = 1 + cnt P S (i + 1) m := by
  rw [cnt, if_pos (ob_opn.mpr h)]
theorem cnt_f {P S i m : Nat} (h : ¬ opn P S i) : cnt P S i (m + 1) = cnt P S (i + 1) m := by
  rw [cnt, if_neg (fun z => h (ob_opn.mp z)), Nat.zero_add]
theorem cnt_skip {P S : Nat} : ∀ z i m, (∀ j, i ≤ j → j < i + z → ¬ opn P S j) → cnt P S i (z + m) = cnt P S (i + z) m
  | 0, i, m, h => by rw [Nat.zero_add, Nat.add_zero]
  | z + 1, i, m, h => by
    rw [show z + 1 + m = z + m + 1 from by omega, cnt_f (h i (by omega) (by omega)), cnt_skip z (i + 1) m (fun j j1 j2 => h j (by omega) (by omega)), show i + 1 + z = i + (z + 1) from by omega]
theorem cnt_all : ∀ P, P ≤ 6 → ∀ S, S < 2 ^ P → cnt P S 0 6 + pop S = P := by decide +kernel
/-- what the reference's first row says while it goes through levels -/
def RV (P : Nat) (f : Nat → Nat → Int32) (a : Nat → Int32) (c : Nat → Nat → Int32) : Prop := c 0 0 = nI P ∧ RRf P (c 0) f ∧ ∀ j, j < 6 → c 0 (6 + j) = a (1 + j)
theorem RV_F {P v : Nat} {f : Nat → Nat → Int32} {a : Nat → Int32} {c e : Nat → Nat → Int32} (h : FR v c e) (r : RV P f a c) : RV P f a e := by
  unfold RV
  rw [FR_0 h]
  exact r
/-- the grounds of what is unsaid are as at first -/
def GG (P : Nat) (a d : Nat → Int32) : Prop := ∀ j, opn P (ix (d 0)) j → d (1 + j) = a (1 + j)
-- a point is chosen: the next level
theorem sayL {P r v k : Nat} {f : Nat → Nat → Int32} {a d : Nat → Int32} {la : Int32} {c : Nat → Nat → Int32} (w : Nat → Nat → Int64) (hP : P ≤ 6) (hx : FXd P f) (ho : OKs P (r + 1) d) (hv : v ≤ 12) (hk : opn P (ix (d 0)) k) (hR : RV P f a c) (h : LV c v d la) : ∃ e, jd_X9_choosesAt_121 FU w c (nI v) (nI k) = some (1, e) ∧ LV e (v + 1) (spSay f d (nI k)) (nI k) ∧ BC e (v + 1) (-1) (fbs (spW (spSay f d (nI k)))) ∧ LV e v d la ∧ BC e v (nI k) (c 13 v) ∧ FR v c e ∧ e 14 = c 14 := by
  obtain ⟨s1, s2, s3⟩ := OKs_ix hP ho
  have h64 := pow_le6 hP
  have hk6 := hk.1
  obtain ⟨c1, e1, lv1, b1, b2, fr1, e14⟩ := lay_ok w hv h
  have lv0 := LV_FR fr1 h
  have hpop := pop_le (ix (d 0)) (by omega)
  have h11 : d 11 = nI (pop (ix (d 0))) := by
    obtain ⟨S, hS, h0, h11⟩ := ho.1.1
    rw [h11, h0, ix_nI (by omega)]
  have i0 : inb (nI v) 14 := inb_nI (by omega) (by omega)
  have i1 : inb (nI (v + 1)) 14 := inb_nI (by omega) (by omega)
  have x0 : ix (nI v) = v := ix_nI (by omega)
  have x1 : ix (nI (v + 1)) = v + 1 := ix_nI (by omega)
  have lt : nI k < nI P := nI_lt hk.1 (by omega)
  have hrr : RRf P ((rs c1 6 (upd (c1 6) (v + 1) (c1 6 (v + 1) ||| (1 : Int32) <<< (nI k &&& 31)))) 0) f := by
    rw [rs_n _ _ (by omega), FR_0 fr1]
    exact hR.2.1
  have hmb := mb9 (P := P) (k := k) (T := pop (ix (d 0))) (c := rs c1 6 (upd (c1 6) (v + 1) (c1 6 (v + 1) ||| (1 : Int32) <<< (nI k &&& 31)))) (f := f) (w := w) (s := c1 7 v) (e := c1 8 v) hP hx hrr hk.1 (by omega)
  rw [← h11, ← lv0.2.2.2.1] at hmb
  unfold jd_X9_choosesAt_121 md_X9_many
  rw [bd1_s, hR.1, if_pos lt, nI_1, e1, bd1_s, if_pos i1, lt1_r, x1, if_pos i1, if_pos i0, if_pos i0, if_pos i0, x0, hmb, bd1_s, if_pos i1, if_pos i0, if_pos i1, if_pos i1, open9 _ _ (by omega), bd1_s, if_pos i0]
  have n1 : v ≠ v + 1 := by omega
  refine ⟨_, rfl, ⟨?_, ?_, ?_, ?_, ?_, ?_, ?_⟩, ⟨?_, ?_⟩, ⟨?_, ?_, ?_, ?_, ?_, ?_, ?_⟩, ⟨?_, ?_⟩, ⟨?_, ?_, ?_⟩, ?_⟩
  · rw [spSay_0]; simp [rs, upd, lv1.1]
  · rw [spSay_n (by omega) (by omega) (by omega) (by omega)]; simp [rs, lv1.2.1]
  · rw [spSay_10, spM_mx]; simp [rs, upd, lv0.2.1, lv0.2.2.1, lv0.2.2.2.1]
  · rw [spSay_11]; simp [rs, upd, lv0.2.2.2.1]
  · rw [spSay_n (by omega) (by omega) (by omega) (by omega)]; simp [rs, lv1.2.2.2.2.1]
  · rw [spSay_n (by omega) (by omega) (by omega) (by omega)]; simp [rs, lv1.2.2.2.2.2.1]
  · simp [rs, upd]
  · simp [rs, upd]
  · unfold spW; rw [spSay_11]; simp [rs, upd, lv0.2.2.2.1]
  · simp [rs, upd, lv0.1]
  · simp [rs, lv0.2.1]
  · simp [rs, upd, lv0.2.2.1]
  · simp [rs, upd, lv0.2.2.2.1]
  · simp [rs, lv0.2.2.2.2.1]
  · simp [rs, lv0.2.2.2.2.2.1]
  · simp [rs, upd, lv0.2.2.2.2.2.2]
  · simp [rs, upd]
  · have := fr1.1 13 (by omega) (by omega) (by omega) v (by omega)
    simp [rs, upd, this]
  · intro z z1 z2 z3 l hl
    have hl2 : l ≠ v + 1 := by omega
    have hl3 : l ≠ v := by omega
    have := fr1.1 z z1 z2 z3 l (by omega)
    have hz : z = 6 ∨ z = 7 ∨ z = 8 ∨ z = 9 ∨ z = 11 ∨ z = 12 ∨ z = 13 := by omega
    rcases hz with rfl | rfl | rfl | rfl | rfl | rfl | rfl <;> simp [rs, upd, hl2, hl3, this]
  · intro j hj
    have := fr1.2.1 j (by omega)
    simp [rs, this]
  · intro z hz
    have := fr1.2.2 z hz
    simp only [rs]
    rw [if_neg (by omega), if_neg (by omega), if_neg (by omega), if_neg (by omega), if_neg (by omega), if_neg (by omega), if_neg (by omega), this]
  · simp [rs, e14]
