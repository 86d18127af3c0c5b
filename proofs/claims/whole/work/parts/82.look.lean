-- look, ask: the most alike are fewest
def lk (S : Nat) (v : Nat → Int32) (one : Nat) : Nat → Nat → Nat → Nat
  | _, 0, acc => acc
  | i, m + 1, acc => lk S v one (i + 1) m (if S.testBit one = true ∧ S.testBit i = true ∧ v one = v i then acc + 1 else acc)
theorem lk_s {S : Nat} {v : Nat → Int32} {one i m acc : Nat} (h : S.testBit one = true ∧ S.testBit i = true ∧ v one = v i) : lk S v one i (m + 1) acc = lk S v one (i + 1) m (acc + 1) := by
  rw [lk, if_pos h]
theorem lk_n {S : Nat} {v : Nat → Int32} {one i m acc : Nat} (h : ¬ (S.testBit one = true ∧ S.testBit i = true ∧ v one = v i)) : lk S v one i (m + 1) acc = lk S v one (i + 1) m acc := by
  rw [lk, if_neg h]
theorem lk_0 {S : Nat} {v : Nat → Int32} {one : Nat} (h : ¬ S.testBit one = true) : ∀ m i acc, lk S v one i m acc = acc
  | 0, i, acc => rfl
  | m + 1, i, acc => by rw [lk_n (fun z => h z.1)]; exact lk_0 h m (i + 1) acc
theorem lk_le {S : Nat} {v : Nat → Int32} {one : Nat} : ∀ m i acc, lk S v one i m acc ≤ acc + m
  | 0, i, acc => Nat.le_refl _
  | m + 1, i, acc => by
    by_cases h : S.testBit one = true ∧ S.testBit i = true ∧ v one = v i
    · rw [lk_s h]
      have := lk_le (S := S) (v := v) (one := one) m (i + 1) (acc + 1)
      omega
    · rw [lk_n h]
      have := lk_le (S := S) (v := v) (one := one) m (i + 1) acc
      omega
def tp (S : Nat) (v : Nat → Int32) : Nat → Nat → Nat → Nat
  | _, 0, t => t
  | one, m + 1, t => tp S v (one + 1) m (max t (lk S v one 0 6 0))
theorem tp_le {S : Nat} {v : Nat → Int32} : ∀ m one t, t ≤ 6 → tp S v one m t ≤ 6
  | 0, one, t, h => h
  | m + 1, one, t, h => by
    rw [tp]
    have := lk_le (S := S) (v := v) (one := one) 6 0 0
    exact tp_le m (one + 1) _ (by omega)
theorem lk_ext {S : Nat} {v v' : Nat → Int32} {one : Nat} (h1 : v' one = v one) : ∀ m i acc, (∀ k, i ≤ k → k < i + m → v' k = v k) → lk S v' one i m acc = lk S v one i m acc
  | 0, i, acc, h => rfl
  | m + 1, i, acc, h => by
    rw [lk, lk, h1, h i (by omega) (by omega)]
    exact lk_ext h1 m (i + 1) _ (fun k k1 k2 => h k (by omega) (by omega))
theorem mxI {a b : Nat} (ha : a < 2 ^ 31) (hb : b < 2 ^ 31) : (if nI a < nI b then nI b else nI a) = nI (max a b) := by
  by_cases h : a < b
  · rw [if_pos (nI_lt h hb), show max a b = b from by omega]
  · rw [if_neg (nI_nlt (by omega) ha), show max a b = a from by omega]
theorem mxJ {a b : Nat} (ha : a < 2 ^ 31) (hb : b < 2 ^ 31) : (if nI b ≤ nI a then nI a else nI b) = nI (max a b) := by
  by_cases h : a < b
  · rw [if_neg (nI_ge h hb), show max a b = b from by omega]
  · rw [if_pos (nI_le (by omega) ha), show max a b = a from by omega]
-- the reference's count of the alike
theorem alike9 {F n S one top : Nat} {c : Nat → Nat → Int32} {w : Nat → Nat → Int64} {v : Nat → Int32} {k4 : Int32 → Int32 → Int32 → Option Int32} (hS : S < 64) (h1 : one < 6) (hv : ∀ k, k < 6 → c 19 k = v k) (ht : top < 100) : ∀ m i acc, i + m = 6 → acc + m < 100 → (acc = 0 ∨ S.testBit one = true) → ld_X9_mostAlike_16 F c w k4 (n + 1 + m) (nI S) (nI top) (nI one) (nI acc) (nI i) = k4 (nI S) (nI (max top (lk S v one i m acc))) (nI (one + 1))
  | 0, i, acc, h, ha, hz => by
    have : i = 6 := by omega
    subst this
    have l : (6 : Int32) ≤ nI 6 := by decide
    rw [Nat.add_zero, ld_X9_mostAlike_16, if_pos l]
    unfold jd_X9_mostAlike_72
    rw [lt1_r, mxJ (by omega) (by omega), nI_1]
    rfl
  | m + 1, i, acc, h, ha, hz => by
    have g1 : ¬ (6 : Int32) ≤ nI i := nI_ge (b := 6) (by omega) (by omega)
    show ld_X9_mostAlike_16 F c w k4 (n + 1 + m + 1) _ _ _ _ _ = _
    rw [ld_X9_mostAlike_16, if_neg g1, has9 S hS one h1, bd1_s]
    by_cases hb : S.testBit one = true
    · have ihs := alike9 (F := F) (n := n) (w := w) (k4 := k4) hS h1 hv ht m (i + 1)
      rw [if_pos hb, if10, has9 S hS i (by omega), bd1_s]
      by_cases hi : S.testBit i = true
      · have j1 : inb (nI one) 6 := inb_nI (by omega) (by omega)
        have j2 : inb (nI i) 6 := inb_nI (by omega) (by omega)
        rw [if_pos hi, if10, if_pos j1, if_pos j2, ix_nI (by omega), ix_nI (by omega), hv one h1, hv i (by omega)]
        by_cases he : v one = v i
        · rw [if_pos he, lk_s ⟨hb, hi, he⟩, nI_1, nI_1]
          exact ihs (acc + 1) (by omega) (by omega) (Or.inr hb)
        · rw [if_neg he, lk_n (fun z => he z.2.2), Int32.add_zero, nI_1]
          exact ihs acc (by omega) (by omega) (Or.inr hb)
      · rw [if_neg hi, if00, lk_n (fun z => hi z.2.1), Int32.add_zero, nI_1]
        exact ihs acc (by omega) (by omega) (Or.inr hb)
    · rw [if_neg hb, if00, lk_0 hb]
      unfold jd_X9_mostAlike_72
      rw [lt1_r, mxJ (by omega) (by omega), nI_1]
theorem most9a {F n S : Nat} {c : Nat → Nat → Int32} {w : Nat → Nat → Int64} {v : Nat → Int32} (hS : S < 64) (hv : ∀ k, k < 6 → c 19 k = v k) (hF : ∃ q, F = q + 1 + 6) : ∀ m one top, one + m = 6 → top ≤ 6 → ld_X9_mostAlike_4 F c w (n + 1 + m) (nI S) (nI top) (nI one) = some (nI (tp S v one m top))
  | 0, one, top, h, ht => by
    have : one = 6 := by omega
    subst this
    have l : (6 : Int32) ≤ nI 6 := by decide
    rw [Nat.add_zero, ld_X9_mostAlike_4, if_pos l]
    rfl
  | m + 1, one, top, h, ht => by
    obtain ⟨q, hq⟩ := hF
    have g1 : ¬ (6 : Int32) ≤ nI one := nI_ge (b := 6) (by omega) (by omega)
    have hi := alike9 (F := F) (n := q) (w := w) (k4 := ld_X9_mostAlike_4 F c w (n + 1 + m)) (top := top) (one := one) hS (by omega) hv (by omega) 6 0 0 (by omega) (by omega) (Or.inl rfl)
    rw [← hq] at hi
    have hb := lk_le (S := S) (v := v) (one := one) 6 0 0
    show ld_X9_mostAlike_4 F c w (n + 1 + m + 1) _ _ _ = _
    rw [ld_X9_mostAlike_4, if_neg g1, show (0 : Int32) = nI 0 from rfl, hi, tp]
    exact most9a hS hv ⟨q, hq⟩ m (one + 1) _ (by omega) (by omega)
theorem most9 {S : Nat} {c : Nat → Nat → Int32} {w : Nat → Nat → Int64} {v : Nat → Int32} (hS : S < 64) (hv : ∀ k, k < 6 → c 19 k = v k) : md_X9_mostAlike FU c w (nI S) = some (nI (tp S v 0 6 0)) := by
  obtain ⟨q, hq⟩ : ∃ q, FU = q + 1 + 6 := ⟨1999993, by decide⟩
  have h := most9a (F := FU) (n := q) (w := w) hS hv ⟨q, hq⟩ 6 0 0 (by omega) (by omega)
  rw [← hq] at h
  exact h
-- best of a row of tries
def bs (f : Nat → Nat) (t : Nat) : Nat → Nat → Int32 → Nat → Int32 × Nat
  | _, 0, b, w => (b, w)
  | j, m + 1, b, w => bs f t (j + 1) m (if w ≤ f j then b else nI (100 * t + j)) (if w ≤ f j then w else f j)
theorem bs_2 (f : Nat → Nat) (t : Nat) : ∀ m j b w, (bs f t j m b w).2 ≤ w
  | 0, j, b, w => Nat.le_refl _
  | m + 1, j, b, w => by
    rw [bs]
    have := bs_2 f t m (j + 1) (if w ≤ f j then b else nI (100 * t + j)) (if w ≤ f j then w else f j)
    by_cases h : w ≤ f j
    · rw [if_pos h, if_pos h] at this ⊢
      exact this
    · rw [if_neg h, if_neg h] at this ⊢
      omega
theorem bs_far (f : Nat → Nat) (t j m : Nat) (b b' : Int32) (hf : f j ≤ 6) : bs f t j (m + 1) b 7 = bs f t j (m + 1) b' 1000000 := by
  rw [bs, bs, if_neg (by omega), if_neg (by omega), if_neg (by omega), if_neg (by omega)]
def bo (g : Nat → Nat → Nat) (L : Nat) : Nat → Nat → Int32 → Nat → Int32
  | _, 0, b, _ => b
  | t, m + 1, b, w => bo g L (t + 1) m (bs (g t) t 0 L b w).1 (bs (g t) t 0 L b w).2
theorem bo_far (g : Nat → Nat → Nat) (L t m : Nat) (b b' : Int32) (hf : g t 0 ≤ 6) (hL : 0 < L) : bo g L t (m + 1) b 7 = bo g L t (m + 1) b' 1000000 := by
  obtain ⟨l, rfl⟩ : ∃ l, L = l + 1 := ⟨L - 1, by omega⟩
  rw [bo, bo, bs_far (g t) t 0 l b b' hf]
theorem lei {w f : Nat} (b x : Int32) (hw : w < 2 ^ 31) (hf : f < 2 ^ 31) : (if nI w ≤ nI f then b else x) = (if w ≤ f then b else x) := by
  by_cases h : w ≤ f
  · rw [if_pos h, if_pos (nI_le h hf)]
  · rw [if_neg h, if_neg (nI_ge (by omega) hw)]
theorem lein {w f : Nat} (hw : w < 2 ^ 31) (hf : f < 2 ^ 31) : (if nI w ≤ nI f then nI w else nI f) = nI (if w ≤ f then w else f) := by
  rw [lei _ _ hw hf]
  split <;> rfl
theorem m10 : ∀ j, j < 22 → ((10 : Int32) < nI j - 10 ↔ 21 ≤ j) := by decide +kernel
theorem p10 (j : Nat) : nI j - 10 + (1 : Int32) = nI (j + 1) - 10 := by
  rw [← nI_1, Int32.sub_eq_add_neg, Int32.sub_eq_add_neg, Int32.add_assoc, Int32.add_assoc, Int32.add_comm (-10) 1]
theorem c100 (t j : Nat) : (100 : Int32) * nI t + nI j = nI (100 * t + j) := by
  have q1 : (100 : Int32) = nI 100 := rfl
  rw [q1, pk_mul, nI_add]
theorem c110 (t j : Nat) : (100 : Int32) * nI t + (nI j - 10) + (10 : Int32) = nI (100 * t + j) := by
  rw [Int32.add_assoc, Int32.sub_add_cancel, c100]
theorem alike5a {F n S one top : Nat} {k6 : Int32 → Int32 → Int32 → Int32 → Int32 → Int32 → Option Int32} (g e t : Int32) (hS : S < 64) (h1 : one < 6) (ht : top < 100) : ∀ m i acc, i + m = 6 → acc + m < 100 → ld_X5_mostMovingAlike_18 F k6 (n + 1 + m) (nI S) g e t (nI top) (nI one) (nI acc) (nI i) = k6 (nI S) g e t (nI (max top (lk S (fun k => mvv (nI k) g e t) one i m acc))) (nI (one + 1))
  | 0, i, acc, h, ha => by
    have : i = 6 := by omega
    subst this
    have l : (5 : Int32) < nI 6 := by decide
    rw [Nat.add_zero, ld_X5_mostMovingAlike_18, if_pos l, lt1_r, mxI (by omega) (by omega), nI_1]
    rfl
  | m + 1, i, acc, h, ha => by
    have g1 : ¬ (5 : Int32) < nI i := nI_nlt (b := i) (a := 5) (by omega) (by omega)
    have ihs := alike5a (F := F) (n := n) (k6 := k6) g e t hS h1 ht m (i + 1)
    show ld_X5_mostMovingAlike_18 F k6 (n + 1 + m + 1) _ _ _ _ _ _ _ _ = _
    rw [ld_X5_mostMovingAlike_18, if_neg g1, has8 S hS one h1, bd1_s]
    by_cases hb : S.testBit one = true
    · rw [if_pos hb, if10, has8 S hS i (by omega), bd1_s]
      by_cases hi : S.testBit i = true
      · rw [if_pos hi, if10, mv5, bd1_s, mv5, bd1_s]
        by_cases he : (fun k => mvv (nI k) g e t) one = (fun k => mvv (nI k) g e t) i
        · rw [if_pos he, lk_s ⟨hb, hi, he⟩, nI_1, nI_1]
          exact ihs (acc + 1) (by omega) (by omega)
        · rw [if_neg he, lk_n (fun z => he z.2.2), nI_1]
          exact ihs acc (by omega) (by omega)
      · rw [if_neg hi, if00, lk_n (fun z => hi z.2.1), nI_1]
        exact ihs acc (by omega) (by omega)
    · rw [if_neg hb, if00, lk_n (fun z => hb z.1), nI_1]
      exact ihs acc (by omega) (by omega)
theorem most5aa {F n S : Nat} (g e t : Int32) (hS : S < 64) (hF : ∃ q, F = q + 1 + 6) : ∀ m one top, one + m = 6 → top ≤ 6 → ld_X5_mostMovingAlike_6 F (n + 1 + m) (nI S) g e t (nI top) (nI one) = some (nI (tp S (fun k => mvv (nI k) g e t) one m top))
  | 0, one, top, h, ht => by
    have : one = 6 := by omega
    subst this
    have l : (5 : Int32) < nI 6 := by decide
    rw [Nat.add_zero, ld_X5_mostMovingAlike_6, if_pos l]
    rfl
  | m + 1, one, top, h, ht => by
    obtain ⟨q, hq⟩ := hF
    have g1 : ¬ (5 : Int32) < nI one := nI_nlt (b := one) (a := 5) (by omega) (by omega)
    have hi := alike5a (F := F) (n := q) (k6 := ld_X5_mostMovingAlike_6 F (n + 1 + m)) (top := top) (one := one) g e t hS (by omega) (by omega) 6 0 0 (by omega) (by omega)
    rw [← hq] at hi
    have hb := lk_le (S := S) (v := fun k => mvv (nI k) g e t) (one := one) 6 0 0
    show ld_X5_mostMovingAlike_6 F (n + 1 + m + 1) _ _ _ _ _ _ = _
    rw [ld_X5_mostMovingAlike_6, if_neg g1, show (0 : Int32) = nI 0 from rfl, hi, tp]
    exact most5aa g e t hS ⟨q, hq⟩ m (one + 1) _ (by omega) (by omega)
theorem most5a {S : Nat} (g e t : Int32) (hS : S < 64) : md_X5_mostMovingAlike FU (nI S) g e t = some (nI (tp S (fun k => mvv (nI k) g e t) 0 6 0)) := by
  obtain ⟨q, hq⟩ : ∃ q, FU = q + 1 + 6 := ⟨1999993, by decide⟩
  have h := most5aa (F := FU) (n := q) g e t hS ⟨q, hq⟩ 6 0 0 (by omega) (by omega)
  rw [← hq] at h
  exact h
theorem alike5b {F n S one top : Nat} {k6 : Int32 → Int32 → Int32 → Int32 → Int32 → Option Int32} (g e : Int32) (hS : S < 64) (h1 : one < 6) (ht : top < 100) : ∀ m i acc, i + m = 6 → acc + m < 100 → ld_X5_mostCountingAlike_17 F k6 (n + 1 + m) (nI S) g e (nI top) (nI one) (nI acc) (nI i) = k6 (nI S) g e (nI (max top (lk S (fun k => cvv (nI k) g e) one i m acc))) (nI (one + 1))
  | 0, i, acc, h, ha => by
    have : i = 6 := by omega
    subst this
    have l : (5 : Int32) < nI 6 := by decide
    rw [Nat.add_zero, ld_X5_mostCountingAlike_17, if_pos l, lt1_r, mxI (by omega) (by omega), nI_1]
    rfl
  | m + 1, i, acc, h, ha => by
    have g1 : ¬ (5 : Int32) < nI i := nI_nlt (b := i) (a := 5) (by omega) (by omega)
    have ihs := alike5b (F := F) (n := n) (k6 := k6) g e hS h1 ht m (i + 1)
    show ld_X5_mostCountingAlike_17 F k6 (n + 1 + m + 1) _ _ _ _ _ _ _ = _
    rw [ld_X5_mostCountingAlike_17, if_neg g1, has8 S hS one h1, bd1_s]
    by_cases hb : S.testBit one = true
    · rw [if_pos hb, if10, has8 S hS i (by omega), bd1_s]
      by_cases hi : S.testBit i = true
      · rw [if_pos hi, if10, ct5, bd1_s, ct5, bd1_s]
        by_cases he : (fun k => cvv (nI k) g e) one = (fun k => cvv (nI k) g e) i
        · rw [if_pos he, lk_s ⟨hb, hi, he⟩, nI_1, nI_1]
          exact ihs (acc + 1) (by omega) (by omega)
        · rw [if_neg he, lk_n (fun z => he z.2.2), nI_1]
          exact ihs acc (by omega) (by omega)
      · rw [if_neg hi, if00, lk_n (fun z => hi z.2.1), nI_1]
        exact ihs acc (by omega) (by omega)
    · rw [if_neg hb, if00, lk_n (fun z => hb z.1), nI_1]
      exact ihs acc (by omega) (by omega)
theorem most5ba {F n S : Nat} (g e : Int32) (hS : S < 64) (hF : ∃ q, F = q + 1 + 6) : ∀ m one top, one + m = 6 → top ≤ 6 → ld_X5_mostCountingAlike_5 F (n + 1 + m) (nI S) g e (nI top) (nI one) = some (nI (tp S (fun k => cvv (nI k) g e) one m top))
  | 0, one, top, h, ht => by
    have : one = 6 := by omega
    subst this
    have l : (5 : Int32) < nI 6 := by decide
    rw [Nat.add_zero, ld_X5_mostCountingAlike_5, if_pos l]
    rfl
  | m + 1, one, top, h, ht => by
    obtain ⟨q, hq⟩ := hF
    have g1 : ¬ (5 : Int32) < nI one := nI_nlt (b := one) (a := 5) (by omega) (by omega)
    have hi := alike5b (F := F) (n := q) (k6 := ld_X5_mostCountingAlike_5 F (n + 1 + m)) (top := top) (one := one) g e hS (by omega) (by omega) 6 0 0 (by omega) (by omega)
    rw [← hq] at hi
    have hb := lk_le (S := S) (v := fun k => cvv (nI k) g e) (one := one) 6 0 0
    show ld_X5_mostCountingAlike_5 F (n + 1 + m + 1) _ _ _ _ _ = _
    rw [ld_X5_mostCountingAlike_5, if_neg g1, show (0 : Int32) = nI 0 from rfl, hi, tp]
    exact most5ba g e hS ⟨q, hq⟩ m (one + 1) _ (by omega) (by omega)
theorem most5b {S : Nat} (g e : Int32) (hS : S < 64) : md_X5_mostCountingAlike FU (nI S) g e = some (nI (tp S (fun k => cvv (nI k) g e) 0 6 0)) := by
  obtain ⟨q, hq⟩ : ∃ q, FU = q + 1 + 6 := ⟨1999993, by decide⟩
  have h := most5ba (F := FU) (n := q) g e hS ⟨q, hq⟩ 6 0 0 (by omega) (by omega)
  rw [← hq] at h
  exact h
/-- how many are most alike, of a try -/
def lkF (S : Nat) (g : Int32) (t j : Nat) : Nat := tp S (fun k => mvv (nI k) g (nI j - 10) (nI t)) 0 6 0
def akF (S : Nat) (t j : Nat) : Nat := tp S (fun k => cvv (nI k) (nI j) (nI t)) 0 6 0
theorem look5b {n S t : Nat} {k8 : Int32 → Int32 → Int32 → Int32 → Int32 → Option Int32} (g : Int32) (hS : S < 64) : ∀ m j b w, j + m = 21 → w < 2 ^ 31 → ld_X5_bestLook_22 FU k8 (n + 1 + m) (nI S) g b (nI w) (nI t) (nI j - 10) = k8 (nI S) g (bs (lkF S g t) t j m b w).1 (nI (bs (lkF S g t) t j m b w).2) (nI (t + 1))
  | 0, j, b, w, h, hw => by
    have l : (10 : Int32) < nI j - 10 := (m10 j (by omega)).mpr (by omega)
    rw [Nat.add_zero, ld_X5_bestLook_22, if_pos l, nI_1]
    rfl
  | m + 1, j, b, w, h, hw => by
    have l : ¬ (10 : Int32) < nI j - 10 := fun z => by have := (m10 j (by omega)).mp z; omega
    have hf : lkF S g t j ≤ 6 := tp_le _ _ _ (by omega)
    show ld_X5_bestLook_22 FU k8 (n + 1 + m + 1) _ _ _ _ _ _ = _
    rw [ld_X5_bestLook_22, if_neg l, most5a _ _ _ hS, bd1_s, lt1_r, lt1_r, c110, p10]
    show ld_X5_bestLook_22 FU k8 (n + 1 + m) _ _ (if nI w ≤ nI (lkF S g t j) then b else nI (100 * t + j)) (if nI w ≤ nI (lkF S g t j) then nI w else nI (lkF S g t j)) _ _ = _
    rw [lei _ _ hw (by omega), lein hw (by omega)]
    exact look5b g hS m (j + 1) _ _ (by omega) (by split <;> omega)
theorem look5c {n S : Nat} (g : Int32) (hS : S < 64) (h0 : 0 < S) : ∀ m t b w, t + m = 6 → w < 2 ^ 31 → ld_X5_bestLook_8 FU (n + 1 + m) (nI S) g b (nI w) (nI t) = some (bo (lkF S g) 21 t m b w)
  | 0, t, b, w, h, hw => by
    have : t = 6 := by omega
    subst this
    have l : (5 : Int32) < nI 6 := by decide
    rw [Nat.add_zero, ld_X5_bestLook_8, if_pos l]
    rfl
  | m + 1, t, b, w, h, hw => by
    have l : ¬ (5 : Int32) < nI t := nI_nlt (b := t) (a := 5) (by omega) (by omega)
    obtain ⟨q, hq⟩ : ∃ q, FU = q + 1 + 21 := ⟨1999978, by decide⟩
    have hi := look5b (n := q) (t := t) (k8 := ld_X5_bestLook_8 FU (n + 1 + m)) g hS 21 0 b w (by omega) hw
    have hw2 := bs_2 (lkF S g t) t 21 0 b w
    rw [← hq, show nI 0 - 10 = (-10 : Int32) from by decide] at hi
    show ld_X5_bestLook_8 FU (n + 1 + m + 1) _ _ _ _ _ = _
    rw [ld_X5_bestLook_8, if_neg l, if_neg (nI_ne0 h0 (by omega)), hi, bo]
    exact look5c g hS h0 m (t + 1) _ _ (by omega) (by omega)
theorem ask5b {n S t : Nat} {k8 : Int32 → Int32 → Int32 → Int32 → Option Int32} (hS : S < 64) : ∀ m j b w, j + m = 41 → w < 2 ^ 31 → ld_X5_bestQuestion_19 FU k8 (n + 1 + m) (nI S) b (nI w) (nI t) (nI j) = k8 (nI S) (bs (akF S t) t j m b w).1 (nI (bs (akF S t) t j m b w).2) (nI (t + 1))
  | 0, j, b, w, h, hw => by
    have : j = 41 := by omega
    subst this
    have l : (40 : Int32) < nI 41 := by decide
    rw [Nat.add_zero, ld_X5_bestQuestion_19, if_pos l, nI_1]
    rfl
  | m + 1, j, b, w, h, hw => by
    have l : ¬ (40 : Int32) < nI j := nI_nlt (b := j) (a := 40) (by omega) (by omega)
    have hf : akF S t j ≤ 6 := tp_le _ _ _ (by omega)
    show ld_X5_bestQuestion_19 FU k8 (n + 1 + m + 1) _ _ _ _ _ = _
    rw [ld_X5_bestQuestion_19, if_neg l, most5b _ _ hS, bd1_s, lt1_r, lt1_r, c100, nI_1]
    show ld_X5_bestQuestion_19 FU k8 (n + 1 + m) _ (if nI w ≤ nI (akF S t j) then b else nI (100 * t + j)) (if nI w ≤ nI (akF S t j) then nI w else nI (akF S t j)) _ _ = _
    rw [lei _ _ hw (by omega), lein hw (by omega)]
    exact ask5b hS m (j + 1) _ _ (by omega) (by split <;> omega)
theorem ask5c {n S : Nat} (hS : S < 64) (h0 : 0 < S) : ∀ m t b w, t + m = 2 → w < 2 ^ 31 → ld_X5_bestQuestion_7 FU (n + 1 + m) (nI S) b (nI w) (nI t) = some (bo (akF S) 41 t m b w)
  | 0, t, b, w, h, hw => by
    have : t = 2 := by omega
    subst this
    have l : (1 : Int32) < nI 2 := by decide
    rw [Nat.add_zero, ld_X5_bestQuestion_7, if_pos l]
    rfl
  | m + 1, t, b, w, h, hw => by
    have l : ¬ (1 : Int32) < nI t := nI_nlt (b := t) (a := 1) (by omega) (by omega)
    obtain ⟨q, hq⟩ : ∃ q, FU = q + 1 + 41 := ⟨1999958, by decide⟩
    have hi := ask5b (n := q) (t := t) (k8 := ld_X5_bestQuestion_7 FU (n + 1 + m)) hS 41 0 b w (by omega) hw
    have hw2 := bs_2 (akF S t) t 41 0 b w
    rw [← hq] at hi
    show ld_X5_bestQuestion_7 FU (n + 1 + m + 1) _ _ _ _ = _
    rw [ld_X5_bestQuestion_7, if_neg l, if_neg (nI_ne0 h0 (by omega)), show (0 : Int32) = nI 0 from rfl, hi, bo]
    exact ask5c hS h0 m (t + 1) _ _ (by omega) (by omega)
-- the reference's tries; only its row 19 changes
def K19 (c d : Nat → Nat → Int32) : Prop := ∀ k, k ≠ 19 → d k = c k
theorem K19_rs {c d : Nat → Nat → Int32} (h : K19 c d) (x : Nat → Int32) : K19 c (rs d 19 x) := fun k hk => by rw [rs_n _ _ hk, h k hk]
theorem look9a {n S t j k : Nat} {G : Int32} {a : Nat → Nat → Int32} {w9 : Nat → Nat → Int64} {k30 : (Nat → Nat → Int32) → Int32 → Int32 → Int32 → Int32 → Int32 → Option (Int32 × (Nat → Nat → Int32))} {k44 : (Nat → Nat → Int32) → Int32 → Int32 → Int32 → Int32 → Int32 → Int32 → Option (Int32 × (Nat → Nat → Int32))} (b : Int32) {w : Nat} (hS : S < 64) (hk : k < 6) (hG : a 0 (24 + k) = G) (ht : t < 6) (hw : w < 2 ^ 31) : ∀ m i d, i + m = 6 → K19 a d → (∀ z, z < i → d 19 z = mvv (nI z) G (nI j - 10) (nI t)) → ∃ d', K19 a d' ∧ ld_X9_look_54 FU w9 k30 k44 (n + 1 + m) d (nI k) (nI S) b (nI w) (nI t) (nI j) (nI i) = k44 d' (nI k) (nI S) (if w ≤ lkF S G t j then b else nI (100 * t + j)) (nI (if w ≤ lkF S G t j then w else lkF S G t j)) (nI t) (nI (j + 1))
  | 0, i, d, h, hd, hv => by
    have : i = 6 := by omega
    subst this
    have l : (6 : Int32) ≤ nI 6 := by decide
    have hf : lkF S G t j ≤ 6 := tp_le _ _ _ (by omega)
    refine ⟨d, hd, ?_⟩
    rw [Nat.add_zero, ld_X9_look_54, if_pos l, most9 (v := fun z => mvv (nI z) G (nI j - 10) (nI t)) hS hv, bd1_s, lt1_r, lt1_r, c100, nI_1]
    show k44 d (nI k) (nI S) (if nI w ≤ nI (lkF S G t j) then b else nI (100 * t + j)) (if nI w ≤ nI (lkF S G t j) then nI w else nI (lkF S G t j)) _ _ = _
    rw [lei _ _ hw (by omega), lein hw (by omega)]
  | m + 1, i, d, h, hd, hv => by
    have l : ¬ (6 : Int32) ≤ nI i := nI_ge (b := 6) (by omega) (by omega)
    have e24 : (24 : Int32) + nI k = nI (24 + k) := nI_add 24 k
    have i24 : inb (nI (24 + k)) 194 := inb_nI (by omega) (by omega)
    have i6 : inb (nI i) 6 := inb_nI (by omega) (by omega)
    obtain ⟨d', hd', e⟩ := look9a (n := n) (j := j) (w9 := w9) (k30 := k30) (k44 := k44) b hS hk hG ht hw m (i + 1) (rs d 19 (upd (d 19) i (mvv (nI i) G (nI j - 10) (nI t)))) (by omega) (K19_rs hd _) (fun z hz => by
      rw [rs_s]
      by_cases hzi : z = i
      · subst hzi
        rw [upd_s]
      · rw [upd_n hzi, hv z (by omega)])
    refine ⟨d', hd', ?_⟩
    show ld_X9_look_54 FU w9 k30 k44 (n + 1 + m + 1) _ _ _ _ _ _ _ _ = _
    rw [ld_X9_look_54, if_neg l, e24, if_pos i24, ix_nI (by omega), hd 0 (by omega), hG, mv9 _ _ _ _ (by rw [nI_toInt (by omega)]; omega), bd1_s, if_pos i6, ix_nI (by omega), nI_1]
    exact e
theorem look9b {n S t k : Nat} {G : Int32} {a : Nat → Nat → Int32} {w9 : Nat → Nat → Int64} {k30 : (Nat → Nat → Int32) → Int32 → Int32 → Int32 → Int32 → Int32 → Option (Int32 × (Nat → Nat → Int32))} (hS : S < 64) (hk : k < 6) (hG : a 0 (24 + k) = G) (ht : t < 6) : ∀ m j d b w, j + m = 21 → w < 2 ^ 31 → K19 a d → ∃ d', K19 a d' ∧ ld_X9_look_44 FU w9 k30 (n + 1 + m) d (nI k) (nI S) b (nI w) (nI t) (nI j) = k30 d' (nI k) (nI S) (bs (lkF S G t) t j m b w).1 (nI (bs (lkF S G t) t j m b w).2) (nI (t + 1))
  | 0, j, d, b, w, h, hw, hd => by
    have : j = 21 := by omega
    subst this
    have l : (21 : Int32) ≤ nI 21 := by decide
    refine ⟨d, hd, ?_⟩
    rw [Nat.add_zero, ld_X9_look_44, if_pos l, nI_1]
    rfl
  | m + 1, j, d, b, w, h, hw, hd => by
    have l : ¬ (21 : Int32) ≤ nI j := nI_ge (b := 21) (by omega) (by omega)
    obtain ⟨q, hq⟩ : ∃ q, FU = q + 1 + 6 := ⟨1999993, by decide⟩
    obtain ⟨d1, hd1, e1⟩ := look9a (n := q) (j := j) (w9 := w9) (k30 := k30) (k44 := ld_X9_look_44 FU w9 k30 (n + 1 + m)) b hS hk hG ht hw 6 0 d (by omega) hd (fun z hz => by omega)
    rw [← hq] at e1
    have hf : lkF S G t j ≤ 6 := tp_le _ _ _ (by omega)
    obtain ⟨d', hd', e⟩ := look9b (n := n) (w9 := w9) (k30 := k30) hS hk hG ht m (j + 1) d1 (if w ≤ lkF S G t j then b else nI (100 * t + j)) (if w ≤ lkF S G t j then w else lkF S G t j) (by omega) (by split <;> omega) hd1
    refine ⟨d', hd', ?_⟩
    show ld_X9_look_44 FU w9 k30 (n + 1 + m + 1) _ _ _ _ _ _ _ = _
    rw [ld_X9_look_44, if_neg l, show (0 : Int32) = nI 0 from rfl, e1]
    exact e
theorem look9c {n S k : Nat} {G : Int32} {a : Nat → Nat → Int32} {w9 : Nat → Nat → Int64} (hS : S < 64) (h0 : 0 < S) (hk : k < 6) (hG : a 0 (24 + k) = G) : ∀ m t d b w, t + m = 6 → w < 2 ^ 31 → K19 a d → ∃ d', K19 a d' ∧ ld_X9_look_30 FU w9 (n + 1 + m) d (nI k) (nI S) b (nI w) (nI t) = some (bo (lkF S G) 21 t m b w, d')
  | 0, t, d, b, w, h, hw, hd => by
    have : t = 6 := by omega
    subst this
    have l : (6 : Int32) ≤ nI 6 := by decide
    refine ⟨d, hd, ?_⟩
    rw [Nat.add_zero, ld_X9_look_30, if_pos l]
    rfl
  | m + 1, t, d, b, w, h, hw, hd => by
    have l : ¬ (6 : Int32) ≤ nI t := nI_ge (b := 6) (by omega) (by omega)
    obtain ⟨q, hq⟩ : ∃ q, FU = q + 1 + 21 := ⟨1999978, by decide⟩
    obtain ⟨d1, hd1, e1⟩ := look9b (n := q) (t := t) (w9 := w9) (k30 := ld_X9_look_30 FU w9 (n + 1 + m)) hS hk hG (by omega) 21 0 d b w (by omega) hw hd
    rw [← hq] at e1
    have hw2 := bs_2 (lkF S G t) t 21 0 b w
    obtain ⟨d', hd', e⟩ := look9c (n := n) (w9 := w9) hS h0 hk hG m (t + 1) d1 (bs (lkF S G t) t 0 21 b w).1 (bs (lkF S G t) t 0 21 b w).2 (by omega) (by omega) hd1
    refine ⟨d', hd', ?_⟩
    show ld_X9_look_30 FU w9 (n + 1 + m + 1) _ _ _ _ _ _ = _
    rw [ld_X9_look_30, if_neg l, if_neg (nI_nle h0 (by omega)), show (0 : Int32) = nI 0 from rfl, e1]
    exact e
theorem ask9a {n S t j : Nat} {a : Nat → Nat → Int32} {w9 : Nat → Nat → Int64} {k30 : (Nat → Nat → Int32) → Int32 → Int32 → Int32 → Int32 → Option (Int32 × (Nat → Nat → Int32))} {k44 : (Nat → Nat → Int32) → Int32 → Int32 → Int32 → Int32 → Int32 → Option (Int32 × (Nat → Nat → Int32))} (b : Int32) {w : Nat} (hS : S < 64) (hj : j < 41) (hw : w < 2 ^ 31) : ∀ m i d, i + m = 6 → K19 a d → (∀ z, z < i → d 19 z = cvv (nI z) (nI j) (nI t)) → ∃ d', K19 a d' ∧ ld_X9_ask_52 FU w9 k30 k44 (n + 1 + m) d (nI S) b (nI w) (nI t) (nI j) (nI i) = k44 d' (nI S) (if w ≤ akF S t j then b else nI (100 * t + j)) (nI (if w ≤ akF S t j then w else akF S t j)) (nI t) (nI (j + 1))
  | 0, i, d, h, hd, hv => by
    have : i = 6 := by omega
    subst this
    have l : (6 : Int32) ≤ nI 6 := by decide
    have hf : akF S t j ≤ 6 := tp_le _ _ _ (by omega)
    refine ⟨d, hd, ?_⟩
    rw [Nat.add_zero, ld_X9_ask_52, if_pos l, most9 (v := fun z => cvv (nI z) (nI j) (nI t)) hS hv, bd1_s, lt1_r, lt1_r, c100, nI_1]
    show k44 d (nI S) (if nI w ≤ nI (akF S t j) then b else nI (100 * t + j)) (if nI w ≤ nI (akF S t j) then nI w else nI (akF S t j)) _ _ = _
    rw [lei _ _ hw (by omega), lein hw (by omega)]
  | m + 1, i, d, h, hd, hv => by
    have l : ¬ (6 : Int32) ≤ nI i := nI_ge (b := 6) (by omega) (by omega)
    have i6 : inb (nI i) 6 := inb_nI (by omega) (by omega)
    obtain ⟨d', hd', e⟩ := ask9a (n := n) (t := t) (w9 := w9) (k30 := k30) (k44 := k44) b hS hj hw m (i + 1) (rs d 19 (upd (d 19) i (cvv (nI i) (nI j) (nI t)))) (by omega) (K19_rs hd _) (fun z hz => by
      rw [rs_s]
      by_cases hzi : z = i
      · subst hzi
        rw [upd_s]
      · rw [upd_n hzi, hv z (by omega)])
    refine ⟨d', hd', ?_⟩
    show ld_X9_ask_52 FU w9 k30 k44 (n + 1 + m + 1) _ _ _ _ _ _ _ = _
    rw [ld_X9_ask_52, if_neg l, ct9 _ _ _ (by rw [nI_toInt (by omega)]; omega), bd1_s, if_pos i6, ix_nI (by omega), nI_1]
    exact e
theorem ask9b {n S t : Nat} {a : Nat → Nat → Int32} {w9 : Nat → Nat → Int64} {k30 : (Nat → Nat → Int32) → Int32 → Int32 → Int32 → Int32 → Option (Int32 × (Nat → Nat → Int32))} (hS : S < 64) : ∀ m j d b w, j + m = 41 → w < 2 ^ 31 → K19 a d → ∃ d', K19 a d' ∧ ld_X9_ask_42 FU w9 k30 (n + 1 + m) d (nI S) b (nI w) (nI t) (nI j) = k30 d' (nI S) (bs (akF S t) t j m b w).1 (nI (bs (akF S t) t j m b w).2) (nI (t + 1))
  | 0, j, d, b, w, h, hw, hd => by
    have : j = 41 := by omega
    subst this
    have l : (41 : Int32) ≤ nI 41 := by decide
    refine ⟨d, hd, ?_⟩
    rw [Nat.add_zero, ld_X9_ask_42, if_pos l, nI_1]
    rfl
  | m + 1, j, d, b, w, h, hw, hd => by
    have l : ¬ (41 : Int32) ≤ nI j := nI_ge (b := 41) (by omega) (by omega)
    obtain ⟨q, hq⟩ : ∃ q, FU = q + 1 + 6 := ⟨1999993, by decide⟩
    obtain ⟨d1, hd1, e1⟩ := ask9a (n := q) (t := t) (w9 := w9) (k30 := k30) (k44 := ld_X9_ask_42 FU w9 k30 (n + 1 + m)) b hS (j := j) (by omega) hw 6 0 d (by omega) hd (fun z hz => by omega)
    rw [← hq] at e1
    have hf : akF S t j ≤ 6 := tp_le _ _ _ (by omega)
    obtain ⟨d', hd', e⟩ := ask9b (n := n) (t := t) (w9 := w9) (k30 := k30) hS m (j + 1) d1 (if w ≤ akF S t j then b else nI (100 * t + j)) (if w ≤ akF S t j then w else akF S t j) (by omega) (by split <;> omega) hd1
    refine ⟨d', hd', ?_⟩
    show ld_X9_ask_42 FU w9 k30 (n + 1 + m + 1) _ _ _ _ _ _ = _
    rw [ld_X9_ask_42, if_neg l, show (0 : Int32) = nI 0 from rfl, e1]
    exact e
theorem ask9c {n S : Nat} {a : Nat → Nat → Int32} {w9 : Nat → Nat → Int64} (hS : S < 64) (h0 : 0 < S) : ∀ m t d b w, t + m = 2 → w < 2 ^ 31 → K19 a d → ∃ d', K19 a d' ∧ ld_X9_ask_29 FU w9 (n + 1 + m) d (nI S) b (nI w) (nI t) = some (bo (akF S) 41 t m b w, d')
  | 0, t, d, b, w, h, hw, hd => by
    have : t = 2 := by omega
    subst this
    have l : (2 : Int32) ≤ nI 2 := by decide
    refine ⟨d, hd, ?_⟩
    rw [Nat.add_zero, ld_X9_ask_29, if_pos l]
    rfl
  | m + 1, t, d, b, w, h, hw, hd => by
    have l : ¬ (2 : Int32) ≤ nI t := nI_ge (b := 2) (by omega) (by omega)
    obtain ⟨q, hq⟩ : ∃ q, FU = q + 1 + 41 := ⟨1999958, by decide⟩
    obtain ⟨d1, hd1, e1⟩ := ask9b (n := q) (t := t) (w9 := w9) (k30 := ld_X9_ask_29 FU w9 (n + 1 + m)) hS 41 0 d b w (by omega) hw hd
    rw [← hq] at e1
    have hw2 := bs_2 (akF S t) t 41 0 b w
    obtain ⟨d', hd', e⟩ := ask9c (n := n) (w9 := w9) hS h0 m (t + 1) d1 (bs (akF S t) t 0 41 b w).1 (bs (akF S t) t 0 41 b w).2 (by omega) (by omega) hd1
    refine ⟨d', hd', ?_⟩
    show ld_X9_ask_29 FU w9 (n + 1 + m + 1) _ _ _ _ _ = _
    rw [ld_X9_ask_29, if_neg l, if_neg (nI_nle h0 (by omega)), show (0 : Int32) = nI 0 from rfl, e1]
    exact e
theorem K19_KE {c d : Nat → Nat → Int32} (h : K19 c d) : KE c d := fun k hk => h k (by omega)
theorem call_look {c0 c1 c2 c9 : Nat → Nat → Int32} {w0 w1 w9 : Nat → Nat → Int64} (p : Int32) (h : RB c1 w1 c2 (c9 0)) : ∃ r c0' c9', md_X8_look FU c0 w0 c1 w1 c2 p = some (r, c0') ∧ md_X9_look FU c9 w9 p = some (r, c9') ∧ c9' 0 = c9 0 ∧ ST c0 c9 c0' c9' := by
  obtain ⟨P, K, E, N, M, r1, r2, r3, r4, r5⟩ := RB_to h
  unfold md_X8_look md_X9_look
  rw [hpA p r1.1 r1.2.2.2.2.1.1, ipA p r1.2.1, bd1_s, bd1_s]
  rcases b01_c (0 ≤ p ∧ p ≤ nI P - 1) with ⟨hb, e⟩ | ⟨hb, e⟩
  · obtain ⟨S, hS, e1, e2⟩ := fitN_fit (w := w1) (w9 := w9) p r4
    obtain ⟨k, hk, rfl⟩ := pt_of r1.1 hb
    have hP := r1.1
    have i6 : inb (nI k) 6 := inb_nI (by omega) (by omega)
    obtain ⟨q, hq⟩ : ∃ q, FU = q + 1 + 6 := ⟨1999993, by decide⟩
    have hG : c2 3 k = c9 0 (24 + k) := (r1.2.2.2.2.2.1 k hk).2
    rw [e, if10, if10, e1, e2, bd1_s, bd1_s, if_pos i6, ix_nI (by omega), hG]
    unfold md_X5_bestLook
    rcases Nat.eq_zero_or_pos S with h0 | h0
    · subst h0
      have g5 : ¬ (5 : Int32) < 0 := by decide
      have g6 : ¬ (6 : Int32) ≤ 0 := by decide
      refine ⟨-1, c0, c9, ?_, ?_, rfl, Or.inl ⟨rfl, fun k hk => rfl⟩⟩
      · rw [show ld_X5_bestLook_8 FU FU = ld_X5_bestLook_8 FU (q + 6 + 1) from by rw [show q + 6 + 1 = FU from by omega], ld_X5_bestLook_8, if_neg g5, if_pos (show nI 0 = 0 from rfl), bd1_s]
      · rw [show ld_X9_look_30 FU w9 FU = ld_X9_look_30 FU w9 (q + 6 + 1) from by rw [show q + 6 + 1 = FU from by omega], ld_X9_look_30, if_neg g6, if_pos (show nI 0 ≤ 0 by decide)]
    · have e3 := look5c (n := q) (c9 0 (24 + k)) hS h0 6 0 (-1) 7 (by omega) (by omega)
      obtain ⟨d', hd', e4⟩ := look9c (n := q) (w9 := w9) (a := c9) hS h0 (k := k) (by omega) rfl 6 0 c9 (-1) 1000000 (by omega) (by omega) (fun k hk => rfl)
      rw [← hq] at e3 e4
      have hf := bo_far (lkF S (c9 0 (24 + k))) 21 0 5 (-1) (-1) (tp_le _ _ _ (by omega)) (by omega)
      rw [hf] at e3
      refine ⟨_, c0, d', ?_, e4, hd' 0 (by omega), Or.inl ⟨rfl, K19_KE hd'⟩⟩
      rw [show (7 : Int32) = nI 7 from rfl, show (0 : Int32) = nI 0 from rfl, e3, bd1_s]
  · rw [e, if00, if00]
    exact ⟨_, _, _, rfl, rfl, rs_n _ _ (by decide), Or.inr ⟨0, by omega, rfl, rfl⟩⟩
theorem call_ask {c0 c1 c2 c9 : Nat → Nat → Int32} {w0 w1 w9 : Nat → Nat → Int64} (p : Int32) (h : RB c1 w1 c2 (c9 0)) : ∃ r c0' c9', md_X8_ask FU c0 w0 c1 w1 p = some (r, c0') ∧ md_X9_ask FU c9 w9 p = some (r, c9') ∧ c9' 0 = c9 0 ∧ ST c0 c9 c0' c9' := by
  obtain ⟨P, K, E, N, M, r1, r2, r3, r4, r5⟩ := RB_to h
  unfold md_X8_ask md_X9_ask
  rw [cn8, cn9, bd1_s, bd1_s]
  rcases b01_c (0 ≤ p ∧ p ≤ 1) with ⟨hb, e⟩ | ⟨hb, e⟩
  · obtain ⟨S, hS, e1, e2⟩ := fitM_fit (w := w1) (w9 := w9) p r5
    obtain ⟨q, hq⟩ : ∃ q, FU = q + 1 + 2 := ⟨1999997, by decide⟩
    rw [e, if10, if10, e1, e2, bd1_s, bd1_s]
    unfold md_X5_bestQuestion
    rcases Nat.eq_zero_or_pos S with h0 | h0
    · subst h0
      have g5 : ¬ (1 : Int32) < 0 := by decide
      have g6 : ¬ (2 : Int32) ≤ 0 := by decide
      refine ⟨-1, c0, c9, ?_, ?_, rfl, Or.inl ⟨rfl, fun k hk => rfl⟩⟩
      · rw [show ld_X5_bestQuestion_7 FU FU = ld_X5_bestQuestion_7 FU (q + 2 + 1) from by rw [show q + 2 + 1 = FU from by omega], ld_X5_bestQuestion_7, if_neg g5, if_pos (show nI 0 = 0 from rfl), bd1_s]
      · rw [show ld_X9_ask_29 FU w9 FU = ld_X9_ask_29 FU w9 (q + 2 + 1) from by rw [show q + 2 + 1 = FU from by omega], ld_X9_ask_29, if_neg g6, if_pos (show nI 0 ≤ 0 by decide)]
    · have e3 := ask5c (n := q) hS h0 2 0 (-1) 7 (by omega) (by omega)
      obtain ⟨d', hd', e4⟩ := ask9c (n := q) (w9 := w9) (a := c9) hS h0 2 0 c9 (-1) 1000000 (by omega) (by omega) (fun k hk => rfl)
      rw [← hq] at e3 e4
      have hf := bo_far (akF S) 41 0 1 (-1) (-1) (tp_le _ _ _ (by omega)) (by omega)
      rw [hf] at e3
      refine ⟨_, c0, d', ?_, e4, hd' 0 (by omega), Or.inl ⟨rfl, K19_KE hd'⟩⟩
      rw [show (7 : Int32) = nI 7 from rfl, show (0 : Int32) = nI 0 from rfl, e3, bd1_s]
  · rw [e, if00, if00]
    exact ⟨_, _, _, rfl, rfl, rs_n _ _ (by decide), Or.inr ⟨0, by omega, rfl, rfl⟩⟩
