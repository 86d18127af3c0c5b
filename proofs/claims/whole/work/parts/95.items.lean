-- items of the text on both sides
def wsel (x2 x3 x4 x5 x6 x7 z : Int32) : Int32 := if z = 0 then x2 else (if z = (1 : Int32) then x3 else (if z = (2 : Int32) then x4 else (if z = (3 : Int32) then x5 else (if z = (4 : Int32) then x6 else x7))))
theorem word_both {b : Nat → Int32} {T i1 L j n : Nat} {c5 c9 : Nat → Nat → Int32} {w : Nat → Nat → Int64} {x2 x3 x4 x5 x6 x7 : Int32} (t5 : TXT c5 b T) (t9 : TXR c9 b T) (hL : lenZ.getD i1 0 = L) (hch : ∀ k, k < L → chZ i1 (nI k) = wsel x2 x3 x4 x5 x6 x7 (nI k)) (hj : j + L ≤ T) (k3 : c5 3 0 = nI j) (k22 : c9 22 0 = nI j) : ∀ m k, k + m = L → ∃ v, (v = 0 ∨ v = 1) ∧ ld_X7_tokenIs_28 FU i1 c5 (n + 1 + m) (nI k) = some v ∧ ld_X9_spells_26 FU c9 w (n + 1 + 1 + m) (nI L) x2 x3 x4 x5 x6 x7 1 (nI k) = some v
  | 0, k, h => by
    have : k = L := by omega
    subst this
    have l : nI k ≤ nI k := Int32.le_refl _
    refine ⟨1, Or.inr rfl, ?_, ?_⟩
    · rw [Nat.add_zero, ld_X7_tokenIs_28, hL, if_pos l]
    · rw [Nat.add_zero, ld_X9_spells_26, if_pos l, if_pos or01]
  | m + 1, k, h => by
    have hT := t5.1
    have l : ¬ nI L ≤ nI k := nI_ge (by omega) (by omega)
    have i1' : inb (nI k) L := inb_nI (by omega) (by omega)
    have i2 : inb (nI (j + k)) 150 := inb_nI (by omega) (by omega)
    have A5 : ld_X7_tokenIs_28 FU i1 c5 (n + 1 + m + 1) (nI k) = (if b (j + k) = chZ i1 (nI k) then ld_X7_tokenIs_28 FU i1 c5 (n + 1 + m) (nI (k + 1)) else some 0) := by
      rw [ld_X7_tokenIs_28, hL, if_neg l, k3, nI_add, byteAt5 t5 (by omega), bd1_s, if_pos i1', nI_1]
    have A9 : ld_X9_spells_26 FU c9 w (n + 1 + 1 + m + 1) (nI L) x2 x3 x4 x5 x6 x7 1 (nI k) = ld_X9_spells_26 FU c9 w (n + 1 + 1 + m) (nI L) x2 x3 x4 x5 x6 x7 (if b (j + k) = wsel x2 x3 x4 x5 x6 x7 (nI k) then 1 else 0) (nI (k + 1)) := by
      rw [ld_X9_spells_26, if_neg l, if_neg ne10, k22, nI_add, if_pos i2, lt1_r, lt1_r, ix_nI (by omega), t9.2.2, nI_1]
      rfl
    rw [hch k (by omega)] at A5
    by_cases he : b (j + k) = wsel x2 x3 x4 x5 x6 x7 (nI k)
    · obtain ⟨v, hv, e1, e2⟩ := word_both (n := n) (w := w) t5 t9 hL hch hj k3 k22 m (k + 1) (by omega)
      refine ⟨v, hv, ?_, ?_⟩
      · show ld_X7_tokenIs_28 FU i1 c5 (n + 1 + m + 1) _ = _
        rw [A5, if_pos he, e1]
      · show ld_X9_spells_26 FU c9 w (n + 1 + 1 + m + 1) _ _ _ _ _ _ _ _ _ = _
        rw [A9, if_pos he, e2]
    · refine ⟨0, Or.inl rfl, ?_, ?_⟩
      · show ld_X7_tokenIs_28 FU i1 c5 (n + 1 + m + 1) _ = _
        rw [A5, if_neg he]
      · show ld_X9_spells_26 FU c9 w (n + 1 + 1 + m + 1) _ _ _ _ _ _ _ _ _ = _
        rw [A9, if_neg he, show n + 1 + 1 + m = n + 1 + m + 1 from by omega, ld_X9_spells_26, if_pos or00, if_pos rfl]
        split <;> rfl
theorem tok_both {b : Nat → Int32} {T e0 i1 L : Nat} {c5 c9 : Nat → Nat → Int32} {w : Nat → Nat → Int64} {x2 x3 x4 x5 x6 x7 : Int32} (t5 : TXT c5 b T) (t9 : TXR c9 b T) (tk : TK T e0 c5 c9) (hL : lenZ.getD i1 0 = L) (hL0 : 0 < L) (hL6 : L ≤ 6) (hch : ∀ k, k < L → chZ i1 (nI k) = wsel x2 x3 x4 x5 x6 x7 (nI k)) : ∃ v, (v = 0 ∨ v = 1) ∧ md_X7_tokenIs FU c5 i1 = some v ∧ md_X9_spells FU c9 w (nI L) x2 x3 x4 x5 x6 x7 = some v := by
  obtain ⟨j, e, h1, h2, h3, k3, k5, k22, k23, k2, -, -⟩ := tk
  have hT := t5.1
  have hF : FU = 2000000 := rfl
  have es : nI e - nI j = nI (e - j) := pk_sub h2
  have zero : ∀ v, v = 0 → ld_X9_spells_26 FU c9 w FU (nI L) x2 x3 x4 x5 x6 x7 v 0 = some 0 := by
    intro v hv
    obtain ⟨q, hq⟩ : ∃ q, FU = q + 1 := ⟨1999999, by decide⟩
    rw [show ld_X9_spells_26 FU c9 w FU = ld_X9_spells_26 FU c9 w (q + 1) from by rw [← hq], ld_X9_spells_26, hv, if_pos or00, if_pos rfl]
    split <;> rfl
  unfold md_X7_tokenIs md_X9_spells
  rw [lt1_r, k2, k5, k3, k23, es, hL]
  by_cases ht : c9 24 0 = 1
  · rw [if_pos ht, if_pos ht]
    by_cases hl : nI (e - j) = nI L
    · have hl' := (nI_eq (by omega) (by omega)).mp hl
      rw [if_pos hl, if_pos hl]
      obtain ⟨v, hv, e1, e2⟩ := word_both (n := 1999999 - L) (w := w) t5 t9 hL hch (by omega : j + L ≤ T) k3 k22 L 0 (by omega)
      obtain ⟨v', hv', e1', e2'⟩ := word_both (n := 1999998 - L) (w := w) t5 t9 hL hch (by omega : j + L ≤ T) k3 k22 L 0 (by omega)
      rw [show 1999999 - L + 1 + L = FU from by omega] at e1
      rw [show 1999998 - L + 1 + 1 + L = FU from by omega] at e2'
      have same : v = v' := by
        have m5 : ∀ m k n1 n2, k + m = L → ∀ u u', ld_X7_tokenIs_28 FU i1 c5 (n1 + 1 + m) (nI k) = some u → ld_X7_tokenIs_28 FU i1 c5 (n2 + 1 + m) (nI k) = some u' → u = u' := by
          intro m
          induction m with
          | zero =>
            intro k n1 n2 hk u u' g1 g2
            have : k = L := by omega
            subst this
            have l : nI k ≤ nI k := Int32.le_refl _
            rw [Nat.add_zero, ld_X7_tokenIs_28, hL, if_pos l] at g1 g2
            exact (Option.some.inj g1).symm.trans (Option.some.inj g2)
          | succ m ih =>
            intro k n1 n2 hk u u' g1 g2
            have l : ¬ nI L ≤ nI k := nI_ge (by omega) (by omega)
            have i1' : inb (nI k) L := inb_nI (by omega) (by omega)
            have A5 : ∀ n, ld_X7_tokenIs_28 FU i1 c5 (n + 1 + (m + 1)) (nI k) = (if b (j + k) = chZ i1 (nI k) then ld_X7_tokenIs_28 FU i1 c5 (n + 1 + m) (nI (k + 1)) else some 0) := by
              intro n
              show ld_X7_tokenIs_28 FU i1 c5 (n + 1 + m + 1) _ = _
              rw [ld_X7_tokenIs_28, hL, if_neg l, k3, nI_add, byteAt5 t5 (by omega), bd1_s, if_pos i1', nI_1]
            rw [A5] at g1 g2
            by_cases he : b (j + k) = chZ i1 (nI k)
            · rw [if_pos he] at g1 g2
              exact ih (k + 1) n1 n2 (by omega) u u' g1 g2
            · rw [if_neg he] at g1 g2
              exact (Option.some.inj g1).symm.trans (Option.some.inj g2)
        refine m5 L 0 (1999999 - L) (1999998 - L) (by omega) v v' ?_ e1'
        rw [show 1999999 - L + 1 + L = FU from by omega]
        exact e1
      exact ⟨v, hv, e1, by rw [same]; exact e2'⟩
    · rw [if_neg hl, if_neg hl]
      exact ⟨0, Or.inl rfl, rfl, zero _ rfl⟩
  · rw [if_neg ht, if_neg ht]
    exact ⟨0, Or.inl rfl, rfl, zero _ rfl⟩
theorem ch0 : ∀ k, k < 4 → chZ 0 (nI k) = wsel 99 97 115 101 0 0 (nI k) := by decide +kernel
theorem ch1 : ∀ k, k < 4 → chZ 1 (nI k) = wsel 98 111 119 115 0 0 (nI k) := by decide +kernel
theorem ch2 : ∀ k, k < 5 → chZ 2 (nI k) = wsel 112 111 105 110 116 0 (nI k) := by decide +kernel
theorem ch3 : ∀ k, k < 3 → chZ 3 (nI k) = wsel 115 97 121 0 0 0 (nI k) := by decide +kernel
theorem ch4 : ∀ k, k < 6 → chZ 4 (nI k) = wsel 111 98 106 101 99 116 (nI k) := by decide +kernel
-- behind a token
def G9 (c e : Nat → Nat → Int32) : Prop := ∀ k, k ≠ 22 → k ≠ 23 → k ≠ 24 → k ≠ 25 → k ≠ 27 → e k = c k
theorem G9_r (c : Nat → Nat → Int32) : G9 c c := fun _ _ _ _ _ _ => rfl
theorem G9_t {a b c : Nat → Nat → Int32} (h1 : G9 a b) (h2 : G9 b c) : G9 a c := fun k k1 k2 k3 k4 k5 => (h2 k k1 k2 k3 k4 k5).trans (h1 k k1 k2 k3 k4 k5)
theorem F9_G9 {c e : Nat → Nat → Int32} (h : F9 c e) : G9 c e := fun k k1 k2 k3 k4 _ => h k k1 k2 k3 k4
theorem TXT_F {b : Nat → Int32} {T : Nat} {c e : Nat → Nat → Int32} (h : F5 c e) (t : TXT c b T) : TXT e b T := by
  refine ⟨t.1, ?_, fun j hj => ?_⟩
  · rw [h.2]; exact t.2.1
  · rw [h.1]; exact t.2.2 j hj
theorem TXR_G {b : Nat → Int32} {T : Nat} {c e : Nat → Nat → Int32} (h : G9 c e) (t : TXR c b T) : TXR e b T := by
  refine ⟨t.1, ?_, ?_⟩
  · rw [h 21 (by omega) (by omega) (by omega) (by omega) (by omega)]; exact t.2.1
  · rw [h 20 (by omega) (by omega) (by omega) (by omega) (by omega)]; exact t.2.2
/-- what the class looks at next, the reference looks at now -/
def NX (T e0 : Nat) (c5 c5a c9 : Nat → Nat → Int32) : Prop := md_X7_next FU c5 = some c5a ∧ TK T e0 c5a c9 ∧ F5 c5 c5a
theorem behind {b : Nat → Int32} {T e0 : Nat} {c5 c9 : Nat → Nat → Int32} {w : Nat → Nat → Int64} (t5 : TXT c5 b T) (t9 : TXR c9 b T) (tk : TK T e0 c5 c9) : ∃ e1 c5a c9a, e0 ≤ e1 ∧ (¬ c9 24 0 = 0 → e0 < e1) ∧ md_X9_goBehind FU c9 w = some c9a ∧ NX T e1 c5 c5a c9a ∧ F9 c9 c9a := by
  obtain ⟨j, e, h1, h2, h3, k3, k5, k22, k23, k2, kv, kp⟩ := tk
  have ee : nI j + nI (e - j) = nI e := by rw [nI_add]; congr 1; omega
  obtain ⟨c5a, c9a, f1, f2, f3, f4, f5⟩ := next_both (w := w) t5 t9 h3 k5
  refine ⟨e, c5a, c9a, by omega, fun z => by have := kp z; omega, ?_, ⟨f1, f3, f4⟩, f5⟩
  unfold md_X9_goBehind
  rw [k22, k23, ee, f2, bd1_s]
theorem num_step {b : Nat → Int32} {T e0 k : Nat} {c5 c5a c9 : Nat → Nat → Int32} {w : Nat → Nat → Int64} (lo hi : Int32) (t5 : TXT c5 b T) (t9 : TXR c9 b T) (hk : k < 3) (nx : NX T e0 c5 c5a c9) : (∃ e1 c5b c9b, e0 ≤ e1 ∧ md_X2_numberWithin FU c5 lo hi = some (1, c5a) ∧ md_X9_takes FU c9 w (nI k) lo hi = some (1, c9b) ∧ (lo ≤ c9 25 0 ∧ c9 25 0 ≤ hi) ∧ c5a 4 0 = c9 25 0 ∧ NX T e1 c5a c5b c9b ∧ G9 c9 c9b ∧ c9b 27 = upd (c9 27) k (c9 25 0)) ∨ (md_X2_numberWithin FU c5 lo hi = some (0, c5a) ∧ md_X9_takes FU c9 w (nI k) lo hi = some (0, c9)) := by
  obtain ⟨n1, tk, n3⟩ := nx
  have tk2 := tk
  obtain ⟨j, e, h1, h2, h3, k3, k5, k22, k23, k2, kv, kp⟩ := tk2
  have i1 : inb (nI k) 3 := inb_nI hk (by omega)
  unfold md_X2_numberWithin md_X9_takes
  rw [n1, bd1_s, k2]
  by_cases ht : c9 24 0 = 2
  · have hv := kv ht
    rw [if_pos ht, if_pos ht, wi8, in9, bd1_s, bd1_s, hv]
    rcases b01_c (lo ≤ c9 25 0 ∧ c9 25 0 ≤ hi) with ⟨hb, e⟩ | ⟨hb, e⟩
    · have t9' : TXR (rs c9 27 (upd (c9 27) k (c9 25 0))) b T := t9
      have tk' : TK T e0 c5a (rs c9 27 (upd (c9 27) k (c9 25 0))) := tk
      obtain ⟨e1, c5b, c9b, q1, q2, q3, q4, q5⟩ := behind (w := w) (TXT_F n3 t5) t9' tk'
      refine Or.inl ⟨e1, c5b, c9b, q1, ?_, ?_, hb, rfl, q4, ?_, ?_⟩
      · rw [e, if10]
      · rw [e, if10, if_pos i1, ix_nI (by omega), q3, bd1_s]
      · intro z z1 z2 z3 z4 z5
        rw [q5 z z1 z2 z3 z4, rs_n _ _ z5]
      · rw [q5 27 (by omega) (by omega) (by omega) (by omega), rs_s]
    · refine Or.inr ⟨?_, ?_⟩
      · rw [e, if00]
      · rw [e, if00]
  · rw [if_neg ht, if_neg ht]
    exact Or.inr ⟨rfl, rfl⟩
def KD (c e : Nat → Nat → Int32) : Prop := ∀ k, (k = 1 ∨ k = 2 ∨ k = 3 ∨ k = 20 ∨ k = 21 ∨ k = 26) → e k = c k
theorem KD_G {a b c : Nat → Nat → Int32} (h1 : KD a b) (h2 : G9 b c) : KD a c := fun k hk => (h2 k (by omega) (by omega) (by omega) (by omega) (by omega)).trans (h1 k hk)
theorem KD_0 {a b : Nat → Nat → Int32} (h1 : KD a b) (x : Nat → Int32) : KD a (rs b 0 x) := fun k hk => by rw [rs_n _ _ (by omega), h1 k hk]
theorem KD_T {b : Nat → Int32} {T : Nat} {c e : Nat → Nat → Int32} (h : KD c e) (t : TXR c b T) : TXR e b T := by
  refine ⟨t.1, ?_, ?_⟩
  · rw [h 21 (by omega)]; exact t.2.1
  · rw [h 20 (by omega)]; exact t.2.2
def RW (row0 a : Nat → Int32) : Prop := a 1 = nI 0 ∧ a 2 = nI 0 ∧ a 3 = nI 0 ∧ a 4 = nI 0 ∧ ∀ x, 90 ≤ x → a x = row0 x
theorem RW_ext {row0 a a' : Nat → Int32} (h : ∀ x, ¬ (x = 0 ∨ (5 ≤ x ∧ x < 32)) → a' x = a x) (r : RW row0 a) : RW row0 a' := by
  obtain ⟨r1, r2, r3, r4, r5⟩ := r
  exact ⟨by rw [h 1 (by omega), r1], by rw [h 2 (by omega), r2], by rw [h 3 (by omega), r3], by rw [h 4 (by omega), r4], fun x hx => by rw [h x (by omega), r5 x hx]⟩
theorem R1_GC {P : Nat} {cc : Nat → Nat → Int32} {a : Nat → Int32} (r : R1 P cc a) : GC cc := r.2.2.2.2.1.2.2.2.2.2.2.2.2
theorem R1_0 {P : Nat} {cc : Nat → Nat → Int32} {c e : Nat → Nat → Int32} (h : e 0 = c 0) (r : R1 P cc (c 0)) : R1 P cc (e 0) := by rw [h]; exact r
/-- an item went well, or it is at fault -/
def OUT (b : Nat → Int32) (T : Nat) (c9o : Nat → Nat → Int32) (row0 : Nat → Int32) (e0 : Nat) (cc c5 c9 : Nat → Nat → Int32) (v5 v9 : Int32) : Prop := (v5 = 1 ∧ v9 = 1 ∧ c9 24 0 = 3 ∧ (∃ P, R1 P cc (c9 0)) ∧ RW row0 (c9 0) ∧ KD c9o c9 ∧ TXT c5 b T ∧ ∃ e, e0 ≤ e ∧ TK T e c5 c9) ∨ (v5 = 0 ∧ (v9 = 0 ∨ (v9 = 1 ∧ ¬ c9 24 0 = 3)) ∧ (∃ j, j ≤ 150 ∧ c5 3 0 = nI j ∧ c9 22 0 = nI j) ∧ GC cc ∧ (∀ x, 90 ≤ x → c9 0 x = row0 x) ∧ KD c9o c9 ∧ TXT c5 b T)
theorem TK_at {T e0 : Nat} {c5 c9 : Nat → Nat → Int32} (hT : T ≤ 150) (tk : TK T e0 c5 c9) : ∃ j, j ≤ 150 ∧ c5 3 0 = nI j ∧ c9 22 0 = nI j := by
  obtain ⟨j, e, h1, h2, h3, k3, k5, k22, -⟩ := tk
  exact ⟨j, by omega, k3, k22⟩
theorem semi {b : Nat → Int32} {T e0 P : Nat} {c9o : Nat → Nat → Int32} {row0 : Nat → Int32} {cc c5 c5a c9 : Nat → Nat → Int32} (t5 : TXT c5 b T) (nx : NX T e0 c5 c5a c9) (r : R1 P cc (c9 0)) (rw' : RW row0 (c9 0)) (kd : KD c9o c9) : ∃ v, (v = 0 ∨ v = 1) ∧ md_X2_semicolon FU c5 = some (v, c5a) ∧ OUT b T c9o row0 e0 cc c5a c9 v 1 := by
  obtain ⟨n1, tk, n3⟩ := nx
  have tk2 := tk
  obtain ⟨j, e, h1, h2, h3, k3, k5, k22, k23, k2, kv, kp⟩ := tk2
  unfold md_X2_semicolon
  rw [n1, bd1_s, lt1_r, k2]
  by_cases ht : c9 24 0 = 3
  · rw [if_pos ht, if_pos or01]
    exact ⟨1, Or.inr rfl, rfl, Or.inl ⟨rfl, rfl, ht, ⟨P, r⟩, rw', kd, TXT_F n3 t5, e0, Nat.le_refl _, tk⟩⟩
  · rw [if_neg ht, if_pos or00]
    exact ⟨0, Or.inl rfl, rfl, Or.inr ⟨rfl, Or.inr ⟨rfl, ht⟩, TK_at t5.1 tk, R1_GC r, rw'.2.2.2.2, kd, TXT_F n3 t5⟩⟩
theorem OUT_le {b : Nat → Int32} {T : Nat} {c9o : Nat → Nat → Int32} {row0 : Nat → Int32} {e0 e1 : Nat} {cc c5 c9 : Nat → Nat → Int32} {v5 v9 : Int32} (h : e0 ≤ e1) (o : OUT b T c9o row0 e1 cc c5 c9 v5 v9) : OUT b T c9o row0 e0 cc c5 c9 v5 v9 := by
  rcases o with ⟨o1, o2, o3, o4, o5, o6, o7, e, o8, o9⟩ | o
  · exact Or.inl ⟨o1, o2, o3, o4, o5, o6, o7, e, by omega, o9⟩
  · exact Or.inr o
theorem OUT_bad {b : Nat → Int32} {T : Nat} {c9o : Nat → Nat → Int32} {row0 : Nat → Int32} {e0 e1 P : Nat} {cc c5 c9 : Nat → Nat → Int32} (t5 : TXT c5 b T) (tk : TK T e1 c5 c9) (r : R1 P cc (c9 0)) (rw' : RW row0 (c9 0)) (kd : KD c9o c9) : OUT b T c9o row0 e0 cc c5 c9 0 0 := Or.inr ⟨rfl, Or.inl rfl, TK_at t5.1 tk, R1_GC r, rw'.2.2.2.2, kd, t5⟩
-- bows
theorem it_bows {b : Nat → Int32} {T e0 P : Nat} {c9o : Nat → Nat → Int32} {row0 : Nat → Int32} {cc c5 c9 : Nat → Nat → Int32} {w : Nat → Nat → Int64} (t9o : TXR c9o b T) (t5 : TXT c5 b T) (tk : TK T e0 c5 c9) (r : R1 P cc (c9 0)) (rw' : RW row0 (c9 0)) (kd : KD c9o c9) : ∃ v5 v9 cc' c5' c9', (v5 = 0 ∨ v5 = 1) ∧ (v9 = 0 ∨ v9 = 1) ∧ md_X2_readBows FU cc c5 = some (v5, cc', c5') ∧ md_X9_takesBows FU c9 w = some (v9, c9') ∧ OUT b T c9o row0 e0 cc' c5' c9' v5 v9 := by
  obtain ⟨e1, c5a, c9a, q1, -, q3, nx, f9⟩ := behind (w := w) t5 (KD_T kd t9o) tk
  have g9 := F9_G9 f9
  have kda := KD_G kd g9
  have z0 : c9a 0 = c9 0 := g9 0 (by omega) (by omega) (by omega) (by omega) (by omega)
  unfold md_X2_readBows md_X9_takesBows
  rw [q3, bd1_s]
  rcases num_step (w := w) (k := 0) 0 1 t5 (KD_T kda t9o) (by omega) nx with ⟨e2, c5b, c9b, a1, a2, a3, a4, a5, nx2, a6, a7⟩ | ⟨a1, a2⟩
  · have kdb := KD_G kda a6
    have t5a := TXT_F nx.2.2 t5
    have z1 : c9b 0 = c9 0 := (a6 0 (by omega) (by omega) (by omega) (by omega) (by omega)).trans z0
    rw [a2, bd2_s, if10, show md_X9_takes FU c9a w 0 0 1 = some (1, c9b) from a3, bd2_s, if10]
    rcases num_step (w := w) (k := 1) 0 3 t5a (KD_T kdb t9o) (by omega) nx2 with ⟨e3, c5c, c9c, b1, b2, b3, b4, b5, nx3, b6, b7⟩ | ⟨b1, b2⟩
    · have kdc := KD_G kdb b6
      have t5b := TXT_F nx2.2.2 t5a
      have z2 : c9c 0 = c9 0 := (b6 0 (by omega) (by omega) (by omega) (by omega) (by omega)).trans z1
      obtain ⟨i, hi, ei⟩ := nI_b a4 (n := 1) (by decide)
      obtain ⟨g, hg, eg⟩ := nI_b b4 (n := 3) (by decide)
      have v0 : c9c 27 0 = nI i := by rw [b7, upd_n (by omega), a7, upd_s, ei]
      have v1 : c9c 27 1 = nI g := by rw [b7, upd_s, eg]
      have e12 : (12 : Int32) + nI i = nI (12 + i) := nI_add 12 i
      have i1 : inb (nI (12 + i)) 194 := inb_nI (by omega) (by omega)
      have i2 : inb (nI i) 2 := inb_nI (by omega) (by omega)
      have hr := R1_bows (i := i) (b := g) (by omega) (by omega) (R1_0 z2 r)
      have hrw : RW row0 (upd (c9c 0) (12 + i) (nI g)) := RW_ext (fun x hx => by rw [upd_n (by omega), z2]) rw'
      obtain ⟨v, hv, s1, s2⟩ := semi (cc := rs cc 1 (upd (cc 1) i (nI g))) (c9 := rs c9c 0 (upd (c9c 0) (12 + i) (nI g))) t5b (show NX T e3 c5b c5c (rs c9c 0 (upd (c9c 0) (12 + i) (nI g))) from nx3) hr hrw (KD_0 kdc _)
      have hcs : md_X8_isCounsel (c5a 4 0) = some 1 := by
        rw [cn8, a5]
        exact congrArg some (if_pos a4)
      refine ⟨v, 1, _, _, _, hv, Or.inr rfl, ?_, ?_, OUT_le (by omega) s2⟩
      · rw [b2, bd2_s, if10, hcs, bd1_s, if10, a5, ei, if_pos i2, ix_nI (by omega), b5, eg]
        unfold jd_X2_readBows_53
        rw [s1, bd2_s, if_pos hv]
      · rw [show md_X9_takes FU c9b w 1 0 3 = some (1, c9c) from b3, bd2_s, if10, v0, v1, e12, if_pos i1, ix_nI (by omega)]
    · refine ⟨0, 0, cc, c5b, c9b, Or.inl rfl, Or.inl rfl, ?_, ?_, OUT_bad (TXT_F nx2.2.2 t5a) nx2.2.1 (R1_0 z1 r) (by rw [z1]; exact rw') kdb⟩
      · rw [b1, bd2_s, if00]
      · rw [show md_X9_takes FU c9b w 1 0 3 = some (0, c9b) from b2, bd2_s, if00]
  · refine ⟨0, 0, cc, c5a, c9a, Or.inl rfl, Or.inl rfl, ?_, ?_, OUT_bad (TXT_F nx.2.2 t5) nx.2.1 (R1_0 z0 r) (by rw [z0]; exact rw') kda⟩
    · rw [a1, bd2_s, if00]
    · rw [show md_X9_takes FU c9a w 0 0 1 = some (0, c9a) from a2, bd2_s, if00]
-- points
theorem it_point {b : Nat → Int32} {T e0 P : Nat} {c9o : Nat → Nat → Int32} {row0 : Nat → Int32} {cc c5 c9 : Nat → Nat → Int32} {w : Nat → Nat → Int64} (t9o : TXR c9o b T) (t5 : TXT c5 b T) (tk : TK T e0 c5 c9) (r : R1 P cc (c9 0)) (rw' : RW row0 (c9 0)) (kd : KD c9o c9) : ∃ v5 v9 cc' c5' c9', (v5 = 0 ∨ v5 = 1) ∧ (v9 = 0 ∨ v9 = 1) ∧ md_X2_readPoint FU cc c5 = some (v5, cc', c5') ∧ md_X9_takesPoint FU c9 w = some (v9, c9') ∧ OUT b T c9o row0 e0 cc' c5' c9' v5 v9 := by
  have hP := r.1
  unfold md_X2_readPoint md_X9_takesPoint md_X9_many
  rw [room5 r.2.2.2.2.1.1 hP, bd1_s, bd1_s, r.2.1]
  by_cases h6 : P < 6
  · have e6 : ¬ nI P = (6 : Int32) := fun z => by have := (nI_eq (b := 6) (by omega) (by omega)).mp z; omega
    rw [show b01 (P < 6) = 1 from if_pos h6, if10, if_neg e6]
    obtain ⟨e1, c5a, c9a, q1, -, q3, nx, f9⟩ := behind (w := w) t5 (KD_T kd t9o) tk
    have g9 := F9_G9 f9
    have kda := KD_G kd g9
    have z0 : c9a 0 = c9 0 := g9 0 (by omega) (by omega) (by omega) (by omega) (by omega)
    rw [q3, bd1_s]
    rcases num_step (w := w) (k := 0) 0 5 t5 (KD_T kda t9o) (by omega) nx with ⟨e2, c5b, c9b, a1, a2, a3, a4, a5, nx2, a6, a7⟩ | ⟨a1, a2⟩
    · have kdb := KD_G kda a6
      have t5a := TXT_F nx.2.2 t5
      have z1 : c9b 0 = c9 0 := (a6 0 (by omega) (by omega) (by omega) (by omega) (by omega)).trans z0
      rw [a2, bd2_s, if10, show md_X9_takes FU c9a w 0 0 5 = some (1, c9b) from a3, bd2_s, if10]
      rcases num_step (w := w) (k := 1) 1 9 t5a (KD_T kdb t9o) (by omega) nx2 with ⟨e3, c5c, c9c, b1, b2, b3, b4, b5, nx3, b6, b7⟩ | ⟨b1, b2⟩
      · have kdc := KD_G kdb b6
        have t5b := TXT_F nx2.2.2 t5a
        have z2 : c9c 0 = c9 0 := (b6 0 (by omega) (by omega) (by omega) (by omega) (by omega)).trans z1
        rw [b2, bd2_s, if10, show md_X9_takes FU c9b w 1 1 9 = some (1, c9c) from b3, bd2_s, if10]
        rcases num_step (w := w) (k := 2) 0 3 t5b (KD_T kdc t9o) (by omega) nx3 with ⟨e4, c5d, c9d, d1, d2, d3, d4, d5, nx4, d6, d7⟩ | ⟨d1, d2⟩
        · have kdd := KD_G kdc d6
          have t5c := TXT_F nx3.2.2 t5b
          have z3 : c9d 0 = c9 0 := (d6 0 (by omega) (by omega) (by omega) (by omega) (by omega)).trans z2
          have q2 : 0 ≤ c9b 25 0 ∧ c9b 25 0 ≤ 9 := ⟨by have := (btw b4).1; have e1 : (1 : Int32).toInt = 1 := rfl; rw [Int32.le_iff_toInt_le, Int32.toInt_zero]; omega, b4.2⟩
          obtain ⟨G, hG, eG⟩ := nI_b q2 (n := 9) (by decide)
          have hG1 : 1 ≤ G := by
            have := (btw b4).1
            have e1 : (1 : Int32).toInt = 1 := rfl
            rw [eG, nI_toInt (by omega)] at this
            omega
          obtain ⟨g, hg, eg⟩ := nI_b d4 (n := 3) (by decide)
          have v0 : c9d 27 0 = c9a 25 0 := by rw [d7, upd_n (by omega), b7, upd_n (by omega), a7, upd_s]
          have v1 : c9d 27 1 = nI G := by rw [d7, upd_n (by omega), b7, upd_s, eG]
          have v2 : c9d 27 2 = nI g := by rw [d7, upd_s, eg]
          have hr := R1_point (c9a 25 0) h6 hG1 (by omega) (by omega : g < 4) (R1_0 z3 r)
          have hrw : RW row0 (addA (c9d 0) P (c9a 25 0) (nI G) (nI g)) := RW_ext (fun x hx => by
            unfold addA
            rw [upd_n (by omega), upd_n (by omega), upd_n (by omega), upd_n (by omega), z3]) rw'
          obtain ⟨v, hv, s1, s2⟩ := semi (cc := addC cc P (c9a 25 0) (nI G) (nI g)) (c9 := rs c9d 0 (addA (c9d 0) P (c9a 25 0) (nI G) (nI g))) t5c (show NX T e4 c5c c5d (rs c9d 0 (addA (c9d 0) P (c9a 25 0) (nI G) (nI g))) from nx4) hr hrw (KD_0 kdd _)
          have hl := lay9 (c := fun _ => c9d 0) (P := P) (c9a 25 0) (nI G) (nI g) (show (fun _ => c9d 0) (0 : Nat) 0 = nI P by show c9d 0 0 = _; rw [z3]; exact r.2.1) h6
          refine ⟨v, 1, _, _, _, hv, Or.inr rfl, ?_, ?_, OUT_le (by omega) s2⟩
          · rw [d2, bd2_s, if10, a5, b5, d5, eG, eg, add5 _ _ _ r.2.2.2.2.1.1 h6, bd1_s, s1, bd2_s, if_pos hv]
          · rw [show md_X9_takes FU c9c w 2 0 3 = some (1, c9d) from d3, bd2_s, if10, v0, v1, v2, hl, bd1_s, rs_s]
        · refine ⟨0, 0, cc, c5c, c9c, Or.inl rfl, Or.inl rfl, ?_, ?_, OUT_bad (TXT_F nx3.2.2 t5b) nx3.2.1 (R1_0 z2 r) (by rw [z2]; exact rw') kdc⟩
          · rw [d1, bd2_s, if00]
          · rw [show md_X9_takes FU c9c w 2 0 3 = some (0, c9c) from d2, bd2_s, if00]
      · refine ⟨0, 0, cc, c5b, c9b, Or.inl rfl, Or.inl rfl, ?_, ?_, OUT_bad (TXT_F nx2.2.2 t5a) nx2.2.1 (R1_0 z1 r) (by rw [z1]; exact rw') kdb⟩
        · rw [b1, bd2_s, if00]
        · rw [show md_X9_takes FU c9b w 1 1 9 = some (0, c9b) from b2, bd2_s, if00]
    · refine ⟨0, 0, cc, c5a, c9a, Or.inl rfl, Or.inl rfl, ?_, ?_, OUT_bad (TXT_F nx.2.2 t5) nx.2.1 (R1_0 z0 r) (by rw [z0]; exact rw') kda⟩
      · rw [a1, bd2_s, if00]
      · rw [show md_X9_takes FU c9a w 0 0 5 = some (0, c9a) from a2, bd2_s, if00]
  · have h66 : P = 6 := by omega
    rw [show b01 (P < 6) = 0 from if_neg h6, if00, if_pos (show nI P = (6 : Int32) from by rw [h66]; rfl)]
    exact ⟨0, 0, cc, c5, c9, Or.inl rfl, Or.inl rfl, rfl, rfl, OUT_bad t5 tk r rw' kd⟩
-- sayings
theorem R1_say {P S p : Nat} {cc c9 : Nat → Nat → Int32} {w : Nat → Nat → Int64} (r : R1 P cc (c9 0)) (hS : S < 2 ^ P) (h0 : c9 0 5 = nI S) (hp : p < P) (hb : ¬ S.testBit p = true) : ∃ cc' a', md_X3_speak cc (nI p) = some cc' ∧ md_X9_goSays c9 w (nI p) = some (rs c9 0 a') ∧ R1 P cc' a' ∧ ∀ x, ¬ (5 ≤ x ∧ x < 18) → a' x = c9 0 x := by
  obtain ⟨hP, a0, ho, hx, hd, hf⟩ := r
  have h64 := pow_le6 hP
  obtain ⟨cc', s1, s2, s3⟩ := say5 hP ho hd hf hp
  have hb' : S.testBit p = false := by simpa using hb
  have ok := say_ok (f := fxd (c9 0)) hP ho hp hS h0 hb'
  have hpop := pop_le S (by omega)
  have h16 : c9 0 16 = nI (pop S) := by
    obtain ⟨S2, q1, q2, q3⟩ := ho.1
    have : S2 = S := (nI_eq (by omega) (by omega)).mp (q2.symm.trans h0)
    rw [← this]
    exact q3
  have hmb := mb9 (P := P) (k := p) (T := pop S) (c := c9) (f := fxd (c9 0)) (w := w) (s := c9 0 14) (e := c9 0 15) hP hx (fxd_RRf P _) hp (by omega)
  have hM : mx (fxd (c9 0)) (nI p) (c9 0 14) (c9 0 15) (nI (pop S)) = spM (fxd (c9 0)) (dyn (c9 0)) (nI p) := by
    rw [spM_mx, ← h16]
    rfl
  have hy : ∀ j, j < 13 → dyn (sayrow (c9 0) (spM (fxd (c9 0)) (dyn (c9 0)) (nI p)) (nI p)) j = spSay (fxd (c9 0)) (dyn (c9 0)) (nI p) j := by
    intro j hj
    have : j = 0 ∨ j = 1 ∨ j = 2 ∨ j = 3 ∨ j = 4 ∨ j = 5 ∨ j = 6 ∨ j = 7 ∨ j = 8 ∨ j = 9 ∨ j = 10 ∨ j = 11 ∨ j = 12 := by omega
    rcases this with rfl | rfl | rfl | rfl | rfl | rfl | rfl | rfl | rfl | rfl | rfl | rfl | rfl <;> simp [dyn, spSay, sayrow, upd]
  have lo : ∀ x, ¬ (5 ≤ x ∧ x < 18) → sayrow (c9 0) (spM (fxd (c9 0)) (dyn (c9 0)) (nI p)) (nI p) x = c9 0 x := fun x hx => sayrow_n _ _ _ hx
  refine ⟨cc', sayrow (c9 0) (spM (fxd (c9 0)) (dyn (c9 0)) (nI p)) (nI p), s1, ?_, ⟨hP, ?_, OKd_ext hP hy ok, FXd_ext (f := fxd (c9 0)) (fun j hj => lo (24 + j) (by omega)) hx, RCd_ext hP hy s2, fun j hj => ?_, ?_, ?_⟩, lo⟩
  · unfold md_X9_goSays
    rw [h16, hmb, bd1_s, hM, lt1_r]
    rfl
  · rw [lo 0 (by omega), a0]
  · exact ⟨(s3.1 j hj).1.trans (lo (18 + j) (by omega)).symm, (s3.1 j hj).2.trans (lo (24 + j) (by omega)).symm⟩
  · exact s3.2.1.trans (lo 30 (by omega)).symm
  · exact s3.2.2.trans (lo 31 (by omega)).symm
theorem it_say {b : Nat → Int32} {T e0 P : Nat} {c9o : Nat → Nat → Int32} {row0 : Nat → Int32} {cc c5 c9 : Nat → Nat → Int32} {w : Nat → Nat → Int64} (t9o : TXR c9o b T) (t5 : TXT c5 b T) (tk : TK T e0 c5 c9) (r : R1 P cc (c9 0)) (rw' : RW row0 (c9 0)) (kd : KD c9o c9) : ∃ v5 v9 cc' c5' c9', (v5 = 0 ∨ v5 = 1) ∧ (v9 = 0 ∨ v9 = 1) ∧ md_X2_readSaying FU cc c5 = some (v5, cc', c5') ∧ md_X9_takesSaying FU c9 w = some (v9, c9') ∧ OUT b T c9o row0 e0 cc' c5' c9' v5 v9 := by
  have hP := r.1
  have h64 := pow_le6 hP
  obtain ⟨S, hS, h0, h11⟩ := r.2.2.1.1
  have h5c : cc 5 0 = nI P := r.2.2.2.2.1.1
  have h6c : cc 6 0 = nI S := r.2.2.2.2.1.2.1.trans h0
  obtain ⟨e1, c5a, c9a, q1, -, q3, nx, f9⟩ := behind (w := w) t5 (KD_T kd t9o) tk
  have g9 := F9_G9 f9
  have kda := KD_G kd g9
  have t9a := KD_T kda t9o
  have z0 : c9a 0 = c9 0 := g9 0 (by omega) (by omega) (by omega) (by omega) (by omega)
  obtain ⟨n1, tka, n3⟩ := nx
  have t5a := TXT_F n3 t5
  have tk2 := tka
  obtain ⟨j, e, h1, h2, h3, k3, k5, k22, k23, k2, kv, kp⟩ := tk2
  have bad : OUT b T c9o row0 e0 cc c5a c9a 0 0 := OUT_bad t5a tka (R1_0 z0 r) (by rw [z0]; exact rw') kda
  unfold md_X2_readSaying md_X9_takesSaying md_X2_numberWithin
  rw [q3, bd1_s, n1, bd1_s, k2, h5c]
  by_cases ht : c9a 24 0 = 2
  · have hv := kv ht
    rw [if_pos ht, if_pos ht, wi8, bd1_s, hv, ipA (c9a 25 0) (by rw [z0]; exact r.2.1), bd1_s]
    rcases b01_c (0 ≤ c9a 25 0 ∧ c9a 25 0 ≤ nI P - 1) with ⟨hb, e⟩ | ⟨hb, e⟩
    · obtain ⟨p, hp, ep⟩ := pt_of hP hb
      rw [e, if10, bd2_s, if10, if10, hv, ep, h6c, has8 S (by omega) p (by omega), bd1_s, z0, show c9 0 5 = nI S from h0, has9 S (by omega) p (by omega), bd1_s]
      by_cases hs : S.testBit p = true
      · rw [if_pos hs, if_neg ne10, if_neg ne10]
        exact ⟨0, 0, _, _, _, Or.inl rfl, Or.inl rfl, rfl, rfl, bad⟩
      · obtain ⟨cc', a', s1, s2, s3, s4⟩ := R1_say (w := w) (R1_0 z0 r) hS (by rw [z0]; exact h0) hp hs
        have tks : TK T e1 c5a (rs c9a 0 a') := tka
        have t9s : TXR (rs c9a 0 a') b T := t9a
        obtain ⟨e2, c5b, c9b, w1, -, w3, nx2, f9b⟩ := behind (w := w) t5a t9s tks
        have gb := F9_G9 f9b
        have zb : c9b 0 = a' := (gb 0 (by omega) (by omega) (by omega) (by omega) (by omega)).trans (rs_s _ _ _)
        have kdb := KD_G (KD_0 kda a') gb
        obtain ⟨v, hv5, u1, u2⟩ := semi (b := b) (c9o := c9o) (row0 := row0) (cc := cc') (P := P) t5a nx2 (by rw [zb]; exact s3) (by rw [zb]; exact RW_ext (fun x hx => by rw [s4 x (by omega), z0]) rw') kdb
        rw [if_neg hs, if_pos rfl, if_pos rfl, s1, bd1_s, u1, bd2_s, if_pos hv5, s2, bd1_s, w3, bd1_s]
        exact ⟨v, 1, _, _, _, hv5, Or.inr rfl, rfl, rfl, OUT_le (by omega) u2⟩
    · rw [e, if00, bd2_s, if00, if00]
      exact ⟨0, 0, _, _, _, Or.inl rfl, Or.inl rfl, rfl, rfl, bad⟩
  · rw [if_neg ht, if_neg ht, bd2_s, if00]
    exact ⟨0, 0, _, _, _, Or.inl rfl, Or.inl rfl, rfl, rfl, bad⟩
-- objections
theorem R1_obj {P : Nat} {cc c9 : Nat → Nat → Int32} {w : Nat → Nat → Int64} (r : R1 P cc (c9 0)) (hy : spY (dyn (c9 0)) = 1) : ∃ cc' a', md_X3_bow cc = some cc' ∧ md_X9_goObjects c9 w = some (rs c9 0 a') ∧ R1 P cc' a' ∧ ∀ x, ¬ (5 ≤ x ∧ x < 18) → a' x = c9 0 x := by
  obtain ⟨hP, a0, ho, hx, hd, hf⟩ := r
  have h64 := pow_le6 hP
  obtain ⟨cc', s1, s2, s3⟩ := bow5 hP ho hd hf hy
  have ok := bow_ok hP ho hy
  obtain ⟨⟨S, hS, h0, h11⟩, -, -, -, -, -, h12, -⟩ := ho
  have hw := spW_eq hP hS h11
  obtain ⟨y1, -, -⟩ := spY1 hy
  rcases h12 with h12 | ⟨o, ho1, h12⟩
  · exact absurd h12 y1
  have hpop := pop_le S (by omega)
  have l16 : c9 0 16 = nI (pop S) := h11
  have l17 : c9 0 17 = nI o := h12
  have wl : pop S % 2 < 2 := by omega
  have e12 : (12 : Int32) + nI (pop S % 2) = nI (12 + pop S % 2) := nI_add 12 _
  have e6 : (6 : Int32) + nI o = nI (6 + o) := nI_add 6 o
  have hgo : md_X9_goObjects c9 w = some (rs c9 0 (bowrow (c9 0) (pop S % 2) o)) := by
    unfold md_X9_goObjects
    simp only [l16, par2 _ (show pop S < 7 by omega), e12, ix_nI (show 12 + pop S % 2 < 2 ^ 31 by omega), lt1_r]
    generalize pop S % 2 = wq at *
    rw [if_pos (inb_nI (by omega) (by omega)), if_pos (inb_nI (by omega) (by omega)), upd_n (k := 12 + wq) (j := 17) (by omega), l17, e6, ix_nI (by omega), if_pos (inb_nI (by omega) (by omega)), if_pos (inb_nI (by omega) (by omega))]
    rfl
  generalize hwq : pop S % 2 = wq at *
  have hy2 : ∀ j, j < 13 → dyn (bowrow (c9 0) wq o) j = spBow (dyn (c9 0)) j := by
    intro j hj
    have d12 : dyn (c9 0) 12 = nI o := h12
    have t1 : ix (nI wq) = wq := ix_nI (by omega)
    have t2 : ix (nI o) = o := ix_nI (by omega)
    by_cases j0 : j = 12
    · subst j0; simp [dyn, bowrow, spBow, upd]
    by_cases j1 : j = 9
    · subst j1
      have z3 : (14 : Nat) ≠ 6 + o := by omega
      have z4 : (14 : Nat) ≠ 12 + wq := by omega
      simp [dyn, bowrow, spBow, upd, z3, z4]
    have u1 : 5 + j ≠ 17 := by omega
    have u2 : 5 + j ≠ 14 := by omega
    show bowrow (c9 0) wq o (5 + j) = _
    unfold bowrow spBow
    rw [upd_n u1, upd_n u2, upd_n j0, upd_n j1, hw, t1, d12, t2]
    by_cases j2 : j = 1 + o
    · subst j2
      rw [show 5 + (1 + o) = 6 + o from by omega, upd_s, upd_s, upd_n (by omega)]
      show _ = c9 0 (5 + (1 + o)) - 1
      rw [show 5 + (1 + o) = 6 + o from by omega]
    · rw [upd_n (by omega), upd_n j2]
      by_cases j3 : j = 7 + wq
      · subst j3
        rw [show 5 + (7 + wq) = 12 + wq from by omega, upd_s, upd_s]
        show _ = c9 0 (5 + (7 + wq)) - 1
        rw [show 5 + (7 + wq) = 12 + wq from by omega]
      · rw [upd_n (by omega), upd_n j3]
        rfl
  have lo : ∀ x, ¬ (5 ≤ x ∧ x < 18) → bowrow (c9 0) wq o x = c9 0 x := fun x hx => by
    unfold bowrow
    rw [upd_n (by omega), upd_n (by omega), upd_n (by omega), upd_n (by omega)]
  refine ⟨cc', bowrow (c9 0) wq o, s1, hgo, ⟨hP, ?_, OKd_ext hP hy2 ok, FXd_ext (f := fxd (c9 0)) (fun j hj => lo (24 + j) (by omega)) hx, RCd_ext hP hy2 s2, fun j hj => ?_, ?_, ?_⟩, lo⟩
  · rw [lo 0 (by omega), a0]
  · exact ⟨(s3.1 j hj).1.trans (lo (18 + j) (by omega)).symm, (s3.1 j hj).2.trans (lo (24 + j) (by omega)).symm⟩
  · exact s3.2.1.trans (lo 30 (by omega)).symm
  · exact s3.2.2.trans (lo 31 (by omega)).symm
theorem it_obj {b : Nat → Int32} {T e0 P : Nat} {c9o : Nat → Nat → Int32} {row0 : Nat → Int32} {cc c5 c9 : Nat → Nat → Int32} {w : Nat → Nat → Int64} (t9o : TXR c9o b T) (t5 : TXT c5 b T) (tk : TK T e0 c5 c9) (r : R1 P cc (c9 0)) (rw' : RW row0 (c9 0)) (kd : KD c9o c9) : ∃ v5 v9 cc' c5' c9', (v5 = 0 ∨ v5 = 1) ∧ (v9 = 0 ∨ v9 = 1) ∧ md_X2_readObjecting FU cc c5 = some (v5, cc', c5') ∧ md_X9_takesObjecting FU c9 w = some (v9, c9') ∧ OUT b T c9o row0 e0 cc' c5' c9' v5 v9 := by
  have hP := r.1
  unfold md_X2_readObjecting md_X9_takesObjecting
  rw [may5 hP r.2.2.1 r.2.2.2.2.1, bd1_s, may9 hP r.2.2.1, bd1_s]
  rcases spY01 (dyn (c9 0)) with hy | hy
  · rw [hy, if00, if00]
    exact ⟨0, 0, cc, c5, c9, Or.inl rfl, Or.inl rfl, rfl, rfl, OUT_bad t5 tk r rw' kd⟩
  · obtain ⟨cc', a', s1, s2, s3, s4⟩ := R1_obj (w := w) r hy
    have tks : TK T e0 c5 (rs c9 0 a') := tk
    have t9s : TXR (rs c9 0 a') b T := KD_T (KD_0 kd a') t9o
    obtain ⟨e2, c5b, c9b, w1, -, w3, nx2, f9b⟩ := behind (w := w) t5 t9s tks
    have gb := F9_G9 f9b
    have zb : c9b 0 = a' := (gb 0 (by omega) (by omega) (by omega) (by omega) (by omega)).trans (rs_s _ _ _)
    have kdb := KD_G (KD_0 kd a') gb
    obtain ⟨v, hv5, u1, u2⟩ := semi (b := b) (c9o := c9o) (row0 := row0) (cc := cc') (P := P) t5 nx2 (by rw [zb]; exact s3) (by rw [zb]; exact RW_ext (fun x hx => by rw [s4 x (by omega)]) rw') kdb
    rw [hy, if10, if10, s1, bd1_s, u1, bd2_s, if_pos hv5, s2, bd1_s, w3, bd1_s]
    exact ⟨v, 1, _, _, _, hv5, Or.inr rfl, rfl, rfl, OUT_le (by omega) u2⟩
