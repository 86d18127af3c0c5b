-- short ways: decided ifs, the reference's bounds, what a changed row keeps
theorem ne10 : ¬ (1 : Int32) = 0 := by decide
theorem if10 {α : Type} (a b : α) : (if (1 : Int32) = 0 then a else b) = b := if_neg ne10
theorem if00 {α : Type} (a b : α) : (if (0 : Int32) = 0 then a else b) = a := if_pos rfl
theorem b01_c (p : Prop) [Decidable p] : (p ∧ b01 p = 1) ∨ (¬ p ∧ b01 p = 0) := by
  by_cases h : p
  · exact Or.inl ⟨h, if_pos h⟩
  · exact Or.inr ⟨h, if_neg h⟩
theorem in_01 (x : Int32) : md_X9_in x.toInt64 (0 : Int64) (1 : Int64) = some (b01 ((0 : Int32) ≤ x ∧ x ≤ (1 : Int32))) := by
  rw [show (0 : Int64) = (0 : Int32).toInt64 from by decide, show (1 : Int64) = (1 : Int32).toInt64 from by decide, in9]
theorem in_02 (x : Int32) : md_X9_in x.toInt64 (0 : Int64) (2 : Int64) = some (b01 ((0 : Int32) ≤ x ∧ x ≤ (2 : Int32))) := by
  rw [show (0 : Int64) = (0 : Int32).toInt64 from by decide, show (2 : Int64) = (2 : Int32).toInt64 from by decide, in9]
theorem in_03 (x : Int32) : md_X9_in x.toInt64 (0 : Int64) (3 : Int64) = some (b01 ((0 : Int32) ≤ x ∧ x ≤ (3 : Int32))) := by
  rw [show (0 : Int64) = (0 : Int32).toInt64 from by decide, show (3 : Int64) = (3 : Int32).toInt64 from by decide, in9]
theorem in_05 (x : Int32) : md_X9_in x.toInt64 (0 : Int64) (5 : Int64) = some (b01 ((0 : Int32) ≤ x ∧ x ≤ (5 : Int32))) := by
  rw [show (0 : Int64) = (0 : Int32).toInt64 from by decide, show (5 : Int64) = (5 : Int32).toInt64 from by decide, in9]
theorem in_07 (x : Int32) : md_X9_in x.toInt64 (0 : Int64) (7 : Int64) = some (b01 ((0 : Int32) ≤ x ∧ x ≤ (7 : Int32))) := by
  rw [show (0 : Int64) = (0 : Int32).toInt64 from by decide, show (7 : Int64) = (7 : Int32).toInt64 from by decide, in9]
theorem in_09 (x : Int32) : md_X9_in x.toInt64 (0 : Int64) (9 : Int64) = some (b01 ((0 : Int32) ≤ x ∧ x ≤ (9 : Int32))) := by
  rw [show (0 : Int64) = (0 : Int32).toInt64 from by decide, show (9 : Int64) = (9 : Int32).toInt64 from by decide, in9]
theorem in_010 (x : Int32) : md_X9_in x.toInt64 (0 : Int64) (10 : Int64) = some (b01 ((0 : Int32) ≤ x ∧ x ≤ (10 : Int32))) := by
  rw [show (0 : Int64) = (0 : Int32).toInt64 from by decide, show (10 : Int64) = (10 : Int32).toInt64 from by decide, in9]
theorem in_060 (x : Int32) : md_X9_in x.toInt64 (0 : Int64) (60 : Int64) = some (b01 ((0 : Int32) ≤ x ∧ x ≤ (60 : Int32))) := by
  rw [show (0 : Int64) = (0 : Int32).toInt64 from by decide, show (60 : Int64) = (60 : Int32).toInt64 from by decide, in9]
theorem in_040 (x : Int32) : md_X9_in x.toInt64 (0 : Int64) (40 : Int64) = some (b01 ((0 : Int32) ≤ x ∧ x ≤ (40 : Int32))) := by
  rw [show (0 : Int64) = (0 : Int32).toInt64 from by decide, show (40 : Int64) = (40 : Int32).toInt64 from by decide, in9]
theorem in_0127 (x : Int32) : md_X9_in x.toInt64 (0 : Int64) (127 : Int64) = some (b01 ((0 : Int32) ≤ x ∧ x ≤ (127 : Int32))) := by
  rw [show (0 : Int64) = (0 : Int32).toInt64 from by decide, show (127 : Int64) = (127 : Int32).toInt64 from by decide, in9]
theorem in_0M (x : Int32) : md_X9_in x.toInt64 (0 : Int64) (999999 : Int64) = some (b01 ((0 : Int32) ≤ x ∧ x ≤ (999999 : Int32))) := by
  rw [show (0 : Int64) = (0 : Int32).toInt64 from by decide, show (999999 : Int64) = (999999 : Int32).toInt64 from by decide, in9]
theorem in_19 (x : Int32) : md_X9_in x.toInt64 (1 : Int64) (9 : Int64) = some (b01 ((1 : Int32) ≤ x ∧ x ≤ (9 : Int32))) := by
  rw [show (1 : Int64) = (1 : Int32).toInt64 from by decide, show (9 : Int64) = (9 : Int32).toInt64 from by decide, in9]
theorem in_m99 (x : Int32) : md_X9_in x.toInt64 (-99 : Int64) (99 : Int64) = some (b01 ((-99 : Int32) ≤ x ∧ x ≤ (99 : Int32))) := by
  rw [show (-99 : Int64) = (-99 : Int32).toInt64 from by decide, show (99 : Int64) = (99 : Int32).toInt64 from by decide, in9]
theorem in_m50 (x : Int32) : md_X9_in x.toInt64 (-50 : Int64) (50 : Int64) = some (b01 ((-50 : Int32) ≤ x ∧ x ≤ (50 : Int32))) := by
  rw [show (-50 : Int64) = (-50 : Int32).toInt64 from by decide, show (50 : Int64) = (50 : Int32).toInt64 from by decide, in9]
theorem in_az (x : Int32) : md_X9_in x.toInt64 (97 : Int64) (122 : Int64) = some (b01 ((97 : Int32) ≤ x ∧ x ≤ (122 : Int32))) := by
  rw [show (97 : Int64) = (97 : Int32).toInt64 from by decide, show (122 : Int64) = (122 : Int32).toInt64 from by decide, in9]
theorem in_fig (x : Int32) : md_X9_in x.toInt64 (48 : Int64) (57 : Int64) = some (b01 ((48 : Int32) ≤ x ∧ x ≤ (57 : Int32))) := by
  rw [show (48 : Int64) = (48 : Int32).toInt64 from by decide, show (57 : Int64) = (57 : Int32).toInt64 from by decide, in9]
theorem btw {x : Int32} {lo hi : Int32} (h : lo ≤ x ∧ x ≤ hi) : lo.toInt ≤ x.toInt ∧ x.toInt ≤ hi.toInt := ⟨Int32.le_iff_toInt_le.mp h.1, Int32.le_iff_toInt_le.mp h.2⟩
theorem nI_b {x hi : Int32} {n : Nat} (h : 0 ≤ x ∧ x ≤ hi) (hn : hi.toInt = n) : ∃ k, k ≤ n ∧ x = nI k := by
  obtain ⟨k, hk, rfl⟩ := nI_of (x := x) (by rw [Int32.lt_iff_toInt_lt, Int32.toInt_zero]; have := h.1; rw [Int32.le_iff_toInt_le, Int32.toInt_zero] at this; omega)
  have := (btw h).2
  rw [nI_toInt hk, hn] at this
  exact ⟨k, by omega, rfl⟩
def R1 (P : Nat) (cc : Nat → Nat → Int32) (a : Nat → Int32) : Prop := P ≤ 6 ∧ a 0 = nI P ∧ OKd P (dyn a) ∧ FXd P (fxd a) ∧ RCd P cc (dyn a) ∧ RCf P cc (fxd a)
def R2 (P K : Nat) (c : Nat → Nat → Int32) (w : Nat → Nat → Int64) (a : Nat → Int32) : Prop := K ≤ 8 ∧ a 4 = nI K ∧ c 8 0 = nI K ∧ RPs P K a (w 7)
def R3 (E : Nat) (c : Nat → Nat → Int32) (a : Nat → Int32) : Prop := E ≤ 4 ∧ a 1 = nI E ∧ c 2 0 = nI E ∧ ∀ j, j < E → c 1 j = a (32 + j)
def R4 (N : Nat) (c : Nat → Nat → Int32) (a : Nat → Int32) : Prop := N ≤ 6 ∧ a 2 = nI N ∧ c 4 0 = nI N ∧ ∀ j, j < 5 * N → c 3 j = a (36 + j) ∧ NB 5 3 j (a (36 + j))
def R5 (M : Nat) (c : Nat → Nat → Int32) (a : Nat → Int32) : Prop := M ≤ 6 ∧ a 3 = nI M ∧ c 6 0 = nI M ∧ ∀ j, j < 4 * M → c 5 j = a (66 + j) ∧ NB 4 1 j (a (66 + j))
theorem RB_to {c cc : Nat → Nat → Int32} {w : Nat → Nat → Int64} {a : Nat → Int32} (h : RB c w cc a) : ∃ P K E N M, R1 P cc a ∧ R2 P K c w a ∧ R3 E c a ∧ R4 N c a ∧ R5 M c a := h
theorem RB_of {c cc : Nat → Nat → Int32} {w : Nat → Nat → Int64} {a : Nat → Int32} {P K E N M : Nat} (h1 : R1 P cc a) (h2 : R2 P K c w a) (h3 : R3 E c a) (h4 : R4 N c a) (h5 : R5 M c a) : RB c w cc a := ⟨P, K, E, N, M, h1, h2, h3, h4, h5⟩
theorem R1_ext {P : Nat} {cc : Nat → Nat → Int32} {a b : Nat → Int32} (h : ∀ x, x = 0 ∨ (5 ≤ x ∧ x < 32) → b x = a x) (r : R1 P cc a) : R1 P cc b := by
  obtain ⟨hP, a0, ho, hx, hd, hf⟩ := r
  have hy : ∀ j, j < 13 → dyn b j = dyn a j := fun j hj => h (5 + j) (Or.inr ⟨by omega, by omega⟩)
  refine ⟨hP, by rw [h 0 (Or.inl rfl), a0], OKd_ext hP hy ho, FXd_ext (f := fxd a) (fun j hj => h (24 + j) (Or.inr ⟨by omega, by omega⟩)) hx, RCd_ext hP hy hd, fun j hj => ?_, ?_, ?_⟩
  · exact ⟨(hf.1 j hj).1.trans (h (18 + j) (Or.inr ⟨by omega, by omega⟩)).symm, (hf.1 j hj).2.trans (h (24 + j) (Or.inr ⟨by omega, by omega⟩)).symm⟩
  · exact hf.2.1.trans (h 30 (Or.inr ⟨by omega, by omega⟩)).symm
  · exact hf.2.2.trans (h 31 (Or.inr ⟨by omega, by omega⟩)).symm
theorem R2_ext {P K : Nat} {c d : Nat → Nat → Int32} {w : Nat → Nat → Int64} {a b : Nat → Int32} (hP : P ≤ 6) (h : ∀ x, x = 4 ∨ 90 ≤ x → b x = a x) (hc : d 8 = c 8) (r : R2 P K c w a) : R2 P K d w b := by
  obtain ⟨hK, a4, c8, hp⟩ := r
  exact ⟨hK, by rw [h 4 (Or.inl rfl), a4], by rw [hc, c8], RPs_ext hP hK (fun x hx => h x (Or.inr hx)) hp⟩
theorem R2_0 {P : Nat} {c : Nat → Nat → Int32} {w : Nat → Nat → Int64} {a : Nat → Int32} (h4 : a 4 = nI 0) (hc : c 8 0 = nI 0) : R2 P 0 c w a := ⟨by omega, h4, hc, fun b hb => by omega⟩
theorem R3_ext {E : Nat} {c d : Nat → Nat → Int32} {a b : Nat → Int32} (h : ∀ x, x = 1 ∨ (32 ≤ x ∧ x < 36) → b x = a x) (h1 : d 1 = c 1) (h2 : d 2 = c 2) (r : R3 E c a) : R3 E d b := by
  obtain ⟨hE, a1, c2, he⟩ := r
  refine ⟨hE, by rw [h 1 (Or.inl rfl), a1], by rw [h2, c2], fun j hj => ?_⟩
  rw [h1, h (32 + j) (Or.inr ⟨by omega, by omega⟩), he j hj]
theorem R4_ext {N : Nat} {c d : Nat → Nat → Int32} {a b : Nat → Int32} (h : ∀ x, x = 2 ∨ (36 ≤ x ∧ x < 66) → b x = a x) (h1 : d 3 = c 3) (h2 : d 4 = c 4) (r : R4 N c a) : R4 N d b := by
  obtain ⟨hN, a2, c4, hn⟩ := r
  refine ⟨hN, by rw [h 2 (Or.inl rfl), a2], by rw [h2, c4], fun j hj => ?_⟩
  rw [h1, h (36 + j) (Or.inr ⟨by omega, by omega⟩)]
  exact hn j hj
theorem R5_ext {M : Nat} {c d : Nat → Nat → Int32} {a b : Nat → Int32} (h : ∀ x, x = 3 ∨ (66 ≤ x ∧ x < 90) → b x = a x) (h1 : d 5 = c 5) (h2 : d 6 = c 6) (r : R5 M c a) : R5 M d b := by
  obtain ⟨hM, a3, c6, hm⟩ := r
  refine ⟨hM, by rw [h 3 (Or.inl rfl), a3], by rw [h2, c6], fun j hj => ?_⟩
  rw [h1, h (66 + j) (Or.inr ⟨by omega, by omega⟩)]
  exact hm j hj
theorem R3_0 {c : Nat → Nat → Int32} {a : Nat → Int32} (h1 : a 1 = nI 0) (hc : c 2 0 = nI 0) : R3 0 c a := ⟨by omega, h1, hc, fun b hb => by omega⟩
theorem R4_0 {c : Nat → Nat → Int32} {a : Nat → Int32} (h1 : a 2 = nI 0) (hc : c 4 0 = nI 0) : R4 0 c a := ⟨by omega, h1, hc, fun b hb => by omega⟩
theorem R5_0 {c : Nat → Nat → Int32} {a : Nat → Int32} (h1 : a 3 = nI 0) (hc : c 6 0 = nI 0) : R5 0 c a := ⟨by omega, h1, hc, fun b hb => by omega⟩
def KE (c d : Nat → Nat → Int32) : Prop := ∀ k, (k = 1 ∨ k = 2 ∨ k = 3 ∨ k = 20 ∨ k = 21) → d k = c k
/-- what a call may change besides the brief and scratch rows: nothing, or one refusal more -/
def ST (c0 c9 c0' c9' : Nat → Nat → Int32) : Prop := (c0' = c0 ∧ KE c9 c9') ∨ (∃ i, i < 3 ∧ c0' = rs c0 5 (upd (c0 5) i (c0 5 i + 1)) ∧ c9' = rs c9 3 (upd (c9 3) i (c9 3 i + 1)))
theorem ST_SR {c0 c9 c0' c9' : Nat → Nat → Int32} (h : SR c0 c9 c0' c9') : ST c0 c9 c0' c9' := by
  rcases h with ⟨h1, h2⟩ | h
  · exact Or.inl ⟨h1, fun k hk => h2 k (by omega)⟩
  · exact Or.inr h
-- the reference's first row
def zr (a : Nat → Int32) (n : Nat) : Nat → Int32 := fun x => if x < n then 0 else a x
def bg9 (a : Nat → Int32) (p q : Int32) : Nat → Int32 := upd (upd (upd (upd (upd (zr a 90) 30 p) 31 q) 12 (1 : Int32)) 13 (1 : Int32)) 17 (-1 : Int32)
theorem zr_s (a : Nat → Int32) (i : Nat) : upd (zr a i) i 0 = zr a (i + 1) := by
  funext x
  by_cases h : x = i
  · subst h
    rw [upd_s]
    unfold zr
    rw [if_pos (by omega)]
  · rw [upd_n h]
    unfold zr
    by_cases h2 : x < i
    · rw [if_pos h2, if_pos (by omega)]
    · rw [if_neg h2, if_neg (by omega)]
theorem begin2 {F n : Nat} {c : Nat → Nat → Int32} {a : Nat → Int32} (p q : Int32) : ∀ m i, i + m = 90 → ld_X9_begin_2 F (n + 1 + m) (rs c 0 (zr a i)) p q (nI i) = some (rs c 0 (bg9 a p q))
  | 0, i, h => by
    have : i = 90 := by omega
    subst this
    have e : (90 : Int32) ≤ nI 90 := by decide
    rw [Nat.add_zero, ld_X9_begin_2, if_pos e, rs_s, rs_rs]
    rfl
  | m + 1, i, h => by
    have e : ¬ (90 : Int32) ≤ nI i := nI_ge (a := i) (b := 90) (by omega) (by omega)
    show ld_X9_begin_2 F (n + 1 + m + 1) _ _ _ _ = _
    rw [ld_X9_begin_2, if_neg e, if_pos (inb_nI (by omega) (by omega)), rs_s, rs_rs, ix_nI (by omega), zr_s, nI_1]
    exact begin2 p q m (i + 1) (by omega)
theorem begin9 (c : Nat → Nat → Int32) (p q : Int32) : md_X9_begin FU c p q = some (rs c 0 (bg9 (c 0) p q)) := by
  obtain ⟨N, hN⟩ : ∃ N, FU = N + 1 + 90 := ⟨1999909, by decide⟩
  have h := begin2 (F := FU) (n := N) (c := c) (a := c 0) p q 90 0 (by omega)
  have z : zr (c 0) 0 = c 0 := by
    funext x
    unfold zr
    rw [if_neg (by omega)]
  rw [z, rs_id, ← hN] at h
  exact h
theorem bg9_hi (a : Nat → Int32) (p q : Int32) {x : Nat} (h : 90 ≤ x) : bg9 a p q x = a x := by
  unfold bg9
  rw [upd_n (by omega), upd_n (by omega), upd_n (by omega), upd_n (by omega), upd_n (by omega)]
  unfold zr
  rw [if_neg (by omega)]
def bgC (c : Nat → Nat → Int32) (p q : Int32) : Nat → Nat → Int32 := rs (rs (rs (rs (rs (rs (rs c 0 (upd (upd (c 0) 0 p) 1 q)) 1 (upd (upd (c 1) 0 (1 : Int32)) 1 (1 : Int32))) 5 (fun _ => (0 : Int32))) 6 (fun _ => (0 : Int32))) 7 (fun _ => (0 : Int32))) 8 (fun _ => (0 : Int32))) 9 (fun _ => (-1 : Int32))
def bgB (c : Nat → Nat → Int32) : Nat → Nat → Int32 := rs (rs (rs (rs c 2 (fun _ => (0 : Int32))) 4 (fun _ => (0 : Int32))) 6 (fun _ => (0 : Int32))) 8 (fun _ => (0 : Int32))
theorem begin5 (c : Nat → Nat → Int32) (p q : Int32) : md_X3_begin c p q = some (bgC c p q) := rfl
theorem begin1 (c cc : Nat → Nat → Int32) (w : Nat → Nat → Int64) (p q : Int32) : md_X1_begin c w cc p q = some (bgB c, bgC cc p q) := rfl
/-- a court whose grounds can be packed -/
def GC (cc : Nat → Nat → Int32) : Prop := ∀ j, j < 6 → ∃ g, g < 4 ∧ cc 4 j = nI g
theorem begin_R1 {cc : Nat → Nat → Int32} (a : Nat → Int32) (p q : Int32) (h : GC cc) : R1 0 (bgC cc p q) (bg9 a p q) := by
  refine ⟨by omega, ?_, ⟨⟨0, by decide, ?_, ?_⟩, fun j hj => by omega, ⟨1, by omega, ?_⟩, ⟨1, by omega, ?_⟩, Or.inl ?_, ?_, Or.inl ?_, fun T o hT ho t0 t12 => by omega⟩, fun j hj => by omega, ⟨?_, ?_, fun j hj => by omega, ?_, ?_, ?_, ?_, ?_, ?_⟩, fun j hj => by omega, ?_, ?_⟩
  · simp [bg9, upd, zr]; rfl
  · simp [dyn, bg9, upd, zr]; rfl
  · simp [dyn, bg9, upd, zr]; rfl
  · simp [dyn, bg9, upd, zr]; rfl
  · simp [dyn, bg9, upd, zr]; rfl
  · simp [dyn, bg9, upd, zr]
  · simp [dyn, bg9, upd, zr]
  · simp [dyn, bg9, upd, zr]
  · simp [bgC, rs]; rfl
  · simp [bgC, rs, dyn, bg9, upd, zr]
  · simp [bgC, rs, dyn, bg9, upd, zr]
  · simp [bgC, rs, dyn, bg9, upd, zr]
  · simp [bgC, rs, dyn, bg9, upd, zr]
  · simp [bgC, rs, dyn, bg9, upd, zr]
  · simp [bgC, rs, dyn, bg9, upd, zr]
  · intro j hj
    obtain ⟨g, g1, g2⟩ := h j hj
    exact ⟨g, g1, by simpa [bgC, rs] using g2⟩
  · simp [bgC, rs, fxd, bg9, upd]
  · simp [bgC, rs, fxd, bg9, upd]
theorem begin_RB {c cc : Nat → Nat → Int32} {w : Nat → Nat → Int64} (a : Nat → Int32) (p q : Int32) (h : GC cc) : RB (bgB c) w (bgC cc p q) (bg9 a p q) := by
  refine RB_of (begin_R1 a p q h) (R2_0 ?_ ?_) (R3_0 ?_ ?_) (R4_0 ?_ ?_) (R5_0 ?_ ?_)
  · simp [bg9, upd, zr]; rfl
  · simp [bgB, rs]; rfl
  · simp [bg9, upd, zr]; rfl
  · simp [bgB, rs]; rfl
  · simp [bg9, upd, zr]; rfl
  · simp [bgB, rs]; rfl
  · simp [bg9, upd, zr]; rfl
  · simp [bgB, rs]; rfl
theorem RB_GC {c cc : Nat → Nat → Int32} {w : Nat → Nat → Int64} {a : Nat → Int32} (h : RB c w cc a) : GC cc := by
  obtain ⟨P, K, E, N, M, ⟨hP, a0, ho, hx, hd, hf⟩, -⟩ := h
  exact hd.2.2.2.2.2.2.2.2
theorem call_suit {c0 c1 c2 c9 : Nat → Nat → Int32} {w0 w1 w9 : Nat → Nat → Int64} (p q : Int32) (h : RB c1 w1 c2 (c9 0)) : ∃ r c0' c1' c2' c9', md_X8_suit c0 w0 c1 w1 c2 p q = some (r, c0', c1', c2') ∧ md_X9_suit FU c9 w9 p q = some (r, c9') ∧ RB c1' w1 c2' (c9' 0) ∧ SR c0 c9 c0' c9' := by
  obtain ⟨P, S, hP, hS, a0, ho, hx, hd, hf, h5, h6, h16⟩ := RB_get h
  unfold md_X8_suit md_X9_suit
  rw [kd8, kd9, bd1_s, bd1_s]
  rcases b01_c (0 ≤ p ∧ p ≤ 5) with ⟨hb, e⟩ | ⟨hb, e⟩
  · rw [e, if10, if10, kd8, kd9, bd1_s, bd1_s]
    rcases b01_c (0 ≤ q ∧ q ≤ 5) with ⟨hb2, e2⟩ | ⟨hb2, e2⟩
    · rw [e2, if10, if10, begin1, bd2_s, begin9]
      unfold md_X9_many
      rw [bd1_s, bd1_s, hd.1, a0, rs_s]
      refine ⟨_, _, _, _, _, rfl, rfl, ?_, Or.inl ⟨rfl, fun k hk => rs_n _ _ hk⟩⟩
      rw [rs_s]
      exact begin_RB _ _ _ (RB_GC h)
    · rw [e2, if00, if00]
      exact ⟨_, _, _, _, _, rfl, rfl, h, Or.inr ⟨0, by omega, rfl, rfl⟩⟩
  · rw [e, if00, if00]
    exact ⟨_, _, _, _, _, rfl, rfl, h, Or.inr ⟨0, by omega, rfl, rfl⟩⟩
