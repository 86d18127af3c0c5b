-- the plain calls: of, about, ends, note, mark, forget, status, part, type, clear
theorem bit9 : ∀ S, S < 64 → ∀ p, p < 6 → ((nI S >>> (nI p &&& 31)) &&& (1 : Int32)) = (if S.testBit p then 1 else 0) := by decide +kernel
theorem two (p : Int32) (h : 0 ≤ p ∧ p ≤ 1) : p = 0 ∨ p = 1 := by
  obtain ⟨k, hk, rfl⟩ := nI_b h (n := 1) (by decide)
  have : k = 0 ∨ k = 1 := by omega
  rcases this with rfl | rfl
  · exact Or.inl rfl
  · exact Or.inr rfl
theorem three (p : Int32) (h : 0 ≤ p ∧ p ≤ 2) : p = 0 ∨ p = 1 ∨ p = 2 := by
  obtain ⟨k, hk, rfl⟩ := nI_b h (n := 2) (by decide)
  have : k = 0 ∨ k = 1 ∨ k = 2 := by omega
  rcases this with rfl | rfl | rfl
  · exact Or.inl rfl
  · exact Or.inr (Or.inl rfl)
  · exact Or.inr (Or.inr rfl)
theorem four (p : Int32) (h : 0 ≤ p ∧ p ≤ 3) : p = 0 ∨ p = 1 ∨ p = 2 ∨ p = 3 := by
  obtain ⟨k, hk, rfl⟩ := nI_b h (n := 3) (by decide)
  have : k = 0 ∨ k = 1 ∨ k = 2 ∨ k = 3 := by omega
  rcases this with rfl | rfl | rfl | rfl
  · exact Or.inl rfl
  · exact Or.inr (Or.inl rfl)
  · exact Or.inr (Or.inr (Or.inl rfl))
  · exact Or.inr (Or.inr (Or.inr rfl))
theorem call_of {c0 c1 c2 c9 : Nat → Nat → Int32} {w0 w1 w9 : Nat → Nat → Int64} (p q : Int32) (h : RB c1 w1 c2 (c9 0)) : ∃ r c0' c9', md_X8_of c0 w0 c1 w1 c2 p q = some (r, c0') ∧ md_X9_of c9 w9 p q = some (r, c9') ∧ c9' 0 = c9 0 ∧ SR c0 c9 c0' c9' := by
  obtain ⟨P, S, hP, hS, a0, ho, hx, hd, hf, h5, h6, h16⟩ := RB_get h
  have h64 := pow_le6 hP
  unfold md_X8_of md_X9_of
  rw [hpA p hP hd.1, ipA p a0, bd1_s, bd1_s]
  rcases b01_c (0 ≤ p ∧ p ≤ nI P - 1) with ⟨hb, e⟩ | ⟨hb, e⟩
  · obtain ⟨k, hk, rfl⟩ := pt_of hP hb
    have i6 : inb (nI k) 6 := inb_nI (by omega) (by omega)
    rw [e, if10, if10, in_03, bd1_s]
    rcases b01_c (0 ≤ q ∧ q ≤ 3) with ⟨hb2, e2⟩ | ⟨hb2, e2⟩
    · rw [e2, if10]
      rcases four q hb2 with rfl | rfl | rfl | rfl
      · have e18 : (18 : Int32) + nI k = nI (18 + k) := nI_add 18 k
        have i1 : inb (nI (18 + k)) 194 := inb_nI (by omega) (by omega)
        refine ⟨c9 0 (18 + k), c0, c9, ?_, ?_, rfl, Or.inl ⟨rfl, fun _ _ => rfl⟩⟩
        · rw [if_pos (show (0 : Int32) = 0 from rfl), if_pos i6, ix_nI (by omega), (hf.1 k hk).1]
          rfl
        · rw [if_neg (show ¬ (0 : Int32) = 3 by decide), if_pos (show (0 : Int32) = 0 from rfl), lt1_r, e18, if_pos i1, ix_nI (by omega)]
      · have e18 : (24 : Int32) + nI k = nI (24 + k) := nI_add 24 k
        have i1 : inb (nI (24 + k)) 194 := inb_nI (by omega) (by omega)
        refine ⟨c9 0 (24 + k), c0, c9, ?_, ?_, rfl, Or.inl ⟨rfl, fun _ _ => rfl⟩⟩
        · rw [if_neg (show ¬ (1 : Int32) = 0 by decide), if_pos (show (1 : Int32) = 1 from rfl), if_pos i6, ix_nI (by omega), (hf.1 k hk).2]
          rfl
        · rw [if_neg (show ¬ (1 : Int32) = 3 by decide), if_neg (show ¬ (1 : Int32) = 0 by decide), if_pos (show (1 : Int32) = 1 from rfl), lt1_r, e18, if_pos i1, ix_nI (by omega)]
      · have e18 : (6 : Int32) + nI k = nI (6 + k) := nI_add 6 k
        have i1 : inb (nI (6 + k)) 194 := inb_nI (by omega) (by omega)
        refine ⟨c9 0 (6 + k), c0, c9, ?_, ?_, rfl, Or.inl ⟨rfl, fun _ _ => rfl⟩⟩
        · rw [if_neg (show ¬ (2 : Int32) = 0 by decide), if_neg (show ¬ (2 : Int32) = 1 by decide), if_pos (show (2 : Int32) = 2 from rfl), if_pos i6, ix_nI (by omega), hd.2.2.1 k hk]
          show some (c9 0 (5 + (1 + k)), c0) = _
          rw [show 5 + (1 + k) = 6 + k from by omega]
        · rw [if_neg (show ¬ (2 : Int32) = 3 by decide), if_neg (show ¬ (2 : Int32) = 0 by decide), if_neg (show ¬ (2 : Int32) = 1 by decide), lt1_r, e18, if_pos i1, ix_nI (by omega)]
      · refine ⟨if S.testBit k then 1 else 0, c0, c9, ?_, ?_, rfl, Or.inl ⟨rfl, fun _ _ => rfl⟩⟩
        · rw [if_neg (show ¬ (3 : Int32) = 0 by decide), if_neg (show ¬ (3 : Int32) = 1 by decide), if_neg (show ¬ (3 : Int32) = 2 by decide), if_pos (show (3 : Int32) = 3 from rfl), h6, has8 S (by omega) k (by omega), bd1_s, lt1_r]
          by_cases hb : S.testBit k = true
          · rw [if_pos hb, if_neg ne10]
          · rw [if_neg hb, if_pos rfl]
        · rw [if_pos (show (3 : Int32) = 3 from rfl), h5, bit9 S (by omega) k (by omega)]
    · have n : ∀ z : Int32, (0 ≤ z ∧ z ≤ 3) → ¬ q = z := fun z hz e => hb2 (e ▸ hz)
      rw [e2, if00, if_neg (n 0 (by decide)), if_neg (n 1 (by decide)), if_neg (n 2 (by decide)), if_neg (n 3 (by decide))]
      exact ⟨_, _, _, rfl, rfl, rs_n _ _ (by decide), Or.inr ⟨0, by omega, rfl, rfl⟩⟩
  · rw [e, if00, if00]
    exact ⟨_, _, _, rfl, rfl, rs_n _ _ (by decide), Or.inr ⟨0, by omega, rfl, rfl⟩⟩
theorem call_about {c0 c1 c2 c9 : Nat → Nat → Int32} {w0 w1 w9 : Nat → Nat → Int64} (p q : Int32) (h : RB c1 w1 c2 (c9 0)) : ∃ r c0' c9', md_X8_about c0 w0 c1 w1 c2 p q = some (r, c0') ∧ md_X9_about c9 w9 p q = some (r, c9') ∧ c9' 0 = c9 0 ∧ SR c0 c9 c0' c9' := by
  obtain ⟨P, S, hP, hS, a0, ho, hx, hd, hf, h5, h6, h16⟩ := RB_get h
  unfold md_X8_about md_X9_about
  rw [cn8, cn9, bd1_s, bd1_s]
  rcases b01_c (0 ≤ p ∧ p ≤ 1) with ⟨hb, e⟩ | ⟨hb, e⟩
  · obtain ⟨k, hk, rfl⟩ := nI_b hb (n := 1) (by decide)
    have i6 : inb (nI k) 2 := inb_nI (by omega) (by omega)
    rw [e, if10, if10, in_02, bd1_s]
    rcases b01_c (0 ≤ q ∧ q ≤ 2) with ⟨hb2, e2⟩ | ⟨hb2, e2⟩
    · rw [e2, if10]
      have hk2 : k = 0 ∨ k = 1 := by omega
      rcases three q hb2 with rfl | rfl | rfl
      · have e18 : (30 : Int32) + nI k = nI (30 + k) := nI_add 30 k
        have i1 : inb (nI (30 + k)) 194 := inb_nI (by omega) (by omega)
        refine ⟨c9 0 (30 + k), c0, c9, ?_, ?_, rfl, Or.inl ⟨rfl, fun _ _ => rfl⟩⟩
        · rw [if_pos (show (0 : Int32) = 0 from rfl), if_pos i6, ix_nI (by omega)]
          rcases hk2 with rfl | rfl
          · rw [hf.2.1]; rfl
          · rw [hf.2.2]; rfl
        · rw [if_pos (show (0 : Int32) = 0 from rfl), e18, if_pos i1, ix_nI (by omega)]
      · have e18 : (12 : Int32) + nI k = nI (12 + k) := nI_add 12 k
        have i1 : inb (nI (12 + k)) 194 := inb_nI (by omega) (by omega)
        refine ⟨c9 0 (12 + k), c0, c9, ?_, ?_, rfl, Or.inl ⟨rfl, fun _ _ => rfl⟩⟩
        · rw [if_neg (show ¬ (1 : Int32) = 0 by decide), if_pos (show (1 : Int32) = 1 from rfl), if_pos i6, ix_nI (by omega), ccb hd k (by omega)]
          show some (c9 0 (5 + (7 + k)), c0) = _
          rw [show 5 + (7 + k) = 12 + k from by omega]
        · rw [if_neg (show ¬ (1 : Int32) = 0 by decide), if_pos (show (1 : Int32) = 1 from rfl), e18, if_pos i1, ix_nI (by omega)]
      · refine ⟨if c9 0 14 = nI k then 0 else 1, c0, c9, ?_, ?_, rfl, Or.inl ⟨rfl, fun _ _ => rfl⟩⟩
        · rw [if_neg (show ¬ (2 : Int32) = 0 by decide), if_neg (show ¬ (2 : Int32) = 1 by decide), if_pos (show (2 : Int32) = 2 from rfl), chr5, bd1_s, hd.2.2.2.2.2.1]
          rfl
        · rw [if_neg (show ¬ (2 : Int32) = 0 by decide), if_neg (show ¬ (2 : Int32) = 1 by decide)]
          unfold md_X9_chairOf
          rw [lt1_r, bd1_s]
    · have n : ∀ z : Int32, (0 ≤ z ∧ z ≤ 2) → ¬ q = z := fun z hz e => hb2 (e ▸ hz)
      rw [e2, if00, if_neg (n 0 (by decide)), if_neg (n 1 (by decide)), if_neg (n 2 (by decide))]
      exact ⟨_, _, _, rfl, rfl, rs_n _ _ (by decide), Or.inr ⟨0, by omega, rfl, rfl⟩⟩
  · rw [e, if00, if00]
    exact ⟨_, _, _, rfl, rfl, rs_n _ _ (by decide), Or.inr ⟨0, by omega, rfl, rfl⟩⟩
theorem call_ends {c0 c1 c2 c9 : Nat → Nat → Int32} {w0 w1 w9 : Nat → Nat → Int64} (p : Int32) (h : RB c1 w1 c2 (c9 0)) : ∃ r c0' c1' c9', md_X8_ends c0 w0 c1 w1 p = some (r, c0', c1') ∧ md_X9_ends c9 w9 p = some (r, c9') ∧ RB c1' w1 c2 (c9' 0) ∧ SR c0 c9 c0' c9' := by
  obtain ⟨P, K, E, N, M, r1, r2, r3, r4, r5⟩ := RB_to h
  obtain ⟨hE, a1, e2, he⟩ := r3
  unfold md_X8_ends md_X9_ends
  rw [wi8, in_m99, bd1_s, bd1_s]
  rcases b01_c ((-99 : Int32) ≤ p ∧ p ≤ 99) with ⟨hb, e⟩ | ⟨hb, e⟩
  · rw [e, if10, if10, e2, a1]
    by_cases h4 : E = 4
    · subst h4
      rw [if_neg (show ¬ nI 4 < 4 by decide), if_pos (show nI 4 = 4 from rfl)]
      exact ⟨_, _, _, _, rfl, rfl, h, Or.inr ⟨2, by omega, rfl, rfl⟩⟩
    · have h32 : (32 : Int32) + nI E = nI (32 + E) := nI_add 32 E
      have l4 : nI E < (4 : Int32) := nI_lt (b := 4) (by omega) (by omega)
      have i4 : inb (nI E) 4 := inb_nI (by omega) (by omega)
      have n4 : ¬ nI E = (4 : Int32) := fun z => h4 ((nI_eq (b := 4) (by omega) (by omega)).mp z)
      have i32 : inb (nI (32 + E)) 194 := inb_nI (by omega) (by omega)
      rw [if_pos l4, if_pos i4, if_neg n4, h32, if_pos i32, ix_nI (by omega), ix_nI (by omega), lt1_r, show upd (c9 0) (32 + E) p 1 = nI E from by rw [upd_n (by omega), a1], nI_1, upd_s]
      have lo : ∀ x, ¬ x = 1 → ¬ x = 32 + E → upd (upd (c9 0) (32 + E) p) 1 (nI (E + 1)) x = c9 0 x := fun x x1 x2 => by rw [upd_n x1, upd_n x2]
      refine ⟨_, _, _, _, rfl, rfl, ?_, Or.inl ⟨rfl, fun k hk => rs_n _ _ hk⟩⟩
      rw [rs_s]
      refine RB_of (R1_ext (fun x hx => lo x (by omega) (by omega)) r1) (R2_ext r1.1 (fun x hx => lo x (by omega) (by omega)) (by rw [rs_n _ _ (by omega), rs_n _ _ (by omega)]) r2) (E := E + 1) ⟨by omega, upd_s, by rw [rs_s], fun j hj => ?_⟩ (R4_ext (fun x hx => lo x (by omega) (by omega)) (by rw [rs_n _ _ (by omega), rs_n _ _ (by omega)]) (by rw [rs_n _ _ (by omega), rs_n _ _ (by omega)]) r4) (R5_ext (fun x hx => lo x (by omega) (by omega)) (by rw [rs_n _ _ (by omega), rs_n _ _ (by omega)]) (by rw [rs_n _ _ (by omega), rs_n _ _ (by omega)]) r5)
      rw [rs_n _ _ (by omega), rs_s, upd_n (k := 1) (by omega)]
      by_cases hj2 : j = E
      · subst hj2
        rw [upd_s, upd_s]
      · rw [upd_n hj2, upd_n (by omega), he j (by omega)]
  · rw [e, if00, if00]
    exact ⟨_, _, _, _, rfl, rfl, h, Or.inr ⟨0, by omega, rfl, rfl⟩⟩
def nt5 (f : Nat → Int32) (b : Nat) (p g e t x : Int32) : Nat → Int32 := upd (upd (upd (upd (upd f b p) (b + 1) g) (b + 2) e) (b + 3) t) (b + 4) x
theorem nt5_n (f : Nat → Int32) (b : Nat) (p g e t x : Int32) {y : Nat} (h : ¬ (b ≤ y ∧ y < b + 5)) : nt5 f b p g e t x y = f y := by
  unfold nt5
  rw [upd_n (by omega), upd_n (by omega), upd_n (by omega), upd_n (by omega), upd_n (by omega)]
theorem nt5_0 (f : Nat → Int32) (b : Nat) (p g e t x : Int32) : nt5 f b p g e t x b = p := by
  unfold nt5
  rw [upd_n (by omega), upd_n (by omega), upd_n (by omega), upd_n (by omega), upd_s]
theorem nt5_1 (f : Nat → Int32) (b : Nat) (p g e t x : Int32) : nt5 f b p g e t x (b + 1) = g := by
  unfold nt5
  rw [upd_n (by omega), upd_n (by omega), upd_n (by omega), upd_s]
theorem nt5_2 (f : Nat → Int32) (b : Nat) (p g e t x : Int32) : nt5 f b p g e t x (b + 2) = e := by
  unfold nt5
  rw [upd_n (by omega), upd_n (by omega), upd_s]
theorem nt5_3 (f : Nat → Int32) (b : Nat) (p g e t x : Int32) : nt5 f b p g e t x (b + 3) = t := by
  unfold nt5
  rw [upd_n (by omega), upd_s]
theorem nt5_4 (f : Nat → Int32) (b : Nat) (p g e t x : Int32) : nt5 f b p g e t x (b + 4) = x := by
  unfold nt5
  rw [upd_s]
theorem nt5_eq {f a : Nat → Int32} {p g e t x : Int32} {B j : Nat} (h : j < B → f j = a (36 + j)) (hj : j < B + 5) : nt5 f B p g e t x j = nt5 a (36 + B) p g e t x (36 + j) := by
  have : j < B ∨ j = B ∨ j = B + 1 ∨ j = B + 2 ∨ j = B + 3 ∨ j = B + 4 := by omega
  rcases this with h1 | rfl | rfl | rfl | rfl | rfl
  · rw [nt5_n _ _ _ _ _ _ _ (by omega), nt5_n _ _ _ _ _ _ _ (by omega), h h1]
  · rw [nt5_0, nt5_0]
  · rw [show 36 + (B + 1) = 36 + B + 1 from by omega, nt5_1, nt5_1]
  · rw [show 36 + (B + 2) = 36 + B + 2 from by omega, nt5_2, nt5_2]
  · rw [show 36 + (B + 3) = 36 + B + 3 from by omega, nt5_3, nt5_3]
  · rw [show 36 + (B + 4) = 36 + B + 4 from by omega, nt5_4, nt5_4]
def mk4 (f : Nat → Int32) (b : Nat) (p g e t : Int32) : Nat → Int32 := upd (upd (upd (upd f b p) (b + 1) g) (b + 2) e) (b + 3) t
theorem mk4_n (f : Nat → Int32) (b : Nat) (p g e t : Int32) {y : Nat} (h : ¬ (b ≤ y ∧ y < b + 4)) : mk4 f b p g e t y = f y := by
  unfold mk4
  rw [upd_n (by omega), upd_n (by omega), upd_n (by omega), upd_n (by omega)]
theorem mk4_0 (f : Nat → Int32) (b : Nat) (p g e t : Int32) : mk4 f b p g e t b = p := by
  unfold mk4
  rw [upd_n (by omega), upd_n (by omega), upd_n (by omega), upd_s]
theorem mk4_1 (f : Nat → Int32) (b : Nat) (p g e t : Int32) : mk4 f b p g e t (b + 1) = g := by
  unfold mk4
  rw [upd_n (by omega), upd_n (by omega), upd_s]
theorem mk4_2 (f : Nat → Int32) (b : Nat) (p g e t : Int32) : mk4 f b p g e t (b + 2) = e := by
  unfold mk4
  rw [upd_n (by omega), upd_s]
theorem mk4_3 (f : Nat → Int32) (b : Nat) (p g e t : Int32) : mk4 f b p g e t (b + 3) = t := by
  unfold mk4
  rw [upd_s]
theorem mk4_eq {f a : Nat → Int32} {p g e t : Int32} {B j : Nat} (h : j < B → f j = a (66 + j)) (hj : j < B + 4) : mk4 f B p g e t j = mk4 a (66 + B) p g e t (66 + j) := by
  have : j < B ∨ j = B ∨ j = B + 1 ∨ j = B + 2 ∨ j = B + 3 := by omega
  rcases this with h1 | rfl | rfl | rfl | rfl
  · rw [mk4_n _ _ _ _ _ _ (by omega), mk4_n _ _ _ _ _ _ (by omega), h h1]
  · rw [mk4_0, mk4_0]
  · rw [show 66 + (B + 1) = 66 + B + 1 from by omega, mk4_1, mk4_1]
  · rw [show 66 + (B + 2) = 66 + B + 2 from by omega, mk4_2, mk4_2]
  · rw [show 66 + (B + 3) = 66 + B + 3 from by omega, mk4_3, mk4_3]
theorem addNote5 {N : Nat} {c : Nat → Nat → Int32} {w : Nat → Nat → Int64} (p g e t x : Int32) (h : c 4 0 = nI N) (hN : N < 6) : md_X1_addNote c w p g e t x = some (rs (rs c 3 (nt5 (c 3) (N * 5) p g e t x)) 4 (fun _ => nI (N + 1))) := by
  have l6 : nI N < (6 : Int32) := nI_lt (b := 6) (by omega) (by omega)
  have m5 : nI N * (5 : Int32) = nI (N * 5) := pk_mul N 5
  have p1 : nI (N * 5) + (1 : Int32) = nI (N * 5 + 1) := nI_add _ 1
  have p2 : nI (N * 5) + (2 : Int32) = nI (N * 5 + 2) := nI_add _ 2
  have p3 : nI (N * 5) + (3 : Int32) = nI (N * 5 + 3) := nI_add _ 3
  have p4 : nI (N * 5) + (4 : Int32) = nI (N * 5 + 4) := nI_add _ 4
  have i0 : inb (nI (N * 5)) 30 := inb_nI (by omega) (by omega)
  have i1 : inb (nI (N * 5 + 1)) 30 := inb_nI (by omega) (by omega)
  have i2 : inb (nI (N * 5 + 2)) 30 := inb_nI (by omega) (by omega)
  have i3 : inb (nI (N * 5 + 3)) 30 := inb_nI (by omega) (by omega)
  have i4 : inb (nI (N * 5 + 4)) 30 := inb_nI (by omega) (by omega)
  unfold md_X1_addNote
  rw [h, if_pos l6, m5, p1, p2, p3, p4, if_pos i0, if_pos i1, if_pos i2, if_pos i3, if_pos i4, ix_nI (by omega), ix_nI (by omega), ix_nI (by omega), ix_nI (by omega), ix_nI (by omega), nI_1]
  rfl
theorem addMark5 {N : Nat} {c : Nat → Nat → Int32} {w : Nat → Nat → Int64} (p g e t : Int32) (h : c 6 0 = nI N) (hN : N < 6) : md_X1_addMark c w p g e t = some (rs (rs c 5 (mk4 (c 5) (N * 4) p g e t)) 6 (fun _ => nI (N + 1))) := by
  have l6 : nI N < (6 : Int32) := nI_lt (b := 6) (by omega) (by omega)
  have m5 : nI N * (4 : Int32) = nI (N * 4) := pk_mul N 4
  have p1 : nI (N * 4) + (1 : Int32) = nI (N * 4 + 1) := nI_add _ 1
  have p2 : nI (N * 4) + (2 : Int32) = nI (N * 4 + 2) := nI_add _ 2
  have p3 : nI (N * 4) + (3 : Int32) = nI (N * 4 + 3) := nI_add _ 3
  have i0 : inb (nI (N * 4)) 24 := inb_nI (by omega) (by omega)
  have i1 : inb (nI (N * 4 + 1)) 24 := inb_nI (by omega) (by omega)
  have i2 : inb (nI (N * 4 + 2)) 24 := inb_nI (by omega) (by omega)
  have i3 : inb (nI (N * 4 + 3)) 24 := inb_nI (by omega) (by omega)
  unfold md_X1_addMark
  rw [h, if_pos l6, m5, p1, p2, p3, if_pos i0, if_pos i1, if_pos i2, if_pos i3, ix_nI (by omega), ix_nI (by omega), ix_nI (by omega), ix_nI (by omega), nI_1]
  rfl
theorem nat_of0 {x : Int32} {lo hi : Int32} (h : lo ≤ x ∧ x ≤ hi) (h0 : 0 ≤ lo.toInt) : 0 ≤ x.toInt := by
  have := (btw h).1
  omega
theorem call_note {c0 c1 c2 c9 : Nat → Nat → Int32} {w0 w1 w9 : Nat → Nat → Int64} (p g t1 t2 x : Int32) (h : RB c1 w1 c2 (c9 0)) : ∃ r c0' c1' c9', md_X8_note c0 w0 c1 w1 c2 p g t1 t2 x = some (r, c0', c1') ∧ md_X9_note c9 w9 p g t1 t2 x = some (r, c9') ∧ RB c1' w1 c2 (c9' 0) ∧ SR c0 c9 c0' c9' := by
  obtain ⟨P, K, E, N, M, r1, r2, r3, r4, r5⟩ := RB_to h
  obtain ⟨hN, aN, cN, hn⟩ := r4
  unfold md_X8_note md_X9_note
  rw [hpA p r1.1 r1.2.2.2.2.1.1, ipA p r1.2.1, bd1_s, bd1_s]
  rcases b01_c (0 ≤ p ∧ p ≤ nI P - 1) with ⟨hb, e⟩ | ⟨hb, e⟩
  · rw [e, if10, if10, wi8, in_19, bd1_s, bd1_s]
    rcases b01_c ((1 : Int32) ≤ g ∧ g ≤ 9) with ⟨hb2, e2⟩ | ⟨hb2, e2⟩
    · rw [e2, if10, if10, wi8, in_m99, bd1_s, bd1_s]
      rcases b01_c ((-99 : Int32) ≤ t1 ∧ t1 ≤ 99) with ⟨hb3, e3⟩ | ⟨hb3, e3⟩
      · rw [e3, if10, if10, wi8, in_09, bd1_s, bd1_s]
        rcases b01_c ((0 : Int32) ≤ t2 ∧ t2 ≤ 9) with ⟨hb4, e4⟩ | ⟨hb4, e4⟩
        · rw [e4, if10, if10, wi8, in_040, bd1_s, bd1_s]
          rcases b01_c ((0 : Int32) ≤ x ∧ x ≤ 40) with ⟨hb5, e5⟩ | ⟨hb5, e5⟩
          · rw [e5, if10, if10, cN, aN]
            by_cases h6 : N < 6
            · have l6 : nI N < (6 : Int32) := nI_lt (b := 6) (by omega) (by omega)
              have n6 : ¬ nI N = (6 : Int32) := fun z => by have := (nI_eq (b := 6) (by omega) (by omega)).mp z; omega
              have m5 : (36 : Int32) + (5 : Int32) * nI N = nI (36 + N * 5) := by
                have q1 : (36 : Int32) = nI 36 := rfl
                have q2 : (5 : Int32) = nI 5 := rfl
                rw [q1, q2, pk_mul, nI_add, Nat.mul_comm]
              have p1 : nI (36 + N * 5) + (1 : Int32) = nI (36 + N * 5 + 1) := nI_add _ 1
              have p2 : nI (36 + N * 5) + (2 : Int32) = nI (36 + N * 5 + 2) := nI_add _ 2
              have p3 : nI (36 + N * 5) + (3 : Int32) = nI (36 + N * 5 + 3) := nI_add _ 3
              have p4 : nI (36 + N * 5) + (4 : Int32) = nI (36 + N * 5 + 4) := nI_add _ 4
              have i0 : inb (nI (36 + N * 5)) 194 := inb_nI (by omega) (by omega)
              have i1 : inb (nI (36 + N * 5 + 1)) 194 := inb_nI (by omega) (by omega)
              have i2 : inb (nI (36 + N * 5 + 2)) 194 := inb_nI (by omega) (by omega)
              have i3 : inb (nI (36 + N * 5 + 3)) 194 := inb_nI (by omega) (by omega)
              have i4 : inb (nI (36 + N * 5 + 4)) 194 := inb_nI (by omega) (by omega)
              rw [if_pos l6, if_neg n6, addNote5 _ _ _ _ _ cN h6, bd1_s, m5, lt1_r, p1, p2, p3, p4, if_pos i0, if_pos i1, if_pos i2, if_pos i3, if_pos i4, lt1_r, ix_nI (by omega), ix_nI (by omega), ix_nI (by omega), ix_nI (by omega), ix_nI (by omega), upd_s]
              refine ⟨nI (N + 1), c0, rs (rs c1 3 (nt5 (c1 3) (N * 5) p g t1 t2 x)) 4 (fun _ => nI (N + 1)), rs c9 0 (upd (nt5 (c9 0) (36 + N * 5) p g t1 t2 x) 2 (nI (N + 1))), ?_, ?_, ?_, Or.inl ⟨rfl, fun k hk => rs_n _ _ hk⟩⟩
              · rw [rs_s]
              · have z : nt5 (c9 0) (36 + N * 5) p g t1 t2 x 2 = nI N := by rw [nt5_n _ _ _ _ _ _ _ (by omega), aN]
                show some (nt5 (c9 0) (36 + N * 5) p g t1 t2 x 2 + 1, rs c9 0 (upd (nt5 (c9 0) (36 + N * 5) p g t1 t2 x) 2 (nt5 (c9 0) (36 + N * 5) p g t1 t2 x 2 + 1))) = _
                rw [z, nI_1]
              · rw [rs_s]
                have lo : ∀ y, ¬ y = 2 → ¬ (36 + N * 5 ≤ y ∧ y < 36 + N * 5 + 5) → upd (nt5 (c9 0) (36 + N * 5) p g t1 t2 x) 2 (nI (N + 1)) y = c9 0 y := fun y y1 y2 => by rw [upd_n y1, nt5_n _ _ _ _ _ _ _ y2]
                refine RB_of (N := N + 1) (R1_ext (fun x hx => lo x (by omega) (by omega)) r1) (R2_ext r1.1 (fun x hx => lo x (by omega) (by omega)) (by rw [rs_n _ _ (by omega), rs_n _ _ (by omega)]) r2) (R3_ext (fun x hx => lo x (by omega) (by omega)) (by rw [rs_n _ _ (by omega), rs_n _ _ (by omega)]) (by rw [rs_n _ _ (by omega), rs_n _ _ (by omega)]) r3) ⟨by omega, upd_s, by rw [rs_s], fun j hj => ?_⟩ (R5_ext (fun x hx => lo x (by omega) (by omega)) (by rw [rs_n _ _ (by omega), rs_n _ _ (by omega)]) (by rw [rs_n _ _ (by omega), rs_n _ _ (by omega)]) r5)
                rw [rs_n _ _ (by omega), rs_s, upd_n (k := 2) (by omega)]
                refine ⟨nt5_eq (fun hj2 => (hn j (by omega)).1) (by omega), fun hr => ?_⟩
                by_cases hj2 : j < N * 5
                · rw [nt5_n _ _ _ _ _ _ _ (by omega)]
                  exact (hn j (by omega)).2 hr
                · have : 36 + j = 36 + N * 5 + 3 := by omega
                  rw [this, nt5_3]
                  exact nat_of0 hb4 (by decide)
            · have h66 : N = 6 := by omega
              subst h66
              rw [if_neg (show ¬ nI 6 < 6 by decide), if_pos (show nI 6 = 6 from rfl)]
              exact ⟨_, _, _, _, rfl, rfl, h, Or.inr ⟨2, by omega, rfl, rfl⟩⟩
          · rw [e5, if00, if00]
            exact ⟨_, _, _, _, rfl, rfl, h, Or.inr ⟨0, by omega, rfl, rfl⟩⟩
        · rw [e4, if00, if00]
          exact ⟨_, _, _, _, rfl, rfl, h, Or.inr ⟨0, by omega, rfl, rfl⟩⟩
      · rw [e3, if00, if00]
        exact ⟨_, _, _, _, rfl, rfl, h, Or.inr ⟨0, by omega, rfl, rfl⟩⟩
    · rw [e2, if00, if00]
      exact ⟨_, _, _, _, rfl, rfl, h, Or.inr ⟨0, by omega, rfl, rfl⟩⟩
  · rw [e, if00, if00]
    exact ⟨_, _, _, _, rfl, rfl, h, Or.inr ⟨0, by omega, rfl, rfl⟩⟩
theorem ch8 (x : Int32) : md_X8_isChair x = some (b01 (0 ≤ x ∧ x ≤ 1)) := by
  unfold md_X8_isChair
  rw [wi8, bd1_s, if_pos (b01_s _)]
theorem call_mark {c0 c1 c2 c9 : Nat → Nat → Int32} {w0 w1 w9 : Nat → Nat → Int64} (p g t1 t2 : Int32) (h : RB c1 w1 c2 (c9 0)) : ∃ r c0' c1' c9', md_X8_mark c0 w0 c1 w1 p g t1 t2 = some (r, c0', c1') ∧ md_X9_mark c9 w9 p g t1 t2 = some (r, c9') ∧ RB c1' w1 c2 (c9' 0) ∧ SR c0 c9 c0' c9' := by
  obtain ⟨P, K, E, N, M, r1, r2, r3, r4, r5⟩ := RB_to h
  obtain ⟨hM, aM, cM, hm⟩ := r5
  unfold md_X8_mark md_X9_mark
  rw [cn8, cn9, bd1_s, bd1_s]
  rcases b01_c (0 ≤ p ∧ p ≤ 1) with ⟨hb, e⟩ | ⟨hb, e⟩
  · rw [e, if10, if10, wi8, in_040, bd1_s, bd1_s]
    rcases b01_c ((0 : Int32) ≤ g ∧ g ≤ 40) with ⟨hb2, e2⟩ | ⟨hb2, e2⟩
    · rw [e2, if10, if10, ch8, in_01, bd1_s, bd1_s]
      rcases b01_c ((0 : Int32) ≤ t1 ∧ t1 ≤ 1) with ⟨hb3, e3⟩ | ⟨hb3, e3⟩
      · rw [e3, if10, if10, wi8, in_m50, bd1_s, bd1_s]
        rcases b01_c ((-50 : Int32) ≤ t2 ∧ t2 ≤ 50) with ⟨hb4, e4⟩ | ⟨hb4, e4⟩
        · rw [e4, if10, if10, cM, aM]
          by_cases h6 : M < 6
          · have l6 : nI M < (6 : Int32) := nI_lt (b := 6) (by omega) (by omega)
            have n6 : ¬ nI M = (6 : Int32) := fun z => by have := (nI_eq (b := 6) (by omega) (by omega)).mp z; omega
            have m5 : (66 : Int32) + (4 : Int32) * nI M = nI (66 + M * 4) := by
              have q1 : (66 : Int32) = nI 66 := rfl
              have q2 : (4 : Int32) = nI 4 := rfl
              rw [q1, q2, pk_mul, nI_add, Nat.mul_comm]
            have p1 : nI (66 + M * 4) + (1 : Int32) = nI (66 + M * 4 + 1) := nI_add _ 1
            have p2 : nI (66 + M * 4) + (2 : Int32) = nI (66 + M * 4 + 2) := nI_add _ 2
            have p3 : nI (66 + M * 4) + (3 : Int32) = nI (66 + M * 4 + 3) := nI_add _ 3
            have i0 : inb (nI (66 + M * 4)) 194 := inb_nI (by omega) (by omega)
            have i1 : inb (nI (66 + M * 4 + 1)) 194 := inb_nI (by omega) (by omega)
            have i2 : inb (nI (66 + M * 4 + 2)) 194 := inb_nI (by omega) (by omega)
            have i3 : inb (nI (66 + M * 4 + 3)) 194 := inb_nI (by omega) (by omega)
            rw [if_pos l6, if_neg n6, addMark5 _ _ _ _ cM h6, bd1_s, m5, lt1_r, p1, p2, p3, if_pos i0, if_pos i1, if_pos i2, if_pos i3, lt1_r, ix_nI (by omega), ix_nI (by omega), ix_nI (by omega), ix_nI (by omega), upd_s]
            refine ⟨nI (M + 1), c0, rs (rs c1 5 (mk4 (c1 5) (M * 4) p g t1 t2)) 6 (fun _ => nI (M + 1)), rs c9 0 (upd (mk4 (c9 0) (66 + M * 4) p g t1 t2) 3 (nI (M + 1))), ?_, ?_, ?_, Or.inl ⟨rfl, fun k hk => rs_n _ _ hk⟩⟩
            · rw [rs_s]
            · have z : mk4 (c9 0) (66 + M * 4) p g t1 t2 3 = nI M := by rw [mk4_n _ _ _ _ _ _ (by omega), aM]
              show some (mk4 (c9 0) (66 + M * 4) p g t1 t2 3 + 1, rs c9 0 (upd (mk4 (c9 0) (66 + M * 4) p g t1 t2) 3 (mk4 (c9 0) (66 + M * 4) p g t1 t2 3 + 1))) = _
              rw [z, nI_1]
            · rw [rs_s]
              have lo : ∀ y, ¬ y = 3 → ¬ (66 + M * 4 ≤ y ∧ y < 66 + M * 4 + 4) → upd (mk4 (c9 0) (66 + M * 4) p g t1 t2) 3 (nI (M + 1)) y = c9 0 y := fun y y1 y2 => by rw [upd_n y1, mk4_n _ _ _ _ _ _ y2]
              refine RB_of (M := M + 1) (R1_ext (fun x hx => lo x (by omega) (by omega)) r1) (R2_ext r1.1 (fun x hx => lo x (by omega) (by omega)) (by rw [rs_n _ _ (by omega), rs_n _ _ (by omega)]) r2) (R3_ext (fun x hx => lo x (by omega) (by omega)) (by rw [rs_n _ _ (by omega), rs_n _ _ (by omega)]) (by rw [rs_n _ _ (by omega), rs_n _ _ (by omega)]) r3) (R4_ext (fun x hx => lo x (by omega) (by omega)) (by rw [rs_n _ _ (by omega), rs_n _ _ (by omega)]) (by rw [rs_n _ _ (by omega), rs_n _ _ (by omega)]) r4) ⟨by omega, upd_s, by rw [rs_s], fun j hj => ?_⟩
              rw [rs_n _ _ (by omega), rs_s, upd_n (k := 3) (by omega)]
              refine ⟨mk4_eq (fun hj2 => (hm j (by omega)).1) (by omega), fun hr => ?_⟩
              by_cases hj2 : j < M * 4
              · rw [mk4_n _ _ _ _ _ _ (by omega)]
                exact (hm j (by omega)).2 hr
              · have : 66 + j = 66 + M * 4 + 1 := by omega
                rw [this, mk4_1]
                exact nat_of0 hb2 (by decide)
          · have h66 : M = 6 := by omega
            subst h66
            rw [if_neg (show ¬ nI 6 < 6 by decide), if_pos (show nI 6 = 6 from rfl)]
            exact ⟨_, _, _, _, rfl, rfl, h, Or.inr ⟨2, by omega, rfl, rfl⟩⟩
        · rw [e4, if00, if00]
          exact ⟨_, _, _, _, rfl, rfl, h, Or.inr ⟨0, by omega, rfl, rfl⟩⟩
      · rw [e3, if00, if00]
        exact ⟨_, _, _, _, rfl, rfl, h, Or.inr ⟨0, by omega, rfl, rfl⟩⟩
    · rw [e2, if00, if00]
      exact ⟨_, _, _, _, rfl, rfl, h, Or.inr ⟨0, by omega, rfl, rfl⟩⟩
  · rw [e, if00, if00]
    exact ⟨_, _, _, _, rfl, rfl, h, Or.inr ⟨0, by omega, rfl, rfl⟩⟩
theorem call_forget {c0 c1 c2 c9 : Nat → Nat → Int32} {w0 w1 w9 : Nat → Nat → Int64} (p : Int32) (h : RB c1 w1 c2 (c9 0)) : ∃ r c0' c1' c9', md_X8_forget c0 w0 c1 w1 p = some (r, c0', c1') ∧ md_X9_forget c9 w9 p = some (r, c9') ∧ RB c1' w1 c2 (c9' 0) ∧ SR c0 c9 c0' c9' := by
  obtain ⟨P, K, E, N, M, r1, r2, r3, r4, r5⟩ := RB_to h
  unfold md_X8_forget md_X9_forget
  rw [in_02, bd1_s]
  rcases b01_c (0 ≤ p ∧ p ≤ 2) with ⟨hb, e⟩ | ⟨hb, e⟩
  · rw [e, if10]
    rcases three p hb with rfl | rfl | rfl
    · have i1 : inb ((1 : Int32) + 0) 194 := by decide
      have x1 : ix ((1 : Int32) + 0) = 1 := by decide
      rw [if_pos (show (0 : Int32) = 0 from rfl), if_pos i1, lt1_r, if_pos i1, x1, r3.2.1, r3.2.2.1]
      have lo : ∀ y, ¬ y = 1 → upd (c9 0) 1 0 y = c9 0 y := fun y y1 => upd_n y1
      refine ⟨_, _, _, _, rfl, rfl, ?_, Or.inl ⟨rfl, fun k hk => rs_n _ _ hk⟩⟩
      rw [rs_s]
      exact RB_of (R1_ext (fun x hx => lo x (by omega)) r1) (R2_ext r1.1 (fun x hx => lo x (by omega)) (rs_n _ _ (by omega)) r2) (R3_0 upd_s (by rw [rs_s]; rfl)) (R4_ext (fun x hx => lo x (by omega)) (rs_n _ _ (by omega)) (rs_n _ _ (by omega)) r4) (R5_ext (fun x hx => lo x (by omega)) (rs_n _ _ (by omega)) (rs_n _ _ (by omega)) r5)
    · have i1 : inb ((1 : Int32) + 1) 194 := by decide
      have x1 : ix ((1 : Int32) + 1) = 2 := by decide
      rw [if_neg (show ¬ (1 : Int32) = 0 by decide), if_pos (show (1 : Int32) = 1 from rfl), if_pos i1, lt1_r, if_pos i1, x1, r4.2.1, r4.2.2.1]
      have lo : ∀ y, ¬ y = 2 → upd (c9 0) 2 0 y = c9 0 y := fun y y1 => upd_n y1
      refine ⟨_, _, _, _, rfl, rfl, ?_, Or.inl ⟨rfl, fun k hk => rs_n _ _ hk⟩⟩
      rw [rs_s]
      exact RB_of (R1_ext (fun x hx => lo x (by omega)) r1) (R2_ext r1.1 (fun x hx => lo x (by omega)) (rs_n _ _ (by omega)) r2) (R3_ext (fun x hx => lo x (by omega)) (rs_n _ _ (by omega)) (rs_n _ _ (by omega)) r3) (R4_0 upd_s (by rw [rs_s]; rfl)) (R5_ext (fun x hx => lo x (by omega)) (rs_n _ _ (by omega)) (rs_n _ _ (by omega)) r5)
    · have i1 : inb ((1 : Int32) + 2) 194 := by decide
      have x1 : ix ((1 : Int32) + 2) = 3 := by decide
      rw [if_neg (show ¬ (2 : Int32) = 0 by decide), if_neg (show ¬ (2 : Int32) = 1 by decide), if_pos (show (2 : Int32) = 2 from rfl), if_pos i1, lt1_r, if_pos i1, x1, r5.2.1, r5.2.2.1]
      have lo : ∀ y, ¬ y = 3 → upd (c9 0) 3 0 y = c9 0 y := fun y y1 => upd_n y1
      refine ⟨_, _, _, _, rfl, rfl, ?_, Or.inl ⟨rfl, fun k hk => rs_n _ _ hk⟩⟩
      rw [rs_s]
      exact RB_of (R1_ext (fun x hx => lo x (by omega)) r1) (R2_ext r1.1 (fun x hx => lo x (by omega)) (rs_n _ _ (by omega)) r2) (R3_ext (fun x hx => lo x (by omega)) (rs_n _ _ (by omega)) (rs_n _ _ (by omega)) r3) (R4_ext (fun x hx => lo x (by omega)) (rs_n _ _ (by omega)) (rs_n _ _ (by omega)) r4) (R5_0 upd_s (by rw [rs_s]; rfl))
  · have n : ∀ z : Int32, (0 ≤ z ∧ z ≤ 2) → ¬ p = z := fun z hz e => hb (e ▸ hz)
    rw [e, if00, if_neg (n 0 (by decide)), if_neg (n 1 (by decide)), if_neg (n 2 (by decide))]
    exact ⟨_, _, _, _, rfl, rfl, h, Or.inr ⟨0, by omega, rfl, rfl⟩⟩
theorem call_status {c0 c9 : Nat → Nat → Int32} {w0 w9 : Nat → Nat → Int64} (p : Int32) (h : ∀ i, i < 3 → c0 5 i = c9 3 i) : ∃ r c0' c9', md_X8_status c0 w0 p = some (r, c0') ∧ md_X9_status c9 w9 p = some (r, c9') ∧ c9' 0 = c9 0 ∧ SR c0 c9 c0' c9' := by
  unfold md_X8_status md_X9_status
  rw [wi8, in_02, bd1_s, bd1_s]
  rcases b01_c (0 ≤ p ∧ p ≤ 2) with ⟨hb, e⟩ | ⟨hb, e⟩
  · obtain ⟨k, hk, rfl⟩ := nI_b hb (n := 2) (by decide)
    have i3 : inb (nI k) 3 := inb_nI (by omega) (by omega)
    rw [e, if10, if10, if_pos i3, if_pos i3, ix_nI (by omega), h k (by omega)]
    exact ⟨_, _, _, rfl, rfl, rfl, Or.inl ⟨rfl, fun _ _ => rfl⟩⟩
  · rw [e, if00, if00]
    exact ⟨_, _, _, rfl, rfl, rs_n _ _ (by decide), Or.inr ⟨0, by omega, rfl, rfl⟩⟩
theorem call_part {c0 c9 : Nat → Nat → Int32} {w0 w9 : Nat → Nat → Int64} (p : Int32) (h : w0 6 0 = w9 4 0) (h2 : w0 7 0 = w9 5 0) : ∃ r c0' c9', md_X8_part c0 w0 p = some (r, c0') ∧ md_X9_part c9 w9 p = some (r, c9') ∧ c9' 0 = c9 0 ∧ SR c0 c9 c0' c9' := by
  unfold md_X8_part md_X9_part
  rw [wi8, bd1_s]
  rcases b01_c (0 ≤ p ∧ p ≤ 1) with ⟨hb, e⟩ | ⟨hb, e⟩
  · rw [e, if10, lt1_r]
    rcases two p hb with rfl | rfl
    · rw [if_pos (show (0 : Int32) = 0 from rfl), if_pos (show (0 : Int32) = 0 from rfl), h]
      exact ⟨_, _, _, rfl, rfl, rfl, Or.inl ⟨rfl, fun _ _ => rfl⟩⟩
    · rw [if_neg (show ¬ (1 : Int32) = 0 by decide), if_neg (show ¬ (1 : Int32) = 0 by decide), if_pos (show (1 : Int32) = 1 from rfl), h2]
      exact ⟨_, _, _, rfl, rfl, rfl, Or.inl ⟨rfl, fun _ _ => rfl⟩⟩
  · have n : ∀ z : Int32, (0 ≤ z ∧ z ≤ 1) → ¬ p = z := fun z hz e => hb (e ▸ hz)
    rw [e, if00, if_neg (n 0 (by decide)), if_neg (n 1 (by decide))]
    exact ⟨_, _, _, rfl, rfl, rs_n _ _ (by decide), Or.inr ⟨0, by omega, rfl, rfl⟩⟩
/-- the text on both sides -/
def TR (c5 c9 : Nat → Nat → Int32) : Prop := ∃ T, T ≤ 150 ∧ c5 1 0 = nI T ∧ c9 21 0 = nI T ∧ ∀ j, j < T → c5 0 j = c9 20 j
theorem call_type {c0 c5 c9 : Nat → Nat → Int32} {w0 w9 : Nat → Nat → Int64} (p : Int32) (h : TR c5 c9) : ∃ r c0' c5' c9', md_X8_type c0 w0 c5 p = some (r, c0', c5') ∧ md_X9_type c9 w9 p = some (r, c9') ∧ ((TR c5' c9' ∧ c0' = c0 ∧ ∀ k, k ≠ 20 → k ≠ 21 → c9' k = c9 k) ∨ (c5' = c5 ∧ ∃ i, i < 3 ∧ c0' = rs c0 5 (upd (c0 5) i (c0 5 i + 1)) ∧ c9' = rs c9 3 (upd (c9 3) i (c9 3 i + 1)))) := by
  obtain ⟨T, hT, t5, t9, ht⟩ := h
  unfold md_X8_type md_X9_type
  rw [wi8, in_0127, bd1_s, bd1_s]
  rcases b01_c (0 ≤ p ∧ p ≤ 127) with ⟨hb, e⟩ | ⟨hb, e⟩
  · rw [e, if10, if10, t5, t9]
    by_cases h6 : T < 150
    · have l6 : nI T < (150 : Int32) := nI_lt (b := 150) (by omega) (by omega)
      have g6 : ¬ (150 : Int32) ≤ nI T := nI_ge (b := 150) (by omega) (by omega)
      have n6 : ¬ nI T = (150 : Int32) := fun z => by have := (nI_eq (b := 150) (by omega) (by omega)).mp z; omega
      have i1 : inb (nI T) 150 := inb_nI (by omega) (by omega)
      unfold md_X7_append
      rw [if_pos l6, if_neg n6, t5, if_neg g6, if_pos i1, if_pos i1, bd1_s, ix_nI (by omega), nI_1]
      refine ⟨nI (T + 1), c0, rs (rs c5 0 (upd (c5 0) T p)) 1 (fun _ => nI (T + 1)), _, ?_, rfl, Or.inl ⟨⟨T + 1, by omega, ?_, ?_, ?_⟩, rfl, fun k k1 k2 => ?_⟩⟩
      · rw [rs_s]
      · rw [rs_s]
      · rw [rs_s]
      · intro j hj
        rw [rs_n _ _ (by omega), rs_s, rs_n _ _ (by omega), rs_s]
        by_cases hj2 : j = T
        · subst hj2
          rw [upd_s, upd_s]
        · rw [upd_n hj2, upd_n hj2, ht j (by omega)]
      · rw [rs_n _ _ k2, rs_n _ _ k1]
    · have : T = 150 := by omega
      subst this
      rw [if_neg (show ¬ nI 150 < 150 by decide), if_pos (show nI 150 = 150 from rfl)]
      exact ⟨_, _, _, _, rfl, rfl, Or.inr ⟨rfl, 2, by omega, rfl, rfl⟩⟩
  · rw [e, if00, if00]
    exact ⟨_, _, _, _, rfl, rfl, Or.inr ⟨rfl, 0, by omega, rfl, rfl⟩⟩
theorem call_clear {c0 c5 c9 : Nat → Nat → Int32} {w0 w9 : Nat → Nat → Int64} (h : TR c5 c9) : ∃ r c5' c9', md_X8_clear c0 w0 c5 = some (r, c5') ∧ md_X9_clear c9 w9 = some (r, c9') ∧ TR c5' c9' ∧ ∀ k, k ≠ 21 → c9' k = c9 k := by
  obtain ⟨T, hT, t5, t9, ht⟩ := h
  unfold md_X8_clear md_X9_clear
  rw [t5, t9]
  exact ⟨_, _, _, rfl, rfl, ⟨0, by omega, by rw [rs_s]; rfl, by rw [rs_s]; rfl, fun j hj => by omega⟩, fun k hk => rs_n _ _ hk⟩
