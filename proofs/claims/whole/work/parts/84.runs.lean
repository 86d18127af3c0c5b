-- runs: points said by numbers, on both sides
/-- the class' trial court is as d tells -/
def CT (P : Nat) (cc f : Nat → Nat → Int32) (d : Nat → Int32) : Prop := RCd P cc d ∧ RCf P cc f
/-- the reference's passing state is as d tells -/
def QQ (c : Nat → Nat → Int32) (d : Nat → Int32) : Prop := c 15 0 = d 9 ∧ c 16 0 = d 10 ∧ c 17 0 = d 11 ∧ c 18 0 = d 7 ∧ c 18 1 = d 8
def KQ (c e : Nat → Nat → Int32) : Prop := ∀ k, k ≠ 15 → k ≠ 16 → k ≠ 17 → k ≠ 18 → e k = c k
theorem KQ_r (c : Nat → Nat → Int32) : KQ c c := fun _ _ _ _ _ => rfl
theorem KQ_t {a b c : Nat → Nat → Int32} (h1 : KQ a b) (h2 : KQ b c) : KQ a c := fun k k1 k2 k3 k4 => (h2 k k1 k2 k3 k4).trans (h1 k k1 k2 k3 k4)
theorem KQ_KE {c d : Nat → Nat → Int32} (h : KQ c d) : KE c d := fun k hk => h k (by omega) (by omega) (by omega) (by omega)
theorem KQ_0 {c d : Nat → Nat → Int32} (h : KQ c d) : d 0 = c 0 := h 0 (by omega) (by omega) (by omega) (by omega)
theorem lay9n (c : Nat → Nat → Int32) (w : Nat → Nat → Int64) : ∃ e, md_X9_layNow c w = some e ∧ QQ e (dyn (c 0)) ∧ KQ c e := by
  refine ⟨_, rfl, ⟨?_, ?_, ?_, ?_, ?_⟩, fun k k1 k2 k3 k4 => ?_⟩
  · simp [rs, dyn]
  · simp [rs, dyn]
  · simp [rs, dyn]
  · simp [rs, dyn, upd]
  · simp [rs, dyn, upd]
  · rw [rs_n _ _ k4, rs_n _ _ k3, rs_n _ _ k2, rs_n _ _ k1]
/-- what holds of d while the points from i on are still to come -/
def LI (P S0 : Nat) (a : Nat → Int32) (i : Nat) (d : Nat → Int32) : Prop := OKd P d ∧ (∃ S, S < 2 ^ P ∧ d 0 = nI S ∧ ∀ j, i ≤ j → j < P → S.testBit j = S0.testBit j) ∧ ∀ j, i ≤ j → j < P → d (1 + j) = a (1 + j)
theorem LI_0 {P S0 : Nat} {a : Nat → Int32} (ho : OKd P a) (hS : S0 < 2 ^ P) (h : a 0 = nI S0) : LI P S0 a 0 a := ⟨ho, ⟨S0, hS, h, fun _ _ _ => rfl⟩, fun _ _ _ => rfl⟩
theorem LI_up {P S0 i : Nat} {a d : Nat → Int32} (h : LI P S0 a i d) : LI P S0 a (i + 1) d := by
  obtain ⟨ho, ⟨S, h1, h2, h3⟩, h4⟩ := h
  exact ⟨ho, ⟨S, h1, h2, fun j j1 j2 => h3 j (by omega) j2⟩, fun j j1 j2 => h4 j (by omega) j2⟩
theorem tb_or : ∀ S, S < 64 → ∀ i, i < 6 → ∀ j, j < 6 → j ≠ i → (S ||| 2 ^ i).testBit j = S.testBit j := by decide +kernel
theorem spSay_n {f : Nat → Nat → Int32} {d : Nat → Int32} {p : Int32} {j : Nat} (h0 : j ≠ 0) (h1 : j ≠ 10) (h2 : j ≠ 11) (h3 : j ≠ 12) : spSay f d p j = d j := by
  unfold spSay
  rw [upd_n h3, upd_n h2, upd_n h1, upd_n h0]
theorem spSay_12 {f : Nat → Nat → Int32} {d : Nat → Int32} {p : Int32} : spSay f d p 12 = p := upd_s
theorem spSay_11 {f : Nat → Nat → Int32} {d : Nat → Int32} {p : Int32} : spSay f d p 11 = d 11 + 1 := by
  unfold spSay
  rw [upd_n (by omega), upd_s]
theorem spSay_10 {f : Nat → Nat → Int32} {d : Nat → Int32} {p : Int32} : spSay f d p 10 = spM f d p := by
  unfold spSay
  rw [upd_n (by omega), upd_n (by omega), upd_s]
theorem spSay_0 {f : Nat → Nat → Int32} {d : Nat → Int32} {p : Int32} : spSay f d p 0 = (d 0 ||| ((1 : Int32) <<< (p &&& 31))) := by
  unfold spSay
  rw [upd_n (by omega), upd_n (by omega), upd_n (by omega), upd_s]
theorem LI_say {P S0 i : Nat} {f : Nat → Nat → Int32} {a d : Nat → Int32} (hP : P ≤ 6) (h : LI P S0 a i d) (hi : i < P) (hb : S0.testBit i = false) : LI P S0 a (i + 1) (spSay f d (nI i)) := by
  obtain ⟨ho, ⟨S, h1, h2, h3⟩, h4⟩ := h
  have h64 := pow_le6 hP
  refine ⟨say_ok hP ho hi h1 h2 (by rw [h3 i (by omega) hi, hb]), ⟨S ||| 2 ^ i, or_lt P hP S h1 i hi, ?_, fun j j1 j2 => ?_⟩, fun j j1 j2 => ?_⟩
  · rw [spSay_0, h2, or_bit S (by omega) i (by omega)]
  · rw [tb_or S (by omega) i (by omega) j (by omega) (by omega), h3 j (by omega) j2]
  · rw [spSay_n (by omega) (by omega) (by omega) (by omega), h4 j (by omega) j2]
theorem spW_lt {P : Nat} {d : Nat → Int32} (hP : P ≤ 6) (ho : OKd P d) : ∃ w, w < 2 ∧ spW d = nI w := by
  obtain ⟨⟨S, hS, h0, h11⟩, -⟩ := ho
  exact ⟨pop S % 2, by omega, spW_eq hP hS h11⟩
theorem LI_bow {P S0 i : Nat} {a d : Nat → Int32} (hP : P ≤ 6) (h : LI P S0 a (i + 1) d) (h12 : d 12 = nI i) (hi : i < P) (hy : spY d = 1) : LI P S0 a (i + 1) (spBow d) := by
  obtain ⟨ho, ⟨S, h1, h2, h3⟩, h4⟩ := h
  obtain ⟨w, hw, ew⟩ := spW_lt hP ho
  have e : ∀ j, j ≠ 7 + w → j ≠ 1 + i → j ≠ 9 → j ≠ 12 → spBow d j = d j := by
    intro j j1 j2 j3 j4
    unfold spBow
    rw [ew, h12, ix_nI (by omega), ix_nI (by omega), upd_n j4, upd_n j3, upd_n j2, upd_n j1]
  refine ⟨bow_ok hP ho hy, ⟨S, h1, ?_, h3⟩, fun j j1 j2 => ?_⟩
  · rw [e 0 (by omega) (by omega) (by omega) (by omega), h2]
  · rw [e (1 + j) (by omega) (by omega) (by omega) (by omega), h4 j j1 j2]
/-- the bow, if it may be -/
def mbow (d : Nat → Int32) : Nat → Int32 := if spY d = 1 then spBow d else d
theorem LI_mbow {P S0 i : Nat} {a d : Nat → Int32} (hP : P ≤ 6) (h : LI P S0 a (i + 1) d) (h12 : d 12 = nI i) (hi : i < P) : LI P S0 a (i + 1) (mbow d) := by
  unfold mbow
  by_cases hy : spY d = 1
  · rw [if_pos hy]
    exact LI_bow hP h h12 hi hy
  · rw [if_neg hy]
    exact h
-- the steps of the class
theorem CT_say {P i : Nat} {cc f : Nat → Nat → Int32} {d : Nat → Int32} (hP : P ≤ 6) (ho : OKd P d) (h : CT P cc f d) (hi : i < P) : ∃ cc', md_X3_speak cc (nI i) = some cc' ∧ CT P cc' f (spSay f d (nI i)) := by
  obtain ⟨cc', e1, e2, e3⟩ := say5 hP ho h.1 h.2 hi
  exact ⟨cc', e1, e2, e3⟩
theorem CT_mbow {P : Nat} {cc f : Nat → Nat → Int32} {d : Nat → Int32} (hP : P ≤ 6) (ho : OKd P d) (h : CT P cc f d) : ∃ cc', md_X3_bow cc = some cc' ∧ CT P cc' f (mbow d) := by
  unfold mbow
  by_cases hy : spY d = 1
  · rw [if_pos hy]
    obtain ⟨cc', e1, e2, e3⟩ := bow5 hP ho h.1 h.2 hy
    exact ⟨cc', e1, e2, e3⟩
  · rw [if_neg hy]
    have hy0 : spY d = 0 := by
      rcases spY01 d with h | h
      · exact h
      · exact absurd h hy
    exact ⟨cc, bow5_0 hP ho h.1 hy0, h⟩
-- the steps of the reference
theorem QQ_say {P i : Nat} {c f : Nat → Nat → Int32} {w : Nat → Nat → Int64} {d : Nat → Int32} (hP : P ≤ 6) (ho : OKd P d) (hx : FXd P f) (hr : RRf P (c 0) f) (h : QQ c d) (hi : i < P) : ∃ e, md_X9_goSaying c w (nI i) = some e ∧ QQ e (spSay f d (nI i)) ∧ KQ c e := by
  obtain ⟨⟨S, hS, h0, h11⟩, -⟩ := ho
  obtain ⟨q1, q2, q3, q4, q5⟩ := h
  have h64 := pow_le6 hP
  have hpop := pop_le S (by omega)
  unfold md_X9_goSaying
  rw [q1, q2, q3, h11, mb9 hP hx hr hi (by omega), bd1_s]
  refine ⟨_, rfl, ⟨?_, ?_, ?_, ?_, ?_⟩, fun k k1 k2 k3 k4 => ?_⟩
  · rw [rs_n _ _ (by omega), rs_n _ _ (by omega), q1, spSay_n (by omega) (by omega) (by omega) (by omega)]
  · rw [rs_n _ _ (by omega), rs_s, spSay_10, spM_mx, h11]
  · rw [rs_s, spSay_11, h11]
  · rw [rs_n _ _ (by omega), rs_n _ _ (by omega), q4, spSay_n (by omega) (by omega) (by omega) (by omega)]
  · rw [rs_n _ _ (by omega), rs_n _ _ (by omega), q5, spSay_n (by omega) (by omega) (by omega) (by omega)]
  · rw [rs_n _ _ k3, rs_n _ _ k2]
theorem QQ_b {c : Nat → Nat → Int32} {d : Nat → Int32} (h : QQ c d) (w : Nat) (hw : w < 2) : c 18 w = d (7 + w) := by
  have : w = 0 ∨ w = 1 := by omega
  rcases this with rfl | rfl
  · exact h.2.2.2.1
  · exact h.2.2.2.2
theorem QQ_may {P i : Nat} {c : Nat → Nat → Int32} {w : Nat → Nat → Int64} {d : Nat → Int32} (hP : P ≤ 6) (ho : OKd P d) (h : QQ c d) (hi : i < P) (h12 : d 12 = nI i) (hg : c 0 (6 + i) = d (1 + i)) : md_X9_mayTo c w (nI i) = some (spY d) := by
  obtain ⟨q, hq, eq⟩ := spW_lt hP ho
  have e6 : (6 : Int32) + nI i = nI (6 + i) := nI_add 6 i
  have i1 : inb (nI (6 + i)) 194 := inb_nI (by omega) (by omega)
  have i2 : inb (nI q) 2 := inb_nI hq (by omega)
  have ew : d 11 - d 11 / 2 * 2 = nI q := eq
  unfold md_X9_mayTo spY
  rw [h.2.2.1, ew, e6, if_pos i1, ix_nI (by omega), hg, if_pos i2, ix_nI (by omega), QQ_b h q hq, h12, if_neg (nI_m1 (by omega)), ix_nI (by omega), eq, ix_nI (by omega)]
  simp only [ite_some]
theorem QQ_bow {P i : Nat} {c : Nat → Nat → Int32} {w : Nat → Nat → Int64} {d : Nat → Int32} (hP : P ≤ 6) (ho : OKd P d) (h : QQ c d) (hi : i < P) (h12 : d 12 = nI i) : ∃ e, md_X9_goObjecting c w = some e ∧ QQ e (spBow d) ∧ KQ c e := by
  obtain ⟨q, hq, eq⟩ := spW_lt hP ho
  have i2 : inb (nI q) 2 := inb_nI hq (by omega)
  have ew : d 11 - d 11 / 2 * 2 = nI q := eq
  unfold md_X9_goObjecting
  rw [h.2.2.1, ew, if_pos i2, lt1_r, if_pos i2, ix_nI (by omega), QQ_b h q hq]
  refine ⟨_, rfl, ?_, fun k k1 k2 k3 k4 => ?_⟩
  · unfold spBow
    rw [eq, h12, ix_nI (by omega), ix_nI (by omega)]
    have hq2 : q = 0 ∨ q = 1 := by omega
    refine ⟨?_, ?_, ?_, ?_, ?_⟩
    · rw [rs_n _ _ (by omega), rs_s, h.1, upd_n (by omega), upd_s]
    · rw [rs_n _ _ (by omega), rs_n _ _ (by omega), h.2.1, upd_n (by omega), upd_n (by omega), upd_n (by omega), upd_n (by omega)]
    · rw [rs_n _ _ (by omega), rs_n _ _ (by omega), h.2.2.1, upd_n (by omega), upd_n (by omega), upd_n (by omega), upd_n (by omega)]
    · rw [rs_s, upd_n (k := 12) (by omega), upd_n (k := 9) (by omega), upd_n (k := 1 + i) (by omega)]
      rcases hq2 with rfl | rfl
      · rw [upd_s, upd_s]
      · rw [upd_n (by omega), upd_n (by omega), h.2.2.2.1]
    · rw [rs_s, upd_n (k := 12) (by omega), upd_n (k := 9) (by omega), upd_n (k := 1 + i) (by omega)]
      rcases hq2 with rfl | rfl
      · rw [upd_n (by omega), upd_n (by omega), h.2.2.2.2]
      · rw [upd_s, upd_s]
  · rw [rs_n _ _ k4, rs_n _ _ k1]
/-- who has won -/
def wonD (d : Nat → Int32) : Int32 := if d 9 = 0 then (if d 10 ≤ 0 then 0 else 1) else (if 0 < d 10 then 0 else 1)
theorem wonD01 (d : Nat → Int32) : wonD d = 0 ∨ wonD d = 1 := by
  unfold wonD
  split
  · split
    · exact Or.inl rfl
    · exact Or.inr rfl
  · split
    · exact Or.inl rfl
    · exact Or.inr rfl
theorem QQ_won {c : Nat → Nat → Int32} {w : Nat → Nat → Int64} {d : Nat → Int32} (h : QQ c d) : md_X9_isWon c w = some (wonD d) := by
  unfold md_X9_isWon
  rw [lt1_r, h.1, h.2.1]
  exact if_pos (wonD01 d)
theorem CT_won {P : Nat} {cc f : Nat → Nat → Int32} {d : Nat → Int32} (h : CT P cc f d) : md_X3_counselZeroWins cc = some (wonD d) := by
  have c7 := h.1.2.2.2.2.2.2.1
  have c8 := h.1.2.2.2.2.2.1
  unfold md_X3_counselZeroWins md_X3_winner
  rw [lt1_r, bd1_s, chr5, bd1_s, lt1_r, c7, c8]
  have e : (if (if d 10 ≤ 0 then (1 : Int32) else 0) = (if d 9 = 0 then 0 else 1) then (1 : Int32) else 0) = wonD d := by
    unfold wonD
    by_cases h9 : d 9 = 0
    · rw [if_pos h9, if_pos h9]
      by_cases h10 : d 10 ≤ 0
      · rw [if_pos h10, if_pos h10, if_neg (by decide)]
      · rw [if_neg h10, if_neg h10, if_pos rfl]
    · rw [if_neg h9, if_neg h9]
      by_cases h10 : d 10 ≤ 0
      · rw [if_pos h10, if_pos rfl, if_neg (fun z => absurd h10 (by rw [Int32.le_iff_toInt_le, Int32.toInt_zero]; rw [Int32.lt_iff_toInt_lt, Int32.toInt_zero] at z; omega))]
      · rw [if_neg h10, if_neg (by decide), if_pos (by rw [Int32.le_iff_toInt_le, Int32.toInt_zero] at h10; rw [Int32.lt_iff_toInt_lt, Int32.toInt_zero]; omega)]
  rw [e]
  exact if_pos (wonD01 d)
-- bits of what is not said
theorem tb_un : ∀ P, P ≤ 6 → ∀ S, S < 2 ^ P → ∀ i, i < 6 → (2 ^ P - 1 - S).testBit i = (decide (i < P) && !S.testBit i) := by decide +kernel
theorem un_lt {P S : Nat} (hP : P ≤ 6) : 2 ^ P - 1 - S < 64 := by
  have := pow_le6 hP
  have : 0 < 2 ^ P := Nat.pow_pos (by omega)
  omega
/-- is point i one that is still to come -/
def opn (P S0 i : Nat) : Prop := i < P ∧ S0.testBit i = false
theorem has_un {P S i : Nat} (hP : P ≤ 6) (hS : S < 2 ^ P) (hi : i < 6) : (opn P S i → md_X8_has (nI (2 ^ P - 1 - S)) (nI i) = some 1) ∧ (¬ opn P S i → md_X8_has (nI (2 ^ P - 1 - S)) (nI i) = some 0) := by
  have h := has8 (2 ^ P - 1 - S) (un_lt hP) i hi
  rw [tb_un P hP S hS i hi] at h
  refine ⟨fun o => ?_, fun o => ?_⟩
  · rw [h, o.2]
    simp [o.1]
  · rw [h]
    by_cases hp : i < P
    · have : S.testBit i = true := by
        by_cases hb : S.testBit i = true
        · exact hb
        · exact absurd ⟨hp, by simpa using hb⟩ o
      rw [this]
      simp
    · simp [hp]
