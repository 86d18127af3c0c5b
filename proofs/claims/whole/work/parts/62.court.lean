-- the court: fixed rows f (0 kinds, 1 strengths, 2 counsel), the dynamic block d (0 said, 1.. grounds, 7 8 bows, 9 sits, 10 merit, 11 turn, 12 last)
/-- the last point, while nobody objected to it, is said -/
def LSd (P : Nat) (d : Nat → Int32) : Prop := ∀ S o, S < 2 ^ P → o < P → d 0 = nI S → d 12 = nI o → S.testBit o = true
def OKd (P : Nat) (d : Nat → Int32) : Prop := (∃ S, S < 2 ^ P ∧ d 0 = nI S ∧ d 11 = nI (pop S)) ∧ (∀ j, j < P → ∃ g, g < 4 ∧ d (1 + j) = nI g) ∧ (∃ b, b < 4 ∧ d 7 = nI b) ∧ (∃ b, b < 4 ∧ d 8 = nI b) ∧ (d 9 = 0 ∨ d 9 = 1) ∧ (-99 ≤ (d 10).toInt ∧ (d 10).toInt ≤ 99) ∧ (d 12 = -1 ∨ ∃ o, o < P ∧ d 12 = nI o) ∧ LSd P d
def FXd (P : Nat) (f : Nat → Nat → Int32) : Prop := ∀ j, j < P → ∃ G, 1 ≤ G ∧ G < 10 ∧ f 1 j = nI G
def RCd (P : Nat) (cc : Nat → Nat → Int32) (d : Nat → Int32) : Prop := cc 5 0 = nI P ∧ cc 6 0 = d 0 ∧ (∀ j, j < P → cc 4 j = d (1 + j)) ∧ cc 1 0 = d 7 ∧ cc 1 1 = d 8 ∧ cc 8 0 = d 9 ∧ cc 7 0 = d 10 ∧ cc 9 0 = d 12 ∧ ∀ j, j < 6 → ∃ g, g < 4 ∧ cc 4 j = nI g
def RCf (P : Nat) (cc f : Nat → Nat → Int32) : Prop := (∀ j, j < P → cc 2 j = f 0 j ∧ cc 3 j = f 1 j) ∧ cc 0 0 = f 2 0 ∧ cc 0 1 = f 2 1
def clp (x : Int32) : Int32 := if x ≤ 99 then (if -99 ≤ x then x else -99) else 99
/-- who is to speak -/
def spW (d : Nat → Int32) : Int32 := d 11 - d 11 / 2 * 2
/-- the chair of one -/
def spH (d : Nat → Int32) (i : Int32) : Int32 := if d 9 = i then 0 else 1
/-- what a point counts now -/
def spC (f : Nat → Nat → Int32) (d : Nat → Int32) (p : Int32) : Int32 := cvv (f 2 (ix (spW d))) (mvv (f 0 (ix p)) (f 1 (ix p)) (if spH d (spW d) = 0 then d 10 else -(d 10)) (d 11)) (spH d (spW d))
/-- merit behind a point -/
def spM (f : Nat → Nat → Int32) (d : Nat → Int32) (p : Int32) : Int32 := clp (if spH d (spW d) = 0 then d 10 + spC f d p else d 10 - spC f d p)
def spSay (f : Nat → Nat → Int32) (d : Nat → Int32) (p : Int32) : Nat → Int32 := upd (upd (upd (upd d 0 (d 0 ||| ((1 : Int32) <<< (p &&& 31)))) 10 (spM f d p)) 11 (d 11 + 1)) 12 p
theorem par1 : ∀ T, T < 7 → nI T &&& 1 = nI (T % 2) := by decide +kernel
theorem par2 : ∀ T, T < 7 → nI T - nI T / 2 * 2 = nI (T % 2) := by decide +kernel
theorem pow_le6 {P : Nat} (h : P ≤ 6) : 2 ^ P ≤ 64 := by
  have : ∀ P, P ≤ 6 → 2 ^ P ≤ 64 := by decide
  exact this P h
theorem clp5 (x : Int32) : (if (-99 : Int32) < (if x < 99 then x else 99) then (if x < 99 then x else 99) else -99) = clp x := by
  have e99 : (99 : Int32).toInt = 99 := rfl
  have em : (-99 : Int32).toInt = -99 := rfl
  unfold clp
  by_cases h1 : x < 99
  · have h2 : x ≤ 99 := Int32.le_of_lt h1
    rw [if_pos h1, if_pos h2]
    by_cases h3 : (-99 : Int32) < x
    · rw [if_pos h3, if_pos (Int32.le_of_lt h3)]
    · rw [if_neg h3]
      by_cases h4 : (-99 : Int32) ≤ x
      · rw [if_pos h4]
        apply Int32.toInt_inj.mp
        rw [Int32.lt_iff_toInt_lt] at h3
        rw [Int32.le_iff_toInt_le] at h4
        omega
      · rw [if_neg h4]
  · rw [if_neg h1, if_pos (by decide)]
    by_cases h2 : x ≤ 99
    · rw [if_pos h2]
      have e : x = 99 := by
        apply Int32.toInt_inj.mp
        rw [Int32.lt_iff_toInt_lt] at h1
        rw [Int32.le_iff_toInt_le] at h2
        omega
      rw [e]; rfl
    · rw [if_neg h2]
theorem clp_rng (x : Int32) : -99 ≤ (clp x).toInt ∧ (clp x).toInt ≤ 99 := by
  have e99 : (99 : Int32).toInt = 99 := rfl
  have em : (-99 : Int32).toInt = -99 := rfl
  unfold clp
  split
  · split
    · rename_i h1 h2
      rw [Int32.le_iff_toInt_le] at h1 h2
      omega
    · rw [em]; omega
  · rw [e99]; omega
/-- hasPoint of a point that is there -/
theorem hp5 {P k : Nat} {cc : Nat → Nat → Int32} (hc : cc 5 0 = nI P) (hP : P ≤ 6) (hk : k < P) : md_X3_hasPoint cc (nI k) = some 1 := by
  have e : (if nI k < (0 : Int32) then (0 : Int32) else if cc 5 0 ≤ nI k then 0 else if (6 : Int32) ≤ nI k then 0 else 1) = 1 := by
    have h6 : ¬ (6 : Int32) ≤ nI k := nI_ge (a := k) (b := 6) (by omega) (by omega)
    rw [hc, if_neg (nI_pos (by omega)), if_neg (nI_ge hk (by omega)), if_neg h6]
  unfold md_X3_hasPoint
  rw [lt1_r, e]
  rfl
theorem hp5m {cc : Nat → Nat → Int32} : md_X3_hasPoint cc (-1) = some 0 := by
  have e : (if (-1 : Int32) < (0 : Int32) then (0 : Int32) else if cc 5 0 ≤ -1 then 0 else if (6 : Int32) ≤ -1 then 0 else 1) = 0 := if_pos (by decide)
  unfold md_X3_hasPoint
  rw [lt1_r, e]
  rfl
theorem spk5 {P S : Nat} {cc : Nat → Nat → Int32} (hP : P ≤ 6) (hS : S < 2 ^ P) (h : cc 6 0 = nI S) : md_X3_speaker cc = some (nI (pop S % 2)) := by
  have h64 := pow_le6 hP
  unfold md_X3_speaker
  rw [h, bc64 S (by omega), bd1_s, par1 _ (by have := pop_le S (by omega); omega)]
theorem trn5 {P S : Nat} {cc : Nat → Nat → Int32} (hP : P ≤ 6) (hS : S < 2 ^ P) (h : cc 6 0 = nI S) : md_X3_turn cc = some (nI (pop S)) := by
  have h64 := pow_le6 hP
  unfold md_X3_turn
  rw [h, bc64 S (by omega), bd1_s]
theorem chr5 (cc : Nat → Nat → Int32) (i : Int32) : md_X3_chairOf cc i = some (if cc 8 0 = i then 0 else 1) := by
  unfold md_X3_chairOf
  rw [lt1_r]
  by_cases h : cc 8 0 = i
  · rw [if_pos h, if_pos h.symm]
  · rw [if_neg h, if_neg (fun e => h e.symm)]
theorem spW_eq {P : Nat} {d : Nat → Int32} {S : Nat} (hP : P ≤ 6) (hS : S < 2 ^ P) (h : d 11 = nI (pop S)) : spW d = nI (pop S % 2) := by
  have h64 := pow_le6 hP
  unfold spW
  rw [h, par2 _ (by have := pop_le S (by omega); omega)]
/-- what a point counts: the class -/
theorem cnt5 {P k : Nat} {cc f : Nat → Nat → Int32} {d : Nat → Int32} (hP : P ≤ 6) (ho : OKd P d) (hd : RCd P cc d) (hf : RCf P cc f) (hk : k < P) : md_X3_counting cc (nI k) = some (spC f d (nI k)) := by
  obtain ⟨⟨S, hS, h0, h11⟩, -⟩ := ho
  obtain ⟨c5, c6, -, -, -, c8, c7, -, -⟩ := hd
  have h64 := pow_le6 hP
  have hw := spW_eq hP hS h11
  unfold md_X3_counting
  rw [hp5 c5 hP hk, bd1_s, if_neg (by decide), spk5 hP hS (c6.trans h0), bd1_s, chr5, bd1_s, if_pos (inb_nI (by omega) (by omega)), if_pos (inb_nI (by omega) (by omega)), trn5 hP hS (c6.trans h0)]
  unfold md_X3_meritOfChair
  rw [lt1_r, bd1_s, bd1_s, mv5, bd1_s, if_pos (inb_nI (by omega) (by omega)), ct5, bd1_s, c7, c8, ix_nI (by omega), ix_nI (by omega), (hf.1 k hk).1, (hf.1 k hk).2]
  unfold spC spH
  rw [hw, ix_nI (by omega), ix_nI (by omega), h11]
  have hr : cc 0 (pop S % 2) = f 2 (pop S % 2) := by
    have : pop S % 2 = 0 ∨ pop S % 2 = 1 := by omega
    rcases this with h | h <;> rw [h]
    · exact hf.2.1
    · exact hf.2.2
  rw [hr]
