-- the past on both sides
theorem OKd_ext {P : Nat} {d e : Nat → Int32} (hP : P ≤ 6) (h : ∀ j, j < 13 → e j = d j) (ho : OKd P d) : OKd P e := by
  obtain ⟨⟨S, hS, h0, h11⟩, hg, hb0, hb1, hs, hm, h12, hls⟩ := ho
  refine ⟨⟨S, hS, by rw [h 0 (by omega), h0], by rw [h 11 (by omega), h11]⟩, ?_, ?_, ?_, ?_, ?_, ?_, ?_⟩
  · intro j hj
    rw [h _ (by omega)]
    exact hg j hj
  · rw [h 7 (by omega)]; exact hb0
  · rw [h 8 (by omega)]; exact hb1
  · rw [h 9 (by omega)]; exact hs
  · rw [h 10 (by omega)]; exact hm
  · rw [h 12 (by omega)]; exact h12
  · intro T o hT ho t0 t12
    exact hls T o hT ho ((h 0 (by omega)).symm.trans t0) ((h 12 (by omega)).symm.trans t12)
theorem RCd_ext {P : Nat} {cc : Nat → Nat → Int32} {d e : Nat → Int32} (hP : P ≤ 6) (h : ∀ j, j < 13 → e j = d j) (hd : RCd P cc d) : RCd P cc e := by
  obtain ⟨c5, c6, c4, c10, c11, c8, c7, c9, cg⟩ := hd
  refine ⟨c5, by rw [h 0 (by omega), c6], ?_, by rw [h 7 (by omega), c10], by rw [h 8 (by omega), c11], by rw [h 9 (by omega), c8], by rw [h 10 (by omega), c7], by rw [h 12 (by omega), c9], cg⟩
  intro j hj
  rw [h _ (by omega)]
  exact c4 j hj
theorem PKd_ext {P : Nat} {d e : Nat → Int32} {p : Int64} (hP : P ≤ 6) (h : ∀ j, j < 13 → e j = d j) (hp : PKd P d p) : PKd P e p := by
  obtain ⟨S, g, b0, b1, s, m, o, e1, hS, hg, h0, h1, hs, hm, ho, d0, dg, d7, d8, d9, d10, d12⟩ := hp
  refine ⟨S, g, b0, b1, s, m, o, e1, hS, hg, h0, h1, hs, hm, ho, by rw [h 0 (by omega), d0], ?_, by rw [h 7 (by omega), d7], by rw [h 8 (by omega), d8], by rw [h 9 (by omega), d9], by rw [h 10 (by omega), d10], by rw [h 12 (by omega), d12]⟩
  intro j hj
  rw [h _ (by omega)]
  exact dg j hj
theorem sv9_lo {a : Nat → Int32} {K x : Nat} (hK : K ≤ 8) (hx : x < 90) (h4 : x ≠ 4) : sv9 a K x = a x := by
  unfold sv9
  by_cases h : K = 8
  · rw [if_pos h, upd_n h4]
    unfold cp
    rw [if_neg (by omega), upd_n h4, if_neg (by omega)]
  · rw [if_neg h, upd_n h4]
    unfold cp
    rw [if_neg (by omega)]
theorem sv9_4 {a : Nat → Int32} {K : Nat} : sv9 a K 4 = nI (if K = 8 then 8 else K + 1) := by
  unfold sv9
  by_cases h : K = 8
  · rw [if_pos h, upd_s, if_pos h]
  · rw [if_neg h, upd_s, if_neg h]
theorem sv9_new {a : Nat → Int32} {K j : Nat} (hK : K ≤ 8) (hj : j < 13) : sv9 a K (90 + 13 * (if K = 8 then 7 else K) + j) = a (5 + j) := by
  unfold sv9
  by_cases h : K = 8
  · rw [if_pos h, if_pos h, upd_n (by omega)]
    unfold cp
    rw [if_pos (by omega), upd_n (by omega), if_neg (by omega), show 5 + (90 + 13 * 7 + j - 181) = 5 + j from by omega]
  · rw [if_neg h, if_neg h, upd_n (by omega)]
    unfold cp
    rw [if_pos (by omega), show 5 + (90 + 13 * K + j - (90 + 13 * K)) = 5 + j from by omega]
theorem sv9_old {a : Nat → Int32} {K b j : Nat} (hK : K ≤ 8) (hb : b < (if K = 8 then 7 else K)) (hj : j < 13) : sv9 a K (90 + 13 * b + j) = a (90 + 13 * (if K = 8 then b + 1 else b) + j) := by
  unfold sv9
  by_cases h : K = 8
  · rw [if_pos h] at hb
    rw [if_pos h, if_pos h, upd_n (by omega)]
    unfold cp
    rw [if_neg (by omega), upd_n (by omega), if_pos (by omega), show 103 + (90 + 13 * b + j - 90) = 90 + 13 * (b + 1) + j from by omega]
  · rw [if_neg h] at hb
    rw [if_neg h, if_neg h, upd_n (by omega)]
    unfold cp
    rw [if_neg (by omega)]
def RPs (P K : Nat) (a : Nat → Int32) (q : Nat → Int64) : Prop := ∀ b, b < K → OKd P (fun j => a (90 + 13 * b + j)) ∧ PKd P (fun j => a (90 + 13 * b + j)) (q b)
theorem remb {P K : Nat} {c cc : Nat → Nat → Int32} {w : Nat → Nat → Int64} {a : Nat → Int32} (hP : P ≤ 6) (hK : K ≤ 8) (ho : OKd P (dyn a)) (hd : RCd P cc (dyn a)) (h8 : c 8 0 = nI K) (hp : RPs P K a (w 7)) : ∃ c' w', md_X1_remember FU c w cc = some (c', w') ∧ (∀ k, k ≠ 8 → c' k = c k) ∧ c' 8 0 = nI (if K = 8 then 8 else K + 1) ∧ (∀ k, k ≠ 7 → w' k = w k) ∧ RPs P (if K = 8 then 8 else K + 1) (sv9 a K) (w' 7) := by
  obtain ⟨p, hk, hpk⟩ := keep_ok hP ho hd
  unfold md_X1_remember
  by_cases h : K = 8
  · subst h
    have e8 : ¬ nI 8 < (8 : Int32) := by decide
    have e7 : inb (7 : Int32) 8 := by decide
    have x7 : ix (7 : Int32) = 7 := by decide
    rw [h8, if_neg e8]
    unfold jd_X1_remember_30
    rw [hk, bd1_s, rs_s, if_pos e7, x7]
    refine ⟨_, _, rfl, ?_, ?_, ?_, ?_⟩
    · intro k hk
      rw [rs_n _ _ hk, rs_n _ _ hk]
    · rw [rs_s]
      rfl
    · intro k hk
      rw [rs_n _ _ hk, rs_n _ _ hk]
    · intro b hb
      rw [if_pos rfl] at hb
      rw [rs_s, rs_s]
      by_cases hb7 : b = 7
      · subst hb7
        rw [pk_uLs]
        have hx : ∀ j, j < 13 → (fun j => sv9 a 8 (90 + 13 * 7 + j)) j = dyn a j := fun j hj => by
          have := sv9_new (a := a) (K := 8) (j := j) (by omega) hj
          rw [if_pos rfl] at this
          exact this
        exact ⟨OKd_ext hP hx ho, PKd_ext hP hx hpk⟩
      · rw [pk_uLn hb7, pk_cpy_in (by omega) (by omega), show 1 + (b - 0) = b + 1 from by omega]
        have hx : ∀ j, j < 13 → (fun j => sv9 a 8 (90 + 13 * b + j)) j = (fun j => a (90 + 13 * (b + 1) + j)) j := fun j hj => by
          have := sv9_old (a := a) (K := 8) (b := b) (j := j) (by omega) (by rw [if_pos rfl]; omega) hj
          rw [if_pos rfl] at this
          exact this
        exact ⟨OKd_ext hP hx (hp (b + 1) (by omega)).1, PKd_ext hP hx (hp (b + 1) (by omega)).2⟩
  · have e8 : nI K < (8 : Int32) := nI_lt (b := 8) (by omega) (by omega)
    rw [h8, if_pos e8]
    unfold jd_X1_remember_30
    rw [hk, bd1_s, h8, if_pos (inb_nI (by omega) (by omega)), ix_nI (by omega), nI_1]
    refine ⟨_, _, rfl, ?_, ?_, ?_, ?_⟩
    · intro k hk
      rw [rs_n _ _ hk]
    · rw [rs_s, if_neg h]
    · intro k hk
      rw [rs_n _ _ hk]
    · intro b hb
      rw [if_neg h] at hb
      rw [rs_s]
      by_cases hbK : b = K
      · subst hbK
        rw [pk_uLs]
        have hx : ∀ j, j < 13 → (fun j => sv9 a b (90 + 13 * b + j)) j = dyn a j := fun j hj => by
          have := sv9_new (a := a) (K := b) (j := j) (by omega) hj
          rw [if_neg h] at this
          exact this
        exact ⟨OKd_ext hP hx ho, PKd_ext hP hx hpk⟩
      · rw [pk_uLn hbK]
        have hx : ∀ j, j < 13 → (fun j => sv9 a K (90 + 13 * b + j)) j = (fun j => a (90 + 13 * b + j)) j := fun j hj => by
          have := sv9_old (a := a) (K := K) (b := b) (j := j) (by omega) (by rw [if_neg h]; omega) hj
          rw [if_neg h] at this
          exact this
        exact ⟨OKd_ext hP hx (hp b (by omega)).1, PKd_ext hP hx (hp b (by omega)).2⟩
