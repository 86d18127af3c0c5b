-- saying: the class, and the reference
def cx (f : Nat → Nat → Int32) (p s e t : Int32) : Int32 := cvv (f 2 (ix (t - t / 2 * 2))) (mvv (f 0 (ix p)) (f 1 (ix p)) (if (if s = t - t / 2 * 2 then (0 : Int32) else 1) = 0 then e else -e) t) (if s = t - t / 2 * 2 then 0 else 1)
def mx (f : Nat → Nat → Int32) (p s e t : Int32) : Int32 := clp (if (if s = t - t / 2 * 2 then (0 : Int32) else 1) = 0 then e + cx f p s e t else e - cx f p s e t)
theorem spC_cx (f : Nat → Nat → Int32) (d : Nat → Int32) (p : Int32) : spC f d p = cx f p (d 9) (d 10) (d 11) := rfl
theorem spM_mx (f : Nat → Nat → Int32) (d : Nat → Int32) (p : Int32) : spM f d p = mx f p (d 9) (d 10) (d 11) := rfl
theorem upd_s {f : Nat → Int32} {k : Nat} {x : Int32} : upd f k x k = x := if_pos rfl
theorem upd_n {f : Nat → Int32} {k j : Nat} {x : Int32} (h : j ≠ k) : upd f k x j = f j := if_neg h
theorem or_bit : ∀ S, S < 64 → ∀ p, p < 6 → (nI S ||| ((1 : Int32) <<< (nI p &&& 31))) = nI (S ||| 2 ^ p) := by decide +kernel
theorem pop_or : ∀ S, S < 64 → ∀ p, p < 6 → S.testBit p = false → pop (S ||| 2 ^ p) = pop S + 1 := by decide +kernel
theorem or_lt : ∀ P, P ≤ 6 → ∀ S, S < 2 ^ P → ∀ p, p < P → S ||| 2 ^ p < 2 ^ P := by decide +kernel
theorem say5 {P k : Nat} {cc f : Nat → Nat → Int32} {d : Nat → Int32} (hP : P ≤ 6) (ho : OKd P d) (hd : RCd P cc d) (hf : RCf P cc f) (hk : k < P) : ∃ cc', md_X3_speak cc (nI k) = some cc' ∧ RCd P cc' (spSay f d (nI k)) ∧ RCf P cc' f := by
  have hc := cnt5 hP ho hd hf hk
  obtain ⟨⟨S, hS, h0, h11⟩, -⟩ := ho
  obtain ⟨c5, c6, c4, c10, c11, c8, c7, c9, cg⟩ := hd
  have hw := spW_eq hP hS h11
  unfold md_X3_speak
  rw [hp5 c5 hP hk, bd1_s, if_neg (by decide), hc, bd1_s, spk5 hP hS (c6.trans h0), bd1_s, chr5, bd1_s]
  simp only [lt1_r, clp5]
  have hm : clp (if (if cc 8 0 = nI (pop S % 2) then (0 : Int32) else 1) = 0 then cc 7 0 + spC f d (nI k) else cc 7 0 - spC f d (nI k)) = spM f d (nI k) := by
    unfold spM spH
    rw [hw, c8, c7]
  rw [hm]
  refine ⟨_, rfl, ⟨?_, ?_, ?_, ?_, ?_, ?_, ?_, ?_, ?_⟩, ?_, ?_, ?_⟩
  · simp [rs, c5]
  · simp [rs, spSay, upd, c6]
  · intro j hj
    have : 1 + j ≠ 12 := by omega
    have h2 : 1 + j ≠ 11 := by omega
    have h3 : 1 + j ≠ 10 := by omega
    have h4 : 1 + j ≠ 0 := by omega
    simp [rs, spSay, upd, this, h2, h3, c4 j hj]
  · simp [rs, spSay, upd, c10]
  · simp [rs, spSay, upd, c11]
  · simp [rs, spSay, upd, c8]
  · simp [rs, spSay, upd]
  · simp [rs, spSay, upd]
  · intro j hj
    obtain ⟨g, h1, h2⟩ := cg j hj
    exact ⟨g, h1, by simp [rs, h2]⟩
  · intro j hj
    simp [rs, hf.1 j hj]
  · simp [rs, hf.2.1]
  · simp [rs, hf.2.2]
theorem say_ok {P k : Nat} {f : Nat → Nat → Int32} {d : Nat → Int32} {S : Nat} (hP : P ≤ 6) (ho : OKd P d) (hk : k < P) (hS : S < 2 ^ P) (h0 : d 0 = nI S) (hb : S.testBit k = false) : OKd P (spSay f d (nI k)) := by
  obtain ⟨⟨S', hS', h0', h11⟩, hg, hb0, hb1, hs, hm, ho, hls⟩ := ho
  have h64 := pow_le6 hP
  have e : S' = S := by
    have := h0'.symm.trans h0
    exact (nI_eq (by omega) (by omega)).mp this
  subst e
  refine ⟨⟨S' ||| 2 ^ k, or_lt P hP S' hS k hk, ?_, ?_⟩, ?_, ?_, ?_, ?_, ?_, ?_, ?_⟩
  · simp only [spSay, upd]
    simp only [show (0 : Nat) ≠ 12 by omega, show (0 : Nat) ≠ 11 by omega, show (0 : Nat) ≠ 10 by omega, if_false, if_true]
    rw [h0, or_bit S' (by omega) k (by omega)]
  · simp only [spSay, upd]
    simp only [show (11 : Nat) ≠ 12 by omega, if_false, if_true]
    rw [h11, pop_or S' (by omega) k (by omega) hb, nI_1]
  · intro j hj
    obtain ⟨g, h1, h2⟩ := hg j hj
    refine ⟨g, h1, ?_⟩
    simp only [spSay, upd]
    simp only [show 1 + j ≠ 12 by omega, show 1 + j ≠ 11 by omega, show 1 + j ≠ 10 by omega, show 1 + j ≠ 0 by omega, if_false]
    exact h2
  · simpa [spSay, upd] using hb0
  · simpa [spSay, upd] using hb1
  · simpa [spSay, upd] using hs
  · have := clp_rng (if spH d (spW d) = 0 then d 10 + spC f d (nI k) else d 10 - spC f d (nI k))
    simpa [spSay, upd, spM] using this
  · exact Or.inr ⟨k, hk, by simp [spSay, upd]⟩
  · intro T o hT ho2 t0 t12
    have tbk : ∀ S, S < 64 → ∀ k, k < 6 → (S ||| 2 ^ k).testBit k = true := by decide +kernel
    have e0 : spSay f d (nI k) 0 = nI (S' ||| 2 ^ k) := by
      simp only [spSay, upd]
      simp only [show (0 : Nat) ≠ 12 by omega, show (0 : Nat) ≠ 11 by omega, show (0 : Nat) ≠ 10 by omega, if_false, if_true]
      rw [h0, or_bit S' (by omega) k (by omega)]
    have e12 : spSay f d (nI k) 12 = nI k := by simp [spSay, upd]
    have q1 := or_lt P hP S' hS k hk
    have q2 : T = S' ||| 2 ^ k := (nI_eq (by omega) (by omega)).mp (t0.symm.trans e0)
    have q3 : o = k := (nI_eq (by omega) (by omega)).mp (t12.symm.trans e12)
    rw [q2, q3]
    exact tbk S' (by omega) k (by omega)
/-- the reference's fixed rows -/
def RRf (P : Nat) (a : Nat → Int32) (f : Nat → Nat → Int32) : Prop := (∀ j, j < P → a (18 + j) = f 0 j ∧ a (24 + j) = f 1 j) ∧ a 30 = f 2 0 ∧ a 31 = f 2 1
theorem cb9 {P k T : Nat} {c f : Nat → Nat → Int32} {w : Nat → Nat → Int64} {s e : Int32} (hP : P ≤ 6) (hx : FXd P f) (hf : RRf P (c 0) f) (hk : k < P) (hT : T < 7) : md_X9_countsBy c w (nI k) s e (nI T) = some (cx f (nI k) s e (nI T)) := by
  have h18 : (18 : Int32) + nI k = nI (18 + k) := nI_add 18 k
  have h24 : (24 : Int32) + nI k = nI (24 + k) := nI_add 24 k
  have h30 : (30 : Int32) + nI (T % 2) = nI (30 + T % 2) := nI_add 30 _
  obtain ⟨G, hG1, hG2, hG⟩ := hx k hk
  unfold md_X9_countsBy cx
  rw [lt1_r, par2 T hT]
  unfold md_X9_chairOf
  rw [lt1_r, bd1_s, h18, h24, if_pos (inb_nI (by omega) (by omega)), if_pos (inb_nI (by omega) (by omega)), lt1_r, ix_nI (by omega), ix_nI (by omega), ix_nI (by omega), (hf.1 k hk).1, (hf.1 k hk).2, mv9 _ _ _ _ (by rw [nI_toInt (by omega)]; omega), bd1_s, h30, if_pos (inb_nI (by omega) (by omega)), ix_nI (by omega), ix_nI (by omega)]
  have hr : c 0 (30 + T % 2) = f 2 (T % 2) := by
    have : T % 2 = 0 ∨ T % 2 = 1 := by omega
    rcases this with h | h <;> rw [h]
    · exact hf.2.1
    · exact hf.2.2
  rw [hr, hG]
  obtain ⟨n, hn, e⟩ := mv_rng (f 0 k) (if (if s = nI (T % 2) then (0 : Int32) else 1) = 0 then e else -e) (G := G) (T := T) hG2 (by omega)
  rw [ct9 _ _ _ (by rw [e, nI_toInt (by omega)]; omega), bd1_s]
theorem mb9 {P k T : Nat} {c f : Nat → Nat → Int32} {w : Nat → Nat → Int64} {s e : Int32} (hP : P ≤ 6) (hx : FXd P f) (hf : RRf P (c 0) f) (hk : k < P) (hT : T < 7) : md_X9_meritBy c w (nI k) s e (nI T) = some (mx f (nI k) s e (nI T)) := by
  unfold md_X9_meritBy
  rw [cb9 hP hx hf hk hT, bd1_s]
  unfold md_X9_chairOf
  rw [lt1_r, bd1_s, lt1_r, lt1_r]
  rfl
