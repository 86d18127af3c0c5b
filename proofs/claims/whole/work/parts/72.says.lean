-- a step that is remembered
theorem RPs_ext {P K : Nat} {a b : Nat → Int32} {q : Nat → Int64} (hP : P ≤ 6) (hK : K ≤ 8) (h : ∀ x, 90 ≤ x → b x = a x) (hp : RPs P K a q) : RPs P K b q := by
  intro k hk
  have hx : ∀ j, j < 13 → (fun j => b (90 + 13 * k + j)) j = (fun j => a (90 + 13 * k + j)) j := fun j hj => h _ (by omega)
  exact ⟨OKd_ext hP hx (hp k hk).1, PKd_ext hP hx (hp k hk).2⟩
theorem FXd_ext {P : Nat} {f g : Nat → Nat → Int32} (h : ∀ j, j < P → g 1 j = f 1 j) (hx : FXd P f) : FXd P g := by
  intro j hj
  rw [h j hj]
  exact hx j hj
theorem RB_sv {c cc : Nat → Nat → Int32} {w : Nat → Nat → Int64} {a : Nat → Int32} (h : RB c w cc a) : ∃ P K c' w', P ≤ 6 ∧ K ≤ 8 ∧ a 0 = nI P ∧ a 4 = nI K ∧ OKd P (dyn a) ∧ FXd P (fxd a) ∧ RCd P cc (dyn a) ∧ RCf P cc (fxd a) ∧ md_X1_remember FU c w cc = some (c', w') ∧ ∀ cc2 a2, (∀ x, ¬ (5 ≤ x ∧ x < 18) → a2 x = sv9 a K x) → OKd P (dyn a2) → RCd P cc2 (dyn a2) → RCf P cc2 (fxd a) → RB c' w' cc2 a2 := by
  obtain ⟨P, K, E, N, M, ⟨hP, a0, ho, hx, hd, hf⟩, ⟨hK, a4, c8, hp⟩, ⟨hE, a1, c2, he⟩, ⟨hN, aN, cN, hn⟩, ⟨hM, aM, cM, hm⟩⟩ := h
  obtain ⟨c', w', e1, e2, e3, e4, e5⟩ := remb hP hK ho hd c8 hp
  refine ⟨P, K, c', w', hP, hK, a0, a4, ho, hx, hd, hf, e1, ?_⟩
  intro cc2 a2 h2 ho2 hd2 hf2
  have lo : ∀ x, x < 90 → x ≠ 4 → ¬ (5 ≤ x ∧ x < 18) → a2 x = a x := fun x x1 x2 x3 => by rw [h2 x x3, sv9_lo hK x1 x2]
  have K8 : (if K = 8 then 8 else K + 1) ≤ 8 := by
    by_cases h : K = 8
    · rw [if_pos h]; omega
    · rw [if_neg h]; omega
  refine ⟨P, (if K = 8 then 8 else K + 1), E, N, M, ⟨hP, ?_, ho2, ?_, hd2, ?_⟩, ⟨K8, ?_, e3, ?_⟩, ⟨hE, ?_, ?_, ?_⟩, ⟨hN, ?_, ?_, ?_⟩, ⟨hM, ?_, ?_, ?_⟩⟩
  · rw [lo 0 (by omega) (by omega) (by omega), a0]
  · refine FXd_ext (fun j hj => ?_) hx
    exact lo (24 + j) (by omega) (by omega) (by omega)
  · refine ⟨fun j hj => ?_, ?_, ?_⟩
    · have := hf2.1 j hj
      refine ⟨this.1.trans (lo (18 + j) (by omega) (by omega) (by omega)).symm, this.2.trans (lo (24 + j) (by omega) (by omega) (by omega)).symm⟩
    · exact hf2.2.1.trans (lo 30 (by omega) (by omega) (by omega)).symm
    · exact hf2.2.2.trans (lo 31 (by omega) (by omega) (by omega)).symm
  · rw [h2 4 (by omega), sv9_4]
  · exact RPs_ext hP K8 (fun x hx => h2 x (by omega)) e5
  · rw [lo 1 (by omega) (by omega) (by omega), a1]
  · rw [e2 2 (by omega), c2]
  · intro j hj
    rw [e2 1 (by omega), he j hj, lo (32 + j) (by omega) (by omega) (by omega)]
  · rw [lo 2 (by omega) (by omega) (by omega), aN]
  · rw [e2 4 (by omega), cN]
  · intro j hj
    rw [e2 3 (by omega), lo (36 + j) (by omega) (by omega) (by omega)]
    exact hn j hj
  · rw [lo 3 (by omega) (by omega) (by omega), aM]
  · rw [e2 6 (by omega), cM]
  · intro j hj
    rw [e2 5 (by omega), lo (66 + j) (by omega) (by omega) (by omega)]
    exact hm j hj
/-- what a call may change besides the brief: nothing, or one refusal more -/
def SR (c0 c9 c0' c9' : Nat → Nat → Int32) : Prop := (c0' = c0 ∧ ∀ k, k ≠ 0 → c9' k = c9 k) ∨ (∃ i, i < 3 ∧ c0' = rs c0 5 (upd (c0 5) i (c0 5 i + 1)) ∧ c9' = rs c9 3 (upd (c9 3) i (c9 3 i + 1)))
