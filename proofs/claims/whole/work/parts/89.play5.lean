-- best play: what it comes to, and the class' way of finding it
def bet (q b x : Int32) : Int32 := if q = 0 then (if x ≤ b then b else x) else (if b ≤ x then b else x)
def ob (P S i : Nat) : Bool := decide (i < P) && !S.testBit i
theorem ob_opn {P S i : Nat} : ob P S i = true ↔ opn P S i := by
  unfold ob opn
  cases h : S.testBit i <;> simp
def FBx (g : Nat → Int32) (P S : Nat) (q : Int32) : Nat → Nat → Int32 → Int32
  | _, 0, b => b
  | i, m + 1, b => FBx g P S q (i + 1) m (if ob P S i = true then bet q b (g i) else b)
theorem FBx_t {g : Nat → Int32} {P S i m : Nat} {q b : Int32} (h : opn P S i) : FBx g P S q i (m + 1) b = FBx g P S q (i + 1) m (bet q b (g i)) := by
  rw [FBx, if_pos (ob_opn.mpr h)]
theorem FBx_f {g : Nat → Int32} {P S i m : Nat} {q b : Int32} (h : ¬ opn P S i) : FBx g P S q i (m + 1) b = FBx g P S q (i + 1) m b := by
  rw [FBx, if_neg (fun z => h (ob_opn.mp z))]
def evD (d : Nat → Int32) : Int32 := if d 9 = 0 then d 10 else -(d 10)
def WWu (u : (Nat → Int32) → Int32) (d : Nat → Int32) : Int32 := if spY d = 1 then bet (spW d) (u d) (u (spBow d)) else u d
def fbs (q : Int32) : Int32 := if q = 0 then -1000000 else 1000000
def UU (f : Nat → Nat → Int32) (P : Nat) : Nat → (Nat → Int32) → Int32
  | 0, d => evD d
  | r + 1, d => FBx (fun p => WWu (UU f P r) (spSay f d (nI p))) P (ix (d 0)) (spW d) 0 6 (fbs (spW d))
theorem bet_0 (b x : Int32) : (bet 0 b x).toInt = max b.toInt x.toInt := by
  unfold bet
  rw [if_pos rfl]
  by_cases h : x ≤ b
  · rw [if_pos h]
    rw [Int32.le_iff_toInt_le] at h
    omega
  · rw [if_neg h]
    rw [Int32.le_iff_toInt_le] at h
    omega
theorem bet_1 {q : Int32} (hq : ¬ q = 0) (b x : Int32) : (bet q b x).toInt = min b.toInt x.toInt := by
  unfold bet
  rw [if_neg hq]
  by_cases h : b ≤ x
  · rw [if_pos h]
    rw [Int32.le_iff_toInt_le] at h
    omega
  · rw [if_neg h]
    rw [Int32.le_iff_toInt_le] at h
    omega
theorem mxT (a b : Int32) : (if a < b then b else a).toInt = max a.toInt b.toInt := by
  by_cases h : a < b
  · rw [if_pos h]
    rw [Int32.lt_iff_toInt_lt] at h
    omega
  · rw [if_neg h]
    rw [Int32.lt_iff_toInt_lt] at h
    omega
theorem mnT (a b : Int32) : (if a < b then a else b).toInt = min a.toInt b.toInt := by
  by_cases h : a < b
  · rw [if_pos h]
    rw [Int32.lt_iff_toInt_lt] at h
    omega
  · rw [if_neg h]
    rw [Int32.lt_iff_toInt_lt] at h
    omega
theorem FBx_ge {g : Nat → Int32} {P S : Nat} : ∀ m i b, b.toInt ≤ (FBx g P S 0 i m b).toInt
  | 0, i, b => Int.le_refl _
  | m + 1, i, b => by
    rcases opn_d P S i with h | h
    · rw [FBx_t h]
      have := FBx_ge (g := g) (P := P) (S := S) m (i + 1) (bet 0 b (g i))
      rw [bet_0] at this
      omega
    · rw [FBx_f h]
      exact FBx_ge m (i + 1) b
theorem FBx_le {g : Nat → Int32} {P S : Nat} {q : Int32} (hq : ¬ q = 0) : ∀ m i b, (FBx g P S q i m b).toInt ≤ b.toInt
  | 0, i, b => Int.le_refl _
  | m + 1, i, b => by
    rcases opn_d P S i with h | h
    · rw [FBx_t h]
      have := FBx_le (g := g) (P := P) (S := S) hq m (i + 1) (bet q b (g i))
      rw [bet_1 hq] at this
      omega
    · rw [FBx_f h]
      exact FBx_le hq m (i + 1) b
def R99 (x : Int32) : Prop := -99 ≤ x.toInt ∧ x.toInt ≤ 99
theorem bet_R {q b x : Int32} (h1 : R99 b) (h2 : R99 x) : R99 (bet q b x) := by
  unfold bet
  split
  · split
    · exact h1
    · exact h2
  · split
    · exact h1
    · exact h2
theorem bet_far {q x : Int32} (h : R99 x) : bet q (fbs q) x = x := by
  obtain ⟨h1, h2⟩ := h
  unfold bet fbs
  have e1 : (-1000000 : Int32).toInt = -1000000 := rfl
  have e2 : (1000000 : Int32).toInt = 1000000 := rfl
  by_cases hq : q = 0
  · rw [if_pos hq, if_pos hq, if_neg (fun z => by rw [Int32.le_iff_toInt_le] at z; omega)]
  · rw [if_neg hq, if_neg hq, if_neg (fun z => by rw [Int32.le_iff_toInt_le] at z; omega)]
theorem FBx_R {g : Nat → Int32} {P S : Nat} {q : Int32} : ∀ m i b, (∀ p, i ≤ p → p < i + m → opn P S p → R99 (g p)) → R99 b → R99 (FBx g P S q i m b)
  | 0, i, b, hg, hb => hb
  | m + 1, i, b, hg, hb => by
    rcases opn_d P S i with h | h
    · rw [FBx_t h]
      exact FBx_R m (i + 1) _ (fun p p1 p2 => hg p (by omega) (by omega)) (bet_R hb (hg i (by omega) (by omega) h))
    · rw [FBx_f h]
      exact FBx_R m (i + 1) _ (fun p p1 p2 => hg p (by omega) (by omega)) hb
theorem FBx_RF {g : Nat → Int32} {P S : Nat} {q : Int32} : ∀ m i, (∀ p, i ≤ p → p < i + m → opn P S p → R99 (g p)) → (∃ p, i ≤ p ∧ p < i + m ∧ opn P S p) → R99 (FBx g P S q i m (fbs q))
  | 0, i, hg, hp => by
    obtain ⟨p, p1, p2, -⟩ := hp
    omega
  | m + 1, i, hg, hp => by
    rcases opn_d P S i with h | h
    · rw [FBx_t h, bet_far (hg i (by omega) (by omega) h)]
      exact FBx_R m (i + 1) _ (fun p p1 p2 => hg p (by omega) (by omega)) (hg i (by omega) (by omega) h)
    · rw [FBx_f h]
      obtain ⟨p, p1, p2, p3⟩ := hp
      have : p ≠ i := fun z => h (z ▸ p3)
      exact FBx_RF m (i + 1) (fun p p1 p2 => hg p (by omega) (by omega)) ⟨p, by omega, by omega, p3⟩
theorem pop_un : ∀ P, P ≤ 6 → ∀ S, S < 2 ^ P → pop S < P → (List.range 6).any (ob P S) = true := by decide +kernel
theorem opn_ex {P S : Nat} (hP : P ≤ 6) (hS : S < 2 ^ P) (h : pop S < P) : ∃ p, p < 6 ∧ opn P S p := by
  have := pop_un P hP S hS h
  rw [List.any_eq_true] at this
  obtain ⟨p, h1, h2⟩ := this
  exact ⟨p, List.mem_range.mp h1, ob_opn.mp h2⟩
/-- well-made, r points being unsaid -/
def OKs (P r : Nat) (d : Nat → Int32) : Prop := OKd P d ∧ ∃ S, S < 2 ^ P ∧ d 0 = nI S ∧ pop S + r = P
theorem OKs_ix {P r : Nat} {d : Nat → Int32} (hP : P ≤ 6) (h : OKs P r d) : ix (d 0) < 2 ^ P ∧ d 0 = nI (ix (d 0)) ∧ pop (ix (d 0)) + r = P := by
  obtain ⟨ho, S, hS, h0, hp⟩ := h
  have h64 := pow_le6 hP
  rw [h0, ix_nI (by omega)]
  exact ⟨hS, rfl, hp⟩
theorem OKs_say {P r p : Nat} {f : Nat → Nat → Int32} {d : Nat → Int32} (hP : P ≤ 6) (h : OKs P (r + 1) d) (ho : opn P (ix (d 0)) p) : OKs P r (spSay f d (nI p)) := by
  obtain ⟨h1, h2, h3⟩ := OKs_ix hP h
  have h64 := pow_le6 hP
  refine ⟨say_ok hP h.1 ho.1 h1 h2 ho.2, ix (d 0) ||| 2 ^ p, or_lt P hP _ h1 p ho.1, ?_, ?_⟩
  · rw [spSay_0, h2, ix_nI (by omega), or_bit _ (by omega) p (by have := ho.1; omega)]
  · rw [pop_or _ (by omega) p (by have := ho.1; omega) ho.2]
    omega
theorem spBow_0 {P : Nat} {d : Nat → Int32} (hP : P ≤ 6) (ho : OKd P d) (hy : spY d = 1) : spBow d 0 = d 0 := by
  obtain ⟨w, hw, ew⟩ := spW_lt hP ho
  obtain ⟨y1, -, -⟩ := spY1 hy
  obtain ⟨-, -, -, -, -, -, h12, -⟩ := ho
  rcases h12 with h | ⟨o, h1, h⟩
  · exact absurd h y1
  · unfold spBow
    rw [ew, h, ix_nI (by omega), ix_nI (by omega), upd_n (by omega), upd_n (by omega), upd_n (by omega), upd_n (by omega)]
theorem OKs_bow {P r : Nat} {d : Nat → Int32} (hP : P ≤ 6) (h : OKs P r d) (hy : spY d = 1) : OKs P r (spBow d) := by
  obtain ⟨ho, S, hS, h0, hp⟩ := h
  exact ⟨bow_ok hP ho hy, S, hS, (spBow_0 hP ho hy).trans h0, hp⟩
theorem evD_R {P : Nat} {d : Nat → Int32} (ho : OKd P d) : R99 (evD d) := by
  obtain ⟨-, -, -, -, -, hm, -⟩ := ho
  unfold evD
  split
  · exact hm
  · unfold R99
    rw [Int32.toInt_neg, Int.bmod_eq_of_le (by omega) (by omega)]
    omega
theorem WWu_R {P r : Nat} {u : (Nat → Int32) → Int32} (hP : P ≤ 6) (hu : ∀ d, OKs P r d → R99 (u d)) {d : Nat → Int32} (h : OKs P r d) : R99 (WWu u d) := by
  unfold WWu
  by_cases hy : spY d = 1
  · rw [if_pos hy]
    exact bet_R (hu d h) (hu _ (OKs_bow hP h hy))
  · rw [if_neg hy]
    exact hu d h
theorem UU_R {f : Nat → Nat → Int32} {P : Nat} (hP : P ≤ 6) : ∀ r d, OKs P r d → R99 (UU f P r d)
  | 0, d, h => evD_R h.1
  | r + 1, d, h => by
    obtain ⟨h1, h2, h3⟩ := OKs_ix hP h
    obtain ⟨p, p1, p2⟩ := opn_ex hP h1 (by omega)
    rw [UU]
    exact FBx_RF 6 0 (fun p _ _ ho => WWu_R hP (UU_R hP r) (OKs_say hP h ho)) ⟨p, by omega, by omega, p2⟩
/-- what a bounded search may answer -/
def AB (lo hi V v : Int) : Prop := (lo < V ∧ V < hi ∧ v = V) ∨ (V ≤ lo ∧ v ≤ lo) ∨ (hi ≤ V ∧ hi ≤ v)
def HU (f : Nat → Nat → Int32) (P : Nat) (ku : Nat → (Nat → Nat → Int32) → Int32 → Int32 → Int32 → Option (Int32 × (Nat → Nat → Int32))) (r : Nat) (V : (Nat → Int32) → Int32) : Prop := ∀ d cc (lo hi : Int32) dep, OKs P r d → CT P cc f d → -1000 ≤ lo.toInt → lo.toInt < hi.toInt → hi.toInt ≤ 1000 → dep + r ≤ 6 → ∃ v cc', ku FU cc lo hi (nI dep) = some (v, cc') ∧ CT P cc' f d ∧ AB lo.toInt hi.toInt (V d).toInt v.toInt
theorem CT_back {P : Nat} {cc f : Nat → Nat → Int32} {d d2 : Nat → Int32} {p : Int64} (hP : P ≤ 6) (hp : PKd P d p) (h : CT P cc f d2) : ∃ cc', md_X3_back FU cc p = some cc' ∧ CT P cc' f d := by
  obtain ⟨c1, e1, r1, z0, z2, z3, z5⟩ := back_ok hP hp h.1.1
  refine ⟨c1, e1, r1, fun j hj => ?_, ?_, ?_⟩
  · rw [z2, z3]; exact h.2.1 j hj
  · rw [z0]; exact h.2.2.1
  · rw [z0]; exact h.2.2.2
theorem spW01 {P : Nat} {d : Nat → Int32} (hP : P ≤ 6) (ho : OKd P d) : spW d = 0 ∨ spW d = 1 := by
  obtain ⟨w, hw, ew⟩ := spW_lt hP ho
  have : w = 0 ∨ w = 1 := by omega
  rcases this with rfl | rfl
  · exact Or.inl ew
  · exact Or.inr ew
theorem spk_ok {P : Nat} {cc f : Nat → Nat → Int32} {d : Nat → Int32} (hP : P ≤ 6) (ho : OKd P d) (h : CT P cc f d) : md_X3_speaker cc = some (spW d) := by
  obtain ⟨⟨S, hS, h0, h11⟩, -⟩ := ho
  rw [spk5 hP hS (h.1.2.1.trans h0), spW_eq hP hS h11]
theorem HW_of {f : Nat → Nat → Int32} {P r k : Nat} {ku : Nat → (Nat → Nat → Int32) → Int32 → Int32 → Int32 → Option (Int32 × (Nat → Nat → Int32))} {u : (Nat → Int32) → Int32} (hP : P ≤ 6) (h : HU f P ku r u) : HU f P (fun F c lo hi dep => md_X0_worth k ku F c lo hi dep) r (WWu u) := by
  intro d cc lo hi dep ho hc h1 h2 h3 h4
  obtain ⟨v, c1, e1, hc1, hv⟩ := h d cc lo hi dep ho hc h1 h2 h3 h4
  have em := may5 hP ho.1 hc1.1
  have es := spk_ok hP ho.1 hc1
  rcases spY01 d with hy | hy
  · refine ⟨v, c1, ?_, hc1, ?_⟩
    · show md_X0_worth k ku FU cc lo hi (nI dep) = _
      unfold md_X0_worth
      rw [e1, bd2_s, em, bd1_s, hy, if00]
    · unfold WWu
      rw [if_neg (by rw [hy]; decide)]
      exact hv
  · have hob := OKs_bow hP ho hy
    obtain ⟨p0, ek, hp0⟩ := keep_ok hP ho.1 hc1.1
    obtain ⟨c2, e2, hc2⟩ := CT_mbow hP ho.1 hc1
    unfold mbow at hc2
    rw [if_pos hy] at hc2
    unfold WWu
    rw [if_pos hy]
    rcases spW01 hP ho.1 with hw | hw
    · -- counsel 0 chooses
      rw [hw]
      by_cases hlt : v < hi
      · have hlt' := hlt
        rw [Int32.lt_iff_toInt_lt] at hlt'
        have hl2 := mxT lo v
        obtain ⟨v2, c3, e3, hc3, hv2⟩ := h (spBow d) c2 (if lo < v then v else lo) hi dep hob hc2 (by rw [hl2]; omega) (by rw [hl2]; omega) h3 h4
        obtain ⟨c4, e4, hc4⟩ := CT_back hP hp0 hc3
        refine ⟨if v2 < v then v else v2, c4, ?_, hc4, ?_⟩
        · show md_X0_worth k ku FU cc lo hi (nI dep) = _
          unfold md_X0_worth jd_X0_worth_56 jd_X0_worth_98
          rw [e1, bd2_s, em, bd1_s, hy, if10, es, bd1_s, hw, lt1_r, if00, if10, if_pos hlt, ek, bd1_s, e2, bd1_s, if10, e3, bd2_s, e4, bd1_s, if10]
        · rw [bet_0, mxT]
          rw [hl2] at hv2
          unfold AB at hv hv2 ⊢
          omega
      · refine ⟨v, c1, ?_, hc1, ?_⟩
        · show md_X0_worth k ku FU cc lo hi (nI dep) = _
          unfold md_X0_worth
          rw [e1, bd2_s, em, bd1_s, hy, if10, es, bd1_s, hw, lt1_r, if00, if10, if_neg hlt]
        · rw [Int32.lt_iff_toInt_lt] at hlt
          rw [bet_0]
          unfold AB at hv ⊢
          omega
    · -- counsel 1 chooses
      rw [hw]
      by_cases hlt : lo < v
      · have hlt' := hlt
        rw [Int32.lt_iff_toInt_lt] at hlt'
        have hl2 := mnT v hi
        obtain ⟨v2, c3, e3, hc3, hv2⟩ := h (spBow d) c2 lo (if v < hi then v else hi) dep hob hc2 h1 (by rw [hl2]; omega) (by rw [hl2]; omega) h4
        obtain ⟨c4, e4, hc4⟩ := CT_back hP hp0 hc3
        refine ⟨if v < v2 then v else v2, c4, ?_, hc4, ?_⟩
        · show md_X0_worth k ku FU cc lo hi (nI dep) = _
          unfold md_X0_worth jd_X0_worth_56 jd_X0_worth_98
          rw [e1, bd2_s, em, bd1_s, hy, if10, es, bd1_s, hw, lt1_r, if10, if00, if_pos hlt, ek, bd1_s, e2, bd1_s, if00, e3, bd2_s, e4, bd1_s, if00]
        · rw [bet_1 ne10, mnT]
          rw [hl2] at hv2
          unfold AB at hv hv2 ⊢
          omega
      · refine ⟨v, c1, ?_, hc1, ?_⟩
        · show md_X0_worth k ku FU cc lo hi (nI dep) = _
          unfold md_X0_worth
          rw [e1, bd2_s, em, bd1_s, hy, if10, es, bd1_s, hw, lt1_r, if10, if00, if_neg hlt]
        · rw [Int32.lt_iff_toInt_lt] at hlt
          rw [bet_1 ne10]
          unfold AB at hv ⊢
          omega
-- the loop over points, counsel 0 choosing; then counsel 1
theorem abmax {f : Nat → Nat → Int32} {P r k n dep S : Nat} {kw : Nat → (Nat → Nat → Int32) → Int32 → Int32 → Int32 → Option (Int32 × (Nat → Nat → Int32))} {W : (Nat → Int32) → Int32} {d : Nat → Int32} {p0 : Int64} {lo hi : Int32} (hP : P ≤ 6) (h : HU f P kw r W) (ho : OKs P (r + 1) d) (hS : S = ix (d 0)) (hp0 : PKd P d p0) (h1 : -1000 ≤ lo.toInt) (h2 : lo.toInt < hi.toInt) (h3 : hi.toInt ≤ 1000) (h4 : dep + (r + 1) ≤ 6) : ∀ m i cc (b lst B : Int32), i + m = 6 → CT P cc f d → AB lo.toInt hi.toInt B.toInt b.toInt → lst.toInt = max lo.toInt b.toInt → ∃ v cc', ld_X0_worthUnbowed_67 k kw FU (n + 1 + m) cc (nI dep) (nI (2 ^ P - 1 - S)) 1 b lst hi p0 (nI i) = some (v, cc') ∧ CT P cc' f d ∧ AB lo.toInt hi.toInt (FBx (fun p => W (spSay f d (nI p))) P S 0 i m B).toInt v.toInt
  | 0, i, cc, b, lst, B, hm, hc, hb, hl => by
    have : i = 6 := by omega
    subst this
    have l : (6 : Int32) ≤ nI 6 := by decide
    exact ⟨b, cc, by rw [Nat.add_zero, ld_X0_worthUnbowed_67, if_pos l], hc, hb⟩
  | m + 1, i, cc, b, lst, B, hm, hc, hb, hl => by
    have l : ¬ (6 : Int32) ≤ nI i := nI_ge (b := 6) (by omega) (by omega)
    obtain ⟨s1, s2, s3⟩ := OKs_ix hP ho
    rw [← hS] at s1 s2 s3
    by_cases hst : hi ≤ lst
    · refine ⟨b, cc, ?_, hc, ?_⟩
      · show ld_X0_worthUnbowed_67 k kw FU (n + 1 + m + 1) _ _ _ _ _ _ _ _ _ = _
        rw [ld_X0_worthUnbowed_67, if_neg l, if_pos hst]
      · have := FBx_ge (g := fun p => W (spSay f d (nI p))) (P := P) (S := S) (m + 1) i B
        rw [Int32.le_iff_toInt_le] at hst
        unfold AB at hb ⊢
        omega
    · have hst' := hst
      rw [Int32.le_iff_toInt_le] at hst'
      have hu := has_un (P := P) (S := S) (i := i) hP s1 (by omega)
      rcases opn_d P S i with hop | hop
      · obtain ⟨c1, e1, hc1⟩ := CT_say hP ho.1 hc hop.1
        obtain ⟨v, c2, e2, hc2, hv⟩ := h (spSay f d (nI i)) c1 lst hi (dep + 1) (OKs_say hP ho (by rw [← hS]; exact hop)) hc1 (by omega) (by omega) h3 (by omega)
        obtain ⟨c3, e3, hc3⟩ := CT_back hP hp0 hc2
        have hbv := mxT b v
        obtain ⟨v', cc', e4, hc4, hv4⟩ := abmax (k := k) (n := n) hP h ho hS hp0 h1 h2 h3 h4 m (i + 1) c3 (if b < v then v else b) (if lst < (if b < v then v else b) then (if b < v then v else b) else lst) (bet 0 B (W (spSay f d (nI i)))) (by omega) hc3 (by
          rw [bet_0, hbv]
          rw [hl] at hv
          unfold AB at hb hv ⊢
          omega) (by
          rw [mxT, hbv]
          omega)
        refine ⟨v', cc', ?_, hc4, ?_⟩
        · show ld_X0_worthUnbowed_67 k kw FU (n + 1 + m + 1) _ _ _ _ _ _ _ _ _ = _
          rw [ld_X0_worthUnbowed_67, if_neg l, if_neg hst, hu.1 hop, bd1_s, if10, e1, bd1_s, nI_1, e2, bd2_s, e3, bd1_s, if10]
          unfold jd_X0_worthUnbowed_138 jd_X0_worthUnbowed_157
          rw [if10, if10, nI_1]
          exact e4
        · rw [FBx_t hop]
          exact hv4
      · obtain ⟨v', cc', e4, hc4, hv4⟩ := abmax (k := k) (n := n) hP h ho hS hp0 h1 h2 h3 h4 m (i + 1) cc b lst B (by omega) hc hb hl
        refine ⟨v', cc', ?_, hc4, ?_⟩
        · show ld_X0_worthUnbowed_67 k kw FU (n + 1 + m + 1) _ _ _ _ _ _ _ _ _ = _
          rw [ld_X0_worthUnbowed_67, if_neg l, if_neg hst, hu.2 hop, bd1_s, if00, nI_1]
          exact e4
        · rw [FBx_f hop]
          exact hv4
theorem abmin {f : Nat → Nat → Int32} {P r k n dep S : Nat} {kw : Nat → (Nat → Nat → Int32) → Int32 → Int32 → Int32 → Option (Int32 × (Nat → Nat → Int32))} {W : (Nat → Int32) → Int32} {d : Nat → Int32} {p0 : Int64} {lo hi : Int32} (hP : P ≤ 6) (h : HU f P kw r W) (ho : OKs P (r + 1) d) (hS : S = ix (d 0)) (hp0 : PKd P d p0) (h1 : -1000 ≤ lo.toInt) (h2 : lo.toInt < hi.toInt) (h3 : hi.toInt ≤ 1000) (h4 : dep + (r + 1) ≤ 6) : ∀ m i cc (b mst B : Int32), i + m = 6 → CT P cc f d → AB lo.toInt hi.toInt B.toInt b.toInt → mst.toInt = min hi.toInt b.toInt → ∃ v cc', ld_X0_worthUnbowed_67 k kw FU (n + 1 + m) cc (nI dep) (nI (2 ^ P - 1 - S)) 0 b lo mst p0 (nI i) = some (v, cc') ∧ CT P cc' f d ∧ AB lo.toInt hi.toInt (FBx (fun p => W (spSay f d (nI p))) P S 1 i m B).toInt v.toInt
  | 0, i, cc, b, mst, B, hm, hc, hb, hl => by
    have : i = 6 := by omega
    subst this
    have l : (6 : Int32) ≤ nI 6 := by decide
    exact ⟨b, cc, by rw [Nat.add_zero, ld_X0_worthUnbowed_67, if_pos l], hc, hb⟩
  | m + 1, i, cc, b, mst, B, hm, hc, hb, hl => by
    have l : ¬ (6 : Int32) ≤ nI i := nI_ge (b := 6) (by omega) (by omega)
    obtain ⟨s1, s2, s3⟩ := OKs_ix hP ho
    rw [← hS] at s1 s2 s3
    by_cases hst : mst ≤ lo
    · refine ⟨b, cc, ?_, hc, ?_⟩
      · show ld_X0_worthUnbowed_67 k kw FU (n + 1 + m + 1) _ _ _ _ _ _ _ _ _ = _
        rw [ld_X0_worthUnbowed_67, if_neg l, if_pos hst]
      · have := FBx_le (g := fun p => W (spSay f d (nI p))) (P := P) (S := S) ne10 (m + 1) i B
        rw [Int32.le_iff_toInt_le] at hst
        unfold AB at hb ⊢
        omega
    · have hst' := hst
      rw [Int32.le_iff_toInt_le] at hst'
      have hu := has_un (P := P) (S := S) (i := i) hP s1 (by omega)
      rcases opn_d P S i with hop | hop
      · obtain ⟨c1, e1, hc1⟩ := CT_say hP ho.1 hc hop.1
        obtain ⟨v, c2, e2, hc2, hv⟩ := h (spSay f d (nI i)) c1 lo mst (dep + 1) (OKs_say hP ho (by rw [← hS]; exact hop)) hc1 (by omega) (by omega) (by omega) (by omega)
        obtain ⟨c3, e3, hc3⟩ := CT_back hP hp0 hc2
        have hbv := mnT v b
        obtain ⟨v', cc', e4, hc4, hv4⟩ := abmin (k := k) (n := n) hP h ho hS hp0 h1 h2 h3 h4 m (i + 1) c3 (if v < b then v else b) (if (if v < b then v else b) < mst then (if v < b then v else b) else mst) (bet 1 B (W (spSay f d (nI i)))) (by omega) hc3 (by
          rw [bet_1 ne10, hbv]
          rw [hl] at hv
          unfold AB at hb hv ⊢
          omega) (by
          rw [mnT, hbv]
          omega)
        refine ⟨v', cc', ?_, hc4, ?_⟩
        · show ld_X0_worthUnbowed_67 k kw FU (n + 1 + m + 1) _ _ _ _ _ _ _ _ _ = _
          rw [ld_X0_worthUnbowed_67, if_neg l, if_neg hst, hu.1 hop, bd1_s, if10, e1, bd1_s, nI_1, e2, bd2_s, e3, bd1_s, if00]
          unfold jd_X0_worthUnbowed_138 jd_X0_worthUnbowed_157
          rw [if00, if00, lt1_r, nI_1]
          exact e4
        · rw [FBx_t hop]
          exact hv4
      · obtain ⟨v', cc', e4, hc4, hv4⟩ := abmin (k := k) (n := n) hP h ho hS hp0 h1 h2 h3 h4 m (i + 1) cc b mst B (by omega) hc hb hl
        refine ⟨v', cc', ?_, hc4, ?_⟩
        · show ld_X0_worthUnbowed_67 k kw FU (n + 1 + m + 1) _ _ _ _ _ _ _ _ _ = _
          rw [ld_X0_worthUnbowed_67, if_neg l, if_neg hst, hu.2 hop, bd1_s, if00, nI_1]
          exact e4
        · rw [FBx_f hop]
          exact hv4
theorem ev_ok {P : Nat} {cc f : Nat → Nat → Int32} {d : Nat → Int32} (h : CT P cc f d) : md_X3_worthForCounselZero cc = some (evD d) := by
  have c7 := h.1.2.2.2.2.2.2.1
  have c8 := h.1.2.2.2.2.2.1
  unfold md_X3_worthForCounselZero md_X3_meritOfChair evD
  rw [chr5, bd1_s, lt1_r, bd1_s, c7, c8]
  by_cases h9 : d 9 = 0
  · rw [if_pos h9, if_pos h9, if_pos rfl]
  · rw [if_neg h9, if_neg h9, if_neg ne10]
theorem HU_0 {f : Nat → Nat → Int32} {P k : Nat} {kw : Nat → (Nat → Nat → Int32) → Int32 → Int32 → Int32 → Option (Int32 × (Nat → Nat → Int32))} (hP : P ≤ 6) : HU f P (fun F c lo hi dep => md_X0_worthUnbowed k kw F c lo hi dep) 0 (UU f P 0) := by
  intro d cc lo hi dep ho hc h1 h2 h3 h4
  obtain ⟨s1, s2, s3⟩ := OKs_ix hP ho
  have full : ∀ P, P ≤ 6 → ∀ S, S < 2 ^ P → pop S + 0 = P → 2 ^ P - 1 - S = 0 := by decide +kernel
  refine ⟨evD d, cc, ?_, hc, ?_⟩
  · show md_X0_worthUnbowed k kw FU cc lo hi (nI dep) = _
    unfold md_X0_worthUnbowed jd_X0_worthUnbowed_17
    rw [un5 hP s1 hc.1.1 (hc.1.2.1.trans s2), bd1_s, full P hP _ s1 s3, if_pos (show nI 0 = 0 from rfl), ev_ok hc, bd1_s]
  · show AB _ _ (evD d).toInt _
    unfold AB
    omega
theorem HU_s {f : Nat → Nat → Int32} {P k r : Nat} {kw : Nat → (Nat → Nat → Int32) → Int32 → Int32 → Int32 → Option (Int32 × (Nat → Nat → Int32))} (hP : P ≤ 6) (h : HU f P kw r (WWu (UU f P r))) : HU f P (fun F c lo hi dep => md_X0_worthUnbowed k kw F c lo hi dep) (r + 1) (UU f P (r + 1)) := by
  intro d cc lo hi dep ho hc h1 h2 h3 h4
  obtain ⟨s1, s2, s3⟩ := OKs_ix hP ho
  have h64 := pow_le6 hP
  have nfull : ∀ P, P ≤ 6 → ∀ S, S < 2 ^ P → pop S < P → 0 < 2 ^ P - 1 - S := by decide +kernel
  have hu0 := nfull P hP _ s1 (by omega)
  obtain ⟨q, hq⟩ : ∃ q, FU = q + 1 + 6 := ⟨1999993, by decide⟩
  obtain ⟨p0, ek, hp0⟩ := keep_ok hP ho.1 hc.1
  have l6 : nI dep < (6 : Int32) := nI_lt (b := 6) (by omega) (by omega)
  have em1 : (-1000000 : Int32).toInt = -1000000 := rfl
  have em2 : (1000000 : Int32).toInt = 1000000 := rfl
  have em3 : (-1000 : Int32).toInt = -1000 := rfl
  have em4 : (1000 : Int32).toInt = 1000 := rfl
  rcases spW01 hP ho.1 with hw | hw
  · obtain ⟨v, cc', e1, hc1, hv⟩ := abmax (k := k) (n := q) hP h ho rfl hp0 h1 h2 h3 h4 6 0 cc (-1000) lo (-1000000) (by omega) hc (by unfold AB; omega) (by omega)
    rw [← hq] at e1
    refine ⟨v, cc', ?_, hc1, ?_⟩
    · show md_X0_worthUnbowed k kw FU cc lo hi (nI dep) = _
      unfold md_X0_worthUnbowed
      rw [un5 hP s1 hc.1.1 (hc.1.2.1.trans s2), bd1_s, if_neg (nI_ne0 hu0 (by omega)), if_pos l6, spk_ok hP ho.1 hc, bd1_s, hw, lt1_r, if00, lt1_r, if10, ek, bd1_s]
      exact e1
    · rw [UU, hw]
      exact hv
  · obtain ⟨v, cc', e1, hc1, hv⟩ := abmin (k := k) (n := q) hP h ho rfl hp0 h1 h2 h3 h4 6 0 cc 1000 hi 1000000 (by omega) hc (by unfold AB; omega) (by omega)
    rw [← hq] at e1
    refine ⟨v, cc', ?_, hc1, ?_⟩
    · show md_X0_worthUnbowed k kw FU cc lo hi (nI dep) = _
      unfold md_X0_worthUnbowed
      rw [un5 hP s1 hc.1.1 (hc.1.2.1.trans s2), bd1_s, if_neg (nI_ne0 hu0 (by omega)), if_pos l6, spk_ok hP ho.1 hc, bd1_s, hw, lt1_r, if10, lt1_r, if00, ek, bd1_s]
      exact e1
    · rw [UU, hw]
      exact hv
theorem wu_ok {f : Nat → Nat → Int32} {P : Nat} (hP : P ≤ 6) : ∀ k r, r < k → HU f P (wuD k) r (UU f P r)
  | 0, r, h => by omega
  | k + 1, 0, h => HU_0 hP
  | k + 1, r + 1, h => HU_s hP (HW_of hP (wu_ok hP k r (by omega)))
theorem worth_ok {f : Nat → Nat → Int32} {P : Nat} (hP : P ≤ 6) (r : Nat) (h : r < 8) : HU f P (fun F c lo hi dep => md_X0_worth 8 (wuD 8) F c lo hi dep) r (WWu (UU f P r)) := HW_of hP (wu_ok hP 8 r h)
