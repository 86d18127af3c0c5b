-- the calls: play, settle
theorem bU_le : ∀ r, r < 6 → bU (r + 1) ≤ 300000 := by decide +kernel
/-- the first best choice at the first level -/
def FC (f : Nat → Nat → Int32) (P : Nat) : Nat → (Nat → Int32) → Int32
  | 0, _ => -1
  | r + 1, d => FCx (fun p => WWu (UU f P r) (spSay f d (nI p))) P (ix (d 0)) (spW d) 0 6 (fbs (spW d)) (-1)
theorem solve_ok {P r : Nat} {f : Nat → Nat → Int32} {a d : Nat → Int32} {c : Nat → Nat → Int32} {w : Nat → Nat → Int64} (hP : P ≤ 6) (hx : FXd P f) (hr : r ≤ 6) (ho : OKs P r d) (hg : GG P a d) (hR : RV P f a c) (hl : LV c 0 d (-1)) (hb : BC c 0 (-1) (fbs (spW d))) : ∃ e, md_X9_solve FU c w = some (UU f P r d, e) ∧ e 14 0 = FC f P r d ∧ ∀ k, (k < 6 ∨ 14 < k) → e k = c k := by
  have hR' : RV P f a (rs c 14 (fun _ => (-1 : Int32))) := by
    unfold RV
    rw [rs_n _ _ (by omega)]
    exact hR
  have hl' : LV (rs c 14 (fun _ => (-1 : Int32))) 0 d (-1) := by
    unfold LV
    rw [rs_n _ _ (by omega), rs_n _ _ (by omega), rs_n _ _ (by omega), rs_n _ _ (by omega), rs_n _ _ (by omega), rs_n _ _ (by omega)]
    exact hl
  have hb' : BC (rs c 14 (fun _ => (-1 : Int32))) 0 (-1) (fbs (spW d)) := by
    unfold BC
    rw [rs_n _ _ (by omega), rs_n _ _ (by omega)]
    exact hb
  unfold md_X9_solve
  match r, hr, ho with
  | 0, hr, ho =>
    rw [show (0 : Int32) = nI 0 from rfl, isEnd_f w hP ho (by omega) hR' hl' (Or.inl rfl), bd1_s, if_neg (show ¬ (1 : Int32) = nI 0 by decide), lt1_r, hl.2.1, hl.2.2.1]
    refine ⟨_, rfl, ?_, fun k hk => rs_n _ _ (by omega)⟩
    rw [rs_s]
    rfl
  | r + 1, hr, ho =>
    obtain ⟨s1, s2, s3⟩ := OKs_ix hP ho
    have hc := cnt_all P hP _ s1
    obtain ⟨k, e, h1, h2, h3, h4, h5⟩ := UL hP hx (WST_of hP (UST_all (a := a) (w := w) hP hx r)) ho (v := 0) (by omega) hg (Or.inl rfl) 7 6 0 (rs c 14 (fun _ => (-1 : Int32))) (fbs (spW d)) (by omega) (by omega) (by omega) hR' hl' ⟨-1, hb', by decide⟩
    rw [show cnt P (ix (d 0)) 0 6 = r + 1 from by omega] at h1
    have hbu := bU_le r (by omega)
    rw [bU] at hbu
    have hF : FU = 2000000 := rfl
    obtain ⟨n, hn⟩ : ∃ n, FU = n + 1 + k := ⟨1999999 - k, by omega⟩
    have h6 := h5 (n + 1)
    rw [← hn] at h6
    refine ⟨e, ?_, ?_, fun k hk => ?_⟩
    · rw [show (0 : Int32) = nI 0 from rfl, isEnd_n w hP ho (by omega) hR' hl', bd1_s, if_pos (show (0 : Int32) = nI 0 from rfl), h6]
      unfold jd_X9_solve_107
      rw [if_pos (show nI 0 + (-1 : Int32) < 0 by decide), ld_X9_solve_41, if_pos (show nI 0 + (-1 : Int32) < 0 by decide), h4]
      rfl
    · rw [h3, if_pos rfl, rs_s]
      rfl
    · rw [h2.2.2 k hk, rs_n _ _ (by omega)]
theorem layF_n {P : Nat} {c : Nat → Nat → Int32} (w : Nat → Nat → Int64) (hP : P ≤ 6) (ho : OKd P (dyn (c 0))) : ∃ e, md_X9_layFirst c w 0 = some e ∧ LV e 0 (dyn (c 0)) (-1) ∧ BC e 0 (-1) (fbs (spW (dyn (c 0)))) ∧ ∀ k, (k < 6 ∨ 13 < k) → e k = c k := by
  obtain ⟨q, hq, eq⟩ := spW_lt hP ho
  have ew : c 0 16 - c 0 16 / 2 * 2 = nI q := eq
  have i1 : inb (nI q) 28 := inb_nI (by omega) (by omega)
  unfold md_X9_layFirst
  rw [if_pos rfl, lt1_r, upd_s, ew, if_pos i1, if_pos rfl, lt1_r, lt1_r, if_pos i1, show (0 : Int32) = nI 0 from rfl, open9 _ _ (by omega), bd1_s, ix_nI (by omega)]
  have hq2 : q = 0 ∨ q = 1 := by omega
  refine ⟨_, rfl, ⟨?_, ?_, ?_, ?_, ?_, ?_, ?_⟩, ⟨?_, ?_⟩, fun k hk => ?_⟩
  · simp [rs, upd, dyn]
  · simp [rs, upd, dyn]
  · simp [rs, upd, dyn]
  · simp [rs, upd, dyn]
  · rcases hq2 with rfl | rfl
    · simp [rs, upd, dyn, nI_0]
    · simp [rs, upd, dyn]
  · rcases hq2 with rfl | rfl
    · simp [rs, upd, dyn]
    · simp [rs, upd, dyn, nI_0]
  · simp [rs, upd]
  · simp [rs, upd]
  · simp [rs, upd, dyn, spW]
  · simp only [rs]
    rw [if_neg (by omega), if_neg (by omega), if_neg (by omega), if_neg (by omega), if_neg (by omega), if_neg (by omega), if_neg (by omega), if_neg (by omega)]
theorem layF_b {P : Nat} {c : Nat → Nat → Int32} (w : Nat → Nat → Int64) (hP : P ≤ 6) (ho : OKd P (dyn (c 0))) (hy : spY (dyn (c 0)) = 1) : ∃ e, md_X9_layFirst c w 1 = some e ∧ LV e 0 (spBow (dyn (c 0))) (-1) ∧ BC e 0 (-1) (fbs (spW (spBow (dyn (c 0))))) ∧ ∀ k, (k < 6 ∨ 13 < k) → e k = c k := by
  obtain ⟨q, hq, eq⟩ := spW_lt hP ho
  have ew : c 0 16 - c 0 16 / 2 * 2 = nI q := eq
  have i1 : inb (nI q) 28 := inb_nI (by omega) (by omega)
  obtain ⟨sw, -⟩ := spW_bow hP ho hy
  obtain ⟨y1, -, -⟩ := spY1 hy
  have ho2 := ho
  obtain ⟨-, -, -, -, -, -, h12, -⟩ := ho2
  rcases h12 with h12 | ⟨o, ho1, h12⟩
  · exact absurd h12 y1
  have sb : spBow (dyn (c 0)) = upd (upd (upd (upd (dyn (c 0)) (7 + q) (dyn (c 0) (7 + q) - 1)) (1 + o) (dyn (c 0) (1 + o) - 1)) 9 (1 - dyn (c 0) 9)) 12 (-1) := by
    unfold spBow
    rw [eq, h12, ix_nI (by omega), ix_nI (by omega)]
  have sb0 : spBow (dyn (c 0)) 0 = c 0 5 := by rw [sb, upd_n (by omega), upd_n (by omega), upd_n (by omega), upd_n (by omega)]; rfl
  have sb9 : spBow (dyn (c 0)) 9 = 1 - c 0 14 := by rw [sb, upd_n (by omega), upd_s]; rfl
  have sb10 : spBow (dyn (c 0)) 10 = c 0 15 := by rw [sb, upd_n (by omega), upd_n (by omega), upd_n (by omega), upd_n (by omega)]; rfl
  have sb11 : spBow (dyn (c 0)) 11 = c 0 16 := by rw [sb, upd_n (by omega), upd_n (by omega), upd_n (by omega), upd_n (by omega)]; rfl
  have sb7 : spBow (dyn (c 0)) 7 = upd (dyn (c 0)) (7 + q) (dyn (c 0) (7 + q) - 1) 7 := by rw [sb, upd_n (k := 12) (by omega), upd_n (k := 9) (by omega), upd_n (k := 1 + o) (by omega)]
  have sb8 : spBow (dyn (c 0)) 8 = upd (dyn (c 0)) (7 + q) (dyn (c 0) (7 + q) - 1) 8 := by rw [sb, upd_n (k := 12) (by omega), upd_n (k := 9) (by omega), upd_n (k := 1 + o) (by omega)]
  unfold md_X9_layFirst
  rw [if_neg ne10, lt1_r, upd_s, ew, if_pos i1, if_neg ne10, lt1_r, lt1_r, if_pos i1, show (0 : Int32) = nI 0 from rfl, open9 _ _ (by omega), bd1_s, ix_nI (by omega), sw]
  have hq2 : q = 0 ∨ q = 1 := by omega
  refine ⟨_, rfl, ⟨?_, ?_, ?_, ?_, ?_, ?_, ?_⟩, ⟨?_, ?_⟩, fun k hk => ?_⟩
  · rw [sb0]
    simp [rs, upd]
  · rw [sb9]
    simp [rs, upd]
  · rw [sb10]
    simp [rs, upd]
  · rw [sb11]
    simp [rs, upd]
  · rw [sb7]
    rcases hq2 with rfl | rfl
    · simp [rs, upd, dyn]
    · simp [rs, upd, dyn]
  · rw [sb8]
    rcases hq2 with rfl | rfl
    · simp [rs, upd, dyn]
    · simp [rs, upd, dyn]
  · simp [rs, upd]
  · simp [rs, upd]
  · simp [rs, upd, dyn, spW]
  · simp only [rs]
    rw [if_neg (by omega), if_neg (by omega), if_neg (by omega), if_neg (by omega), if_neg (by omega), if_neg (by omega), if_neg (by omega), if_neg (by omega)]
def KP (c e : Nat → Nat → Int32) : Prop := ∀ k, (k < 6 ∨ 14 < k) → e k = c k
theorem KP_KE {c d : Nat → Nat → Int32} (h : KP c d) : KE c d := fun k hk => h k (by omega)
theorem KP_t {a b c : Nat → Nat → Int32} (h1 : KP a b) (h2 : KP b c) : KP a c := fun k hk => (h2 k hk).trans (h1 k hk)
/-- the row as the searches need it -/
def RT (P r : Nat) (c : Nat → Nat → Int32) : Prop := P ≤ 6 ∧ r ≤ 6 ∧ c 0 0 = nI P ∧ FXd P (fxd (c 0)) ∧ OKs P r (dyn (c 0))
theorem RT_K {P r : Nat} {c e : Nat → Nat → Int32} (h : RT P r c) (k : KP c e) : RT P r e := by
  unfold RT
  rw [k 0 (by omega)]
  exact h
theorem RV_0 {P r : Nat} {c e : Nat → Nat → Int32} (h : RT P r c) (he : e 0 = c 0) : RV P (fxd (c 0)) (dyn (c 0)) e := by
  unfold RV
  rw [he]
  exact ⟨h.2.2.1, fxd_RRf P _, fun j _ => by show c 0 (6 + j) = c 0 (5 + (1 + j)); rw [show 5 + (1 + j) = 6 + j from by omega]⟩
theorem solveBy_n {P r : Nat} {c : Nat → Nat → Int32} {w : Nat → Nat → Int64} (h : RT P r c) : ∃ e, md_X9_solveBy FU c w 0 = some (UU (fxd (c 0)) P r (dyn (c 0)), e) ∧ e 14 0 = FC (fxd (c 0)) P r (dyn (c 0)) ∧ KP c e := by
  obtain ⟨e, e1, l1, b1, k1⟩ := layF_n w h.1 h.2.2.2.2.1
  obtain ⟨e2, f1, f2, f3⟩ := solve_ok (w := w) h.1 h.2.2.2.1 h.2.1 h.2.2.2.2 (fun _ _ => rfl) (RV_0 h (k1 0 (by omega))) l1 b1
  unfold md_X9_solveBy
  rw [e1, bd1_s, f1, bd2_s]
  exact ⟨e2, rfl, f2, fun k hk => (f3 k hk).trans (k1 k (by omega))⟩
theorem solveBy_b {P r : Nat} {c : Nat → Nat → Int32} {w : Nat → Nat → Int64} (h : RT P r c) (hy : spY (dyn (c 0)) = 1) : ∃ e, md_X9_solveBy FU c w 1 = some (UU (fxd (c 0)) P r (spBow (dyn (c 0))), e) ∧ KP c e := by
  obtain ⟨hP, hr, h0, hx, ho⟩ := h
  obtain ⟨e, e1, l1, b1, k1⟩ := layF_b w hP ho.1 hy
  obtain ⟨sw, sg⟩ := spW_bow hP ho.1 hy
  have gb : GG P (dyn (c 0)) (spBow (dyn (c 0))) := fun j hj => by
    rw [spBow_0 hP ho.1 hy] at hj
    obtain ⟨y1, -, -⟩ := spY1 hy
    have ho2 := ho.1
    obtain ⟨-, -, -, -, -, -, h12, hls⟩ := ho2
    rcases h12 with h12 | ⟨o, ho1, h12⟩
    · exact absurd h12 y1
    · obtain ⟨s1, s2, s3⟩ := OKs_ix hP ho
      have hb := hls _ o s1 ho1 s2 h12
      have : j ≠ o := fun z => by
        have := hj.2
        rw [z, hb] at this
        exact absurd this (by decide)
      exact sg o h12 ho1 j hj.1 this
  obtain ⟨e2, f1, f2, f3⟩ := solve_ok (w := w) hP hx hr (OKs_bow hP ho hy) gb (RV_0 ⟨hP, hr, h0, hx, ho⟩ (k1 0 (by omega))) l1 b1
  unfold md_X9_solveBy
  rw [e1, bd1_s, f1, bd2_s]
  exact ⟨e2, rfl, fun k hk => (f3 k hk).trans (k1 k (by omega))⟩
theorem bet_same (q x : Int32) : bet q x x = x := by
  unfold bet
  split
  · split <;> rfl
  · split <;> rfl
theorem j22 {c : Nat → Nat → Int32} {w : Nat → Nat → Int64} (x s : Int32) : jd_X9_playIs_22 FU w c x s = some (bet (spW (dyn (c 0))) x s, c) := by
  have ew : c 0 16 - c 0 16 / 2 * 2 = spW (dyn (c 0)) := rfl
  unfold jd_X9_playIs_22 bet
  rw [lt1_r, ew]
  by_cases h0 : spW (dyn (c 0)) = 0
  · rw [if_pos h0, if_pos h0]
    by_cases h : s ≤ x
    · rw [if_pos h, if_pos h, if_pos rfl, lt1_r]
    · rw [if_neg h, if_neg h, if_neg ne10, lt1_r]
  · rw [if_neg h0, if_neg h0]
    by_cases h : x ≤ s
    · rw [if_pos h, if_pos h, if_pos rfl, lt1_r]
    · rw [if_neg h, if_neg h, if_neg ne10, lt1_r]
theorem playIs_ok {P r : Nat} {c : Nat → Nat → Int32} {w : Nat → Nat → Int64} (h : RT P r c) : ∃ e, md_X9_playIs FU c w = some (WWu (UU (fxd (c 0)) P r) (dyn (c 0)), e) ∧ KP c e := by
  obtain ⟨e1, f1, -, k1⟩ := solveBy_n (w := w) h
  have h1 := RT_K h k1
  have e0 : e1 0 = c 0 := k1 0 (by omega)
  unfold md_X9_playIs WWu
  rw [f1, bd2_s, may9 h1.1 h1.2.2.2.2.1, bd1_s, e0]
  rcases spY01 (dyn (c 0)) with hy | hy
  · rw [hy, if00, if_neg (show ¬ (0 : Int32) = 1 by decide), j22, bet_same]
    exact ⟨e1, rfl, k1⟩
  · obtain ⟨e2, f2, k2⟩ := solveBy_b (w := w) h1 (by rw [e0]; exact hy)
    rw [e0] at f2
    rw [hy, if10, if_pos rfl, f2, bd2_s, j22, k2 0 (by omega), e0]
    exact ⟨e2, rfl, KP_t k1 k2⟩
theorem better_ok {P r : Nat} {c : Nat → Nat → Int32} {w : Nat → Nat → Int64} (h : RT P r c) (hy : spY (dyn (c 0)) = 1) : ∃ e, md_X9_isBetterObjected FU c w = some (bets (spW (dyn (c 0))) (UU (fxd (c 0)) P r (dyn (c 0))) (UU (fxd (c 0)) P r (spBow (dyn (c 0)))) 0 1, e) ∧ KP c e := by
  obtain ⟨e1, f1, -, k1⟩ := solveBy_n (w := w) h
  have h1 := RT_K h k1
  have e0 : e1 0 = c 0 := k1 0 (by omega)
  obtain ⟨e2, f2, k2⟩ := solveBy_b (w := w) h1 (by rw [e0]; exact hy)
  rw [e0] at f2
  have ew : e2 0 16 - e2 0 16 / 2 * 2 = spW (dyn (c 0)) := by rw [k2 0 (by omega), e0]; rfl
  unfold md_X9_isBetterObjected bets
  rw [f1, bd2_s, f2, bd2_s, lt1_r, ew]
  refine ⟨e2, ?_, KP_t k1 k2⟩
  split
  · split
    · rw [if_pos or00]
    · rw [if_pos or01]
  · split
    · rw [if_pos or00]
    · rw [if_pos or01]
-- the class
theorem AB_eq {V v : Int32} (h : AB (-1000) 1000 V.toInt v.toInt) (hV : R99 V) : v = V := by
  apply Int32.toInt_inj.mp
  obtain ⟨h1, h2⟩ := hV
  unfold AB at h
  omega
theorem m1000 : (-1000 : Int32).toInt = -1000 := rfl
theorem p1000 : (1000 : Int32).toInt = 1000 := rfl
theorem worth_eq {P r dep : Nat} {f cc : Nat → Nat → Int32} {d : Nat → Int32} (hP : P ≤ 6) (ho : OKs P r d) (hc : CT P cc f d) (hd : dep + r ≤ 6) : ∃ cc', md_X0_worth 8 (wuD 8) FU cc (-1000) 1000 (nI dep) = some (WWu (UU f P r) d, cc') ∧ CT P cc' f d := by
  obtain ⟨v, cc', e1, h1, h2⟩ := worth_ok (f := f) hP r (by omega) d cc (-1000) 1000 dep ho hc (by rw [m1000]; omega) (by rw [m1000, p1000]; omega) (by rw [p1000]; omega) hd
  rw [m1000, p1000] at h2
  have := AB_eq h2 (WWu_R hP (UU_R hP r) ho)
  subst this
  exact ⟨cc', e1, h1⟩
theorem wu_eq {P r dep : Nat} {f cc : Nat → Nat → Int32} {d : Nat → Int32} (hP : P ≤ 6) (ho : OKs P r d) (hc : CT P cc f d) (hd : dep + r ≤ 6) : ∃ cc', wuD 8 FU cc (-1000) 1000 (nI dep) = some (UU f P r d, cc') ∧ CT P cc' f d := by
  obtain ⟨v, cc', e1, h1, h2⟩ := wu_ok (f := f) hP 8 r (by omega) d cc (-1000) 1000 dep ho hc (by rw [m1000]; omega) (by rw [m1000, p1000]; omega) (by rw [p1000]; omega) hd
  rw [m1000, p1000] at h2
  have := AB_eq h2 (UU_R hP r d ho)
  subst this
  exact ⟨cc', e1, h1⟩
theorem bow_eq {P r : Nat} {f cc : Nat → Nat → Int32} {d : Nat → Int32} (hP : P ≤ 6) (hr : r ≤ 6) (ho : OKs P r d) (hc : CT P cc f d) : ∃ cc', md_X0_whetherToBow FU cc = some (if spY d = 1 then bets (spW d) (UU f P r d) (UU f P r (spBow d)) 0 1 else -1, cc') := by
  unfold md_X0_whetherToBow
  rw [may5 hP ho.1 hc.1, bd1_s]
  rcases spY01 d with hy | hy
  · rw [hy, if00, if_neg (show ¬ (0 : Int32) = 1 by decide)]
    exact ⟨cc, rfl⟩
  · obtain ⟨c1, e1, h1⟩ := wu_eq (dep := 0) hP ho hc (by omega)
    obtain ⟨p0, ek, hp0⟩ := keep_ok hP ho.1 h1.1
    obtain ⟨c2, e2, h2⟩ := CT_mbow hP ho.1 h1
    unfold mbow at h2
    rw [if_pos hy] at h2
    obtain ⟨c3, e3, h3⟩ := wu_eq (dep := 0) hP (OKs_bow hP ho hy) h2 (by omega)
    obtain ⟨c4, e4, h4⟩ := CT_back (d := d) hP hp0 h3
    rw [hy, if10, if_pos rfl, spk_ok hP ho.1 hc, bd1_s, lt1_r, show wuD 8 FU cc (-1000) 1000 0 = _ from e1, bd2_s, ek, bd1_s, e2, bd1_s, show wuD 8 FU c2 (-1000) 1000 0 = _ from e3, bd2_s, e4, bd1_s, lt1_r]
    refine ⟨c4, ?_⟩
    unfold bets
    rcases spW01 hP ho.1 with hw | hw
    · rw [hw, if_pos rfl, if_neg ne10]
      simp only [if_pos]
    · rw [hw, if_neg ne10, if_pos rfl]
      simp only [if_neg ne10]
theorem no_opn : ∀ P, P ≤ 6 → ∀ S, S < 2 ^ P → pop S = P → ∀ i, i < 6 → ob P S i = false := by decide +kernel
/-- the class' best so far, and the reference's -/
def Bst (q b B : Int32) : Prop := (b = B ∧ R99 B) ∨ (b = (if q = 0 then -1000 else 1000) ∧ B = fbs q)
theorem Bst_up {q b B w W : Int32} {fc k : Int32} (h : Bst q b B) (hW : R99 W) (hw : if q = 0 then AB b.toInt 1000 W.toInt w.toInt else AB (-1000) b.toInt W.toInt w.toInt) : (if q = 0 then w ≤ b else b ≤ w) ∧ Bst q b (bet q B W) ∧ bets q B W fc k = fc ∨ ¬ (if q = 0 then w ≤ b else b ≤ w) ∧ Bst q w (bet q B W) ∧ bets q B W fc k = k := by
  obtain ⟨w1, w2⟩ := hW
  by_cases hq : q = 0
  · subst hq
    rw [if_pos rfl] at hw ⊢
    have hle := @Int32.le_iff_toInt_le
    rcases h with ⟨rfl, b1, b2⟩ | ⟨hb, hB⟩
    · by_cases hl : W ≤ b
      · have hl' := hl
        rw [Int32.le_iff_toInt_le] at hl'
        refine Or.inl ⟨?_, Or.inl ⟨?_, ?_⟩, ?_⟩
        · rw [Int32.le_iff_toInt_le]; unfold AB at hw; omega
        · unfold bet; rw [if_pos rfl, if_pos hl]
        · unfold bet; rw [if_pos rfl, if_pos hl]; exact ⟨b1, b2⟩
        · unfold bets; rw [if_pos rfl, if_pos hl]
      · have hl' := hl
        rw [Int32.le_iff_toInt_le] at hl'
        have ew : w = W := by
          apply Int32.toInt_inj.mp
          unfold AB at hw
          omega
        refine Or.inr ⟨by rw [ew]; exact hl, Or.inl ⟨?_, ?_⟩, ?_⟩
        · unfold bet; rw [if_pos rfl, if_neg hl, ew]
        · unfold bet; rw [if_pos rfl, if_neg hl]; exact ⟨w1, w2⟩
        · unfold bets; rw [if_pos rfl, if_neg hl]
    · rw [if_pos rfl] at hb
      have eb : b.toInt = -1000 := by rw [hb]; rfl
      have eB : B.toInt = -1000000 := by rw [hB]; rfl
      have ew : w = W := by
        apply Int32.toInt_inj.mp
        unfold AB at hw
        omega
      have hl : ¬ W ≤ B := fun z => by rw [Int32.le_iff_toInt_le] at z; omega
      refine Or.inr ⟨fun z => by rw [Int32.le_iff_toInt_le, ew] at z; omega, Or.inl ⟨?_, ?_⟩, ?_⟩
      · unfold bet; rw [if_pos rfl, if_neg hl, ew]
      · unfold bet; rw [if_pos rfl, if_neg hl]; exact ⟨w1, w2⟩
      · unfold bets; rw [if_pos rfl, if_neg hl]
  · rw [if_neg hq] at hw ⊢
    rcases h with ⟨rfl, b1, b2⟩ | ⟨hb, hB⟩
    · by_cases hl : b ≤ W
      · have hl' := hl
        rw [Int32.le_iff_toInt_le] at hl'
        refine Or.inl ⟨?_, Or.inl ⟨?_, ?_⟩, ?_⟩
        · rw [Int32.le_iff_toInt_le]; unfold AB at hw; omega
        · unfold bet; rw [if_neg hq, if_pos hl]
        · unfold bet; rw [if_neg hq, if_pos hl]; exact ⟨b1, b2⟩
        · unfold bets; rw [if_neg hq, if_pos hl]
      · have hl' := hl
        rw [Int32.le_iff_toInt_le] at hl'
        have ew : w = W := by
          apply Int32.toInt_inj.mp
          unfold AB at hw
          omega
        refine Or.inr ⟨by rw [ew]; exact hl, Or.inl ⟨?_, ?_⟩, ?_⟩
        · unfold bet; rw [if_neg hq, if_neg hl, ew]
        · unfold bet; rw [if_neg hq, if_neg hl]; exact ⟨w1, w2⟩
        · unfold bets; rw [if_neg hq, if_neg hl]
    · rw [if_neg hq] at hb
      have eb : b.toInt = 1000 := by rw [hb]; rfl
      have eB : B.toInt = 1000000 := by rw [hB]; unfold fbs; rw [if_neg hq]; rfl
      have ew : w = W := by
        apply Int32.toInt_inj.mp
        unfold AB at hw
        omega
      have hl : ¬ B ≤ W := fun z => by rw [Int32.le_iff_toInt_le] at z; omega
      refine Or.inr ⟨fun z => by rw [Int32.le_iff_toInt_le, ew] at z; omega, Or.inl ⟨?_, ?_⟩, ?_⟩
      · unfold bet; rw [if_neg hq, if_neg hl, ew]
      · unfold bet; rw [if_neg hq, if_neg hl]; exact ⟨w1, w2⟩
      · unfold bets; rw [if_neg hq, if_neg hl]
theorem Bst_rng {q b B : Int32} (h : Bst q b B) : (q = 0 → -1000 ≤ b.toInt ∧ b.toInt < 1000) ∧ (¬ q = 0 → -1000 < b.toInt ∧ b.toInt ≤ 1000) := by
  rcases h with ⟨rfl, b1, b2⟩ | ⟨hb, hB⟩
  · exact ⟨fun _ => by omega, fun _ => by omega⟩
  · refine ⟨fun hq => ?_, fun hq => ?_⟩
    · rw [if_pos hq] at hb
      have : b.toInt = -1000 := by rw [hb]; rfl
      omega
    · rw [if_neg hq] at hb
      have : b.toInt = 1000 := by rw [hb]; rfl
      omega
theorem say_loop {P r n : Nat} {f : Nat → Nat → Int32} {d : Nat → Int32} {p0 : Int64} {y : Int32} (hP : P ≤ 6) (ho : OKs P (r + 1) d) (hp0 : PKd P d p0) (hy : y = if spW d = 0 then 1 else 0) : ∀ m i cc b B fc, i + m = 6 → CT P cc f d → Bst (spW d) b B → ∃ cc', ld_X0_whatToSay_44 FU (n + 1 + m) cc y (nI (2 ^ P - 1 - ix (d 0))) b fc p0 (nI i) = some (FCx (fun p => WWu (UU f P r) (spSay f d (nI p))) P (ix (d 0)) (spW d) i m B fc, cc')
  | 0, i, cc, b, B, fc, hm, hc, hb => by
    have : i = 6 := by omega
    subst this
    have l : (6 : Int32) ≤ nI 6 := by decide
    exact ⟨cc, by rw [Nat.add_zero, ld_X0_whatToSay_44, if_pos l]; rfl⟩
  | m + 1, i, cc, b, B, fc, hm, hc, hb => by
    have l : ¬ (6 : Int32) ≤ nI i := nI_ge (b := 6) (by omega) (by omega)
    obtain ⟨s1, s2, s3⟩ := OKs_ix hP ho
    have hu := has_un (P := P) (S := ix (d 0)) (i := i) hP s1 (by omega)
    rcases opn_d P (ix (d 0)) i with hop | hop
    · obtain ⟨c1, e1, h1⟩ := CT_say hP ho.1 hc hop.1
      have hos := OKs_say (f := f) hP ho hop
      have hWR := WWu_R (u := UU f P r) hP (UU_R hP r) hos
      obtain ⟨br0, br1⟩ := Bst_rng hb
      rcases spW01 hP ho.1 with hw | hw
      · rw [hw] at hy br0
        rw [if_pos rfl] at hy
        have br := br0 rfl
        obtain ⟨v, c2, e2, h2, hv⟩ := worth_ok (f := f) hP r (by omega) (spSay f d (nI i)) c1 b 1000 1 hos h1 (by omega) (by rw [p1000]; omega) (by rw [p1000]; omega) (by omega)
        obtain ⟨c3, e3, h3⟩ := CT_back hP hp0 h2
        rw [p1000] at hv
        have hu2 := Bst_up (q := spW d) (fc := fc) (k := nI i) hb hWR (by rw [if_pos hw]; exact hv)
        rw [if_pos hw] at hu2
        have start : ld_X0_whatToSay_44 FU (n + 1 + m + 1) cc y (nI (2 ^ P - 1 - ix (d 0))) b fc p0 (nI i) = (if v ≤ b then ld_X0_whatToSay_44 FU (n + 1 + m) c3 y (nI (2 ^ P - 1 - ix (d 0))) b fc p0 (nI (i + 1)) else ld_X0_whatToSay_44 FU (n + 1 + m) c3 y (nI (2 ^ P - 1 - ix (d 0))) v (nI i) p0 (nI (i + 1))) := by
          rw [ld_X0_whatToSay_44, if_neg l, hu.1 hop, bd1_s, if10, e1, bd1_s, hy, if10, show md_X0_worth 8 (wuD 8) FU c1 b 1000 1 = _ from e2, bd2_s]
          unfold jd_X0_whatToSay_91 jd_X0_whatToSay_118
          rw [e3, bd1_s, if10, nI_1]
        rcases hu2 with ⟨g1, g2, g3⟩ | ⟨g1, g2, g3⟩
        · obtain ⟨cc', e4⟩ := say_loop (n := n) (y := y) hP ho hp0 (by rw [hw, if_pos rfl]; exact hy) m (i + 1) c3 b _ fc (by omega) h3 g2
          refine ⟨cc', ?_⟩
          show ld_X0_whatToSay_44 FU (n + 1 + m + 1) _ _ _ _ _ _ _ = _
          rw [start, if_pos g1, FCx_t hop, g3]
          exact e4
        · obtain ⟨cc', e4⟩ := say_loop (n := n) (y := y) hP ho hp0 (by rw [hw, if_pos rfl]; exact hy) m (i + 1) c3 v _ (nI i) (by omega) h3 g2
          refine ⟨cc', ?_⟩
          show ld_X0_whatToSay_44 FU (n + 1 + m + 1) _ _ _ _ _ _ _ = _
          rw [start, if_neg g1, FCx_t hop, g3]
          exact e4
      · rw [hw] at hy br1
        rw [if_neg ne10] at hy
        have br := br1 ne10
        obtain ⟨v, c2, e2, h2, hv⟩ := worth_ok (f := f) hP r (by omega) (spSay f d (nI i)) c1 (-1000) b 1 hos h1 (by rw [m1000]; omega) (by rw [m1000]; omega) (by omega) (by omega)
        obtain ⟨c3, e3, h3⟩ := CT_back hP hp0 h2
        rw [m1000] at hv
        have hw0 : ¬ spW d = 0 := by rw [hw]; decide
        have hu2 := Bst_up (q := spW d) (fc := fc) (k := nI i) hb hWR (by rw [if_neg hw0]; exact hv)
        rw [if_neg hw0] at hu2
        have start : ld_X0_whatToSay_44 FU (n + 1 + m + 1) cc y (nI (2 ^ P - 1 - ix (d 0))) b fc p0 (nI i) = (if b ≤ v then ld_X0_whatToSay_44 FU (n + 1 + m) c3 y (nI (2 ^ P - 1 - ix (d 0))) b fc p0 (nI (i + 1)) else ld_X0_whatToSay_44 FU (n + 1 + m) c3 y (nI (2 ^ P - 1 - ix (d 0))) v (nI i) p0 (nI (i + 1))) := by
          rw [ld_X0_whatToSay_44, if_neg l, hu.1 hop, bd1_s, if10, e1, bd1_s, hy, if00, show md_X0_worth 8 (wuD 8) FU c1 (-1000) b 1 = _ from e2, bd2_s]
          unfold jd_X0_whatToSay_91 jd_X0_whatToSay_118
          rw [e3, bd1_s, if00, nI_1]
        rcases hu2 with ⟨g1, g2, g3⟩ | ⟨g1, g2, g3⟩
        · obtain ⟨cc', e4⟩ := say_loop (n := n) (y := y) hP ho hp0 (by rw [hw, if_neg ne10]; exact hy) m (i + 1) c3 b _ fc (by omega) h3 g2
          refine ⟨cc', ?_⟩
          show ld_X0_whatToSay_44 FU (n + 1 + m + 1) _ _ _ _ _ _ _ = _
          rw [start, if_pos g1, FCx_t hop, g3]
          exact e4
        · obtain ⟨cc', e4⟩ := say_loop (n := n) (y := y) hP ho hp0 (by rw [hw, if_neg ne10]; exact hy) m (i + 1) c3 v _ (nI i) (by omega) h3 g2
          refine ⟨cc', ?_⟩
          show ld_X0_whatToSay_44 FU (n + 1 + m + 1) _ _ _ _ _ _ _ = _
          rw [start, if_neg g1, FCx_t hop, g3]
          exact e4
    · obtain ⟨cc', e4⟩ := say_loop (n := n) hP ho hp0 hy m (i + 1) cc b B fc (by omega) hc hb
      refine ⟨cc', ?_⟩
      show ld_X0_whatToSay_44 FU (n + 1 + m + 1) _ _ _ _ _ _ _ = _
      rw [ld_X0_whatToSay_44, if_neg l, hu.2 hop, bd1_s, if00, nI_1, FCx_f hop]
      exact e4
theorem say_0 {P n : Nat} {d : Nat → Int32} {p0 : Int64} {y b : Int32} (hP : P ≤ 6) (ho : OKs P 0 d) : ∀ m i cc, i + m = 6 → ld_X0_whatToSay_44 FU (n + 1 + m) cc y (nI (2 ^ P - 1 - ix (d 0))) b (-1) p0 (nI i) = some (-1, cc)
  | 0, i, cc, hm => by
    have : i = 6 := by omega
    subst this
    have l : (6 : Int32) ≤ nI 6 := by decide
    rw [Nat.add_zero, ld_X0_whatToSay_44, if_pos l]
  | m + 1, i, cc, hm => by
    have l : ¬ (6 : Int32) ≤ nI i := nI_ge (b := 6) (by omega) (by omega)
    obtain ⟨s1, s2, s3⟩ := OKs_ix hP ho
    have hu := has_un (P := P) (S := ix (d 0)) (i := i) hP s1 (by omega)
    have hop : ¬ opn P (ix (d 0)) i := fun z => by
      have := no_opn P hP _ s1 (by omega) i (by omega)
      rw [ob_opn.mpr z] at this
      exact absurd this (by decide)
    show ld_X0_whatToSay_44 FU (n + 1 + m + 1) _ _ _ _ _ _ _ = _
    rw [ld_X0_whatToSay_44, if_neg l, hu.2 hop, bd1_s, if00, nI_1]
    exact say_0 hP ho m (i + 1) cc (by omega)
theorem say_eq {P r : Nat} {f cc : Nat → Nat → Int32} {d : Nat → Int32} (hP : P ≤ 6) (ho : OKs P r d) (hc : CT P cc f d) : ∃ cc', md_X0_whatToSay FU cc = some (FC f P r d, cc') := by
  obtain ⟨s1, s2, s3⟩ := OKs_ix hP ho
  obtain ⟨p0, ek, hp0⟩ := keep_ok hP ho.1 hc.1
  obtain ⟨q, hq⟩ : ∃ q, FU = q + 1 + 6 := ⟨1999993, by decide⟩
  unfold md_X0_whatToSay
  rw [spk_ok hP ho.1 hc, bd1_s, lt1_r, un5 hP s1 hc.1.1 (hc.1.2.1.trans s2), bd1_s, lt1_r, ek, bd1_s]
  match r, ho with
  | 0, ho =>
    have h := say_0 (n := q) (p0 := p0) (y := if spW d = 0 then 1 else 0) (b := if (if spW d = 0 then (1 : Int32) else 0) = 0 then 1000 else -1000) hP ho 6 0 cc (by omega)
    rw [← hq] at h
    exact ⟨cc, h⟩
  | r + 1, ho =>
    have hb : Bst (spW d) (if (if spW d = 0 then (1 : Int32) else 0) = 0 then 1000 else -1000) (fbs (spW d)) := by
      refine Or.inr ⟨?_, rfl⟩
      by_cases hw : spW d = 0
      · rw [if_pos hw, if_pos hw, if_neg ne10]
      · rw [if_neg hw, if_neg hw, if_pos rfl]
    obtain ⟨cc', h⟩ := say_loop (n := q) hP ho hp0 rfl 6 0 cc _ _ (-1) (by omega) hc hb
    rw [← hq] at h
    exact ⟨cc', h⟩
theorem RT_R {P : Nat} {cc c : Nat → Nat → Int32} (r1 : R1 P cc (c 0)) : ∃ r, RT P r c := by
  obtain ⟨hP, a0, ho, hx, hd, hf⟩ := r1
  have ho2 := ho
  obtain ⟨⟨S, hS, h0, h11⟩, -⟩ := ho2
  have h64 := pow_le6 hP
  have ple : ∀ P, P ≤ 6 → ∀ S, S < 2 ^ P → pop S ≤ P := by decide +kernel
  have := ple P hP S hS
  exact ⟨P - pop S, hP, by omega, a0, hx, ho, S, hS, h0, by omega⟩
theorem call_play {c0 c1 c2 c3 c9 : Nat → Nat → Int32} {w0 w1 w9 : Nat → Nat → Int64} (p : Int32) (h : RB c1 w1 c2 (c9 0)) : ∃ r c0' c3' c9', md_X8_play FU c0 w0 c1 w1 c2 c3 p = some (r, c0', c3') ∧ md_X9_play FU c9 w9 p = some (r, c9') ∧ c9' 0 = c9 0 ∧ ST c0 c9 c0' c9' := by
  obtain ⟨P, K, E, N, M, r1, r2, r3, r4, r5⟩ := RB_to h
  obtain ⟨r, rt⟩ := RT_R r1
  unfold md_X8_play md_X9_play
  rw [wi8, in_02, bd1_s, bd1_s]
  rcases b01_c (0 ≤ p ∧ p ≤ 2) with ⟨hb, e⟩ | ⟨hb, e⟩
  · have hP := r1.1
    obtain ⟨cc, e1, ce⟩ := copy5 c2 c3
    have s1 := CE_R1 ce r1
    have ct : CT P cc (fxd (c9 0)) (dyn (c9 0)) := ⟨s1.2.2.2.2.1, s1.2.2.2.2.2⟩
    have ho := rt.2.2.2.2
    have hr := rt.2.1
    rw [e, if10, if10, e1, bd1_s]
    rcases three p hb with rfl | rfl | rfl
    · obtain ⟨c4, g1, -⟩ := worth_eq (dep := 0) hP ho ct (by omega)
      obtain ⟨c5, g2, k2⟩ := playIs_ok (w := w9) rt
      rw [if_pos rfl, if_pos rfl, show md_X0_worth 8 (wuD 8) FU cc (-1000) 1000 0 = _ from g1, bd2_s, g2, bd2_s]
      exact ⟨_, _, _, _, rfl, rfl, k2 0 (by omega), Or.inl ⟨rfl, KP_KE k2⟩⟩
    · obtain ⟨c4, g1⟩ := bow_eq hP hr ho ct
      rw [if_neg ne10, if_neg ne10, if_pos rfl, if_pos rfl, g1, bd2_s, may9 hP ho.1, bd1_s]
      rcases spY01 (dyn (c9 0)) with hy | hy
      · rw [hy, if00, if_neg (show ¬ (0 : Int32) = 1 by decide)]
        exact ⟨_, _, _, _, rfl, rfl, rfl, Or.inl ⟨rfl, fun _ _ => rfl⟩⟩
      · obtain ⟨c5, g2, k2⟩ := better_ok (w := w9) rt hy
        rw [hy, if10, if_pos rfl, g2, bd2_s]
        have hb01 : bets (spW (dyn (c9 0))) (UU (fxd (c9 0)) P r (dyn (c9 0))) (UU (fxd (c9 0)) P r (spBow (dyn (c9 0)))) 0 1 = 0 ∨ bets (spW (dyn (c9 0))) (UU (fxd (c9 0)) P r (dyn (c9 0))) (UU (fxd (c9 0)) P r (spBow (dyn (c9 0)))) 0 1 = 1 := by
          unfold bets
          split
          · split
            · exact Or.inl rfl
            · exact Or.inr rfl
          · split
            · exact Or.inl rfl
            · exact Or.inr rfl
        rcases hb01 with hb0 | hb0
        · rw [hb0, if00]
          exact ⟨_, _, _, _, rfl, rfl, k2 0 (by omega), Or.inl ⟨rfl, KP_KE k2⟩⟩
        · rw [hb0, if10]
          exact ⟨_, _, _, _, rfl, rfl, k2 0 (by omega), Or.inl ⟨rfl, KP_KE k2⟩⟩
    · obtain ⟨c4, g1⟩ := say_eq hP ho ct
      obtain ⟨c5, g2, g3, k2⟩ := solveBy_n (w := w9) rt
      rw [if_neg (show ¬ (2 : Int32) = 0 by decide), if_neg (show ¬ (2 : Int32) = 0 by decide), if_neg (show ¬ (2 : Int32) = 1 by decide), if_neg (show ¬ (2 : Int32) = 1 by decide), g1, bd2_s, g2, bd2_s, g3]
      exact ⟨_, _, _, _, rfl, rfl, k2 0 (by omega), Or.inl ⟨rfl, KP_KE k2⟩⟩
  · rw [e, if00, if00]
    exact ⟨_, _, _, _, rfl, rfl, rs_n _ _ (by decide), Or.inr ⟨0, by omega, rfl, rfl⟩⟩
-- two who would settle
def gn (a b w : Int32) : Int32 := if a + b < 10 then 5 + b - a else w
theorem gn5 (a b w : Int32) : md_X6_gain a b w = some (gn a b w) := rfl
theorem gn9 (a b w : Int32) : md_X9_getsBy a b w = some (gn a b w) := rfl
def ibB (o t w : Int32) : Nat → Nat → Bool
  | _, 0 => true
  | k, m + 1 => if gn o t w < gn (nI k) t w then false else ibB o t w (k + 1) m
theorem ib9 {n : Nat} (o t w : Int32) : ∀ m k, k + m = 10 → ld_X9_isBest_5 FU (n + 1 + 1 + m) o t w 1 (nI k) = some (if ibB o t w k m = true then 1 else 0)
  | 0, k, h => by
    have : k = 10 := by omega
    subst this
    have l : (10 : Int32) ≤ nI 10 := by decide
    rw [Nat.add_zero, ld_X9_isBest_5, if_pos l, if_pos or01]
    rfl
  | m + 1, k, h => by
    have l : ¬ (10 : Int32) ≤ nI k := nI_ge (b := 10) (by omega) (by omega)
    show ld_X9_isBest_5 FU (n + 1 + 1 + m + 1) _ _ _ _ _ = _
    rw [ld_X9_isBest_5, if_neg l, if10, gn9, bd1_s, gn9, bd1_s, lt1_r, nI_1, ibB]
    by_cases hg : gn o t w < gn (nI k) t w
    · rw [if_pos hg, if_pos hg, show n + 1 + 1 + m = n + 1 + m + 1 from by omega, ld_X9_isBest_5, if_pos or00, if00]
      split <;> rfl
    · rw [if_neg hg, if_neg hg]
      exact ib9 o t w m (k + 1) (by omega)
theorem rs5 {n : Nat} (i j w : Int32) : ∀ m k, k + m = 10 → ld_X6_rests_2 FU (n + 1 + m) i j w (nI k) = some (if (ibB i j w k m && ibB j i (-w) k m) = true then 1 else 0)
  | 0, k, h => by
    have : k = 10 := by omega
    subst this
    have l : (10 : Int32) ≤ nI 10 := by decide
    rw [Nat.add_zero, ld_X6_rests_2, if_pos l]
    rfl
  | m + 1, k, h => by
    have l : ¬ (10 : Int32) ≤ nI k := nI_ge (b := 10) (by omega) (by omega)
    show ld_X6_rests_2 FU (n + 1 + m + 1) _ _ _ _ = _
    rw [ld_X6_rests_2, if_neg l, gn5, bd1_s, gn5, bd1_s, ibB, ibB]
    by_cases hg : gn i j w < gn (nI k) j w
    · rw [if_pos hg, if_pos hg]
      rfl
    · rw [if_neg hg, if_neg hg, gn5, bd1_s, gn5, bd1_s]
      by_cases hg2 : gn j i (-w) < gn (nI k) i (-w)
      · have n2 : ¬ gn (nI k) i (-w) ≤ gn j i (-w) := fun z => by
          rw [Int32.le_iff_toInt_le] at z
          rw [Int32.lt_iff_toInt_lt] at hg2
          omega
        rw [if_neg n2, if_pos hg2, Bool.and_false]
        rfl
      · have n2 : gn (nI k) i (-w) ≤ gn j i (-w) := by
          rw [Int32.le_iff_toInt_le]
          rw [Int32.lt_iff_toInt_lt] at hg2
          omega
        rw [if_pos n2, if_neg hg2, nI_1]
        exact rs5 i j w m (k + 1) (by omega)
theorem rests_ok (i j w : Int32) : md_X6_rests FU i j w = some (if (ibB i j w 0 10 && ibB j i (-w) 0 10) = true then 1 else 0) := by
  obtain ⟨q, hq⟩ : ∃ q, FU = q + 1 + 10 := ⟨1999989, by decide⟩
  have h := rs5 (n := q) i j w 10 0 (by omega)
  rw [← hq] at h
  exact h
theorem isBest_ok (o t w : Int32) : md_X9_isBest FU o t w = some (if ibB o t w 0 10 = true then 1 else 0) := by
  obtain ⟨q, hq⟩ : ∃ q, FU = q + 1 + 1 + 10 := ⟨1999988, by decide⟩
  have h := ib9 (n := q) o t w 10 0 (by omega)
  rw [← hq] at h
  exact h
theorem settle_both {n : Nat} {c0 c1 c2 c3 c9 : Nat → Nat → Int32} {w0 w1 w9 : Nat → Nat → Int64} (p w : Int32) : ∀ m k fd, k + m = 100 → ∃ r, ld_X8_settle_46 FU w0 c1 w1 c2 (n + 1 + m) c0 c3 p w fd (nI k) = some (r, c0, c3) ∧ ld_X9_settle_22 FU w9 (n + 1 + m) c9 p w fd (nI k) = some (r, c9)
  | 0, k, fd, h => by
    have : k = 100 := by omega
    subst this
    have l : (100 : Int32) ≤ nI 100 := by decide
    exact ⟨_, by rw [Nat.add_zero, ld_X8_settle_46, if_pos l, lt1_r], by rw [Nat.add_zero, ld_X9_settle_22, if_pos l, lt1_r]⟩
  | m + 1, k, fd, h => by
    have l : ¬ (100 : Int32) ≤ nI k := nI_ge (b := 100) (by omega) (by omega)
    show ∃ r, ld_X8_settle_46 FU w0 c1 w1 c2 (n + 1 + m + 1) _ _ _ _ _ _ = _ ∧ ld_X9_settle_22 FU w9 (n + 1 + m + 1) _ _ _ _ _ = _
    rw [ld_X8_settle_46, ld_X9_settle_22, if_neg l, if_neg l, rests_ok, isBest_ok, bd1_s, bd1_s, isBest_ok, bd1_s, nI_1]
    by_cases hA : ibB (nI k / 10) (nI k - nI k / 10 * 10) w 0 10 = true
    · by_cases hB : ibB (nI k - nI k / 10 * 10) (nI k / 10) (-w) 0 10 = true
      · rw [if_pos (show (ibB (nI k / 10) (nI k - nI k / 10 * 10) w 0 10 && ibB (nI k - nI k / 10 * 10) (nI k / 10) (-w) 0 10) = true by rw [hA, hB]; rfl), if_pos hA, if_pos hB, if10, if10, if10]
        by_cases hf : fd = p
        · rw [if_pos hf, if_pos hf]
          exact ⟨_, rfl, rfl⟩
        · rw [if_neg hf, if_neg hf]
          exact settle_both p w m (k + 1) (fd + 1) (by omega)
      · rw [if_neg (show ¬ (ibB (nI k / 10) (nI k - nI k / 10 * 10) w 0 10 && ibB (nI k - nI k / 10 * 10) (nI k / 10) (-w) 0 10) = true by rw [Bool.and_eq_true]; exact fun z => hB z.2), if_pos hA, if_neg hB, if00, if10, if00]
        exact settle_both p w m (k + 1) fd (by omega)
    · rw [if_neg (show ¬ (ibB (nI k / 10) (nI k - nI k / 10 * 10) w 0 10 && ibB (nI k - nI k / 10 * 10) (nI k / 10) (-w) 0 10) = true by rw [Bool.and_eq_true]; exact fun z => hA z.1), if_neg hA, if00, if00]
      exact settle_both p w m (k + 1) fd (by omega)
theorem call_settle {c0 c1 c2 c3 c9 : Nat → Nat → Int32} {w0 w1 w9 : Nat → Nat → Int64} (p : Int32) (h : RB c1 w1 c2 (c9 0)) : ∃ r c0' c3' c9', md_X8_settle FU c0 w0 c1 w1 c2 c3 p = some (r, c0', c3') ∧ md_X9_settle FU c9 w9 p = some (r, c9') ∧ c9' 0 = c9 0 ∧ ST c0 c9 c0' c9' := by
  obtain ⟨P, K, E, N, M, r1, r2, r3, r4, r5⟩ := RB_to h
  obtain ⟨r, rt⟩ := RT_R r1
  unfold md_X8_settle md_X9_settle
  by_cases hp : (-1 : Int32) ≤ p
  · have hP := r1.1
    obtain ⟨cc, e1, ce⟩ := copy5 c2 c3
    have s1 := CE_R1 ce r1
    have ct : CT P cc (fxd (c9 0)) (dyn (c9 0)) := ⟨s1.2.2.2.2.1, s1.2.2.2.2.2⟩
    have ho := rt.2.2.2.2
    have hr := rt.2.1
    obtain ⟨c4, g1, -⟩ := worth_eq (dep := 0) hP ho ct (by omega)
    obtain ⟨c5, g2, k2⟩ := playIs_ok (w := w9) rt
    obtain ⟨q, hq⟩ : ∃ q, FU = q + 1 + 100 := ⟨1999899, by decide⟩
    obtain ⟨y, f1, f2⟩ := settle_both (n := q) (c0 := c0) (c1 := c1) (c2 := c2) (c3 := c4) (c9 := c5) (w0 := w0) (w1 := w1) (w9 := w9) p (WWu (UU (fxd (c9 0)) P r) (dyn (c9 0))) 100 0 0 (by omega)
    rw [← hq] at f1 f2
    rw [if_pos hp, if_pos hp, e1, bd1_s, show md_X0_worth 8 (wuD 8) FU cc (-1000) 1000 0 = _ from g1, bd2_s, g2, bd2_s]
    exact ⟨y, c0, c4, c5, f1, f2, k2 0 (by omega), Or.inl ⟨rfl, KP_KE k2⟩⟩
  · rw [if_neg hp, if_neg hp]
    exact ⟨_, _, _, _, rfl, rfl, rs_n _ _ (by decide), Or.inr ⟨0, by omega, rfl, rfl⟩⟩
