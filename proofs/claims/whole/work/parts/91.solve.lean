-- best play: the reference comes to the same
def NM (P : Nat) (a d : Nat → Int32) (la : Int32) : Prop := la = -1 ∨ ∃ p, p < P ∧ d 12 = nI p ∧ la = nI p ∧ spY d = 0 ∧ d (1 + p) = a (1 + p)
theorem may0 {P v : Nat} {f : Nat → Nat → Int32} {a d : Nat → Int32} {la : Int32} {c : Nat → Nat → Int32} (w : Nat → Nat → Int64) (hP : P ≤ 6) (ho : OKd P d) (hv : v ≤ 13) (hR : RV P f a c) (h : LV c v d la) (hm : NM P a d la) : md_X9_mayAt c w (nI v) = some 0 := by
  rcases hm with rfl | ⟨p, p1, p2, rfl, p4, p5⟩
  · exact mayA_n w hv h
  · rw [mayA_p w hP ho hv p1 p2 h (by rw [hR.2.2 p (by omega), p5]), p4]
def bU : Nat → Nat
  | 0 => 1
  | r + 1 => (r + 1) * (2 * bU r + 4) + 1
/-- a level at which points are to be said -/
def UST (f : Nat → Nat → Int32) (P : Nat) (a : Nat → Int32) (w : Nat → Nat → Int64) (r : Nat) : Prop := ∀ v d la c, v + 2 * r ≤ 12 → OKs P r d → GG P a d → NM P a d la → RV P f a c → LV c v d la → BC c v (-1) (fbs (spW d)) → ∃ k e, k ≤ bU r ∧ FR v c e ∧ (v ≠ 0 → e 14 0 = c 14 0) ∧ ∀ n, ld_X9_solve_41 FU w (n + k) c (nI v) = jd_X9_solve_107 FU w (ld_X9_solve_41 FU w n) e (nI v) (UU f P r d)
/-- a level behind a point -/
def WST (f : Nat → Nat → Int32) (P : Nat) (a : Nat → Int32) (w : Nat → Nat → Int64) (r : Nat) : Prop := ∀ v d p c, 1 ≤ v → v + 2 * r ≤ 11 → OKs P r d → GG P a d → p < P → d 12 = nI p → d (1 + p) = a (1 + p) → ¬ opn P (ix (d 0)) p → RV P f a c → LV c v d (nI p) → BC c v (-1) (fbs (spW d)) → ∃ k e, k ≤ 2 * bU r + 3 ∧ FR v c e ∧ e 14 0 = c 14 0 ∧ ∀ n, ld_X9_solve_41 FU w (n + k) c (nI v) = jd_X9_solve_107 FU w (ld_X9_solve_41 FU w n) e (nI v) (WWu (UU f P r) d)
theorem fullI : ∀ P, P ≤ 6 → ((1 : Int32) <<< (nI P &&& 31)) - 1 = nI (2 ^ P - 1) := by decide +kernel
theorem fullS : ∀ P, P ≤ 6 → ∀ S, S < 2 ^ P → (S = 2 ^ P - 1 ↔ pop S = P) := by decide +kernel
theorem isEnd_n {P r v : Nat} {f : Nat → Nat → Int32} {a d : Nat → Int32} {la : Int32} {c : Nat → Nat → Int32} (w : Nat → Nat → Int64) (hP : P ≤ 6) (ho : OKs P (r + 1) d) (hv : v ≤ 13) (hR : RV P f a c) (h : LV c v d la) : md_X9_isEnd c w (nI v) = some 0 := by
  obtain ⟨s1, s2, s3⟩ := OKs_ix hP ho
  have h64 := pow_le6 hP
  have i1 : inb (nI v) 14 := inb_nI (by omega) (by omega)
  unfold md_X9_isEnd md_X9_many
  rw [if_pos i1, bd1_s, ix_nI (by omega), h.1, s2, hR.1, fullI P hP, if_neg (fun z => by
    have := (fullS P hP _ s1).mp ((nI_eq (by omega) (by omega)).mp z)
    omega)]
theorem GG_say {P r k : Nat} {f : Nat → Nat → Int32} {a d : Nat → Int32} (hP : P ≤ 6) (ho : OKs P (r + 1) d) (hk : opn P (ix (d 0)) k) (h : GG P a d) : GG P a (spSay f d (nI k)) ∧ (spSay f d (nI k)) (1 + k) = a (1 + k) ∧ ¬ opn P (ix ((spSay f d (nI k)) 0)) k := by
  obtain ⟨s1, s2, s3⟩ := OKs_ix hP ho
  have h64 := pow_le6 hP
  have hk6 := hk.1
  have e0 : ix ((spSay f d (nI k)) 0) = ix (d 0) ||| 2 ^ k := by
    rw [spSay_0, s2, ix_nI (by omega), or_bit _ (by omega) k (by omega), ix_nI (by have := or_lt6 (ix (d 0)) (by omega) k (by omega); omega)]
  have tbk : ∀ S, S < 64 → ∀ k, k < 6 → (S ||| 2 ^ k).testBit k = true := by decide +kernel
  refine ⟨fun j hj => ?_, ?_, fun z => ?_⟩
  · rw [e0] at hj
    have hj6 := hj.1
    have hjk : j ≠ k := fun z => by
      have := hj.2
      rw [z, tbk _ (by omega) k (by omega)] at this
      exact absurd this (by decide)
    have hb := hj.2
    rw [tb_or _ (by omega) k (by omega) j (by omega) hjk] at hb
    rw [spSay_n (by omega) (by omega) (by omega) (by omega)]
    exact h j ⟨hj.1, hb⟩
  · rw [spSay_n (by omega) (by omega) (by omega) (by omega)]
    exact h k hk
  · have := z.2
    rw [e0, tbk _ (by omega) k (by omega)] at this
    exact absurd this (by decide)
theorem UL {P r : Nat} {f : Nat → Nat → Int32} {a : Nat → Int32} {w : Nat → Nat → Int64} (hP : P ≤ 6) (hx : FXd P f) (hW : WST f P a w r) {d : Nat → Int32} {v : Nat} {la : Int32} (ho : OKs P (r + 1) d) (hv : v + 2 * (r + 1) ≤ 12) (hg : GG P a d) (hm : NM P a d la) : ∀ z m i c b, m < z → i + m = 6 → i ≤ P → RV P f a c → LV c v d la → (∃ ch, BC c v ch b ∧ ch + 1 = nI i) → ∃ k e, k ≤ cnt P (ix (d 0)) i m * (2 * bU r + 4) + 1 ∧ FR v c e ∧ e 14 0 = (if v = 0 then FCx (fun p => WWu (UU f P r) (spSay f d (nI p))) P (ix (d 0)) (spW d) i m b (c 14 0) else c 14 0) ∧ e 13 v = FBx (fun p => WWu (UU f P r) (spSay f d (nI p))) P (ix (d 0)) (spW d) i m b ∧ ∀ n, ld_X9_solve_41 FU w (n + k) c (nI v) = jd_X9_solve_107 FU w (ld_X9_solve_41 FU w n) e (nI v) (FBx (fun p => WWu (UU f P r) (spSay f d (nI p))) P (ix (d 0)) (spW d) i m b) := by
  intro z
  induction z with
  | zero =>
    intro m i c b hz hi
    omega
  | succ z ih =>
    intro m i c b hz hi hiP hR hl hch
    obtain ⟨ch, ⟨hc12, hc13⟩, hch1⟩ := hch
    obtain ⟨s1, s2, s3⟩ := OKs_ix hP ho
    have h64 := pow_le6 hP
    have hF : FU = 2000000 := rfl
    have i1 : inb (nI v) 14 := inb_nI (by omega) (by omega)
    have nv : ¬ nI v < 0 := nI_pos (by omega)
    have x1 : ix (nI v) = v := ix_nI (by omega)
    have hend := isEnd_n w hP ho (by omega : v ≤ 13) hR hl
    have hmay := may0 w hP ho.1 (by omega : v ≤ 13) hR hl hm
    have hch2 : md_X9_choosesAt FU c w (nI v) = ld_X9_choosesAt_94 FU w FU c (nI v) (nI i) := by
      unfold md_X9_choosesAt
      rw [if_pos i1, lt1_r, hmay, bd1_s, if00, x1, hc12, hch1]
    have hn := next9 (n := 1999999 - (P - i)) (w := w) (v := v) hP s1 hR.1 (hl.1.trans s2) (by omega) (P - i) i (by omega)
    rw [show 1999999 - (P - i) + 1 + (P - i) = FU from by omega] at hn
    rcases hn with ⟨k, k1, k2, k3, k4⟩ | ⟨k1, k2⟩
    · have hk6 := k2.1
      obtain ⟨e1, g1, lv1, bc1, lv0, bc0, fr0, e14⟩ := sayL w hP hx ho (by omega : v ≤ 12) k2 hR hl
      obtain ⟨gg1, gg2, gg3⟩ := GG_say (f := f) hP ho k2 hg
      obtain ⟨kw, e2, hkw, fr2, e214, hrun⟩ := hW (v + 1) (spSay f d (nI k)) k e1 (by omega) (by omega) (OKs_say hP ho k2) gg1 k2.1 spSay_12 gg2 gg3 (RV_F fr0 hR) lv1 bc1
      have lv2 := LV_FR fr2 lv0
      have b12 : e2 12 v = nI k := (fr2.1 12 (by omega) (by omega) (by omega) v (by omega)).trans bc0.1
      have b13 : e2 13 v = b := ((fr2.1 13 (by omega) (by omega) (by omega) v (by omega)).trans bc0.2).trans hc13
      have hq : e2 9 v - e2 9 v / 2 * 2 = spW d := by rw [lv2.2.2.2.1]; rfl
      have frA : FR v c (upB e2 v (spW d) (WWu (UU f P r) (spSay f d (nI k)))) := FR_t fr0 (FR_t (FR_le (by omega) fr2) (upB_FR _ _ _ _))
      obtain ⟨kr, e3, hkr, fr3, e314, e313, hrun3⟩ := ih (5 - k) (k + 1) (upB e2 v (spW d) (WWu (UU f P r) (spSay f d (nI k)))) (bet (spW d) b (WWu (UU f P r) (spSay f d (nI k)))) (by omega) (by omega) (by omega) (RV_F frA hR) (upB_LV lv2) ⟨nI k, ⟨by rw [upB_n (by omega) (by omega), b12], by rw [upB_13, b13]⟩, nI_1 k⟩
      have sk : ∀ j, i ≤ j → j < i + (k - i) → ¬ opn P (ix (d 0)) j := fun j j1 j2 => k3 j j1 (by omega)
      have em : m = (k - i) + (5 - k + 1) := by omega
      have ei : i + (k - i) = k := by omega
      refine ⟨kr + kw + 1, e3, ?_, FR_t frA fr3, ?_, ?_, fun n => ?_⟩
      · rw [em, cnt_skip (k - i) i (5 - k + 1) sk, ei, cnt_t k2, Nat.add_mul, Nat.one_mul]
        omega
      · rw [e314, em, FCx_skip (k - i) i (5 - k + 1) sk, ei, FCx_t k2]
        by_cases hv0 : v = 0
        · rw [if_pos hv0, if_pos hv0]
          congr 1
          unfold upB
          rw [rs_s, if_pos hv0, b13, e214, e14]
          subst hv0
          rw [b12]
        · rw [if_neg hv0, if_neg hv0, upB_14 hv0, e214, e14]
      · rw [em, FBx_skip (k - i) i (5 - k + 1) sk, ei, FBx_t k2]
        exact e313
      · rw [em, FBx_skip (k - i) i (5 - k + 1) sk, ei, FBx_t k2]
        rw [show n + (kr + kw + 1) = n + kr + kw + 1 from by omega, ld_X9_solve_41, if_neg nv, hend, bd1_s, if00, hch2, k4, g1, bd2_s, if10, nI_1, hrun (n + kr), ret9 (by omega) hq]
        exact hrun3 n
    · refine ⟨1, c, by omega, FR_r v c, ?_, ?_, fun n => ?_⟩
      · rw [FCx_none m i k1]
        split <;> rfl
      · rw [FBx_none m i k1, hc13]
      · rw [FBx_none m i k1, ld_X9_solve_41, if_neg nv, hend, bd1_s, if00, hch2, k2, bd2_s, if00]
        unfold jd_X9_solve_69
        rw [if00, if_pos i1, x1, hc13]
theorem UST_s {P r : Nat} {f : Nat → Nat → Int32} {a : Nat → Int32} {w : Nat → Nat → Int64} (hP : P ≤ 6) (hx : FXd P f) (hW : WST f P a w r) : UST f P a w (r + 1) := by
  intro v d la c hv ho hg hm hR hl hb
  obtain ⟨s1, s2, s3⟩ := OKs_ix hP ho
  obtain ⟨k, e, h1, h2, h3, -, h4⟩ := UL hP hx hW ho hv hg hm 7 6 0 c (fbs (spW d)) (by omega) (by omega) (by omega) hR hl ⟨-1, hb, by decide⟩
  have hc := cnt_all P hP _ s1
  refine ⟨k, e, ?_, h2, fun hv0 => by rw [h3, if_neg hv0], h4⟩
  rw [bU]
  rw [show cnt P (ix (d 0)) 0 6 = r + 1 from by omega] at h1
  exact h1
theorem isEnd_f {P v : Nat} {f : Nat → Nat → Int32} {a d : Nat → Int32} {la : Int32} {c : Nat → Nat → Int32} (w : Nat → Nat → Int64) (hP : P ≤ 6) (ho : OKs P 0 d) (hv : v ≤ 13) (hR : RV P f a c) (h : LV c v d la) (hm : NM P a d la) : md_X9_isEnd c w (nI v) = some 1 := by
  obtain ⟨s1, s2, s3⟩ := OKs_ix hP ho
  have h64 := pow_le6 hP
  have i1 : inb (nI v) 14 := inb_nI (by omega) (by omega)
  unfold md_X9_isEnd md_X9_many
  rw [if_pos i1, bd1_s, ix_nI (by omega), h.1, s2, hR.1, fullI P hP, if_pos (congrArg nI ((fullS P hP _ s1).mpr (by omega))), may0 w hP ho.1 hv hR h hm, bd1_s, if00]
theorem UST_0 {P : Nat} {f : Nat → Nat → Int32} {a : Nat → Int32} {w : Nat → Nat → Int64} (hP : P ≤ 6) : UST f P a w 0 := by
  intro v d la c hv ho hg hm hR hl hb
  have i1 : inb (nI v) 14 := inb_nI (by omega) (by omega)
  have nv : ¬ nI v < 0 := nI_pos (by omega)
  have x1 : ix (nI v) = v := ix_nI (by omega)
  refine ⟨1, c, Nat.le_refl _, FR_r v c, fun _ => rfl, fun n => ?_⟩
  rw [ld_X9_solve_41, if_neg nv, isEnd_f w hP ho (by omega) hR hl hm, bd1_s, if10]
  unfold jd_X9_solve_69
  rw [if10, if_pos i1, if_pos i1, if_pos i1, x1, hl.2.1, hl.2.2.1]
  show _ = jd_X9_solve_107 FU w (ld_X9_solve_41 FU w n) c (nI v) (evD d)
  unfold evD
  by_cases h : d 9 = 0
  · rw [if_pos h, if_pos h]
  · rw [if_neg h, if_neg h]
-- an objection is chosen, or not
theorem nobowL {v : Nat} {d : Nat → Int32} {la : Int32} {c : Nat → Nat → Int32} {w : Nat → Nat → Int64} (hv : v ≤ 12) (h : LV c v d la) (hm : md_X9_mayAt c w (nI v) = some 1) (h12 : c 12 v = -1) : ∃ e, md_X9_choosesAt FU c w (nI v) = some (1, e) ∧ LV e (v + 1) d (-1) ∧ BC e (v + 1) (-1) (fbs (spW d)) ∧ LV e v d la ∧ BC e v 0 (c 13 v) ∧ FR v c e ∧ e 14 = c 14 := by
  obtain ⟨c1, e1, lv1, b1, b2, fr1, e14⟩ := lay_ok w hv h
  have lv0 := LV_FR fr1 h
  have i0 : inb (nI v) 14 := inb_nI (by omega) (by omega)
  have i1 : inb (nI (v + 1)) 14 := inb_nI (by omega) (by omega)
  have x0 : ix (nI v) = v := ix_nI (by omega)
  have x1 : ix (nI (v + 1)) = v + 1 := ix_nI (by omega)
  have n1 : v ≠ v + 1 := by omega
  have y0 : (-1 : Int32) + 1 = 0 := by decide
  unfold md_X9_choosesAt jd_X9_choosesAt_85
  rw [if_pos i0, lt1_r, hm, bd1_s, if10, x0, h12, y0, if_pos (show (0 : Int32) ≤ 1 by decide), nI_1, e1, bd1_s, if_pos i1, if_neg (show ¬ (0 : Int32) = 1 by decide), if_pos i0, x1]
  refine ⟨_, rfl, ⟨?_, ?_, ?_, ?_, ?_, ?_, ?_⟩, ⟨?_, ?_⟩, ⟨?_, ?_, ?_, ?_, ?_, ?_, ?_⟩, ⟨?_, ?_⟩, ⟨?_, ?_, ?_⟩, ?_⟩
  · simp [rs, lv1.1]
  · simp [rs, lv1.2.1]
  · simp [rs, lv1.2.2.1]
  · simp [rs, lv1.2.2.2.1]
  · simp [rs, lv1.2.2.2.2.1]
  · simp [rs, lv1.2.2.2.2.2.1]
  · simp [rs, upd]
  · simp [rs, upd, b1]
  · simp [rs, b2]
  · simp [rs, lv0.1]
  · simp [rs, lv0.2.1]
  · simp [rs, lv0.2.2.1]
  · simp [rs, lv0.2.2.2.1]
  · simp [rs, lv0.2.2.2.2.1]
  · simp [rs, lv0.2.2.2.2.2.1]
  · simp [rs, upd, lv0.2.2.2.2.2.2]
  · simp [rs, upd]
  · have := fr1.1 13 (by omega) (by omega) (by omega) v (by omega)
    simp [rs, this]
  · intro z z1 z2 z3 l hl
    have hl2 : l ≠ v + 1 := by omega
    have hl3 : l ≠ v := by omega
    have := fr1.1 z z1 z2 z3 l (by omega)
    have hz : z = 6 ∨ z = 7 ∨ z = 8 ∨ z = 9 ∨ z = 11 ∨ z = 12 ∨ z = 13 := by omega
    rcases hz with rfl | rfl | rfl | rfl | rfl | rfl | rfl <;> simp [rs, upd, hl2, hl3, this]
  · intro j hj
    have := fr1.2.1 j (by omega)
    simp [rs, this]
  · intro z hz
    have := fr1.2.2 z hz
    simp only [rs]
    rw [if_neg (by omega), if_neg (by omega), this]
  · simp [rs, e14]
theorem bowL {P v p : Nat} {d : Nat → Int32} {c : Nat → Nat → Int32} {w : Nat → Nat → Int64} (hP : P ≤ 6) (ho : OKd P d) (hp : p < P) (hd12 : d 12 = nI p) (hv : v ≤ 12) (h : LV c v d (nI p)) (hm : md_X9_mayAt c w (nI v) = some 1) (h12 : c 12 v = 0) : ∃ e, md_X9_choosesAt FU c w (nI v) = some (1, e) ∧ LV e (v + 1) (spBow d) (-1) ∧ BC e (v + 1) (-1) (fbs (spW d)) ∧ LV e v d (nI p) ∧ BC e v 1 (c 13 v) ∧ FR v c e ∧ e 14 = c 14 := by
  obtain ⟨q, hq, eq⟩ := spW_lt hP ho
  obtain ⟨c1, e1, lv1, b1, b2, fr1, e14⟩ := lay_ok w hv h
  have lv0 := LV_FR fr1 h
  have ew : d 11 - d 11 / 2 * 2 = nI q := eq
  have i0 : inb (nI v) 14 := inb_nI (by omega) (by omega)
  have i1 : inb (nI (v + 1)) 14 := inb_nI (by omega) (by omega)
  have i2 : inb (nI (2 * v + 2 + q)) 28 := inb_nI (by omega) (by omega)
  have x0 : ix (nI v) = v := ix_nI (by omega)
  have x1 : ix (nI (v + 1)) = v + 1 := ix_nI (by omega)
  have x2 : ix (nI (2 * v + 2 + q)) = 2 * v + 2 + q := ix_nI (by omega)
  have n1 : v ≠ v + 1 := by omega
  have p2 : nI (2 * v) + (2 : Int32) = nI (2 * v + 2) := nI_add _ 2
  have y0 : (0 : Int32) + 1 = 1 := by decide
  have sb : spBow d = upd (upd (upd (upd d (7 + q) (d (7 + q) - 1)) (1 + p) (d (1 + p) - 1)) 9 (1 - d 9)) 12 (-1) := by
    unfold spBow
    rw [eq, hd12, ix_nI (by omega), ix_nI (by omega)]
  have vb : c1 10 (2 * v + 2 + q) = d (7 + q) := by
    have := LV_b lv1 q hq
    rw [show 2 * (v + 1) + q = 2 * v + 2 + q from by omega] at this
    exact this
  unfold md_X9_choosesAt jd_X9_choosesAt_85
  rw [if_pos i0, lt1_r, hm, bd1_s, if10, x0, h12, y0, if_pos (show (1 : Int32) ≤ 1 by decide), nI_1, e1, bd1_s, if_pos i1, if_pos rfl, if_pos i0, m2v, p2, lv0.2.2.2.1, ew, nI_add, if_pos i2, lt1_r, if_pos i2, if_pos i0, if_pos i1, if_pos i0, x1, x2, vb]
  have hq2 : q = 0 ∨ q = 1 := by omega
  refine ⟨_, rfl, ⟨?_, ?_, ?_, ?_, ?_, ?_, ?_⟩, ⟨?_, ?_⟩, ⟨?_, ?_, ?_, ?_, ?_, ?_, ?_⟩, ⟨?_, ?_⟩, ⟨?_, ?_, ?_⟩, ?_⟩
  · rw [sb, upd_n (by omega), upd_n (by omega), upd_n (by omega), upd_n (by omega)]
    simp [rs, lv1.1]
  · rw [sb, upd_n (by omega), upd_s]
    simp [rs, upd, lv0.2.1]
  · rw [sb, upd_n (by omega), upd_n (by omega), upd_n (by omega), upd_n (by omega)]
    simp [rs, lv1.2.2.1]
  · rw [sb, upd_n (by omega), upd_n (by omega), upd_n (by omega), upd_n (by omega)]
    simp [rs, lv1.2.2.2.1]
  · rw [sb, upd_n (k := 12) (by omega), upd_n (k := 9) (by omega), upd_n (k := 1 + p) (by omega)]
    simp only [rs_n _ _ (show (10 : Nat) ≠ 12 by omega), rs_n _ _ (show (10 : Nat) ≠ 11 by omega), rs_s]
    rcases hq2 with rfl | rfl
    · rw [show 2 * (v + 1) = 2 * v + 2 + 0 from by omega, upd_s, upd_s]
    · rw [upd_n (by omega), upd_n (by omega), lv1.2.2.2.2.1]
  · rw [sb, upd_n (k := 12) (by omega), upd_n (k := 9) (by omega), upd_n (k := 1 + p) (by omega)]
    simp only [rs_n _ _ (show (10 : Nat) ≠ 12 by omega), rs_n _ _ (show (10 : Nat) ≠ 11 by omega), rs_s]
    rcases hq2 with rfl | rfl
    · rw [upd_n (by omega), upd_n (by omega), lv1.2.2.2.2.2.1]
    · rw [show 2 * (v + 1) + 1 = 2 * v + 2 + 1 from by omega, upd_s, upd_s]
  · simp [rs, upd]
  · simp [rs, upd, b1]
  · simp [rs, b2]
  · simp [rs, lv0.1]
  · simp [rs, upd, lv0.2.1]
  · simp [rs, lv0.2.2.1]
  · simp [rs, lv0.2.2.2.1]
  · simp only [rs_n _ _ (show (10 : Nat) ≠ 12 by omega), rs_n _ _ (show (10 : Nat) ≠ 11 by omega), rs_s]
    rw [upd_n (by omega), lv0.2.2.2.2.1]
  · simp only [rs_n _ _ (show (10 : Nat) ≠ 12 by omega), rs_n _ _ (show (10 : Nat) ≠ 11 by omega), rs_s]
    rw [upd_n (by omega), lv0.2.2.2.2.2.1]
  · simp [rs, upd, lv0.2.2.2.2.2.2]
  · simp [rs, upd]
  · have := fr1.1 13 (by omega) (by omega) (by omega) v (by omega)
    simp [rs, this]
  · intro z z1 z2 z3 l hl
    have hl2 : l ≠ v + 1 := by omega
    have hl3 : l ≠ v := by omega
    have := fr1.1 z z1 z2 z3 l (by omega)
    have hz : z = 6 ∨ z = 7 ∨ z = 8 ∨ z = 9 ∨ z = 11 ∨ z = 12 ∨ z = 13 := by omega
    rcases hz with rfl | rfl | rfl | rfl | rfl | rfl | rfl <;> simp [rs, upd, hl2, hl3, this]
  · intro j hj
    have := fr1.2.1 j (by omega)
    simp only [rs_n _ _ (show (10 : Nat) ≠ 12 by omega), rs_n _ _ (show (10 : Nat) ≠ 11 by omega), rs_s]
    rw [upd_n (by omega), this]
  · intro z hz
    have := fr1.2.2 z hz
    simp only [rs]
    rw [if_neg (by omega), if_neg (by omega), if_neg (by omega), if_neg (by omega), this]
  · simp [rs, e14]
theorem nomoreL {v : Nat} {c : Nat → Nat → Int32} {w : Nat → Nat → Int64} (hv : v ≤ 12) (hm : md_X9_mayAt c w (nI v) = some 1) (h12 : c 12 v = 1) : md_X9_choosesAt FU c w (nI v) = some (0, c) := by
  have i0 : inb (nI v) 14 := inb_nI (by omega) (by omega)
  have x0 : ix (nI v) = v := ix_nI (by omega)
  unfold md_X9_choosesAt
  rw [if_pos i0, lt1_r, hm, bd1_s, if10, x0, h12, if_neg (show ¬ (1 : Int32) + 1 ≤ 1 by decide)]
theorem isEnd_m {P v : Nat} {f : Nat → Nat → Int32} {a d : Nat → Int32} {la : Int32} {c : Nat → Nat → Int32} {w : Nat → Nat → Int64} (hv : v ≤ 13) (hR : RV P f a c) (hm : md_X9_mayAt c w (nI v) = some 1) : md_X9_isEnd c w (nI v) = some 0 := by
  have i1 : inb (nI v) 14 := inb_nI (by omega) (by omega)
  unfold md_X9_isEnd md_X9_many
  rw [if_pos i1, bd1_s, hm, bd1_s, if10]
  split <;> rfl
theorem spW_bow {P : Nat} {d : Nat → Int32} (hP : P ≤ 6) (ho : OKd P d) (hy : spY d = 1) : spW (spBow d) = spW d ∧ ∀ p, d 12 = nI p → p < P → ∀ j, j < P → j ≠ p → spBow d (1 + j) = d (1 + j) := by
  obtain ⟨q, hq, eq⟩ := spW_lt hP ho
  obtain ⟨y1, -, -⟩ := spY1 hy
  obtain ⟨-, -, -, -, -, -, h12, -⟩ := ho
  rcases h12 with h | ⟨o, h1, h⟩
  · exact absurd h y1
  · refine ⟨?_, fun p hp hpP j hj hjp => ?_⟩
    · have : spBow d 11 = d 11 := by
        unfold spBow
        rw [eq, h, ix_nI (by omega), ix_nI (by omega), upd_n (by omega), upd_n (by omega), upd_n (by omega), upd_n (by omega)]
      unfold spW
      rw [this]
    · unfold spBow
      rw [eq, hp, ix_nI (by omega), ix_nI (by omega), upd_n (by omega), upd_n (by omega), upd_n (by omega), upd_n (by omega)]
theorem WST_of {P r : Nat} {f : Nat → Nat → Int32} {a : Nat → Int32} {w : Nat → Nat → Int64} (hP : P ≤ 6) (hU : UST f P a w r) : WST f P a w r := by
  intro v d p c hv1 hv ho hg hp hd12 hga hno hR hl hb
  rcases spY01 d with hy | hy
  · obtain ⟨k, e, h1, h2, h3, h4⟩ := hU v d (nI p) c (by omega) ho hg (Or.inr ⟨p, hp, hd12, rfl, hy, hga⟩) hR hl hb
    refine ⟨k, e, by omega, h2, h3 (by omega), fun n => ?_⟩
    unfold WWu
    rw [if_neg (by rw [hy]; decide)]
    exact h4 n
  · have nv : ¬ nI v < 0 := nI_pos (by omega)
    have i1 : inb (nI v) 14 := inb_nI (by omega) (by omega)
    have x1 : ix (nI v) = v := ix_nI (by omega)
    have hob := OKs_bow hP ho hy
    have hR99 := UU_R (f := f) hP r d ho
    obtain ⟨sw, sg⟩ := spW_bow hP ho.1 hy
    have mayv : ∀ e, RV P f a e → LV e v d (nI p) → md_X9_mayAt e w (nI v) = some 1 := fun e re le => by
      rw [mayA_p w hP ho.1 (by omega) hp hd12 le (by rw [re.2.2 p (by omega), hga]), hy]
    -- not objected
    obtain ⟨c1, g1, l1, b1, l0, b0, f1, q1⟩ := nobowL (w := w) (by omega) hl (mayv c hR hl) hb.1
    have R1' := RV_F f1 hR
    obtain ⟨k1, e1, hk1, fr1, e114, run1⟩ := hU (v + 1) d (-1) c1 (by omega) ho hg (Or.inl rfl) R1' l1 b1
    have l0' := LV_FR fr1 l0
    have hq1 : e1 9 v - e1 9 v / 2 * 2 = spW d := by rw [l0'.2.2.2.1]; rfl
    have e12 : e1 12 v = 0 := (fr1.1 12 (by omega) (by omega) (by omega) v (by omega)).trans b0.1
    have e13 : e1 13 v = fbs (spW d) := ((fr1.1 13 (by omega) (by omega) (by omega) v (by omega)).trans b0.2).trans hb.2
    have frA : FR v c (upB e1 v (spW d) (UU f P r d)) := FR_t f1 (FR_t (FR_le (by omega) fr1) (upB_FR _ _ _ _))
    have RA := RV_F frA hR
    have LA := upB_LV (q := spW d) (X := UU f P r d) l0'
    have A12 : upB e1 v (spW d) (UU f P r d) 12 v = 0 := by rw [upB_n (by omega) (by omega), e12]
    have A13 : upB e1 v (spW d) (UU f P r d) 13 v = UU f P r d := by rw [upB_13, e13, bet_far hR99]
    -- objected
    obtain ⟨c2, g2, l2, b2, m0, n0, f2, q2⟩ := bowL (w := w) hP ho.1 hp hd12 (by omega) LA (mayv _ RA LA) A12
    have R2' := RV_F f2 RA
    have gb : GG P a (spBow d) := fun j hj => by
      rw [spBow_0 hP ho.1 hy] at hj
      have : j ≠ p := fun z => hno (z ▸ hj)
      rw [sg p hd12 hp j hj.1 this]
      exact hg j hj
    obtain ⟨k2, e2, hk2, fr2, e214, run2⟩ := hU (v + 1) (spBow d) (-1) c2 (by omega) hob gb (Or.inl rfl) R2' l2 (by rw [sw]; exact b2)
    have m0' := LV_FR fr2 m0
    have hq2 : e2 9 v - e2 9 v / 2 * 2 = spW d := by rw [m0'.2.2.2.1]; rfl
    have h12 : e2 12 v = 1 := (fr2.1 12 (by omega) (by omega) (by omega) v (by omega)).trans n0.1
    have h13 : e2 13 v = UU f P r d := ((fr2.1 13 (by omega) (by omega) (by omega) v (by omega)).trans n0.2).trans A13
    have frB : FR v c (upB e2 v (spW d) (UU f P r (spBow d))) := FR_t frA (FR_t f2 (FR_t (FR_le (by omega) fr2) (upB_FR _ _ _ _)))
    have RB' := RV_F frB hR
    have LB := upB_LV (q := spW d) (X := UU f P r (spBow d)) m0'
    have B12 : upB e2 v (spW d) (UU f P r (spBow d)) 12 v = 1 := by rw [upB_n (by omega) (by omega), h12]
    have B13 : upB e2 v (spW d) (UU f P r (spBow d)) 13 v = bet (spW d) (UU f P r d) (UU f P r (spBow d)) := by rw [upB_13, h13]
    refine ⟨1 + k2 + 1 + k1 + 1, upB e2 v (spW d) (UU f P r (spBow d)), by omega, frB, ?_, fun n => ?_⟩
    · rw [upB_14 (by omega), e214 (by omega), q2, upB_14 (by omega), e114 (by omega), q1]
    · unfold WWu
      rw [if_pos hy]
      show ld_X9_solve_41 FU w (n + (1 + k2 + 1 + k1) + 1) c (nI v) = _
      rw [ld_X9_solve_41, if_neg nv, isEnd_m (d := d) (la := nI p) (by omega) hR (mayv c hR hl), bd1_s, if00, g1, bd2_s, if10, nI_1, show n + (1 + k2 + 1 + k1) = n + (1 + k2 + 1) + k1 from by omega, run1, ret9 (by omega) hq1]
      show ld_X9_solve_41 FU w (n + (1 + k2) + 1) _ (nI v) = _
      rw [ld_X9_solve_41, if_neg nv, isEnd_m (d := d) (la := nI p) (by omega) RA (mayv _ RA LA), bd1_s, if00, g2, bd2_s, if10, nI_1, show n + (1 + k2) = n + 1 + k2 from by omega, run2, ret9 (by omega) hq2]
      rw [ld_X9_solve_41, if_neg nv, isEnd_m (d := d) (la := nI p) (by omega) RB' (mayv _ RB' LB), bd1_s, if00, nomoreL (by omega) (mayv _ RB' LB) B12, bd2_s, if00]
      unfold jd_X9_solve_69
      rw [if00, if_pos i1, x1, B13]
theorem UST_all {P : Nat} {f : Nat → Nat → Int32} {a : Nat → Int32} {w : Nat → Nat → Int64} (hP : P ≤ 6) (hx : FXd P f) : ∀ r, UST f P a w r
  | 0 => UST_0 hP
  | r + 1 => UST_s hP hx (WST_of hP (UST_all hP hx r))
