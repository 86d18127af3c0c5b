-- base: optional programs (a model of a method answers none where the machine would stop), worlds put back behind calls, contracts
def bd1 {α γ : Type} (o : Option α) (K : α → Option γ) : Option γ := match o with
  | none => none
  | some a => K a
def bd2 {α β γ : Type} (o : Option (α × β)) (K : α → β → Option γ) : Option γ := match o with
  | none => none
  | some (a, b) => K a b
def bd3 {α β δ γ : Type} (o : Option (α × β × δ)) (K : α → β → δ → Option γ) : Option γ := match o with
  | none => none
  | some (a, b, d) => K a b d
def bd4 {α β δ ε γ : Type} (o : Option (α × β × δ × ε)) (K : α → β → δ → ε → Option γ) : Option γ := match o with
  | none => none
  | some (a, b, d, e) => K a b d e
def bd5 {α β δ ε ζ γ : Type} (o : Option (α × β × δ × ε × ζ)) (K : α → β → δ → ε → ζ → Option γ) : Option γ := match o with
  | none => none
  | some (a, b, d, e, f) => K a b d e f
def lt1 {α γ : Type} (v : α) (K : α → Option γ) : Option γ := K v
theorem bd1_e {α γ : Type} {o : Option α} {K : α → Option γ} {q : γ} (h : bd1 o K = some q) : ∃ a, o = some a ∧ K a = some q := by
  unfold bd1 at h
  split at h
  · cases h
  · exact ⟨_, rfl, h⟩
theorem bd2_e {α β γ : Type} {o : Option (α × β)} {K : α → β → Option γ} {q : γ} (h : bd2 o K = some q) : ∃ a b, o = some (a, b) ∧ K a b = some q := by
  unfold bd2 at h
  split at h
  · cases h
  · exact ⟨_, _, rfl, h⟩
theorem bd3_e {α β δ γ : Type} {o : Option (α × β × δ)} {K : α → β → δ → Option γ} {q : γ} (h : bd3 o K = some q) : ∃ a b d, o = some (a, b, d) ∧ K a b d = some q := by
  unfold bd3 at h
  split at h
  · cases h
  · exact ⟨_, _, _, rfl, h⟩
theorem bd4_e {α β δ ε γ : Type} {o : Option (α × β × δ × ε)} {K : α → β → δ → ε → Option γ} {q : γ} (h : bd4 o K = some q) : ∃ a b d e, o = some (a, b, d, e) ∧ K a b d e = some q := by
  unfold bd4 at h
  split at h
  · cases h
  · exact ⟨_, _, _, _, rfl, h⟩
theorem bd5_e {α β δ ε ζ γ : Type} {o : Option (α × β × δ × ε × ζ)} {K : α → β → δ → ε → ζ → Option γ} {q : γ} (h : bd5 o K = some q) : ∃ a b d e f, o = some (a, b, d, e, f) ∧ K a b d e f = some q := by
  unfold bd5 at h
  split at h
  · cases h
  · exact ⟨_, _, _, _, _, rfl, h⟩
theorem lt1_e {α γ : Type} {v : α} {K : α → Option γ} {q : γ} (h : lt1 v K = some q) : ∃ y, y = v ∧ K y = some q := ⟨v, rfl, h⟩
theorem of_g {γ : Type} {c : Prop} [Decidable c] {K : Option γ} {q : γ} (h : (if c then K else none) = some q) : c ∧ K = some q := by
  by_cases hc : c
  · exact ⟨hc, by rw [if_pos hc] at h; exact h⟩
  · rw [if_neg hc] at h; cases h
theorem of_p {γ : Type} {c : Prop} [Decidable c] {K L : Option γ} {q : γ} (hc : c) (h : (if c then K else L) = some q) : K = some q := by
  rw [if_pos hc] at h; exact h
theorem of_n {γ : Type} {c : Prop} [Decidable c] {K L : Option γ} {q : γ} (hc : ¬ c) (h : (if c then K else L) = some q) : L = some q := by
  rw [if_neg hc] at h; exact h
theorem nn_p {γ : Type} {c : Prop} [Decidable c] {K L : Option γ} {q : γ} (hc : ¬ c) (h : (if ¬ c then K else L) = some q) : K = some q := by
  rw [if_pos hc] at h; exact h
theorem nn_n {γ : Type} {c : Prop} [Decidable c] {K L : Option γ} {q : γ} (hc : c) (h : (if ¬ c then K else L) = some q) : L = some q := by
  rw [if_neg (fun z => z hc)] at h; exact h
/-- an index in a row of n places -/
abbrev inb (i : Int32) (n : Nat) : Prop := 0 ≤ i.toInt ∧ i.toInt < n
theorem inb_vp {i : Int32} {n : Nat} (h : inb i n) : vp_in i n := vp_in_iff.mpr h
/-- rows put into a state -/
def rs {α : Type} (c : Nat → α) (k : Nat) (r : α) : Nat → α := fun j => if j = k then r else c j
def ix (i : Int32) : Nat := i.toNatClampNeg
theorem fst_at {w1 w2 : va_W} (h : w2.map Prod.fst = w1.map Prod.fst) {j : Nat} {q : Nat × va_E} (hq : w2[j]? = some q) : ∃ q0, w1[j]? = some q0 ∧ q0.1 = q.1 := by
  have h1 : (w2.map Prod.fst)[j]? = some q.1 := by rw [List.getElem?_map, hq]; rfl
  rw [h, List.getElem?_map] at h1
  cases hw : w1[j]? with
  | none => rw [hw] at h1; cases h1
  | some q0 => rw [hw] at h1; exact ⟨q0, rfl, Option.some.inj h1⟩
theorem va_D_fst {A : Nat → Prop} {w1 w2 : va_W} (h : w2.map Prod.fst = w1.map Prod.fst) (hD : va_D A w1) : va_D A w2 := by
  refine ⟨fun i j x y hi hj hxy => ?_, fun k q hk => ?_⟩
  · obtain ⟨x0, h1, h2⟩ := fst_at h hi
    obtain ⟨y0, h3, h4⟩ := fst_at h hj
    exact hD.1 i j x0 y0 h1 h3 (h2.trans (hxy.trans h4.symm))
  · obtain ⟨q0, h1, h2⟩ := fst_at h hk
    rw [← h2]
    exact hD.2 k q0 h1
theorem blk_at {pre w post : va_W} {i : Nat} {q : Nat × va_E} (h : w[i]? = some q) : (pre ++ (w ++ post))[pre.length + i]? = some q := by
  have hlt := (List.getElem?_eq_some_iff.mp h).1
  rw [List.getElem?_append_right (by omega), Nat.add_sub_cancel_left, List.getElem?_append_left hlt]
  exact h
theorem blk_cs {pre w post : va_W} {k : Nat} {q : Nat × va_E} (h : (pre ++ (w ++ post))[k]? = some q) : (k < pre.length ∧ pre[k]? = some q) ∨ (pre.length ≤ k ∧ w[k - pre.length]? = some q) ∨ (pre.length + w.length ≤ k ∧ post[k - pre.length - w.length]? = some q) := by
  rcases Nat.lt_or_ge k pre.length with h1 | h1
  · rw [List.getElem?_append_left h1] at h
    exact Or.inl ⟨h1, h⟩
  · rw [List.getElem?_append_right h1] at h
    rcases Nat.lt_or_ge (k - pre.length) w.length with h2 | h2
    · rw [List.getElem?_append_left h2] at h
      exact Or.inr (Or.inl ⟨h1, h⟩)
    · rw [List.getElem?_append_right h2] at h
      exact Or.inr (Or.inr ⟨by omega, h⟩)
theorem blk_free {pre w post : va_W} {A : Nat → Prop} {H0 H : Heap} {locs : List Loc} (hD : va_D A (pre ++ (w ++ post))) (hS : va_S A H0 H locs) (hA : ∀ q : Nat, H0.size ≤ q → A q) : ∀ q, va_A w H.size q → A q := by
  intro q h
  rcases h with ⟨k, e, h⟩ | h
  · exact hD.2 _ (q, e) (blk_at h)
  · exact hA q (Nat.le_trans hS.1 h)
theorem blk_P {pre w w1 post : va_W} {A : Nat → Prop} {D : va_G} {cl : List vw_C} {H H1 : Heap} (hP : va_P D cl (pre ++ (w ++ post)) H) (hD : va_D A (pre ++ (w ++ post))) (hl : w1.map Prod.fst = w.map Prod.fst) (hk : ∀ q : Nat, q < H.size → ¬ va_A w H.size q → H1[q]? = H[q]?) (hP1 : va_P D cl w1 H1) : va_P D cl (pre ++ (w1 ++ post)) H1 := by
  have l2 : w1.length = w.length := by
    have := congrArg List.length hl
    rwa [List.length_map, List.length_map] at this
  have out : ∀ (k : Nat) (q : Nat × va_E), (pre ++ (w ++ post))[k]? = some q → (k < pre.length ∨ pre.length + w.length ≤ k) → va_at D cl q H1 := by
    intro k q hq hr
    have hlt := (hP k q hq).lt
    refine (hP k q hq).kept (hk q.1 hlt ?_)
    rintro (⟨j, e, h⟩ | h)
    · have hj := (List.getElem?_eq_some_iff.mp h).1
      have := hD.1 k _ q (q.1, e) hq (blk_at h) rfl
      omega
    · omega
  intro k q hq
  rcases blk_cs hq with ⟨h1, h2⟩ | ⟨h1, h2⟩ | ⟨h1, h2⟩
  · exact out k q (by rw [List.getElem?_append_left h1]; exact h2) (Or.inl h1)
  · exact hP1 _ q h2
  · rw [l2] at h1 h2
    exact out k q (by rw [List.getElem?_append_right (by omega), List.getElem?_append_right (by omega)]; exact h2) (Or.inr h1)
/-- the words that say which private member of a nest mate a place names -/
def nsts : List Cond := [.methodLinkNest RX8 186 yX0_worth RX8, .methodLinkNest RX8 26 yX3_init RX8, .methodLinkNest RX8 33 yX2_init RX8, .methodLinkNest RX8 9 yX1_init RX8, .methodLinkNest RX0 39 yX8_has RX8, .methodLinkNest RX1 11 yX3_init RX8, .methodLinkNest RX2 104 yX8_has RX8, .methodLinkNest RX2 11 yX7_init RX8, .methodLinkNest RX2 117 yX8_within RX8, .methodLinkNest RX2 20 yX3_init RX8, .methodLinkNest RX2 83 yX8_isCounsel RX8, .methodLinkNest RX3 107 yX8_has RX8, .methodLinkNest RX3 43 yX8_within RX8, .methodLinkNest RX4 39 yX8_has RX8, .methodLinkNest RX5 29 yX8_has RX8]
theorem wx_X8_186 : Cond.methodLinkNest RX8 186 yX0_worth RX8 ∈ nsts := List.mem_of_getElem? (i := 0) rfl
theorem wx_X8_26 : Cond.methodLinkNest RX8 26 yX3_init RX8 ∈ nsts := List.mem_of_getElem? (i := 1) rfl
theorem wx_X8_33 : Cond.methodLinkNest RX8 33 yX2_init RX8 ∈ nsts := List.mem_of_getElem? (i := 2) rfl
theorem wx_X8_9 : Cond.methodLinkNest RX8 9 yX1_init RX8 ∈ nsts := List.mem_of_getElem? (i := 3) rfl
theorem wx_X0_39 : Cond.methodLinkNest RX0 39 yX8_has RX8 ∈ nsts := List.mem_of_getElem? (i := 4) rfl
theorem wx_X1_11 : Cond.methodLinkNest RX1 11 yX3_init RX8 ∈ nsts := List.mem_of_getElem? (i := 5) rfl
theorem wx_X2_104 : Cond.methodLinkNest RX2 104 yX8_has RX8 ∈ nsts := List.mem_of_getElem? (i := 6) rfl
theorem wx_X2_11 : Cond.methodLinkNest RX2 11 yX7_init RX8 ∈ nsts := List.mem_of_getElem? (i := 7) rfl
theorem wx_X2_117 : Cond.methodLinkNest RX2 117 yX8_within RX8 ∈ nsts := List.mem_of_getElem? (i := 8) rfl
theorem wx_X2_20 : Cond.methodLinkNest RX2 20 yX3_init RX8 ∈ nsts := List.mem_of_getElem? (i := 9) rfl
theorem wx_X2_83 : Cond.methodLinkNest RX2 83 yX8_isCounsel RX8 ∈ nsts := List.mem_of_getElem? (i := 10) rfl
theorem wx_X3_107 : Cond.methodLinkNest RX3 107 yX8_has RX8 ∈ nsts := List.mem_of_getElem? (i := 11) rfl
theorem wx_X3_43 : Cond.methodLinkNest RX3 43 yX8_within RX8 ∈ nsts := List.mem_of_getElem? (i := 12) rfl
theorem wx_X4_39 : Cond.methodLinkNest RX4 39 yX8_has RX8 ∈ nsts := List.mem_of_getElem? (i := 13) rfl
theorem wx_X5_29 : Cond.methodLinkNest RX5 29 yX8_has RX8 ∈ nsts := List.mem_of_getElem? (i := 14) rfl
def isNst (w : Cond) : Prop := ∃ a i x h, w = .methodLinkNest a i x h
theorem nsts_nst : ∀ w ∈ nsts, isNst w := by
  intro w hw
  simp only [nsts, List.mem_cons, List.not_mem_nil, or_false] at hw
  rcases hw with rfl | rfl | rfl | rfl | rfl | rfl | rfl | rfl | rfl | rfl | rfl | rfl | rfl | rfl | rfl <;> exact ⟨_, _, _, _, rfl⟩
def NN (U : State) : Prop := (∀ w ∈ nsts, va_Nw w U) ∧ va_AO RX1 U
theorem NN.warm {s U : State} (hW : s.WarmedH U.vm) (h : NN s) : NN U := by
  refine ⟨fun w hw => ?_, va_AO.moved hW.alike h.2⟩
  obtain ⟨a, i, x, b, rfl⟩ := nsts_nst w hw
  exact va_Nw.warmM hW (h.1 _ hw)
theorem NN.same {s U : State} (he : s.vm = U.vm) (h : NN s) : NN U := by
  refine ⟨fun w hw => ?_, va_AO.moved (by rw [he]; exact Vm.Alike.refl _) h.2⟩
  obtain ⟨a, i, x, b, rfl⟩ := nsts_nst w hw
  exact va_Nw.same rfl he (h.1 _ hw)
/-- the String constants, and String's static, where nobody writes -/
def lenZ : List Nat := [4, 4, 5, 3, 6]
def bytZ : List (List Int32) := [[99, 97, 115, 101], [98, 111, 119, 115], [112, 111, 105, 110, 116], [115, 97, 121], [111, 98, 106, 101, 99, 116]]
abbrev ZT : Type := (Nat → Nat) × (Nat → Nat)
def ZS (zz : ZT) (A : Nat → Prop) (U : State) (H : Heap) : Prop := vk_S 5 lenZ bytZ zz.1 zz.2 A U H ∧ va_Z "java/lang/String" "COMPACT_STRINGS" "Z" (.int 1) A U H ∧ va_Zq "jdk/internal/util/Preconditions" "SIOOBE_FORMATTER" "Ljava/util/function/BiFunction;" A U H ∧ vk_R RX2 39 "case" (zz.1 0) U ∧ vk_R RX2 49 "bows" (zz.1 1) U ∧ vk_R RX2 54 "point" (zz.1 2) U ∧ vk_R RX2 59 "say" (zz.1 3) U ∧ vk_R RX2 64 "object" (zz.1 4) U
theorem ZS.kept {zz : ZT} {A : Nat → Prop} {U : State} {H H1 : Heap} (h : ZS zz A U H) (hq : ∀ a : Nat, a < H.size → ¬ A a → H1[a]? = H[a]?) : ZS zz A U H1 := ⟨h.1.kept hq, h.2.1.kept hq, h.2.2.1.kept hq, h.2.2.2⟩
theorem ZS.narrow {zz : ZT} {A B : Nat → Prop} {U : State} {H : Heap} (h : ZS zz A U H) (hAB : ∀ q, B q → A q) : ZS zz B U H := ⟨h.1.narrow hAB, h.2.1.narrow hAB, h.2.2.1.narrow hAB, h.2.2.2⟩
theorem ZS.warm {zz : ZT} {A : Nat → Prop} {s U : State} {H : Heap} (hW : s.WarmedH U.vm) (h : ZS zz A s H) : ZS zz A U H := ⟨vk_S.moved hW.alike h.1, va_Z.moved hW.alike h.2.1, va_Zq.moved hW.alike h.2.2.1, vk_R.warm hW h.2.2.2.1, vk_R.warm hW h.2.2.2.2.1, vk_R.warm hW h.2.2.2.2.2.1, vk_R.warm hW h.2.2.2.2.2.2.1, vk_R.warm hW h.2.2.2.2.2.2.2⟩
theorem ZS.same {zz : ZT} {A : Nat → Prop} {u U : State} {H : Heap} (he : U.vm = u.vm) (ha : u.vm.Alike U.vm) (h : ZS zz A u H) : ZS zz A U H := ⟨vk_S.moved ha h.1, va_Z.moved ha h.2.1, va_Zq.moved ha h.2.2.1, vk_R.same he h.2.2.2.1, vk_R.same he h.2.2.2.2.1, vk_R.same he h.2.2.2.2.2.1, vk_R.same he h.2.2.2.2.2.2.1, vk_R.same he h.2.2.2.2.2.2.2⟩
/-- a world: what it holds, apart, and what stayed since H0 -/
def wd (D : va_G) (A : Nat → Prop) (H0 : Heap) (ws : va_W) (H : Heap) (locs : List Loc) : Prop := va_P D vwCl ws H ∧ va_D A ws ∧ va_S A H0 H locs
theorem wd_sub {D : va_G} {A : Nat → Prop} {H0 H : Heap} {ws ws' : va_W} {locs : List Loc} (h : wd D A H0 ws H locs) (is : List Nat) (hn : va_nd is = true) (hs : is.map (fun i => ws[i]?) = ws'.map some) : wd D A H0 ws' H locs := by
  refine ⟨fun k q hk => ?_, h.2.1.sub is hn hs, h.2.2⟩
  have h1 : (is.map (fun i => ws[i]?))[k]? = some (some q) := by rw [hs, List.getElem?_map, hk]; rfl
  rw [List.getElem?_map] at h1
  cases hi : is[k]? with
  | none => rw [hi] at h1; cases h1
  | some i => rw [hi] at h1; exact h.1 i q (Option.some.inj h1)
/-- a method's end: its answer, its world, nothing else changed -/
def kQ (D : va_G) (w1 : va_W) (o : Option Value) (A : Nat → Prop) : Array Value → State → Outcome → State → Prop := fun _ st oc t => (oc = .returned o ∧ va_P D vwCl w1 t.heap) ∧ va_F A st t
def kP (D : va_G) (zz : ZT) (tys : List (ClassId × FieldType)) (av : List Value) (W0 : va_W) (sz : Nat) : Array Value → State → Prop := va_Pc av (fun U => U.heap.size = sz ∧ va_P D vwCl W0 U.heap ∧ va_K D vwCl tys U ∧ NN U ∧ ZS zz (va_A W0 sz) U U.heap ∧ va_D (fun _ => True) W0)
/-- a contract: from the world W0 to the world W1 with the answer o, no cell made -/
def ct (l : Launch) (D : va_G) (zz : ZT) (tys : List (ClassId × FieldType)) (y : MethodName) (cc : ByteArray) (maxL : Nat) (ret : Option FieldType) (rm : Room) (av : List Value) (W0 W1 : va_W) (o : Option Value) : Prop :=
  ∀ sz : Nat, Met l y (.code y cc maxL ret :: G) rm (kP D zz tys av W0 sz) (kQ D W1 o (va_A W0 sz)) 0 0 (va_A W0 sz)
theorem kP_blind {D : va_G} {zz : ZT} {tys : List (ClassId × FieldType)} {av : List Value} {W0 : va_W} {sz : Nat} : FrameBlind (kP D zz tys av W0 sz) := by
  intro a U g mk q
  obtain ⟨q0, q1, qP, qK, qN, qZ, qD⟩ := q
  exact ⟨q0, q1, qP, va_K.moved (u := U) (U := U.calling g mk a) (Vm.Alike.refl U.vm) qK, NN.same (s := U) (U := U.calling g mk a) rfl qN, ZS.same (u := U) (U := U.calling g mk a) rfl (Vm.Alike.refl U.vm) qZ, qD⟩
theorem kP_of {D : va_G} {zz : ZT} {tys : List (ClassId × FieldType)} {av : List Value} {w pre post : va_W} {H : Heap} {locs : List Loc} {A : Nat → Prop} {s : State} (hK : va_K D vwCl tys s) (hN : NN s) (hZ : ZS zz A s s.heap) (hA : ∀ q : Nat, s.heap.size ≤ q → A q) (hW : wd D A s.heap (pre ++ (w ++ post)) H locs) : ∀ U : State, U.heap = H → s.WarmedH U.vm → kP D zz tys av w H.size av.toArray U := by
  intro U hU hV
  obtain ⟨hP, hD, hS⟩ := hW
  refine ⟨rfl, by rw [hU], ?_, va_K.moved hV.alike hK, NN.warm hV hN, ?_, fun i j p q hi hj h => ?_, fun _ _ _ => trivial⟩
  · rw [hU]
    exact fun k q hq => hP _ q (blk_at hq)
  · rw [hU]
    exact ((hZ.kept hS.2.1).narrow (blk_free hD hS hA)).warm hV
  · have := hD.1 _ _ p q (blk_at hi) (blk_at hj) h
    omega
theorem gC {y : MethodName} {cc : ByteArray} {maxL : Nat} {ret : Option FieldType} (h : Cond.code y cc maxL ret ∈ G) : GoodIn G (.code y cc maxL ret :: G) := fun w hw => (List.mem_cons.mp hw).elim (fun e => e ▸ ⟨h, G_good _ h⟩) (fun h => ⟨h, G_good _ h⟩)
theorem gV {own C : String} {idx : Nat} {y : MethodName} {cc : ByteArray} {maxL n : Nat} {ret : Option FieldType} (hlk : Cond.methodLink own idx y ∈ G) (h : WV y C cc maxL ret n) : GoodIn G (wsV own idx C y (.code y cc maxL ret :: G)) := by
  intro w hw
  rcases List.mem_append.mp hw with h1 | h1
  · have hg : w ∈ G := by
      simp only [List.mem_cons, List.not_mem_nil, or_false] at h1
      rcases h1 with rfl | rfl | rfl | rfl
      · exact hlk
      · exact h.1.1
      · exact h.1.2.1
      · exact h.1.2.2.1
    exact ⟨hg, G_good _ hg⟩
  · exact gC h.1.2.2.2 w h1
theorem gS {own : String} {idx : Nat} {y : MethodName} {cc : ByteArray} {maxL n : Nat} {ret : Option FieldType} (hlk : Cond.methodLink own idx y ∈ G) (h : WS y cc maxL ret n) : GoodIn G (va_wsS own idx y (.code y cc maxL ret :: G)) := by
  intro w hw
  rcases List.mem_append.mp hw with h1 | h1
  · have hg : w ∈ G := by
      simp only [List.mem_cons, List.not_mem_nil, or_false] at h1
      rcases h1 with rfl | rfl | rfl
      · exact hlk
      · exact h.1.1
      · exact h.1.2.1
    exact ⟨hg, G_good _ hg⟩
  · exact gC h.1.2.2 w h1
theorem gN {y : MethodName} {cc : ByteArray} {maxL n : Nat} {ret : Option FieldType} (h : WS y cc maxL ret n) : GoodIn G (.code y cc maxL ret :: G) := gC h.1.2.2
section KB
variable {p : Program} {l : Launch} {e : Env} {R : Room} {s : State} {m : MethodId} {args : Array Value} {below : List Frame} {meth : Method} {c : Code} {H : Heap} {locs : List Loc} {Q : State → Prop} {pc nL : Nat} {ls : Array Slot} {rest : List Value} {cc : ByteArray} {Ts : List Cond} {own : String} {D : va_G} {zz : ZT} {tys : List (ClassId × FieldType)} {A : Nat → Prop} {H0 : Heap} {ws : va_W}
theorem ct_of {y : MethodName} {rm : Room} {av : List Value} {W0 W1 : va_W} {o : Option Value} {maxL : Nat} {ret : Option FieldType} (hy : plainName y.cls = true) (hlen : (lg_sl av).length ≤ maxL)
    (body : ∀ (p : Program) (e : Env) (s : State) (m : MethodId) (below : List Frame) (meth : Method) (c : Code) (A : Nat → Prop), CallFix p m c cc maxL s av.toArray G y.cls → meth.sig.returnType = ret → meth.locks = false → va_K D vwCl tys s → NN s → ZS zz A s s.heap → (∀ q : Nat, s.heap.size ≤ q → A q) → ∀ (H : Heap) (locs : List Loc), wd D A s.heap W0 H locs → ∀ ls : Array Slot, lv_has ls maxL (lv_args 0 av) →
      W p l e rm s m av.toArray below meth c H locs 0 0 (MQ below (kQ D W1 o A) av.toArray s 0 0 A) (F0 m 0 ls [])) : ct l D zz tys y cc maxL ret rm av W0 W1 o := by
  intro sz
  refine Met.ofW (cc := cc) (maxL := maxL) (ret := ret) hy rfl ?_
  intro p e s m args below meth c s₁ B hml hv
  obtain ⟨rfl, hsz, hP, hK, hN, hZ, hD0⟩ := hv
  subst hsz
  have hl := lv_entry av (n := maxL) hlen
  rw [lg_entry_eq]
  exact body p e s m below meth c (va_A W0 s.heap.size) ⟨B.exec, B.bytes, hml, findClass_of_methodNamed B.named, fun w hw => atoms_spec (ws := .code y cc maxL ret :: G) B.pre w (List.mem_cons_of_mem _ hw)⟩ B.returns B.notSynchronized hK hN hZ (fun q h => Or.inr h) _ _ ⟨hP, hD0.self, va_S.rf⟩ _ hl
theorem k_back {w w1 pre post : va_W} {o : Option Value} {a : Array Value} {st0 : List Value} (hr : va_Run p l e R s m args below meth c H locs 0 0 0 0 (F0 m pc ls st0) rest (kQ D w1 o (va_A w H.size) a) (va_A w H.size)) (hW : wd D A H0 (pre ++ (w ++ post)) H locs) (hA : ∀ q : Nat, H0.size ≤ q → A q) (hl : w1.map Prod.fst = w.map Prod.fst) (st1 : List Value) (h1 : o.toList ++ rest = st1)
    (kk : ∀ (H1 : Heap) (locs1 : List Loc), wd D A H0 (pre ++ (w1 ++ post)) H1 locs1 → W p l e R s m args below meth c H1 locs1 0 0 Q (F0 m (pc + 3) ls st1)) : W p l e R s m args below meth c H locs 0 0 Q (F0 m pc ls st0) := by
  intro T hT X
  obtain ⟨hP, hD, hS⟩ := hW
  obtain ⟨v, st₀, t, T', L, h0, X', hL, e1, e2, ⟨⟨hv, hb⟩, hz, hk⟩, st⟩ := hr T hT X
  cases hv
  rw [h0] at hz hk
  have hf : ∀ q, va_A w H.size q → A q := blk_free hD hS hA
  subst h1
  obtain ⟨t2, a1, b1⟩ := kk T'.heap (locs ++ L) ⟨blk_P hP hD hl (fun q h1 h2 => by rw [e1]; exact hk q h1 h2) (by rw [e1]; exact hb), va_D_fst (by rw [List.map_append, List.map_append, List.map_append, List.map_append, hl]) hD,
    ⟨Nat.le_trans hS.1 (by rw [e1]; exact hz), fun q h1 h2 => by rw [e1, hk q (Nat.lt_of_lt_of_le h1 hS.1) (fun z => h2 (hf q z))]; exact hS.2.1 q h1 h2, fun q hq => by
      rcases List.mem_append.mp hq with h | h
      · exact hS.2.2 q h
      · exact hf _ (hL q h)⟩⟩ T' rfl X'
  exact ⟨t2, st t2 a1, b1⟩
theorem kv0 {index n maxL : Nat} {bytes : ByteArray} {ret : Option FieldType} {y : MethodName} {rm : Room} {b : Addr} {As : List Value} {W0 : va_W} {o : Option Value} {C : String} {st0 : List Value} (S : CallFix p m c cc nL s args G own) (hK : va_K D vwCl tys s) (hN : NN s) (hZ : ZS zz A s s.heap) (hA : ∀ q : Nat, s.heap.size ≤ q → A q) (hW : wd D A s.heap ws H locs) (hM : ct l D zz tys y bytes maxL ret rm (.ref b :: As) W0 W0 o) (hlk : Cond.methodLink own index y ∈ G) (hwv : WV y C bytes maxL ret n) (hrc : rm.cells = 0) (hrs : rm.slots = 0) (hR : rm.frames + 1 ≤ R.frames ∧ 8 + (maxL + 11) + rm.locals ≤ R.locals) (pre post : va_W) (h0 : pre ++ (W0 ++ post) = ws)
    (q0 : Nat) {ci : Nat} {fs : List Value} {r : vw_C} (he : ws[q0]? = some (b, .inr (ci, fs))) (hc : vwCl[ci]? = some r) (hrn : r.1 = C) (ha : As.length = n) (hsz : ls.size = nL) (hst : st0 = As.reverse ++ .ref b :: rest) (hroom : (rest.map fun v => v.category).sum ≤ 8) (hdg : decode cc pc = .ok (.invokevirtual index, 3)) (st1 : List Value) (h1 : o.toList ++ rest = st1)
    (kk : ∀ (H1 : Heap) (locs1 : List Loc), wd D A s.heap ws H1 locs1 → W p l e R s m args below meth c H1 locs1 0 0 Q (F0 m (pc + 3) ls st1)) : W p l e R s m args below meth c H locs 0 0 Q (F0 m pc ls st0) := by
  subst hst
  subst h0
  subst hrn
  exact k_back (va_runV (g := F0 m pc ls (As.reverse ++ .ref b :: rest)) S (hM H.size) (cwV n S.2.2.2.2 (gV hlk hwv) rfl hrc hrs hwv.2 hR) ⟨kP_blind, va_recv hK hW.1 hc he, kP_of hK hN hZ hA hW⟩ rfl ha hsz rfl (lv_room hroom) hdg ⟨Nat.zero_le _, Nat.zero_le _⟩) hW hA rfl st1 h1 kk
theorem kv {index n maxL : Nat} {bytes : ByteArray} {ret : Option FieldType} {y : MethodName} {rm : Room} {b : Addr} {As : List Value} {W0 W1 : va_W} (ws1 : va_W) {o : Option Value} {C : String} {st0 : List Value} (S : CallFix p m c cc nL s args G own) (hK : va_K D vwCl tys s) (hN : NN s) (hZ : ZS zz A s s.heap) (hA : ∀ q : Nat, s.heap.size ≤ q → A q) (hW : wd D A s.heap ws H locs) (hM : ct l D zz tys y bytes maxL ret rm (.ref b :: As) W0 W1 o) (hlk : Cond.methodLink own index y ∈ G) (hwv : WV y C bytes maxL ret n) (hrc : rm.cells = 0) (hrs : rm.slots = 0) (hR : rm.frames + 1 ≤ R.frames ∧ 8 + (maxL + 11) + rm.locals ≤ R.locals) (pre post : va_W) (h0 : pre ++ (W0 ++ post) = ws) (h01 : pre ++ (W1 ++ post) = ws1) (hl : W1.map Prod.fst = W0.map Prod.fst)
    (q0 : Nat) {ci : Nat} {fs : List Value} {r : vw_C} (he : ws[q0]? = some (b, .inr (ci, fs))) (hc : vwCl[ci]? = some r) (hrn : r.1 = C) (ha : As.length = n) (hsz : ls.size = nL) (hst : st0 = As.reverse ++ .ref b :: rest) (hroom : (rest.map fun v => v.category).sum ≤ 8) (hdg : decode cc pc = .ok (.invokevirtual index, 3)) (st1 : List Value) (h1 : o.toList ++ rest = st1)
    (kk : ∀ (H1 : Heap) (locs1 : List Loc), wd D A s.heap ws1 H1 locs1 → W p l e R s m args below meth c H1 locs1 0 0 Q (F0 m (pc + 3) ls st1)) : W p l e R s m args below meth c H locs 0 0 Q (F0 m pc ls st0) := by
  subst hst
  subst h0
  subst h01
  subst hrn
  exact k_back (va_runV (g := F0 m pc ls (As.reverse ++ .ref b :: rest)) S (hM H.size) (cwV n S.2.2.2.2 (gV hlk hwv) rfl hrc hrs hwv.2 hR) ⟨kP_blind, va_recv hK hW.1 hc he, kP_of hK hN hZ hA hW⟩ rfl ha hsz rfl (lv_room hroom) hdg ⟨Nat.zero_le _, Nat.zero_le _⟩) hW hA hl st1 h1 kk
theorem kvz0 {index n maxL : Nat} {bytes : ByteArray} {ret : Option FieldType} {y : MethodName} {rm : Room} {b : Addr} {As : List Value} {W0 : va_W} {o : Option Value} {C : String} {st0 : List Value} (S : CallFix p m c cc nL s args G own) (hK : va_K D vwCl tys s) (hN : NN s) (hZ : ZS zz A s s.heap) (hA : ∀ q : Nat, s.heap.size ≤ q → A q) (hW : wd D A s.heap ws H locs) (hM : ct l D zz tys y bytes maxL ret rm (.ref b :: As) W0 W0 o) (hlk : Cond.methodLink own index y ∈ G) (hwv : WV y C bytes maxL ret n) (hrc : rm.cells = 0) (hrs : rm.slots = 0) (hR : rm.frames + 1 ≤ R.frames ∧ 8 + (maxL + 11) + rm.locals ≤ R.locals) (pre post : va_W) (h0 : pre ++ (W0 ++ post) = ws)
    (i : Nat) (hi : i < 5) (hb5 : zz.1 i = b) (hC5 : "java/lang/String" = C) (ha : As.length = n) (hsz : ls.size = nL) (hst : st0 = As.reverse ++ .ref b :: rest) (hroom : (rest.map fun v => v.category).sum ≤ 8) (hdg : decode cc pc = .ok (.invokevirtual index, 3)) (st1 : List Value) (h1 : o.toList ++ rest = st1)
    (kk : ∀ (H1 : Heap) (locs1 : List Loc), wd D A s.heap ws H1 locs1 → W p l e R s m args below meth c H1 locs1 0 0 Q (F0 m (pc + 3) ls st1)) : W p l e R s m args below meth c H locs 0 0 Q (F0 m pc ls st0) := by
  subst hst
  subst h0
  subst hC5
  subst hb5
  exact k_back (va_runV (g := F0 m pc ls (As.reverse ++ .ref (zz.1 i) :: rest)) S (hM H.size) (cwV n S.2.2.2.2 (gV hlk hwv) rfl hrc hrs hwv.2 hR) ⟨kP_blind, vk_recv hZ.1 hi hW.2.2, kP_of hK hN hZ hA hW⟩ rfl ha hsz rfl (lv_room hroom) hdg ⟨Nat.zero_le _, Nat.zero_le _⟩) hW hA rfl st1 h1 kk
theorem ks0 {index n maxL : Nat} {bytes : ByteArray} {ret : Option FieldType} {y : MethodName} {rm : Room} {As : List Value} {W0 : va_W} {o : Option Value} {st0 : List Value} (S : CallFix p m c cc nL s args G own) (hK : va_K D vwCl tys s) (hN : NN s) (hZ : ZS zz A s s.heap) (hA : ∀ q : Nat, s.heap.size ≤ q → A q) (hW : wd D A s.heap ws H locs) (hM : ct l D zz tys y bytes maxL ret rm As W0 W0 o) (hlk : Cond.methodLink own index y ∈ G) (hwv : WS y bytes maxL ret n) (hrc : rm.cells = 0) (hrs : rm.slots = 0) (hR : rm.frames + 1 ≤ R.frames ∧ 8 + (maxL + 11) + rm.locals ≤ R.locals) (pre post : va_W) (h0 : pre ++ (W0 ++ post) = ws)
    (ha : As.length = n) (hsz : ls.size = nL) (hst : st0 = As.reverse ++ rest) (hroom : (rest.map fun v => v.category).sum ≤ 8) (hdg : decode cc pc = .ok (.invokestatic index, 3)) (st1 : List Value) (h1 : o.toList ++ rest = st1)
    (kk : ∀ (H1 : Heap) (locs1 : List Loc), wd D A s.heap ws H1 locs1 → W p l e R s m args below meth c H1 locs1 0 0 Q (F0 m (pc + 3) ls st1)) : W p l e R s m args below meth c H locs 0 0 Q (F0 m pc ls st0) := by
  subst hst
  subst h0
  exact k_back (va_runS (g := F0 m pc ls (As.reverse ++ rest)) S (hM H.size) (va_cwS n S.2.2.2.2 (gS hlk hwv) rfl hrc hrs hwv.2 hR) ⟨kP_blind, kP_of hK hN hZ hA hW⟩ rfl ha hsz rfl (lv_room hroom) hdg ⟨Nat.zero_le _, Nat.zero_le _⟩) hW hA rfl st1 h1 kk
theorem ks {index n maxL : Nat} {bytes : ByteArray} {ret : Option FieldType} {y : MethodName} {rm : Room} {As : List Value} {W0 W1 : va_W} (ws1 : va_W) {o : Option Value} {st0 : List Value} (S : CallFix p m c cc nL s args G own) (hK : va_K D vwCl tys s) (hN : NN s) (hZ : ZS zz A s s.heap) (hA : ∀ q : Nat, s.heap.size ≤ q → A q) (hW : wd D A s.heap ws H locs) (hM : ct l D zz tys y bytes maxL ret rm As W0 W1 o) (hlk : Cond.methodLink own index y ∈ G) (hwv : WS y bytes maxL ret n) (hrc : rm.cells = 0) (hrs : rm.slots = 0) (hR : rm.frames + 1 ≤ R.frames ∧ 8 + (maxL + 11) + rm.locals ≤ R.locals) (pre post : va_W) (h0 : pre ++ (W0 ++ post) = ws) (h01 : pre ++ (W1 ++ post) = ws1) (hl : W1.map Prod.fst = W0.map Prod.fst)
    (ha : As.length = n) (hsz : ls.size = nL) (hst : st0 = As.reverse ++ rest) (hroom : (rest.map fun v => v.category).sum ≤ 8) (hdg : decode cc pc = .ok (.invokestatic index, 3)) (st1 : List Value) (h1 : o.toList ++ rest = st1)
    (kk : ∀ (H1 : Heap) (locs1 : List Loc), wd D A s.heap ws1 H1 locs1 → W p l e R s m args below meth c H1 locs1 0 0 Q (F0 m (pc + 3) ls st1)) : W p l e R s m args below meth c H locs 0 0 Q (F0 m pc ls st0) := by
  subst hst
  subst h0
  subst h01
  exact k_back (va_runS (g := F0 m pc ls (As.reverse ++ rest)) S (hM H.size) (va_cwS n S.2.2.2.2 (gS hlk hwv) rfl hrc hrs hwv.2 hR) ⟨kP_blind, kP_of hK hN hZ hA hW⟩ rfl ha hsz rfl (lv_room hroom) hdg ⟨Nat.zero_le _, Nat.zero_le _⟩) hW hA hl st1 h1 kk
theorem kn0 {index n maxL : Nat} {host : String} {bytes : ByteArray} {ret : Option FieldType} {y : MethodName} {rm : Room} {As : List Value} {W0 : va_W} {o : Option Value} {st0 : List Value} (S : CallFix p m c cc nL s args G own) (hK : va_K D vwCl tys s) (hN : NN s) (hZ : ZS zz A s s.heap) (hA : ∀ q : Nat, s.heap.size ≤ q → A q) (hW : wd D A s.heap ws H locs) (hM : ct l D zz tys y bytes maxL ret rm As W0 W0 o) (hlk : Cond.methodLinkNest own index y host ∈ nsts) (hwv : WS y bytes maxL ret n) (hrc : rm.cells = 0) (hrs : rm.slots = 0) (hR : rm.frames + 1 ≤ R.frames ∧ 8 + (maxL + 11) + rm.locals ≤ R.locals) (pre post : va_W) (h0 : pre ++ (W0 ++ post) = ws)
    (ha : As.length = n) (hsz : ls.size = nL) (hst : st0 = As.reverse ++ rest) (hroom : (rest.map fun v => v.category).sum ≤ 8) (hdg : decode cc pc = .ok (.invokestatic index, 3)) (st1 : List Value) (h1 : o.toList ++ rest = st1)
    (kk : ∀ (H1 : Heap) (locs1 : List Loc), wd D A s.heap ws H1 locs1 → W p l e R s m args below meth c H1 locs1 0 0 Q (F0 m (pc + 3) ls st1)) : W p l e R s m args below meth c H locs 0 0 Q (F0 m pc ls st0) := by
  subst hst
  subst h0
  exact k_back (va_runSN (g := F0 m pc ls (As.reverse ++ rest)) S (hM H.size) ⟨va_cnB n S.2.2.2.2 (gN hwv) rfl hrc hrs (hN.1 _ hlk) (S.2.2.2.2 _ hwv.1.2.1) hwv.2 hR, S.2.2.2.2 _ hwv.1.1, trivial⟩ ⟨kP_blind, kP_of hK hN hZ hA hW⟩ rfl ha hsz rfl (lv_room hroom) hdg ⟨Nat.zero_le _, Nat.zero_le _⟩) hW hA rfl st1 h1 kk
theorem kn {index n maxL : Nat} {host : String} {bytes : ByteArray} {ret : Option FieldType} {y : MethodName} {rm : Room} {As : List Value} {W0 W1 : va_W} (ws1 : va_W) {o : Option Value} {st0 : List Value} (S : CallFix p m c cc nL s args G own) (hK : va_K D vwCl tys s) (hN : NN s) (hZ : ZS zz A s s.heap) (hA : ∀ q : Nat, s.heap.size ≤ q → A q) (hW : wd D A s.heap ws H locs) (hM : ct l D zz tys y bytes maxL ret rm As W0 W1 o) (hlk : Cond.methodLinkNest own index y host ∈ nsts) (hwv : WS y bytes maxL ret n) (hrc : rm.cells = 0) (hrs : rm.slots = 0) (hR : rm.frames + 1 ≤ R.frames ∧ 8 + (maxL + 11) + rm.locals ≤ R.locals) (pre post : va_W) (h0 : pre ++ (W0 ++ post) = ws) (h01 : pre ++ (W1 ++ post) = ws1) (hl : W1.map Prod.fst = W0.map Prod.fst)
    (ha : As.length = n) (hsz : ls.size = nL) (hst : st0 = As.reverse ++ rest) (hroom : (rest.map fun v => v.category).sum ≤ 8) (hdg : decode cc pc = .ok (.invokestatic index, 3)) (st1 : List Value) (h1 : o.toList ++ rest = st1)
    (kk : ∀ (H1 : Heap) (locs1 : List Loc), wd D A s.heap ws1 H1 locs1 → W p l e R s m args below meth c H1 locs1 0 0 Q (F0 m (pc + 3) ls st1)) : W p l e R s m args below meth c H locs 0 0 Q (F0 m pc ls st0) := by
  subst hst
  subst h0
  subst h01
  exact k_back (va_runSN (g := F0 m pc ls (As.reverse ++ rest)) S (hM H.size) ⟨va_cnB n S.2.2.2.2 (gN hwv) rfl hrc hrs (hN.1 _ hlk) (S.2.2.2.2 _ hwv.1.2.1) hwv.2 hR, S.2.2.2.2 _ hwv.1.1, trivial⟩ ⟨kP_blind, kP_of hK hN hZ hA hW⟩ rfl ha hsz rfl (lv_room hroom) hdg ⟨Nat.zero_le _, Nat.zero_le _⟩) hW hA hl st1 h1 kk
theorem gf {C : String} {T : u_T} {N ci index a k : Nat} {fs : List Value} {v : Value} (S : CallFix p m c cc nL s args Ts own) (hK : va_K D vwCl tys s) (hW : wd D A H0 ws H locs) (hin : ∀ w ∈ u_ws C T N, w ∈ Ts) (hc : vwCl[ci]? = some (C, T, N)) (hk : k < N) (hlk : Cond.fieldLink own index (T k).1 (T k).2.1 (T k).2.2.1 ∈ Ts) (q0 : Nat) (he : ws[q0]? = some (a, .inr (ci, fs))) (hv : fs[k]? = some v) (hdg : decode cc pc = .ok (.getfield index, 3))
    (kk : W p l e R s m args below meth c H locs 0 0 Q (F0 m (pc + 3) ls (v :: rest))) : W p l e R s m args below meth c H locs 0 0 Q (F0 m pc ls (.ref a :: rest)) :=
  va_get S.1 S.2.1 S.2.2.2.2 hin S.2.2.2.1 hK hW.1 q0 he hc k hk (S.2.2.2.2 _ hlk) (fun _ h => h) hv hdg kk
theorem pf {C : String} {T : u_T} {N ci index a k : Nat} {fs : List Value} {v : Value} {ty : FieldType} (S : CallFix p m c cc nL s args Ts own) (hK : va_K D vwCl tys s) (hW : wd D A H0 ws H locs) (hin : ∀ w ∈ u_ws C T N, w ∈ Ts) (hc : vwCl[ci]? = some (C, T, N)) (hk : k < N) (ty0 : Nat → FieldType) (hty : ∀ k, k < N → parseFieldDescriptor (T k).2.2.1 = some (ty0 k)) (hnm : ∀ a, a < N → ∀ b, b < N → a ≠ b → (T a).2.1 ≠ (T b).2.1) (hlk : Cond.fieldLink own index (T k).1 (T k).2.1 (T k).2.2.1 ∈ Ts) (q0 : Nat) (he : ws[q0]? = some (a, .inr (ci, fs))) (hfin : (T k).2.2.2 = false) (hte : ty0 k = ty) (hn : narrow ty v = v) (hfit : fits ty v = true) (hlen : k < fs.length) (hdg : decode cc pc = .ok (.putfield index, 3))
    (kk : ∀ (H1 : Heap) (locs1 : List Loc), wd D A H0 (ws.set q0 (a, .inr (ci, fs.set k v))) H1 locs1 → W p l e R s m args below meth c H1 locs1 0 0 Q (F0 m (pc + 3) ls rest)) : W p l e R s m args below meth c H locs 0 0 Q (F0 m pc ls (v :: .ref a :: rest)) :=
  va_put S.1 S.2.1 S.2.2.2.2 hin ty0 hty hnm S.2.2.2.1 hK hW.1 hW.2.1 hW.2.2 q0 he hc k hk (S.2.2.2.2 _ hlk) (fun _ h => h) hfin (by rw [hty k hk, hte]) hn hfit hlen hdg (fun H1 locs1 a1 a2 a3 => kk H1 locs1 ⟨a1, a2, a3⟩)
theorem ia {a n : Nat} {cA : ClassId} {f : Nat → Int32} {i : Int32} (S : CallFix p m c cc nL s args Ts own) (hK : va_K D vwCl tys s) (hW : wd D A H0 ws H locs) (ht : tys[0]? = some (cA, .int)) (q0 : Nat) (ha : ws[q0]? = some (a, .inl (cA, n, .inl f))) (hin : inb i n) (hdg : decode cc pc = .ok (.iaload, 1))
    (kk : W p l e R s m args below meth c H locs 0 0 Q (F0 m (pc + 1) ls (.int (f (ix i)) :: rest))) : W p l e R s m args below meth c H locs 0 0 Q (F0 m pc ls (.int i :: .ref a :: rest)) :=
  va_iald S.1 S.2.1 hK hW.1 q0 0 ha ht (inb_vp hin) hdg kk
theorem ist {a n : Nat} {cA : ClassId} {f : Nat → Int32} {i x : Int32} (S : CallFix p m c cc nL s args Ts own) (hK : va_K D vwCl tys s) (hW : wd D A H0 ws H locs) (ht : tys[0]? = some (cA, .int)) (q0 : Nat) (ha : ws[q0]? = some (a, .inl (cA, n, .inl f))) (hin : inb i n) (hdg : decode cc pc = .ok (.iastore, 1))
    (kk : ∀ (H1 : Heap) (locs1 : List Loc), wd D A H0 (ws.set q0 (a, .inl (cA, n, .inl (upd f (ix i) x)))) H1 locs1 → W p l e R s m args below meth c H1 locs1 0 0 Q (F0 m (pc + 1) ls rest)) : W p l e R s m args below meth c H locs 0 0 Q (F0 m pc ls (.int x :: .int i :: .ref a :: rest)) :=
  va_iast S.1 S.2.1 hK hW.1 hW.2.1 hW.2.2 q0 0 ha ht (inb_vp hin) hdg (fun H1 locs1 a1 a2 a3 => kk H1 locs1 ⟨a1, a2, a3⟩)
theorem iaK {a n kN : Nat} {cA : ClassId} {f : Nat → Int32} {i : Int32} (S : CallFix p m c cc nL s args Ts own) (hK : va_K D vwCl tys s) (hW : wd D A H0 ws H locs) (ht : tys[0]? = some (cA, .int)) (q0 : Nat) (ha : ws[q0]? = some (a, .inl (cA, n, .inl f))) (hin : inb i n) (hk : ix i = kN) (hdg : decode cc pc = .ok (.iaload, 1))
    (kk : W p l e R s m args below meth c H locs 0 0 Q (F0 m (pc + 1) ls (.int (f kN) :: rest))) : W p l e R s m args below meth c H locs 0 0 Q (F0 m pc ls (.int i :: .ref a :: rest)) := by
  subst hk; exact ia S hK hW ht q0 ha hin hdg kk
theorem istK {a n kN : Nat} {cA : ClassId} {f : Nat → Int32} {i x : Int32} (S : CallFix p m c cc nL s args Ts own) (hK : va_K D vwCl tys s) (hW : wd D A H0 ws H locs) (ht : tys[0]? = some (cA, .int)) (q0 : Nat) (ha : ws[q0]? = some (a, .inl (cA, n, .inl f))) (hin : inb i n) (hk : ix i = kN) (hdg : decode cc pc = .ok (.iastore, 1))
    (kk : ∀ (H1 : Heap) (locs1 : List Loc), wd D A H0 (ws.set q0 (a, .inl (cA, n, .inl (upd f kN x)))) H1 locs1 → W p l e R s m args below meth c H1 locs1 0 0 Q (F0 m (pc + 1) ls rest)) : W p l e R s m args below meth c H locs 0 0 Q (F0 m pc ls (.int x :: .int i :: .ref a :: rest)) := by
  subst hk; exact ist S hK hW ht q0 ha hin hdg kk
theorem za {a n : Nat} {cA : ClassId} {f : Nat → Int32} {i : Int32} (S : CallFix p m c cc nL s args Ts own) (hK : va_K D vwCl tys s) (hW : wd D A H0 ws H locs) (ht : tys[2]? = some (cA, .boolean)) (q0 : Nat) (ha : ws[q0]? = some (a, .inl (cA, n, .inl f))) (hin : inb i n) (hdg : decode cc pc = .ok (.baload, 1))
    (kk : W p l e R s m args below meth c H locs 0 0 Q (F0 m (pc + 1) ls (.int (f (ix i)) :: rest))) : W p l e R s m args below meth c H locs 0 0 Q (F0 m pc ls (.int i :: .ref a :: rest)) :=
  va_zald S.1 S.2.1 hK hW.1 q0 2 ha ht (inb_vp hin) hdg kk
theorem xa0 {a b8 b9 : Nat} {cB : ClassId} {i : Int32} (S : CallFix p m c cc nL s args Ts own) (hK : va_K D vwCl tys s) (hW : wd D A H0 ws H locs) (ht : tys[3]? = some (cB, .object RX1)) (q0 : Nat) (ha : ws[q0]? = some (a, .inl (cB, 2, .inr (.inr (.inr (.inr (va_up (va_up (fun _ => none) 0 (some b8)) 1 (some b9)))))))) (hin : inb i 2) (hi : i = 0) (hdg : decode cc pc = .ok (.aaload, 1))
    (kk : W p l e R s m args below meth c H locs 0 0 Q (F0 m (pc + 1) ls (.ref b8 :: rest))) : W p l e R s m args below meth c H locs 0 0 Q (F0 m pc ls (.int i :: .ref a :: rest)) := by
  refine va_aldq S.1 S.2.1 hK hW.1 q0 3 ha ht (inb_vp hin) hdg ?_
  subst hi
  exact kk
theorem xa1 {a b8 b9 : Nat} {cB : ClassId} {i : Int32} (S : CallFix p m c cc nL s args Ts own) (hK : va_K D vwCl tys s) (hW : wd D A H0 ws H locs) (ht : tys[3]? = some (cB, .object RX1)) (q0 : Nat) (ha : ws[q0]? = some (a, .inl (cB, 2, .inr (.inr (.inr (.inr (va_up (va_up (fun _ => none) 0 (some b8)) 1 (some b9)))))))) (hin : inb i 2) (hi : ¬ i = 0) (hdg : decode cc pc = .ok (.aaload, 1))
    (kk : W p l e R s m args below meth c H locs 0 0 Q (F0 m (pc + 1) ls (.ref b9 :: rest))) : W p l e R s m args below meth c H locs 0 0 Q (F0 m pc ls (.int i :: .ref a :: rest)) := by
  refine va_aldq S.1 S.2.1 hK hW.1 q0 3 ha ht (inb_vp hin) hdg ?_
  have e : i.toNatClampNeg = 1 := by
    have h2 : i.toNatClampNeg = i.toInt.toNat := rfl
    have h3 := hin.1
    have h4 := hin.2
    have h5 : i.toInt ≠ 0 := fun h1 => hi (Int32.toInt_inj.mp h1)
    omega
  have e2 : va_rf (va_up (va_up (fun _ => none) 0 (some b8)) 1 (some b9) i.toNatClampNeg) = .ref b9 := by
    rw [e]
    rfl
  rw [e2]
  exact kk
theorem la {a n : Nat} {cA : ClassId} {f : Nat → Int64} {i : Int32} (S : CallFix p m c cc nL s args Ts own) (hK : va_K D vwCl tys s) (hW : wd D A H0 ws H locs) (ht : tys[1]? = some (cA, .long)) (q0 : Nat) (ha : ws[q0]? = some (a, .inl (cA, n, .inr (.inl f)))) (hin : inb i n) (hdg : decode cc pc = .ok (.laload, 1))
    (kk : W p l e R s m args below meth c H locs 0 0 Q (F0 m (pc + 1) ls (.long (f (ix i)) :: rest))) : W p l e R s m args below meth c H locs 0 0 Q (F0 m pc ls (.int i :: .ref a :: rest)) :=
  va_lald S.1 S.2.1 hK hW.1 q0 1 ha ht (inb_vp hin) hdg kk
theorem lst {a n : Nat} {cA : ClassId} {f : Nat → Int64} {i : Int32} {x : Int64} (S : CallFix p m c cc nL s args Ts own) (hK : va_K D vwCl tys s) (hW : wd D A H0 ws H locs) (ht : tys[1]? = some (cA, .long)) (q0 : Nat) (ha : ws[q0]? = some (a, .inl (cA, n, .inr (.inl f)))) (hin : inb i n) (hdg : decode cc pc = .ok (.lastore, 1))
    (kk : ∀ (H1 : Heap) (locs1 : List Loc), wd D A H0 (ws.set q0 (a, .inl (cA, n, .inr (.inl (vp_updL f (ix i) x))))) H1 locs1 → W p l e R s m args below meth c H1 locs1 0 0 Q (F0 m (pc + 1) ls rest)) : W p l e R s m args below meth c H locs 0 0 Q (F0 m pc ls (.long x :: .int i :: .ref a :: rest)) :=
  va_last S.1 S.2.1 hK hW.1 hW.2.1 hW.2.2 q0 1 ha ht (inb_vp hin) hdg (fun H1 locs1 a1 a2 a3 => kk H1 locs1 ⟨a1, a2, a3⟩)
theorem zst {a n : Nat} {cA : ClassId} {f : Nat → Int32} {i x : Int32} (S : CallFix p m c cc nL s args Ts own) (hK : va_K D vwCl tys s) (hW : wd D A H0 ws H locs) (ht : tys[2]? = some (cA, .boolean)) (q0 : Nat) (ha : ws[q0]? = some (a, .inl (cA, n, .inl f))) (hin : inb i n) (hx : vp_nar .boolean x = x) (hdg : decode cc pc = .ok (.bastore, 1))
    (kk : ∀ (H1 : Heap) (locs1 : List Loc), wd D A H0 (ws.set q0 (a, .inl (cA, n, .inl (upd f (ix i) x)))) H1 locs1 → W p l e R s m args below meth c H1 locs1 0 0 Q (F0 m (pc + 1) ls rest)) : W p l e R s m args below meth c H locs 0 0 Q (F0 m pc ls (.int x :: .int i :: .ref a :: rest)) :=
  va_zast S.1 S.2.1 hK hW.1 hW.2.1 hW.2.2 q0 2 ha ht (inb_vp hin) hdg (fun H1 locs1 a1 a2 a3 => kk H1 locs1 ⟨by rw [hx] at a1; exact a1, by rw [hx] at a2; exact a2, a3⟩)
theorem cpi {a b n0 n1 sN dN nN index : Nat} {cA : ClassId} {f g : Nat → Int32} {sp dp n : Int32} (S : CallFix p m c cc nL s args Ts own) (hK : va_K D vwCl tys s) (hW : wd D A H0 ws H locs) (hml : c.maxLocals = ls.size) (ht : tys[0]? = some (cA, .int)) (hlink : (Cond.methodLink own index arraycopyName).before args s = true) (hnat : (Cond.native arraycopyName).before args s = true) (hstat : (Cond.static arraycopyName).before args s = true) (hini : (Cond.initialized "java/lang/System").before args s = true) (q0 q1 : Nat) (ha0 : ws[q0]? = some (b, .inl (cA, n0, .inl f))) (ha1 : ws[q1]? = some (a, .inl (cA, n1, .inl g)))
    (e1 : sp.toNatClampNeg = sN) (e2 : dp.toNatClampNeg = dN) (e3 : n.toNatClampNeg = nN) (h1 : ¬ sp < 0) (h2 : ¬ dp < 0) (h3 : ¬ n < 0) (h4 : sN + nN ≤ n0) (h5 : dN + nN ≤ n1) (hf1 : 1 ≤ R.frames) (hf2 : (rest.map fun v => v.category).sum + (nativeFrameWords "java/lang/System" "arraycopy" 5 + 11) ≤ R.locals) (hdg : decode cc pc = .ok (.invokestatic index, 3))
    (kk : ∀ (H1 : Heap) (locs1 : List Loc), wd D A H0 (ws.set q1 (a, .inl (cA, n1, .inl (va_cpy f g sN dN nN)))) H1 locs1 → W p l e R s m args below meth c H1 locs1 0 0 Q (F0 m (pc + 3) ls rest)) : W p l e R s m args below meth c H locs 0 0 Q (F0 m pc ls (.int n :: .int dp :: .ref a :: .int sp :: .ref b :: rest)) := by
  subst e1; subst e2; subst e3
  exact va_copyi S.1 S.2.1 hml S.2.2.2.1 hlink hnat hstat hini hK hW.1 hW.2.1 hW.2.2 q0 q1 0 0 ha0 ha1 ht ht rfl h1 h2 h3 h4 h5 (fun _ _ => rfl) hf1 hf2 hdg (fun H1 locs1 a1 a2 a3 => kk H1 locs1 ⟨a1, a2, a3⟩)
theorem cpl {a b n0 n1 sN dN nN index : Nat} {cA : ClassId} {f g : Nat → Int64} {sp dp n : Int32} (S : CallFix p m c cc nL s args Ts own) (hK : va_K D vwCl tys s) (hW : wd D A H0 ws H locs) (hml : c.maxLocals = ls.size) (ht : tys[1]? = some (cA, .long)) (hlink : (Cond.methodLink own index arraycopyName).before args s = true) (hnat : (Cond.native arraycopyName).before args s = true) (hstat : (Cond.static arraycopyName).before args s = true) (hini : (Cond.initialized "java/lang/System").before args s = true) (q0 q1 : Nat) (ha0 : ws[q0]? = some (b, .inl (cA, n0, .inr (.inl f)))) (ha1 : ws[q1]? = some (a, .inl (cA, n1, .inr (.inl g))))
    (e1 : sp.toNatClampNeg = sN) (e2 : dp.toNatClampNeg = dN) (e3 : n.toNatClampNeg = nN) (h1 : ¬ sp < 0) (h2 : ¬ dp < 0) (h3 : ¬ n < 0) (h4 : sN + nN ≤ n0) (h5 : dN + nN ≤ n1) (hf1 : 1 ≤ R.frames) (hf2 : (rest.map fun v => v.category).sum + (nativeFrameWords "java/lang/System" "arraycopy" 5 + 11) ≤ R.locals) (hdg : decode cc pc = .ok (.invokestatic index, 3))
    (kk : ∀ (H1 : Heap) (locs1 : List Loc), wd D A H0 (ws.set q1 (a, .inl (cA, n1, .inr (.inl (va_cpy f g sN dN nN))))) H1 locs1 → W p l e R s m args below meth c H1 locs1 0 0 Q (F0 m (pc + 3) ls rest)) : W p l e R s m args below meth c H locs 0 0 Q (F0 m pc ls (.int n :: .int dp :: .ref a :: .int sp :: .ref b :: rest)) := by
  subst e1; subst e2; subst e3
  exact va_copyl S.1 S.2.1 hml S.2.2.2.1 hlink hnat hstat hini hK hW.1 hW.2.1 hW.2.2 q0 q1 1 1 ha0 ha1 ht ht rfl h1 h2 h3 h4 h5 (fun _ _ => rfl) hf1 hf2 hdg (fun H1 locs1 a1 a2 a3 => kk H1 locs1 ⟨a1, a2, a3⟩)
theorem ri {W1 : va_W} {v : Int32} (S : CallFix p m c cc nL s args Ts own) (hr : meth.sig.returnType = some .int) (hlocks : meth.locks = false) (hW : wd D A s.heap W1 H locs) (hdg : decode cc pc = .ok (.ireturn, 1)) : W p l e R s m args below meth c H locs 0 0 (MQ below (kQ D W1 (some (.int v)) A) args s 0 0 A) (F0 m pc ls [.int v]) :=
  W.iret S.1 S.2.1 hr (fun t ht _ => ⟨⟨rfl, by rw [ht]; exact hW.1⟩, hW.2.2.F ht⟩) hW.2.2.2.2 hdg hlocks
theorem rz {W1 : va_W} {v : Int32} (S : CallFix p m c cc nL s args Ts own) (hr : meth.sig.returnType = some .boolean) (hlocks : meth.locks = false) (hW : wd D A s.heap W1 H locs) (hn : narrow .boolean (.int v) = .int v) (hdg : decode cc pc = .ok (.ireturn, 1)) : W p l e R s m args below meth c H locs 0 0 (MQ below (kQ D W1 (some (.int v)) A) args s 0 0 A) (F0 m pc ls [.int v]) :=
  W.zret S.1 S.2.1 hr hn (fun t ht _ => ⟨⟨rfl, by rw [ht]; exact hW.1⟩, hW.2.2.F ht⟩) hW.2.2.2.2 hdg hlocks
theorem rb {W1 : va_W} {v : Int32} {ty : FieldType} (S : CallFix p m c cc nL s args Ts own) (hr : meth.sig.returnType = some ty) (hlocks : meth.locks = false) (hW : wd D A s.heap W1 H locs) (hn : narrow ty (.int v) = .int v) (hdg : decode cc pc = .ok (.ireturn, 1)) : W p l e R s m args below meth c H locs 0 0 (MQ below (kQ D W1 (some (.int v)) A) args s 0 0 A) (F0 m pc ls [.int v]) :=
  W.zret S.1 S.2.1 hr hn (fun t ht _ => ⟨⟨rfl, by rw [ht]; exact hW.1⟩, hW.2.2.F ht⟩) hW.2.2.2.2 hdg hlocks
theorem rl {W1 : va_W} {v : Int64} (S : CallFix p m c cc nL s args Ts own) (hr : meth.sig.returnType = some .long) (hlocks : meth.locks = false) (hW : wd D A s.heap W1 H locs) (hdg : decode cc pc = .ok (.lreturn, 1)) : W p l e R s m args below meth c H locs 0 0 (MQ below (kQ D W1 (some (.long v)) A) args s 0 0 A) (F0 m pc ls [.long v]) :=
  W.lret S.1 S.2.1 hr (fun t ht _ => ⟨⟨rfl, by rw [ht]; exact hW.1⟩, hW.2.2.F ht⟩) hW.2.2.2.2 hdg hlocks
theorem rv {W1 : va_W} (S : CallFix p m c cc nL s args Ts own) (hr : meth.sig.returnType = none) (hlocks : meth.locks = false) (hW : wd D A s.heap W1 H locs) (hdg : decode cc pc = .ok (.return_, 1)) : W p l e R s m args below meth c H locs 0 0 (MQ below (kQ D W1 none A) args s 0 0 A) (F0 m pc ls []) :=
  W.vret S.1 S.2.1 hr (fun t ht _ => ⟨⟨rfl, by rw [ht]; exact hW.1⟩, hW.2.2.F ht⟩) hW.2.2.2.2 hdg hlocks
theorem nmi {x y : Int32} (h : y = x) (k : W p l e R s m args below meth c H locs 0 0 Q (F0 m pc ls (.int y :: rest))) : W p l e R s m args below meth c H locs 0 0 Q (F0 m pc ls (.int x :: rest)) := h ▸ k
theorem nml {x y : Int64} (h : y = x) (k : W p l e R s m args below meth c H locs 0 0 Q (F0 m pc ls (.long y :: rest))) : W p l e R s m args below meth c H locs 0 0 Q (F0 m pc ls (.long x :: rest)) := h ▸ k
end KB
theorem nz {v : Int32} (h : v = 0 ∨ v = 1) : narrow .boolean (.int v) = .int v := by rcases h with rfl | rfl <;> rfl
