def bd6 {α0 α1 α2 α3 α4 α5 γ : Type} (o : Option (α0 × α1 × α2 × α3 × α4 × α5)) (K : α0 → α1 → α2 → α3 → α4 → α5 → Option γ) : Option γ := match o with
  | none => none
  | some (x0, x1, x2, x3, x4, x5) => K x0 x1 x2 x3 x4 x5
theorem bd6_e {α0 α1 α2 α3 α4 α5 γ : Type} {o : Option (α0 × α1 × α2 × α3 × α4 × α5)} {K : α0 → α1 → α2 → α3 → α4 → α5 → Option γ} {q : γ} (h : bd6 o K = some q) : ∃ x0 x1 x2 x3 x4 x5, o = some (x0, x1, x2, x3, x4, x5) ∧ K x0 x1 x2 x3 x4 x5 = some q := by
  unfold bd6 at h
  split at h
  · cases h
  · exact ⟨_, _, _, _, _, _, rfl, h⟩
def bd7 {α0 α1 α2 α3 α4 α5 α6 γ : Type} (o : Option (α0 × α1 × α2 × α3 × α4 × α5 × α6)) (K : α0 → α1 → α2 → α3 → α4 → α5 → α6 → Option γ) : Option γ := match o with
  | none => none
  | some (x0, x1, x2, x3, x4, x5, x6) => K x0 x1 x2 x3 x4 x5 x6
theorem bd7_e {α0 α1 α2 α3 α4 α5 α6 γ : Type} {o : Option (α0 × α1 × α2 × α3 × α4 × α5 × α6)} {K : α0 → α1 → α2 → α3 → α4 → α5 → α6 → Option γ} {q : γ} (h : bd7 o K = some q) : ∃ x0 x1 x2 x3 x4 x5 x6, o = some (x0, x1, x2, x3, x4, x5, x6) ∧ K x0 x1 x2 x3 x4 x5 x6 = some q := by
  unfold bd7 at h
  split at h
  · cases h
  · exact ⟨_, _, _, _, _, _, _, rfl, h⟩
def bd8 {α0 α1 α2 α3 α4 α5 α6 α7 γ : Type} (o : Option (α0 × α1 × α2 × α3 × α4 × α5 × α6 × α7)) (K : α0 → α1 → α2 → α3 → α4 → α5 → α6 → α7 → Option γ) : Option γ := match o with
  | none => none
  | some (x0, x1, x2, x3, x4, x5, x6, x7) => K x0 x1 x2 x3 x4 x5 x6 x7
theorem bd8_e {α0 α1 α2 α3 α4 α5 α6 α7 γ : Type} {o : Option (α0 × α1 × α2 × α3 × α4 × α5 × α6 × α7)} {K : α0 → α1 → α2 → α3 → α4 → α5 → α6 → α7 → Option γ} {q : γ} (h : bd8 o K = some q) : ∃ x0 x1 x2 x3 x4 x5 x6 x7, o = some (x0, x1, x2, x3, x4, x5, x6, x7) ∧ K x0 x1 x2 x3 x4 x5 x6 x7 = some q := by
  unfold bd8 at h
  split at h
  · cases h
  · exact ⟨_, _, _, _, _, _, _, _, rfl, h⟩
def bd9 {α0 α1 α2 α3 α4 α5 α6 α7 α8 γ : Type} (o : Option (α0 × α1 × α2 × α3 × α4 × α5 × α6 × α7 × α8)) (K : α0 → α1 → α2 → α3 → α4 → α5 → α6 → α7 → α8 → Option γ) : Option γ := match o with
  | none => none
  | some (x0, x1, x2, x3, x4, x5, x6, x7, x8) => K x0 x1 x2 x3 x4 x5 x6 x7 x8
theorem bd9_e {α0 α1 α2 α3 α4 α5 α6 α7 α8 γ : Type} {o : Option (α0 × α1 × α2 × α3 × α4 × α5 × α6 × α7 × α8)} {K : α0 → α1 → α2 → α3 → α4 → α5 → α6 → α7 → α8 → Option γ} {q : γ} (h : bd9 o K = some q) : ∃ x0 x1 x2 x3 x4 x5 x6 x7 x8, o = some (x0, x1, x2, x3, x4, x5, x6, x7, x8) ∧ K x0 x1 x2 x3 x4 x5 x6 x7 x8 = some q := by
  unfold bd9 at h
  split at h
  · cases h
  · exact ⟨_, _, _, _, _, _, _, _, _, rfl, h⟩
def bd10 {α0 α1 α2 α3 α4 α5 α6 α7 α8 α9 γ : Type} (o : Option (α0 × α1 × α2 × α3 × α4 × α5 × α6 × α7 × α8 × α9)) (K : α0 → α1 → α2 → α3 → α4 → α5 → α6 → α7 → α8 → α9 → Option γ) : Option γ := match o with
  | none => none
  | some (x0, x1, x2, x3, x4, x5, x6, x7, x8, x9) => K x0 x1 x2 x3 x4 x5 x6 x7 x8 x9
theorem bd10_e {α0 α1 α2 α3 α4 α5 α6 α7 α8 α9 γ : Type} {o : Option (α0 × α1 × α2 × α3 × α4 × α5 × α6 × α7 × α8 × α9)} {K : α0 → α1 → α2 → α3 → α4 → α5 → α6 → α7 → α8 → α9 → Option γ} {q : γ} (h : bd10 o K = some q) : ∃ x0 x1 x2 x3 x4 x5 x6 x7 x8 x9, o = some (x0, x1, x2, x3, x4, x5, x6, x7, x8, x9) ∧ K x0 x1 x2 x3 x4 x5 x6 x7 x8 x9 = some q := by
  unfold bd10 at h
  split at h
  · cases h
  · exact ⟨_, _, _, _, _, _, _, _, _, _, rfl, h⟩
/-! THE CLAIM OUT OF ONE WALK OF THE LAW'S BODY. Your part is whole_start (and what it stands on); all else here is the same for every law, but numbers. -/
def R_law : String := "SidesChangeLaw"
def lw_P (b : Addr) (xs : List Int32) (args : Array Value) (s : State) : Prop := args = #[.ref b] ∧ s.IntsAt b xs ∧ xs.length ≤ 384 ∧ (Jvm.Cond.and given_1 narrow_1).before args s = true
def lw_Q (_ : Array Value) (s : State) (o : Outcome) (t : State) : Prop := o = .returned (some (.int 1)) ∧ Framed s o t [] 600000 7302250
def lw_Z (below : List Frame) (a : Array Value) (s : State) : State → Prop := fun t => ∃ o, t.status = .running ∧ Ended t below o ∧ lw_Q a s o t
/-- the law's own end, with 1 on the stack, nothing written that was there before, its room as the claim has it -/
theorem lw_ret {p : Program} {l : Launch} {e : Env} {s : State} {m : MethodId} {below : List Frame} {meth : Method} {c : Code} {b : Nat} (hx : p.tables.exec = Jvm.exec) (hb : c.code = code) (hr : meth.sig.returnType = ret) (hlocks : meth.locks = false) {pc : Nat} {H : Heap} {ls : Array Slot} (hdg : decode code pc = .ok (.ireturn, 1)) : W p l e room_1 s m #[Value.ref b] below meth c H [] 600000 7302250 (lw_Z below #[Value.ref b] s) (F0 m pc ls [.int 1]) := by
  intro T hT X
  obtain ⟨fs, hret, hrun, hended, hW, hframe⟩ := X.leave (v := some (.int 1)) (hlocks := hlocks) (fun h => by rw [hr] at h; cases h)
  have hmeth' : T.vm.method? m = some meth := X.method'
  refine ⟨T.setFrames fs, ?_, .returned (some (.int 1)), hrun, hended, rfl, ⟨_, rfl⟩, hW, hframe⟩
  jvm_step X.here [X.here.top, hx, hb, hdg, hmeth', hr, ret, narrow_b1]
  (try refine ⟨rfl, ?_⟩); (try refine ⟨rfl, ?_⟩)
  first | (intro acts; rw [hret _ acts rfl rfl rfl]) | rw [hret _ _ rfl rfl rfl]
  exact Steps.refl _
/-- what holds at the law's entry: the machine, the code, the tables' words (any of lw_tbl by 'hts w (by decide +kernel)'), the script of L ints xs at the cell b, what the Statement gives of the start (any of its parts by flat_of_before) -/
def lw_At (p : Program) (s : State) (m : MethodId) (meth : Method) (c : Code) (b L : Nat) (xs : Nat → Int32) : Prop :=
  p.tables.exec = Jvm.exec ∧ c.code = code ∧ meth.sig.returnType = ret ∧ c.maxLocals = 4 ∧ s.vm.findClass R_law = some m.cls ∧ (∀ w ∈ lw_tbl, w.before #[Value.ref b] s = true) ∧ va_X b L xs s s.heap ∧ b < s.heap.size ∧ meth.locks = false ∧ (Jvm.Cond.and given_1 narrow_1).before #[Value.ref b] s = true

section KL
variable {p : Program} {l : Launch} {e : Env} {R : Room} {s : State} {m : MethodId} {args : Array Value} {below : List Frame} {meth : Method} {c : Code} {H : Heap} {locs : List Loc} {cells slots : Nat} {Q : State → Prop} {pc nL : Nat} {ls : Array Slot} {rest : List Value} {cc : ByteArray} {Ts : List Cond} {own : String} {D : va_G} {zz : ZT} {tys : List (ClassId × FieldType)} {A : Nat → Prop} {H0 : Heap} {ws : va_W}
theorem kvg0 {index n maxL : Nat} {bytes : ByteArray} {ret : Option FieldType} {y : MethodName} {rm : Room} {b : Addr} {As : List Value} {W0 : va_W} {o : Option Value} {C : String} {st0 : List Value} (S : CallFix p m c cc nL s args G own) (hK : va_K D vwCl tys s) (hN : NN s) (hZ : ZS zz A s s.heap) (hA : ∀ q : Nat, s.heap.size ≤ q → A q) (hW : wd D A s.heap ws H locs) (hM : ct l D zz tys y bytes maxL ret rm (.ref b :: As) W0 W0 o) (hlk : Cond.methodLink own index y ∈ G) (hwv : WV y C bytes maxL ret n) (hrc : rm.cells = 0) (hrs : rm.slots = 0) (hR : rm.frames + 1 ≤ R.frames ∧ 8 + (maxL + 11) + rm.locals ≤ R.locals) (pre post : va_W) (h0 : pre ++ (W0 ++ post) = ws)
    (q0 : Nat) {ci : Nat} {fs : List Value} {r : vw_C} (he : ws[q0]? = some (b, .inr (ci, fs))) (hc : vwCl[ci]? = some r) (hrn : r.1 = C) (ha : As.length = n) (hsz : ls.size = nL) (hst : st0 = As.reverse ++ .ref b :: rest) (hroom : (rest.map fun v => v.category).sum ≤ 8) (hdg : decode cc pc = .ok (.invokevirtual index, 3)) (st1 : List Value) (h1 : o.toList ++ rest = st1) (hcs : cells ≤ R.cells ∧ slots ≤ R.slots)
    (kk : ∀ (H1 : Heap) (locs1 : List Loc), wd D A s.heap ws H1 locs1 → W p l e R s m args below meth c H1 locs1 cells slots Q (F0 m (pc + 3) ls st1)) : W p l e R s m args below meth c H locs cells slots Q (F0 m pc ls st0) := by
  subst hst
  subst h0
  subst hrn
  exact k_backg (va_runV (g := F0 m pc ls (As.reverse ++ .ref b :: rest)) S (hM H.size) (cwV n S.2.2.2.2 (gV hlk hwv) rfl hrc hrs hwv.2 hR) ⟨kP_blind, va_recv hK hW.1 hc he, kP_of hK hN hZ hA hW⟩ rfl ha hsz rfl (lv_room hroom) hdg hcs) hW hA rfl st1 h1 kk
theorem kvg {index n maxL : Nat} {bytes : ByteArray} {ret : Option FieldType} {y : MethodName} {rm : Room} {b : Addr} {As : List Value} {W0 W1 : va_W} (ws1 : va_W) {o : Option Value} {C : String} {st0 : List Value} (S : CallFix p m c cc nL s args G own) (hK : va_K D vwCl tys s) (hN : NN s) (hZ : ZS zz A s s.heap) (hA : ∀ q : Nat, s.heap.size ≤ q → A q) (hW : wd D A s.heap ws H locs) (hM : ct l D zz tys y bytes maxL ret rm (.ref b :: As) W0 W1 o) (hlk : Cond.methodLink own index y ∈ G) (hwv : WV y C bytes maxL ret n) (hrc : rm.cells = 0) (hrs : rm.slots = 0) (hR : rm.frames + 1 ≤ R.frames ∧ 8 + (maxL + 11) + rm.locals ≤ R.locals) (pre post : va_W) (h0 : pre ++ (W0 ++ post) = ws) (h01 : pre ++ (W1 ++ post) = ws1) (hl : W1.map Prod.fst = W0.map Prod.fst)
    (q0 : Nat) {ci : Nat} {fs : List Value} {r : vw_C} (he : ws[q0]? = some (b, .inr (ci, fs))) (hc : vwCl[ci]? = some r) (hrn : r.1 = C) (ha : As.length = n) (hsz : ls.size = nL) (hst : st0 = As.reverse ++ .ref b :: rest) (hroom : (rest.map fun v => v.category).sum ≤ 8) (hdg : decode cc pc = .ok (.invokevirtual index, 3)) (st1 : List Value) (h1 : o.toList ++ rest = st1) (hcs : cells ≤ R.cells ∧ slots ≤ R.slots)
    (kk : ∀ (H1 : Heap) (locs1 : List Loc), wd D A s.heap ws1 H1 locs1 → W p l e R s m args below meth c H1 locs1 cells slots Q (F0 m (pc + 3) ls st1)) : W p l e R s m args below meth c H locs cells slots Q (F0 m pc ls st0) := by
  subst hst
  subst h0
  subst h01
  subst hrn
  exact k_backg (va_runV (g := F0 m pc ls (As.reverse ++ .ref b :: rest)) S (hM H.size) (cwV n S.2.2.2.2 (gV hlk hwv) rfl hrc hrs hwv.2 hR) ⟨kP_blind, va_recv hK hW.1 hc he, kP_of hK hN hZ hA hW⟩ rfl ha hsz rfl (lv_room hroom) hdg hcs) hW hA hl st1 h1 kk
theorem nmig {x y : Int32} (h : y = x) (k : W p l e R s m args below meth c H locs cells slots Q (F0 m pc ls (.int y :: rest))) : W p l e R s m args below meth c H locs cells slots Q (F0 m pc ls (.int x :: rest)) := h ▸ k
end KL
theorem law_end {p : Program} {l : Launch} {e : Env} {s : State} {m : MethodId} {below : List Frame} {meth : Method} {c : Code} {b kc ks pc : Nat} {H : Heap} {locs : List Loc} {ls : Array Slot} {D : va_G} {A : Nat → Prop} {ws : va_W} (hx : p.tables.exec = Jvm.exec) (hb : c.code = code) (hr : meth.sig.returnType = ret) (hlocks : meth.locks = false) (hAr : ∀ q : Nat, A q → s.heap.size ≤ q) (hW : wd D A s.heap ws H locs) (hkc : kc ≤ 600000) (hks : ks ≤ 7302250) (hdg : decode code pc = .ok (.ireturn, 1)) : W p l e room_1 s m #[Value.ref b] below meth c H locs kc ks (lw_Z below #[Value.ref b] s) (F0 m pc ls [.int 1]) := by
  refine va_forget (fun q hq => hAr _ (hW.2.2.2.2 q hq)) ?_
  refine W.widen (k := 600000) (n := 7302250) hkc hks ?_
  exact lw_ret hx hb hr hlocks hdg
