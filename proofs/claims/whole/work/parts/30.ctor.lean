-- constructors: they make cells
theorem same_cls {D : va_G} {cl : List vw_C} {tys : List (ClassId × FieldType)} {s : State} {cA cI : ClassId} {ty : FieldType} {t : Nat} (hK : va_K D cl (tys ++ [(cA, ty)]) s) (ht : tys[t]? = some (cI, ty)) : cA = cI := by
  have h1 := (hK.2 tys.length (cA, ty) (by rw [List.getElem?_append_right (Nat.le_refl _), Nat.sub_self]; rfl)).2
  have h2 := (hK.2 t (cI, ty) (by rw [List.getElem?_append_left (List.getElem?_eq_some_iff.mp ht).1]; exact ht)).2
  cases ty with
  | object C =>
    obtain ⟨_, _, _, _, _, h3⟩ := h1
    obtain ⟨_, _, _, _, _, h4⟩ := h2
    exact Option.some.inj (h3.symm.trans h4)
  | _ => exact Option.some.inj (h1.symm.trans h2)
def cQ (D : va_G) (W0 : va_W) (sz : Nat) (post : va_W → Prop) : Array Value → State → Outcome → State → Prop := fun _ st oc t => (∃ w1, oc = .returned none ∧ post w1 ∧ va_P D vwCl w1 t.heap ∧ va_D (va_A W0 sz) w1) ∧ va_F (va_A W0 sz) st t
/-- a constructor's contract: from the object alone, to a world of which post speaks; mc cells of ms slots come -/
def cn (l : Launch) (D : va_G) (zz : ZT) (tys : List (ClassId × FieldType)) (y : MethodName) (cc : ByteArray) (maxL : Nat) (rm : Room) (h : Nat) (e0 : va_E) (post : va_W → Prop) (mc ms : Nat) : Prop :=
  ∀ sz : Nat, Met l y (.code y cc maxL none :: G) rm (kP D zz tys [.ref h] [(h, e0)] sz) (cQ D [(h, e0)] sz post) mc ms (va_A [(h, e0)] sz)
section KC
variable {p : Program} {l : Launch} {e : Env} {R : Room} {s : State} {m : MethodId} {args : Array Value} {below : List Frame} {meth : Method} {c : Code} {H : Heap} {locs : List Loc} {cells slots : Nat} {Q : State → Prop} {pc nL : Nat} {ls : Array Slot} {rest : List Value} {cc : ByteArray} {Ts : List Cond} {own : String} {D : va_G} {zz : ZT} {tys : List (ClassId × FieldType)} {A : Nat → Prop} {H0 : Heap} {ws : va_W}
theorem cn_of {y : MethodName} {rm : Room} {h : Nat} {e0 : va_E} {post : va_W → Prop} {mc ms maxL : Nat} (hy : plainName y.cls = true) (hlen : 1 ≤ maxL)
    (body : ∀ (p : Program) (e : Env) (s : State) (m : MethodId) (below : List Frame) (meth : Method) (c : Code), CallFix p m c cc maxL s (List.toArray [Value.ref h]) G y.cls → meth.sig.returnType = none → meth.locks = false → meth.name = y.name → va_K D vwCl tys s → NN s → ZS zz (va_A [(h, e0)] s.heap.size) s s.heap → (∀ q : Nat, s.heap.size ≤ q → (va_A [(h, e0)] s.heap.size) q) → ∀ (H : Heap) (locs : List Loc), wd D (va_A [(h, e0)] s.heap.size) s.heap [(h, e0)] H locs → ∀ ls : Array Slot, lv_has ls maxL [(0, .ref h)] →
      W p l e rm s m (List.toArray [Value.ref h]) below meth c H locs 0 0 (MQ below (cQ D [(h, e0)] s.heap.size post) (List.toArray [Value.ref h]) s mc ms (va_A [(h, e0)] s.heap.size)) (F0 m 0 ls [])) : cn l D zz tys y cc maxL rm h e0 post mc ms := by
  intro sz
  refine Met.ofW (cc := cc) (maxL := maxL) (ret := none) hy rfl ?_
  intro p e s m args below meth c s₁ B hml hv
  obtain ⟨rfl, hsz, hP, hK, hN, hZ, hD0⟩ := hv
  subst hsz
  have hl := lv_entry [Value.ref h] (n := maxL) hlen
  rw [lg_entry_eq]
  exact body p e s m below meth c ⟨B.exec, B.bytes, hml, findClass_of_methodNamed B.named, fun w hw => atoms_spec (ws := .code y cc maxL none :: G) B.pre w (List.mem_cons_of_mem _ hw)⟩ B.returns B.notSynchronized (name_of_methodNamed B.named B.method).1 hK hN hZ (fun q h => Or.inr h) _ _ ⟨hP, hD0.self, va_S.rf⟩ _ hl
theorem crv {W0 w1 : va_W} {post : va_W → Prop} (S : CallFix p m c cc nL s args Ts own) (hr : meth.sig.returnType = none) (hlocks : meth.locks = false) (hW : wd D (va_A W0 s.heap.size) s.heap w1 H locs) (hp : post w1) (hdg : decode cc pc = .ok (.return_, 1)) : W p l e R s m args below meth c H locs cells slots (MQ below (cQ D W0 s.heap.size post) args s cells slots (va_A W0 s.heap.size)) (F0 m pc ls []) :=
  W.vret S.1 S.2.1 hr (fun t ht _ => ⟨⟨w1, rfl, hp, by rw [ht]; exact hW.1, hW.2.1⟩, hW.2.2.F ht⟩) hW.2.2.2.2 hdg hlocks
theorem cObj (S : CallFix p m c cc nL s args G own) {idx a : Nat} (hlk : Cond.methodLink own idx objectInit ∈ G) (hsz : ls.size = nL) (hd : decode cc pc = .ok (.invokespecial idx, 3)) (hf : 1 ≤ R.frames) (hlo : (rest.map fun v => v.category).sum + 12 ≤ R.locals) (kk : W p l e R s m args below meth c H locs cells slots Q (F0 m (pc + 3) ls rest)) : W p l e R s m args below meth c H locs cells slots Q (F0 m pc ls (.ref a :: rest)) :=
  W.objInit S.1 S.2.1 S.2.2.2.1 (S.2.2.2.2 _ hlk) (S.2.2.2.2 _ wm_obj) (S.2.2.2.2 _ wo_obj) rfl (hsz.trans S.2.2.1.symm) rfl hd hf (by show 2 * 0 + _ + 12 ≤ _; omega) kk
theorem cnew {C : String} {T : u_T} {N ci index : Nat} {fs : List Value} (S : CallFix p m c cc nL s args G own) (hK : va_K D vwCl tys s) (hA : ∀ q : Nat, H0.size ≤ q → A q) (hW : wd D A H0 ws H locs) (hin : ∀ w ∈ u_ws C T N, w ∈ G) (ty : Nat → FieldType) (hty : ∀ k, k < N → parseFieldDescriptor (T k).2.2.1 = some (ty k)) (hcl : Cond.classLink own index C ∈ G) (hinst : Cond.instantiable C N ∈ G) (hini : Cond.initialized C ∈ G) (hc : vwCl[ci]? = some (C, T, N)) (hfs : ∀ j, j < N → defaultValue (ty j) = vp_V fs j) (h1 : cells + 1 ≤ R.cells) (h2 : slots + N ≤ R.slots) (hdg : decode cc pc = .ok (.new index, 3))
    (kk : ∀ (q : Nat) (H : Heap), wd D A H0 (ws ++ [(q, .inr (ci, fs))]) H locs → W p l e R s m args below meth c H locs (cells + 1) (slots + N) Q (F0 m (pc + 3) ls (.ref q :: rest))) : W p l e R s m args below meth c H locs cells slots Q (F0 m pc ls rest) :=
  va_new S.1 S.2.1 S.2.2.2.2 hin ty hty S.2.2.2.1 (S.2.2.2.2 _ hcl) (S.2.2.2.2 _ hinst) (S.2.2.2.2 _ hini) hK hW.1 hW.2.1 hW.2.2 hA hc hfs h1 h2 hdg (fun q H a1 a2 a3 => kk q H ⟨a1, a2, a3⟩)
theorem cnewa {at0 : ArrayType} {ty : FieldType} {n : Int32} {N' t : Nat} {a0 : vp_A} {cI : ClassId} (S : CallFix p m c cc nL s args G own) (hK : va_K D vwCl tys s) (hA : ∀ q : Nat, H0.size ≤ q → A q) (hW : wd D A H0 ws H locs) (harr : Cond.arrayClass (newarray.typeOf at0) ∈ G) (hty : newarray.typeOf at0 = ty) (ht : tys[t]? = some (cI, ty)) (ha : ∀ cA : ClassId, vp_cell cA a0 = arrV cA N' (fun _ => defaultValue ty)) (hn : ¬ n < 0) (hN : n.toNatClampNeg = N') (hbytes : N' * componentBytes ty ≤ 536870912) (h1 : cells + 1 ≤ R.cells) (h2 : slots + N' ≤ R.slots) (hdg : decode cc pc = .ok (.newarray at0, 2))
    (kk : ∀ (q : Nat) (H : Heap), wd D A H0 (ws ++ [(q, .inl (cI, a0))]) H locs → W p l e R s m args below meth c H locs (cells + 1) (slots + N') Q (F0 m (pc + 2) ls (.ref q :: rest))) : W p l e R s m args below meth c H locs cells slots Q (F0 m pc ls (.int n :: rest)) := by
  refine va_newa S.1 S.2.1 (S.2.2.2.2 _ harr) hty hK hW.1 hW.2.1 hW.2.2 hA ha hn hN hbytes h1 h2 hdg (fun q cA H a0 a1 a2 a3 => ?_)
  have e := same_cls a0 ht
  subst e
  exact kk q H ⟨a1, a2, a3⟩
theorem cnewq {C : String} {index : Nat} {n : Int32} {N' t : Nat} {cB : ClassId} (S : CallFix p m c cc nL s args G own) (hK : va_K D vwCl tys s) (hA : ∀ q : Nat, H0.size ≤ q → A q) (hW : wd D A H0 ws H locs) (hcl : Cond.classLink own index C ∈ G) (ho : va_AO C s) (ht : tys[t]? = some (cB, .object C)) (hn : ¬ n < 0) (hN : n.toNatClampNeg = N') (hbytes : N' * 4 ≤ 536870912) (h1 : cells + 1 ≤ R.cells) (h2 : slots + N' ≤ R.slots) (hdg : decode cc pc = .ok (.anewarray index, 3))
    (kk : ∀ (q : Nat) (H : Heap), wd D A H0 (ws ++ [(q, .inl (cB, N', .inr (.inr (.inr (.inr (fun _ => none))))))]) H locs → W p l e R s m args below meth c H locs (cells + 1) (slots + N') Q (F0 m (pc + 3) ls (.ref q :: rest))) : W p l e R s m args below meth c H locs cells slots Q (F0 m pc ls (.int n :: rest)) := by
  refine va_newq S.1 S.2.1 S.2.2.2.1 (S.2.2.2.2 _ hcl) ho hK hW.1 hW.2.1 hW.2.2 hA hn hN hbytes h1 h2 hdg (fun q cA H a0 a1 a2 a3 => ?_)
  have e := same_cls a0 ht
  subst e
  exact kk q H ⟨a1, a2, a3⟩
theorem castq {a v : Nat} {cB : ClassId} {n t ci kN : Nat} {r : vw_C} {vs : List Value} {f : Nat → Option Nat} {i : Int32} (S : CallFix p m c cc nL s args Ts own) (hK : va_K D vwCl tys s) (hW : wd D A H0 ws H locs) (q0 qk : Nat) (ha : ws[q0]? = some (a, .inl (cB, n, .inr (.inr (.inr (.inr f)))))) (ht : tys[t]? = some (cB, .object r.1)) (hv : ws[qk]? = some (v, .inr (ci, vs))) (hc : vwCl[ci]? = some r) (hin : inb i n) (hk : i.toNatClampNeg = kN) (hdg : decode cc pc = .ok (.aastore, 1))
    (kk : ∀ (H1 : Heap) (locs1 : List Loc), wd D A H0 (ws.set q0 (a, .inl (cB, n, .inr (.inr (.inr (.inr (va_up f kN (some v)))))))) H1 locs1 → W p l e R s m args below meth c H1 locs1 cells slots Q (F0 m (pc + 1) ls rest)) : W p l e R s m args below meth c H locs cells slots Q (F0 m pc ls (.ref v :: .int i :: .ref a :: rest)) := by
  subst hk
  exact va_astq S.1 S.2.1 hK hW.1 hW.2.1 hW.2.2 q0 t qk ci ha ht hv hc (inb_vp hin) hdg (fun H1 locs1 a1 a2 a3 => kk H1 locs1 ⟨a1, a2, a3⟩)
theorem cgf {C : String} {T : u_T} {N ci index a k : Nat} {fs : List Value} {v : Value} (S : CallFix p m c cc nL s args Ts own) (hK : va_K D vwCl tys s) (hW : wd D A H0 ws H locs) (hin : ∀ w ∈ u_ws C T N, w ∈ Ts) (hc : vwCl[ci]? = some (C, T, N)) (hk : k < N) (hlk : Cond.fieldLink own index (T k).1 (T k).2.1 (T k).2.2.1 ∈ Ts) (q0 : Nat) (he : ws[q0]? = some (a, .inr (ci, fs))) (hv : fs[k]? = some v) (hdg : decode cc pc = .ok (.getfield index, 3))
    (kk : W p l e R s m args below meth c H locs cells slots Q (F0 m (pc + 3) ls (v :: rest))) : W p l e R s m args below meth c H locs cells slots Q (F0 m pc ls (.ref a :: rest)) :=
  va_get S.1 S.2.1 S.2.2.2.2 hin S.2.2.2.1 hK hW.1 q0 he hc k hk (S.2.2.2.2 _ hlk) (fun _ h => h) hv hdg kk
theorem cpf {C : String} {T : u_T} {N ci index a k : Nat} {fs : List Value} {v : Value} {ty : FieldType} (S : CallFix p m c cc nL s args Ts own) (hK : va_K D vwCl tys s) (hW : wd D A H0 ws H locs) (hin : ∀ w ∈ u_ws C T N, w ∈ Ts) (hc : vwCl[ci]? = some (C, T, N)) (hk : k < N) (ty0 : Nat → FieldType) (hty : ∀ k, k < N → parseFieldDescriptor (T k).2.2.1 = some (ty0 k)) (hnm : ∀ a, a < N → ∀ b, b < N → a ≠ b → (T a).2.1 ≠ (T b).2.1) (hlk : Cond.fieldLink own index (T k).1 (T k).2.1 (T k).2.2.1 ∈ Ts) (q0 : Nat) (he : ws[q0]? = some (a, .inr (ci, fs))) (hfin : (T k).2.2.2 = false) (hte : ty0 k = ty) (hn : narrow ty v = v) (hfit : fits ty v = true) (hlen : k < fs.length) (hdg : decode cc pc = .ok (.putfield index, 3))
    (kk : ∀ (H1 : Heap) (locs1 : List Loc), wd D A H0 (ws.set q0 (a, .inr (ci, fs.set k v))) H1 locs1 → W p l e R s m args below meth c H1 locs1 cells slots Q (F0 m (pc + 3) ls rest)) : W p l e R s m args below meth c H locs cells slots Q (F0 m pc ls (v :: .ref a :: rest)) :=
  va_put S.1 S.2.1 S.2.2.2.2 hin ty0 hty hnm S.2.2.2.1 hK hW.1 hW.2.1 hW.2.2 q0 he hc k hk (S.2.2.2.2 _ hlk) (fun _ h => h) hfin (by rw [hty k hk, hte]) hn hfit hlen hdg (fun H1 locs1 a1 a2 a3 => kk H1 locs1 ⟨a1, a2, a3⟩)
theorem cpff {C : String} {T : u_T} {N ci index a k : Nat} {fs : List Value} {v : Value} {ty : FieldType} (S : CallFix p m c cc nL s args Ts own) (hK : va_K D vwCl tys s) (hW : wd D A H0 ws H locs) (hin : ∀ w ∈ u_ws C T N, w ∈ Ts) (hc : vwCl[ci]? = some (C, T, N)) (hk : k < N) (ty0 : Nat → FieldType) (hty : ∀ k, k < N → parseFieldDescriptor (T k).2.2.1 = some (ty0 k)) (hnm : ∀ a, a < N → ∀ b, b < N → a ≠ b → (T a).2.1 ≠ (T b).2.1) (hlk : Cond.fieldLink own index (T k).1 (T k).2.1 (T k).2.2.1 ∈ Ts) (q0 : Nat) (he : ws[q0]? = some (a, .inr (ci, fs))) (hfin : (T k).2.2.2 = true) (hnme : meth.name = "<init>") (hdecl : (T k).1 = own) (hte : ty0 k = ty) (hn : narrow ty v = v) (hfit : fits ty v = true) (hlen : k < fs.length) (hdg : decode cc pc = .ok (.putfield index, 3))
    (kk : ∀ (H1 : Heap) (locs1 : List Loc), wd D A H0 (ws.set q0 (a, .inr (ci, fs.set k v))) H1 locs1 → W p l e R s m args below meth c H1 locs1 cells slots Q (F0 m (pc + 3) ls rest)) : W p l e R s m args below meth c H locs cells slots Q (F0 m pc ls (v :: .ref a :: rest)) :=
  va_putF S.1 S.2.1 S.2.2.2.2 hin ty0 hty hnm S.2.2.2.1 hK hW.1 hW.2.1 hW.2.2 q0 he hc k hk (S.2.2.2.2 _ hlk) (fun _ h => h) hfin hnme hdecl (by rw [hty k hk, hte]) hn hfit hlen hdg (fun H1 locs1 a1 a2 a3 => kk H1 locs1 ⟨a1, a2, a3⟩)
theorem cist {a n kN : Nat} {cA : ClassId} {f : Nat → Int32} {i x : Int32} (S : CallFix p m c cc nL s args Ts own) (hK : va_K D vwCl tys s) (hW : wd D A H0 ws H locs) (ht : tys[0]? = some (cA, .int)) (q0 : Nat) (ha : ws[q0]? = some (a, .inl (cA, n, .inl f))) (hin : inb i n) (hk : ix i = kN) (hdg : decode cc pc = .ok (.iastore, 1))
    (kk : ∀ (H1 : Heap) (locs1 : List Loc), wd D A H0 (ws.set q0 (a, .inl (cA, n, .inl (upd f kN x)))) H1 locs1 → W p l e R s m args below meth c H1 locs1 cells slots Q (F0 m (pc + 1) ls rest)) : W p l e R s m args below meth c H locs cells slots Q (F0 m pc ls (.int x :: .int i :: .ref a :: rest)) := by
  subst hk
  exact va_iast S.1 S.2.1 hK hW.1 hW.2.1 hW.2.2 q0 0 ha ht (inb_vp hin) hdg (fun H1 locs1 a1 a2 a3 => kk H1 locs1 ⟨a1, a2, a3⟩)
theorem c_back {pre : va_W} {q : Nat} {e0 : va_E} {post : va_W → Prop} {mc ms : Nat} {a : Array Value} {st0 : List Value} (hr : va_Run p l e R s m args below meth c H locs cells slots mc ms (F0 m pc ls st0) rest (cQ D [(q, e0)] H.size post a) (va_A [(q, e0)] H.size)) (hW : wd D A H0 (pre ++ [(q, e0)]) H locs) (hA : ∀ q : Nat, H0.size ≤ q → A q)
    (kk : ∀ (H1 : Heap) (locs1 : List Loc) (w1 : va_W), post w1 → wd D A H0 (pre ++ w1) H1 locs1 → W p l e R s m args below meth c H1 locs1 (cells + mc) (slots + ms) Q (F0 m (pc + 3) ls rest)) : W p l e R s m args below meth c H locs cells slots Q (F0 m pc ls st0) := by
  intro T hT X
  obtain ⟨hP, hD, hS⟩ := hW
  have hP2 : va_P D vwCl (pre ++ ([(q, e0)] ++ [])) H := by rw [List.append_nil]; exact hP
  have hD2 : va_D A (pre ++ ([(q, e0)] ++ [])) := by rw [List.append_nil]; exact hD
  obtain ⟨v, st₀, t, T', L, h0, X', hL, e1, e2, ⟨⟨w1, hv, hp, hb, hd⟩, hz, hk⟩, st⟩ := hr T hT X
  cases hv
  rw [h0] at hz hk
  have hf : ∀ x, va_A [(q, e0)] H.size x → A x := blk_free hD2 hS hA
  have out : ∀ (k : Nat) (x : Nat × va_E), pre[k]? = some x → x.1 < H.size ∧ ¬ va_A [(q, e0)] H.size x.1 := by
    intro k x hx
    have hlt0 := (List.getElem?_eq_some_iff.mp hx).1
    have hx2 : (pre ++ ([(q, e0)] ++ []))[k]? = some x := by rw [List.getElem?_append_left hlt0]; exact hx
    have hlt := (hP2 k x hx2).lt
    refine ⟨hlt, ?_⟩
    rintro (⟨j, e, h⟩ | h)
    · have := hD2.1 k _ x (x.1, e) hx2 (blk_at h) rfl
      omega
    · omega
  have hPp : va_P D vwCl pre T'.heap := fun k x hx => by
    have hlt0 := (List.getElem?_eq_some_iff.mp hx).1
    have hx2 : (pre ++ ([(q, e0)] ++ []))[k]? = some x := by rw [List.getElem?_append_left hlt0]; exact hx
    exact (hP2 k x hx2).kept (by rw [e1]; exact hk x.1 (out k x hx).1 (out k x hx).2)
  have hDp : va_D A pre := ⟨fun i j x y hi hj h => hD.1 i j x y (by rw [List.getElem?_append_left (List.getElem?_eq_some_iff.mp hi).1]; exact hi) (by rw [List.getElem?_append_left (List.getElem?_eq_some_iff.mp hj).1]; exact hj) h, fun k x hx => hD.2 k x (by rw [List.getElem?_append_left (List.getElem?_eq_some_iff.mp hx).1]; exact hx)⟩
  obtain ⟨t2, a1, b1⟩ := kk T'.heap (locs ++ L) w1 hp ⟨hPp.app (by rw [e1]; exact hb), hDp.app (hd.weaken (fun k x _ h => hf x.1 h)) (fun i j x y hx hy hxy => (out i x hx).2 (by rw [hxy]; exact hd.2 j y hy)),
    ⟨Nat.le_trans hS.1 (by rw [e1]; exact hz), fun x h1 h2 => by rw [e1, hk x (Nat.lt_of_lt_of_le h1 hS.1) (fun z => h2 (hf x z))]; exact hS.2.1 x h1 h2, fun x hx => by
      rcases List.mem_append.mp hx with h | h
      · exact hS.2.2 x h
      · exact hf _ (hL x h)⟩⟩ T' rfl X'
  exact ⟨t2, st t2 a1, b1⟩
theorem wd_nil {pre : va_W} (h : wd D A H0 pre H locs) : wd D A H0 (pre ++ ([] ++ [])) H locs := by rw [List.append_nil, List.append_nil]; exact h
/-- a private constructor of a nest mate -/
theorem kin {index maxL mc ms : Nat} {host : String} {bytes : ByteArray} {y : MethodName} {rm : Room} {pre : va_W} {q : Nat} {e0 : va_E} {post : va_W → Prop} (S : CallFix p m c cc nL s args G own) (hK : va_K D vwCl tys s) (hN : NN s) (hZ : ZS zz A s s.heap) (hA : ∀ q : Nat, s.heap.size ≤ q → A q) (hW : wd D A s.heap (pre ++ [(q, e0)]) H locs) (hM : cn l D zz tys y bytes maxL rm q e0 post mc ms) (hlk : Cond.methodLinkNest own index y host ∈ nsts) (hwv : WI y bytes maxL none 0) (hnm : y.name = "<init>") (hrc : rm.cells = mc) (hrs : rm.slots = ms) (hR : rm.frames + 1 ≤ R.frames ∧ 8 + (maxL + 11) + rm.locals ≤ R.locals) (hsz : ls.size = nL) (hroom : (rest.map fun v => v.category).sum ≤ 8) (hdg : decode cc pc = .ok (.invokespecial index, 3)) (hcs : cells + mc ≤ R.cells ∧ slots + ms ≤ R.slots)
    (kk : ∀ (H1 : Heap) (locs1 : List Loc) (w1 : va_W), post w1 → wd D A s.heap (pre ++ w1) H1 locs1 → W p l e R s m args below meth c H1 locs1 (cells + mc) (slots + ms) Q (F0 m (pc + 3) ls rest)) : W p l e R s m args below meth c H locs cells slots Q (F0 m pc ls (.ref q :: rest)) := by
  have hW2 : wd D A s.heap (pre ++ ([(q, e0)] ++ [])) H locs := by rw [List.append_nil]; exact hW
  exact c_back (va_runIN (g := F0 m pc ls (.ref q :: rest)) (As := []) S (hM H.size) ⟨va_cnB 0 S.2.2.2.2 (gC hwv.1.2.2) rfl hrc hrs (hN.1 _ hlk) (S.2.2.2.2 _ hwv.1.2.1) hwv.2 hR, hnm, S.2.2.2.2 _ hwv.1.1⟩ ⟨kP_blind, kP_of hK hN hZ hA hW2⟩ rfl rfl hsz rfl (lv_room hroom) hdg hcs) hW hA kk
/-- a public constructor -/
theorem kip {index maxL mc ms : Nat} {bytes : ByteArray} {y : MethodName} {rm : Room} {pre : va_W} {q : Nat} {e0 : va_E} {post : va_W → Prop} (S : CallFix p m c cc nL s args G own) (hK : va_K D vwCl tys s) (hN : NN s) (hZ : ZS zz A s s.heap) (hA : ∀ q : Nat, s.heap.size ≤ q → A q) (hW : wd D A s.heap (pre ++ [(q, e0)]) H locs) (hM : cn l D zz tys y bytes maxL rm q e0 post mc ms) (hlk : Cond.methodLink own index y ∈ G) (hwv : WI y bytes maxL none 0) (hnm : y.name = "<init>") (hrc : rm.cells = mc) (hrs : rm.slots = ms) (hR : rm.frames + 1 ≤ R.frames ∧ 8 + (maxL + 11) + rm.locals ≤ R.locals) (hsz : ls.size = nL) (hroom : (rest.map fun v => v.category).sum ≤ 8) (hdg : decode cc pc = .ok (.invokespecial index, 3)) (hcs : cells + mc ≤ R.cells ∧ slots + ms ≤ R.slots)
    (kk : ∀ (H1 : Heap) (locs1 : List Loc) (w1 : va_W), post w1 → wd D A s.heap (pre ++ w1) H1 locs1 → W p l e R s m args below meth c H1 locs1 (cells + mc) (slots + ms) Q (F0 m (pc + 3) ls rest)) : W p l e R s m args below meth c H locs cells slots Q (F0 m pc ls (.ref q :: rest)) := by
  have hW2 : wd D A s.heap (pre ++ ([(q, e0)] ++ [])) H locs := by rw [List.append_nil]; exact hW
  exact c_back (va_runI (g := F0 m pc ls (.ref q :: rest)) (As := []) S (hM H.size) (cwI 0 S.2.2.2.2 (gC hwv.1.2.2) rfl hrc hrs (S.2.2.2.2 _ hwv.1.2.1) (S.2.2.2.2 _ hlk) (S.2.2.2.2 _ hwv.1.1) hnm hwv.2 hR) ⟨kP_blind, kP_of hK hN hZ hA hW2⟩ rfl rfl hsz rfl (lv_room hroom) hdg hcs) hW hA kk
theorem k_backg {w w1 pre post : va_W} {o : Option Value} {a : Array Value} {st0 : List Value} (hr : va_Run p l e R s m args below meth c H locs cells slots 0 0 (F0 m pc ls st0) rest (kQ D w1 o (va_A w H.size) a) (va_A w H.size)) (hW : wd D A H0 (pre ++ (w ++ post)) H locs) (hA : ∀ q : Nat, H0.size ≤ q → A q) (hl : w1.map Prod.fst = w.map Prod.fst) (st1 : List Value) (h1 : o.toList ++ rest = st1)
    (kk : ∀ (H1 : Heap) (locs1 : List Loc), wd D A H0 (pre ++ (w1 ++ post)) H1 locs1 → W p l e R s m args below meth c H1 locs1 (cells + 0) (slots + 0) Q (F0 m (pc + 3) ls st1)) : W p l e R s m args below meth c H locs cells slots Q (F0 m pc ls st0) := by
  intro T hT X
  obtain ⟨hP, hD, hS⟩ := hW
  obtain ⟨v, st₀, t, T', L, h0, X', hL, e1, e2, ⟨⟨hv, hb⟩, hz, hk⟩, st⟩ := hr T hT X
  cases hv
  rw [h0] at hz hk
  have hf : ∀ q, va_A w H.size q → A q := blk_free hD hS hA
  subst h1
  obtain ⟨t2, a1, b1⟩ := kk T'.heap (locs ++ L) ⟨blk_P hP hD hl (fun q h1 h2 => by rw [e1]; exact hk q h1 h2) (by rw [e1]; exact hb), va_D_fst (by rw [List.map_append, List.map_append, List.map_append, List.map_append, hl]) hD,
    ⟨Nat.le_trans hS.1 (by rw [e1]; exact hz), fun q h1 h2 => by rw [e1, hk q (Nat.lt_of_lt_of_le h1 hS.1) (fun z => h2 (hf q z))]; exact hS.2.1 q h1 h2, fun q hq => by
      rcases List.mem_append.mp hq with h | h
      · exact hS.2.2 q h
      · exact hf _ (hL q h)⟩⟩ T' rfl X'
  exact ⟨t2, st t2 a1, b1⟩
theorem ksg {index n maxL : Nat} {bytes : ByteArray} {ret : Option FieldType} {y : MethodName} {rm : Room} {As : List Value} {W0 W1 : va_W} (ws1 : va_W) {o : Option Value} {st0 : List Value} (S : CallFix p m c cc nL s args G own) (hK : va_K D vwCl tys s) (hN : NN s) (hZ : ZS zz A s s.heap) (hA : ∀ q : Nat, s.heap.size ≤ q → A q) (hW : wd D A s.heap ws H locs) (hM : ct l D zz tys y bytes maxL ret rm As W0 W1 o) (hlk : Cond.methodLink own index y ∈ G) (hwv : WS y bytes maxL ret n) (hrc : rm.cells = 0) (hrs : rm.slots = 0) (hR : rm.frames + 1 ≤ R.frames ∧ 8 + (maxL + 11) + rm.locals ≤ R.locals) (pre post : va_W) (h0 : pre ++ (W0 ++ post) = ws) (h01 : pre ++ (W1 ++ post) = ws1) (hl : W1.map Prod.fst = W0.map Prod.fst)
    (ha : As.length = n) (hsz : ls.size = nL) (hst : st0 = As.reverse ++ rest) (hroom : (rest.map fun v => v.category).sum ≤ 8) (hdg : decode cc pc = .ok (.invokestatic index, 3)) (st1 : List Value) (h1 : o.toList ++ rest = st1) (hcs : cells + 0 ≤ R.cells ∧ slots + 0 ≤ R.slots)
    (kk : ∀ (H1 : Heap) (locs1 : List Loc), wd D A s.heap ws1 H1 locs1 → W p l e R s m args below meth c H1 locs1 (cells + 0) (slots + 0) Q (F0 m (pc + 3) ls st1)) : W p l e R s m args below meth c H locs cells slots Q (F0 m pc ls st0) := by
  subst hst
  subst h0
  subst h01
  exact k_backg (va_runS (g := F0 m pc ls (As.reverse ++ rest)) S (hM H.size) (va_cwS n S.2.2.2.2 (gS hlk hwv) rfl hrc hrs hwv.2 hR) ⟨kP_blind, kP_of hK hN hZ hA hW⟩ rfl ha hsz rfl (lv_room hroom) hdg hcs) hW hA hl st1 h1 kk
end KC
