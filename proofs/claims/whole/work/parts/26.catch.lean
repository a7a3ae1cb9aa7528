/-! ===== worlds side by side; what a call does to one of them leaves the other ===== -/
abbrev wApp {σ τ : Type} (w1 : σ → va_W) (w2 : τ → va_W) (z : σ × τ) : va_W := w1 z.1 ++ w2 z.2
abbrev wO (aO : Nat) (ck : Nat → ClassId) (o : Nat → Int64) : va_W := [(aO, .inl (ck 1, 1, .inr (.inl o)))]
theorem va_P_l {D : va_G} {cl : List vw_C} {w1 w2 : va_W} {H : Heap} (h : va_P D cl (w1 ++ w2) H) : va_P D cl w1 H := fun k q hq => h k q (by rw [List.getElem?_append_left (List.getElem?_eq_some_iff.mp hq).1]; exact hq)
theorem va_P_r {D : va_G} {cl : List vw_C} {w1 w2 : va_W} {H : Heap} (h : va_P D cl (w1 ++ w2) H) : va_P D cl w2 H := fun k q hq => h (w1.length + k) q (by rw [List.getElem?_append_right (by omega), Nat.add_sub_cancel_left]; exact hq)
theorem va_D_l {A : Nat → Prop} {w1 w2 : va_W} (h : va_D A (w1 ++ w2)) : va_D A w1 := by
  have e : ∀ (k : Nat) (q : Nat × va_E), w1[k]? = some q → (w1 ++ w2)[k]? = some q := fun k q hq => by rw [List.getElem?_append_left (List.getElem?_eq_some_iff.mp hq).1]; exact hq
  exact ⟨fun i j p q hi hj he => h.1 i j p q (e i p hi) (e j q hj) he, fun k q hq => h.2 k q (e k q hq)⟩
theorem va_D_r {A : Nat → Prop} {w1 w2 : va_W} (h : va_D A (w1 ++ w2)) : va_D A w2 := by
  have e : ∀ (k : Nat) (q : Nat × va_E), w2[k]? = some q → (w1 ++ w2)[w1.length + k]? = some q := fun k q hq => by rw [List.getElem?_append_right (by omega), Nat.add_sub_cancel_left]; exact hq
  exact ⟨fun i j p q hi hj he => by have := h.1 _ _ p q (e i p hi) (e j q hj) he; omega, fun k q hq => h.2 _ q (e k q hq)⟩
theorem va_D_x {A : Nat → Prop} {w1 w2 : va_W} (h : va_D A (w1 ++ w2)) {i j : Nat} {p q : Nat × va_E} (hi : w1[i]? = some p) (hj : w2[j]? = some q) : p.1 ≠ q.1 := by
  intro he
  have e1 : (w1 ++ w2)[i]? = some p := by rw [List.getElem?_append_left (List.getElem?_eq_some_iff.mp hi).1]; exact hi
  have e2 : (w1 ++ w2)[w1.length + j]? = some q := by rw [List.getElem?_append_right (by omega), Nat.add_sub_cancel_left]; exact hj
  have h1 := h.1 _ _ p q e1 e2 he
  have h2 := (List.getElem?_eq_some_iff.mp hi).1
  omega
section FA
variable {σ τ : Type} {w1 : σ → va_W} {w2 : τ → va_W} {ck : Nat → ClassId} {D : va_G} {tt : Nat} {A : Nat → Prop} {s : State} {u : σ} {v : τ} {H : Heap} {locs : List Loc}
theorem CX.l (C : CX (wApp w1 w2) ck D tt A s (u, v) H locs) : CX w1 ck D tt A s u H locs := ⟨C.1, va_P_l C.2.1, va_D_l C.2.2.1, C.2.2.2⟩
theorem CX.r (C : CX (wApp w1 w2) ck D tt A s (u, v) H locs) : CX w2 ck D tt A s v H locs := ⟨C.1, va_P_r C.2.1, va_D_r C.2.2.1, C.2.2.2⟩
theorem CX.jl (C : CX (wApp w1 w2) ck D tt A s (u, v) H locs) {u1 : σ} {t : State} {H1 : Heap} {locs1 : List Loc} (ht : t.heap = H1) (hB : BW w1 D (va_A (w1 u) H.size) u1 t) (hk : ∀ q : Nat, q < H.size → ¬ va_A (w1 u) H.size q → H1[q]? = H[q]?) (hS : va_S A s.heap H1 locs1) : CX (wApp w1 w2) ck D tt A s (u1, v) H1 locs1 := by
  have hz : ∀ (k : Nat) (q : Nat × va_E), (w2 v)[k]? = some q → q.1 < H.size ∧ ¬ va_A (w1 u) H.size q.1 := by
    intro k q hq
    have h1 := (va_P_r C.2.1 k q hq).lt
    refine ⟨h1, fun h => ?_⟩
    rcases h with ⟨k2, e, h⟩ | h
    · exact va_D_x C.2.2.1 h hq rfl
    · omega
  refine ⟨C.1, ?_, ?_, hS, C.2.2.2.2.1, C.2.2.2.2.2⟩
  · exact va_P.app (by rw [← ht]; exact hB.1) (fun k q hq => (va_P_r C.2.1 k q hq).kept (hk q.1 (hz k q hq).1 (hz k q hq).2))
  · exact va_D.app (hB.2.weaken (fun _ q _ h => C.l.inA q.1 h)) (va_D_r C.2.2.1) (fun i j x y hx hy hxy => (hz j y hy).2 (by rw [← hxy]; exact hB.2.2 i x hx))
theorem CX.jr (C : CX (wApp w1 w2) ck D tt A s (u, v) H locs) {v1 : τ} {t : State} {H1 : Heap} {locs1 : List Loc} (ht : t.heap = H1) (hB : BW w2 D (va_A (w2 v) H.size) v1 t) (hk : ∀ q : Nat, q < H.size → ¬ va_A (w2 v) H.size q → H1[q]? = H[q]?) (hS : va_S A s.heap H1 locs1) : CX (wApp w1 w2) ck D tt A s (u, v1) H1 locs1 := by
  have hz : ∀ (k : Nat) (q : Nat × va_E), (w1 u)[k]? = some q → q.1 < H.size ∧ ¬ va_A (w2 v) H.size q.1 := by
    intro k q hq
    have h1 := (va_P_l C.2.1 k q hq).lt
    refine ⟨h1, fun h => ?_⟩
    rcases h with ⟨k2, e, h⟩ | h
    · exact va_D_x C.2.2.1 hq h rfl
    · omega
  refine ⟨C.1, ?_, ?_, hS, C.2.2.2.2.1, C.2.2.2.2.2⟩
  · exact va_P.app (fun k q hq => (va_P_l C.2.1 k q hq).kept (hk q.1 (hz k q hq).1 (hz k q hq).2)) (by rw [← ht]; exact hB.1)
  · exact va_D.app (va_D_l C.2.2.1) (hB.2.weaken (fun _ q _ h => C.r.inA q.1 h)) (fun i j x y hx hy hxy => (hz i x hx).2 (by rw [hxy]; exact hB.2.2 j y hy))
variable {p : Program} {l : Launch} {e : Env} {R : Room} {m : MethodId} {args : Array Value} {below : List Frame} {meth : Method} {c : Code} {cells slots : Nat} {Q : State → Prop}
variable {cc : ByteArray} {pc : Nat} {ls : Array Slot} {rest st0 : List Value} {mc ms : Nat} {a : Array Value}
theorem cl_calli (C : CX (wApp w1 w2) ck D tt A s (u, v) H locs) {r : Int32} {u1 : σ} (hr : va_Run p l e R s m args below meth c H locs cells slots mc ms (F0 m pc ls st0) rest (QI w1 D u H.size r u1 a) (va_A (w1 u) H.size))
    (kk : ∀ (H1 : Heap) (locs1 : List Loc), CX (wApp w1 w2) ck D tt A s (u1, v) H1 locs1 → W p l e R s m args below meth c H1 locs1 (cells + mc) (slots + ms) Q (F0 m (pc + 3) ls (.int r :: rest))) : W p l e R s m args below meth c H locs cells slots Q (F0 m pc ls st0) := by
  refine va_calli hr C.2.2.2.1 (fun q _ h => C.l.inA q h) C.l.inA (fun r9 u9 t H1 locs1 ht _ hw hB _ hk hS => ?_)
  obtain ⟨h1, h2⟩ := hw
  subst h1; subst h2
  exact kk H1 locs1 (C.jl ht hB hk hS)
theorem cl_calll (C : CX (wApp w1 w2) ck D tt A s (u, v) H locs) {r : Int64} {u1 : σ} (hr : va_Run p l e R s m args below meth c H locs cells slots mc ms (F0 m pc ls st0) rest (QL w1 D u H.size r u1 a) (va_A (w1 u) H.size))
    (kk : ∀ (H1 : Heap) (locs1 : List Loc), CX (wApp w1 w2) ck D tt A s (u1, v) H1 locs1 → W p l e R s m args below meth c H1 locs1 (cells + mc) (slots + ms) Q (F0 m (pc + 3) ls (.long r :: rest))) : W p l e R s m args below meth c H locs cells slots Q (F0 m pc ls st0) := by
  refine va_calll hr C.2.2.2.1 (fun q _ h => C.l.inA q h) C.l.inA (fun r9 u9 t H1 locs1 ht _ hw hB _ hk hS => ?_)
  obtain ⟨h1, h2⟩ := hw
  subst h1; subst h2
  exact kk H1 locs1 (C.jl ht hB hk hS)
theorem cr_calli (C : CX (wApp w1 w2) ck D tt A s (u, v) H locs) {r : Int32} {v1 : τ} (hr : va_Run p l e R s m args below meth c H locs cells slots mc ms (F0 m pc ls st0) rest (QI w2 D v H.size r v1 a) (va_A (w2 v) H.size))
    (kk : ∀ (H1 : Heap) (locs1 : List Loc), CX (wApp w1 w2) ck D tt A s (u, v1) H1 locs1 → W p l e R s m args below meth c H1 locs1 (cells + mc) (slots + ms) Q (F0 m (pc + 3) ls (.int r :: rest))) : W p l e R s m args below meth c H locs cells slots Q (F0 m pc ls st0) := by
  refine va_calli hr C.2.2.2.1 (fun q _ h => C.r.inA q h) C.r.inA (fun r9 u9 t H1 locs1 ht _ hw hB _ hk hS => ?_)
  obtain ⟨h1, h2⟩ := hw
  subst h1; subst h2
  exact kk H1 locs1 (C.jr ht hB hk hS)
theorem cr_calll (C : CX (wApp w1 w2) ck D tt A s (u, v) H locs) {r : Int64} {v1 : τ} (hr : va_Run p l e R s m args below meth c H locs cells slots mc ms (F0 m pc ls st0) rest (QL w2 D v H.size r v1 a) (va_A (w2 v) H.size))
    (kk : ∀ (H1 : Heap) (locs1 : List Loc), CX (wApp w1 w2) ck D tt A s (u, v1) H1 locs1 → W p l e R s m args below meth c H1 locs1 (cells + mc) (slots + ms) Q (F0 m (pc + 3) ls (.long r :: rest))) : W p l e R s m args below meth c H locs cells slots Q (F0 m pc ls st0) := by
  refine va_calll hr C.2.2.2.1 (fun q _ h => C.r.inA q h) C.r.inA (fun r9 u9 t H1 locs1 ht _ hw hB _ hk hS => ?_)
  obtain ⟨h1, h2⟩ := hw
  subst h1; subst h2
  exact kk H1 locs1 (C.jr ht hB hk hS)
end FA
/-! a throw of a callee that works on the left world; the catching (the class that a row names may be resolved by the search itself; the proofs go the way of the library's Shelf42/NT86 and NT97, which the rounds don't hold) -/
def fhTo (e : Env) (S : State) (f : JFrame) (a : Addr) (t : List ExceptionTableEntry) (h : Handler) (vm' : Vm) : Prop := ∀ (Q : Handler → Pre) (E : CtlPost) (d : Bool) (acts : List Action), wp (findHandler.go f a t) Q E e d acts S ↔ Q h d acts (S.setVm vm')
theorem fh_hit {e : Env} {S : State} {f : JFrame} {a : Addr} {x : ExceptionTableEntry} {t : List ExceptionTableEntry} {k : ClassId} {ce : Cell} (hx : covers x f.pc = true) (h0 : x.catchType ≠ 0) (hl : S.vm.ClassLinks e.platform f.method.cls x.catchType k) (hcell : S.heap[a]? = some ce) (hobj : ∀ k, ce.vm ≠ .statics k)
    (hk : ∃ z, S.vm.classes[ce.cls]? = some z) (hc : ∃ z, S.vm.classes[k]? = some z) (hfit : S.vm.assignable ce.cls k = true) : fhTo e S f a (x :: t) (.found x.handlerPc) (S.vm.noted f.method.cls x.catchType (.cls k)) := by
  intro Q E d acts
  simp only [covers] at hx
  obtain ⟨r1, r2⟩ := (resolveClass_links e.toSetting hl).op (op := VmOp.resolveClass f.method.cls x.catchType) rfl
  have hal : S.vm.Alike (S.vm.noted f.method.cls x.catchType (.cls k)) := (Vm.Alike.refl S.vm).noted _ _ _
  obtain ⟨z1, hz1⟩ := hk
  obtain ⟨z2, hz2⟩ := hc
  obtain ⟨y1, hy1, -⟩ := hal.2.2 _ _ hz1
  obtain ⟨y2, hy2, -⟩ := hal.2.2 _ _ hz2
  have hf : (S.vm.noted f.method.cls x.catchType (.cls k)).assignable ce.cls k = true := by rw [hal.assignable]; exact hfit
  simp [findHandler.go, hx, h0, r1, r2, hcell, hobj, hy1, hy2, hf, VmOp.dirties, VmOp.acts]
theorem fh_miss {e : Env} {S : State} {f : JFrame} {a : Addr} {x : ExceptionTableEntry} {t : List ExceptionTableEntry} {k : ClassId} {ce : Cell} {h : Handler} {vm' : Vm} (hx : covers x f.pc = true) (h0 : x.catchType ≠ 0) (hl : S.vm.ClassLinks e.platform f.method.cls x.catchType k) (hcell : S.heap[a]? = some ce) (hobj : ∀ k, ce.vm ≠ .statics k)
    (hk : ∃ z, S.vm.classes[ce.cls]? = some z) (hc : ∃ z, S.vm.classes[k]? = some z) (hno : S.vm.assignable ce.cls k = false) (hr : fhTo e (S.setVm (S.vm.noted f.method.cls x.catchType (.cls k))) f a t h vm') : fhTo e S f a (x :: t) h vm' := by
  intro Q E d acts
  simp only [covers] at hx
  obtain ⟨r1, r2⟩ := (resolveClass_links e.toSetting hl).op (op := VmOp.resolveClass f.method.cls x.catchType) rfl
  have hal : S.vm.Alike (S.vm.noted f.method.cls x.catchType (.cls k)) := (Vm.Alike.refl S.vm).noted _ _ _
  obtain ⟨z1, hz1⟩ := hk
  obtain ⟨z2, hz2⟩ := hc
  obtain ⟨y1, hy1, -⟩ := hal.2.2 _ _ hz1
  obtain ⟨y2, hy2, -⟩ := hal.2.2 _ _ hz2
  have hf : (S.vm.noted f.method.cls x.catchType (.cls k)).assignable ce.cls k = false := by rw [hal.assignable]; exact hno
  have key : wp (findHandler.go f a (x :: t)) Q E e d acts S ↔ wp (findHandler.go f a t) Q E e d acts (S.setVm (S.vm.noted f.method.cls x.catchType (.cls k))) := by
    simp [findHandler.go, hx, h0, r1, r2, hcell, hobj, hy1, hy2, hf, VmOp.dirties, VmOp.acts]
  exact key.trans (hr Q E d acts)
theorem fh_caught {tb : Tables} {e : Env} {s target : State} {g : JFrame} {c : Code} {meth : Method} {below : List Frame} {a : Addr} (h : At s g.method c below) (hm : s.vm.method? g.method = some meth) (hc : meth.code = some c) {pc : Nat} {vm' : Vm} (hf : fhTo e ((s.setTop g).pushFrame (.throwing a)) g a c.exceptionTable.toList (.found pc) vm')
    (hrest : Steps tb e below ((s.setVm vm').setTop { g with pc := pc, stack := [.ref a] }) target) : Steps tb e below ((s.setTop g).pushFrame (.throwing a)) target := by
  have hfind : ∀ (Q : Handler → Pre) (E : CtlPost) (d : Bool) (acts : List Action), wp (findHandler g a) Q E e d acts ((s.setTop g).pushFrame (.throwing a)) ↔ Q (.found pc) d acts (((s.setTop g).pushFrame (.throwing a)).setVm vm') := by
    intro Q E d acts
    rw [W.findHandler_eq (s := (s.setTop g).pushFrame (.throwing a)) (meth := meth) (code := c) hm hc]
    exact hf Q E d acts
  have hst : ∀ r : List Frame, (stepThrowing e ((s.setTop g).pushFrame (.throwing a)) a (.java g :: r)).Is ((((s.setTop g).pushFrame (.throwing a)).setVm vm').setFrames (.java { g with pc := pc, stack := [.ref a] } :: r)) [] := by
    intro r
    simp only [stepThrowing, searchFrame, vmDo]
    generalize hr : Sem.go _ e false [] ((s.setTop g).pushFrame (.throwing a)) = res
    obtain ⟨as, rfl, ha⟩ := Sem.eq_ok_of hr (a := Handler.found pc) (s' := ((s.setTop g).pushFrame (.throwing a)).setVm vm') (acts' := []) (by simp [hfind _ _ _ _])
    exact ⟨rfl, ha⟩
  have hfr : ∀ (z : State) (F K : List Frame), ((z.setFrames F).setVm vm').setFrames K = (z.setVm vm').setFrames K := by
    intro z F K
    have h1 : (z.setFrames F).setVm vm' = (z.setVm vm').setFrames F := rfl
    rw [h1, State.setFrames_setFrames]
  obtain ⟨hgo, hw⟩ := h.throwing a
  refine Steps.head hgo hw ?_
  rw [stepThread_throwing (frames_entered h.top _), (hst _).1]
  obtain ⟨g₀, hg⟩ := Option.isSome_iff_exists.mp h.top
  obtain ⟨r, hr⟩ := State.topJava?_eq_some.mp hg
  have hr' : (s.setVm vm').frames = .java g₀ :: r := hr
  rw [State.setTop_of_frames _ hr'] at hrest
  rw [hr, List.tail_cons, State.pushFrame, hfr, State.setTop_of_frames _ hr, hfr]
  exact hrest
section FC
variable {p : Program} {l : Launch} {e : Env} {R : Room} {s : State} {m : MethodId} {args : Array Value} {below : List Frame} {meth : Method} {c : Code} {H : Heap} {locs : List Loc} {cells slots : Nat} {Q : State → Prop} {pc : Nat} {ls : Array Slot} {rest : List Value}
/-- the first row of the table takes it -/
theorem cx_catchA {own name E : String} {ce : Cell} {q : Addr} (hown : s.vm.findClass own = some m.cls) (x : ExceptionTableEntry) (suf : List ExceptionTableEntry) (hsplit : c.exceptionTable.toList = x :: suf) (hx : covers x pc = true) (h0 : x.catchType ≠ 0) (hlink : (Cond.classLink own x.catchType name).before args s = true) (hcast : va_Nw (.castable E name) s)
    (hcell : H[q]? = some ce) (hv : ce.vm = .none) (hcl : s.vm.findClass E = some ce.cls) (kk : W p l e R s m args below meth c H locs cells slots Q (F0 m x.handlerPc ls [.ref q])) : vx_W p l e R s m args below meth c H locs cells slots Q (F0 m pc ls rest) q := by
  intro T hT X
  have hpl : e.platform.magicAccessors = ({} : Platform).magicAccessors := by rw [X.admits.platform]
  obtain ⟨c3, c4, hc3, hc4, hasg⟩ := Cond.castable_spec (va_Nw.use (A := args) rfl hcast)
  cases Option.some.inj (hc3.symm.trans hcl)
  obtain ⟨c5, hc5, hl5⟩ := Cond.classLink_spec hown hlink e.platform hpl
  cases Option.some.inj (hc4.symm.trans hc5)
  obtain ⟨dk, _, _, kt, hd, _, _, _, _, hkt, _, hopen⟩ := hl5.here
  have hW' : s.WarmedH (T.vm.noted m.cls x.catchType (.cls c4)) := X.warmed.noted hd hopen (State.rightAt_cls hl5)
  have hal := X.warmed.alike
  obtain ⟨kt', hkt', -⟩ := hal.2.2 _ _ hkt
  obtain ⟨k9, hk9, -⟩ := Vm.findClass_spec hcl
  obtain ⟨k9', hk9', -⟩ := hal.2.2 _ _ hk9
  obtain ⟨t, a1, b1⟩ := kk (T.setVm (T.vm.noted m.cls x.catchType (.cls c4))) hT (X.noted hW')
  refine ⟨t, ?_, b1⟩
  refine fh_caught (g := F0 m pc ls rest) X.here X.method' X.code (vm' := T.vm.noted m.cls x.catchType (.cls c4)) (pc := x.handlerPc) ?_ a1
  rw [hsplit]
  exact fh_hit (S := (T.setTop (F0 m pc ls rest)).pushFrame (.throwing q)) (f := F0 m pc ls rest) hx h0 (X.warmed.classLinks hl5) (by show T.heap[q]? = some ce; rw [hT]; exact hcell) (by rw [hv]; intro k h; cases h) ⟨k9', hk9'⟩ ⟨kt', hkt'⟩ (by show T.vm.assignable ce.cls c4 = true; rw [hal.assignable]; exact hasg)
/-- the first row names another class, the second one takes it -/
theorem cx_catchB {own name nm2 E : String} {ce : Cell} {q : Addr} (hown : s.vm.findClass own = some m.cls) (y x : ExceptionTableEntry) (suf : List ExceptionTableEntry) (hsplit : c.exceptionTable.toList = y :: x :: suf) (hy : covers y pc = true) (hy0 : y.catchType ≠ 0) (hylink : (Cond.classLink own y.catchType nm2).before args s = true) (hno : va_Nc E nm2 s) (hx : covers x pc = true) (h0 : x.catchType ≠ 0) (hlink : (Cond.classLink own x.catchType name).before args s = true) (hcast : va_Nw (.castable E name) s)
    (hcell : H[q]? = some ce) (hv : ce.vm = .none) (hcl : s.vm.findClass E = some ce.cls) (kk : W p l e R s m args below meth c H locs cells slots Q (F0 m x.handlerPc ls [.ref q])) : vx_W p l e R s m args below meth c H locs cells slots Q (F0 m pc ls rest) q := by
  intro T hT X
  have hpl : e.platform.magicAccessors = ({} : Platform).magicAccessors := by rw [X.admits.platform]
  obtain ⟨c3, c4, hc3, hc4, hasg⟩ := Cond.castable_spec (va_Nw.use (A := args) rfl hcast)
  cases Option.some.inj (hc3.symm.trans hcl)
  obtain ⟨c5, hc5, hl5⟩ := Cond.classLink_spec hown hlink e.platform hpl
  cases Option.some.inj (hc4.symm.trans hc5)
  obtain ⟨c6, hc6, hl6⟩ := Cond.classLink_spec hown hylink e.platform hpl
  obtain ⟨n1, n2, hn1, hn2, hn3⟩ := hno
  cases Option.some.inj (hn1.symm.trans hcl)
  cases Option.some.inj (hn2.symm.trans hc6)
  obtain ⟨dk2, _, _, ky, hdy, _, _, _, _, hky, _, hyopen⟩ := hl6.here
  have hW1 : s.WarmedH (T.vm.noted m.cls y.catchType (.cls c6)) := X.warmed.noted hdy hyopen (State.rightAt_cls hl6)
  obtain ⟨dk, _, _, kt, hd, _, _, _, _, hkt, _, hopen⟩ := hl5.here
  have hW' : s.WarmedH ((T.vm.noted m.cls y.catchType (.cls c6)).noted m.cls x.catchType (.cls c4)) := hW1.noted hd hopen (State.rightAt_cls hl5)
  have hal := X.warmed.alike
  have hal1 := hW1.alike
  obtain ⟨ky', hky', -⟩ := hal.2.2 _ _ hky
  obtain ⟨kt', hkt', -⟩ := hal1.2.2 _ _ hkt
  obtain ⟨k9, hk9, -⟩ := Vm.findClass_spec hcl
  obtain ⟨k9', hk9', -⟩ := hal.2.2 _ _ hk9
  obtain ⟨k8', hk8', -⟩ := hal1.2.2 _ _ hk9
  obtain ⟨t, a1, b1⟩ := kk (T.setVm ((T.vm.noted m.cls y.catchType (.cls c6)).noted m.cls x.catchType (.cls c4))) hT (X.noted hW')
  refine ⟨t, ?_, b1⟩
  refine fh_caught (g := F0 m pc ls rest) X.here X.method' X.code (vm' := (T.vm.noted m.cls y.catchType (.cls c6)).noted m.cls x.catchType (.cls c4)) (pc := x.handlerPc) ?_ a1
  rw [hsplit]
  have hst : ∀ k, ce.vm ≠ .statics k := by rw [hv]; intro k h; cases h
  refine fh_miss (S := (T.setTop (F0 m pc ls rest)).pushFrame (.throwing q)) (f := F0 m pc ls rest) (k := c6) (ce := ce) hy hy0 (X.warmed.classLinks hl6) (by show T.heap[q]? = some ce; rw [hT]; exact hcell) hst ⟨k9', hk9'⟩ ⟨ky', hky'⟩ (by show T.vm.assignable ce.cls c6 = false; rw [hal.assignable]; exact hn3) ?_
  exact fh_hit (S := ((T.setTop (F0 m pc ls rest)).pushFrame (.throwing q)).setVm (T.vm.noted m.cls y.catchType (.cls c6))) (f := F0 m pc ls rest) (k := c4) (ce := ce) hx h0 (hW1.classLinks hl5) (by show T.heap[q]? = some ce; rw [hT]; exact hcell) hst ⟨k8', hk8'⟩ ⟨kt', hkt'⟩ (by show (T.vm.noted m.cls y.catchType (.cls c6)).assignable ce.cls c4 = true; rw [hal1.assignable]; exact hasg)
end FC
section FD
variable {σ τ : Type} {w2 : τ → va_W} {ck : Nat → ClassId} {D : va_G} {tt : Nat} {A : Nat → Prop} {s : State} {w1 : St → va_W} {u : St} {v : τ} {H : Heap} {locs : List Loc}
variable {p : Program} {l : Launch} {e : Env} {R : Room} {m : MethodId} {args : Array Value} {below : List Frame} {meth : Method} {c : Code} {cells slots : Nat} {Q : State → Prop}
variable {pc : Nat} {ls : Array Slot} {rest st0 : List Value} {a : Array Value}
/-- a callee on the left world throws -/
theorem cl_thr (C : CX (wApp w1 w2) ck D tt A s (u, v) H locs) {k : Nat} {u1 : St} (hr : vx_Run p l e R s m args below meth c H locs cells slots 1 6 (F0 m pc ls st0) rest (QN a) (XT w1 D u H.size k u1) (va_A (w1 u) H.size))
    (kx : ∀ (ce : Cell) (q9 : Addr) (H1 : Heap) (locs1 : List Loc), CX (wApp w1 w2) ck D tt A s (u1, v) H1 locs1 → H1[q9]? = some ce → ce.vm = .none → s.vm.findClass (exn k) = some ce.cls → vx_W p l e R s m args below meth c H1 locs1 (cells + 1) (slots + 6) Q (F0 m pc ls rest) q9) : W p l e R s m args below meth c H locs cells slots Q (F0 m pc ls st0) := by
  intro T hT X
  rcases hr T hT X with ⟨v9, st₀, t, T', L, h0, X', hL, e1, e2, hq, st⟩ | ⟨q, st₀, t, T', L, E, ce, h0, X', hL, e1, e2, ⟨u9, hp, ⟨hE, hB⟩, hF⟩, hce, hcv, hcl, st⟩
  · exact hq.elim
  · obtain ⟨k1, k2, k3⟩ := vx_keep h0 e1 C.2.2.2.1 (fun q _ h => C.l.inA q h) C.l.inA hL hF
    subst hp; subst hE
    obtain ⟨t2, a1, b1⟩ := kx ce q T'.heap (locs ++ L) (C.jl (t := T') rfl ⟨by rw [e1]; exact hB.1, hB.2⟩ k2 k3) (by rw [e1]; exact hce) hcv hcl T' rfl X'
    exact ⟨t2, st.trans a1, b1⟩
end FD
