/-! ===== the framework of this proof: a state is three families of functions, a world is a list of cells at fixed addresses ===== -/
abbrev St : Type := (Nat → Int32) × (Nat → Nat → Int32) × (Nat → Nat → Int64)
abbrev tysK (ck : Nat → ClassId) : List (ClassId × FieldType) := [(ck 0, .int), (ck 1, .long), (ck 2, .char), (ck 3, .boolean)]
abbrev sS (u : St) (k : Nat) (x : Int32) : St := (upd u.1 k x, u.2.1, u.2.2)
abbrev sI (u : St) (a k : Nat) (x : Int32) : St := (u.1, fun j => if j = a then upd (u.2.1 a) k x else u.2.1 j, u.2.2)
abbrev sJ (u : St) (a k : Nat) (x : Int64) : St := (u.1, u.2.1, fun j => if j = a then vp_updL (u.2.2 a) k x else u.2.2 j)
/-- the cells of an AggregateRows: scalars 0 grouping 1 between 2 ownType 3 terms 4 rows 5 values 6 written 7 groups; int arrays 0 units 1 scales 2 parts 3 keys 4 values 5 picked 6 firstKeys 7 rowCounts 8 sorts 9 reasons 10 terms 11 starts 12 lengths 13 characters 14 groupOfRow; long arrays 0 letters 1 uppers 2 lowers -/
abbrev wA (ad : Nat → Nat) (ck : Nat → ClassId) (u : St) : va_W := [
  (ad 0, .inr (4, [.ref (ad 1), .ref (ad 5), .ref (ad 9), .ref (ad 20), .ref (ad 22), .int (u.1 0), .int (u.1 1), .int (u.1 2)])),
  (ad 1, .inr (2, [.ref (ad 2), .ref (ad 3), .ref (ad 4), .int (u.1 3)])),
  (ad 2, .inl (ck 1, 60, .inr (.inl (u.2.2 0)))), (ad 3, .inl (ck 0, 60, .inl (u.2.1 0))), (ad 4, .inl (ck 0, 60, .inl (u.2.1 1))),
  (ad 5, .inr (1, [.ref (ad 6), .ref (ad 7), .ref (ad 8), .int (u.1 4)])),
  (ad 6, .inl (ck 0, 60, .inl (u.2.1 2))), (ad 7, .inl (ck 0, 60, .inl (u.2.1 3))), (ad 8, .inl (ck 0, 60, .inl (u.2.1 4))),
  (ad 9, .inr (0, [.ref (ad 10), .ref (ad 11), .ref (ad 12), .ref (ad 13), .ref (ad 14), .ref (ad 15), .ref (ad 16), .ref (ad 17), .ref (ad 18), .ref (ad 19), .int (u.1 6), .int (u.1 7)])),
  (ad 10, .inl (ck 0, 60, .inl (u.2.1 6))), (ad 11, .inl (ck 0, 60, .inl (u.2.1 7))), (ad 12, .inl (ck 0, 60, .inl (u.2.1 8))), (ad 13, .inl (ck 0, 60, .inl (u.2.1 9))),
  (ad 14, .inl (ck 1, 60, .inr (.inl (u.2.2 1)))), (ad 15, .inl (ck 1, 60, .inr (.inl (u.2.2 2)))),
  (ad 16, .inl (ck 0, 60, .inl (u.2.1 10))), (ad 17, .inl (ck 0, 60, .inl (u.2.1 11))), (ad 18, .inl (ck 0, 60, .inl (u.2.1 12))), (ad 19, .inl (ck 2, 600, .inl (u.2.1 13))),
  (ad 20, .inr (3, [.ref (ad 21), .int (u.1 5)])), (ad 21, .inl (ck 0, 60, .inl (u.2.1 5))), (ad 22, .inl (ck 0, 60, .inl (u.2.1 14)))]
/-- the cells of the reference: scalars 0 fault 1 terms 2 all 3 by 4 separator 5 own 6 groups 7 many; int arrays 0 isText 1 units 2 scales 3 sizes 4 letters 5 parts 6 keys 7 values 8 groupKey 9 groupRows 10 groupSort 11 groupWhy 12 groupTerm 13 groupSize 14 groupText 15 order 16 groupOf 17 list; long arrays 0 groupUpper 1 groupLower -/
abbrev wM (ad : Nat → Nat) (ck : Nat → ClassId) (u : St) : va_W := [
  (ad 0, .inr (5, [.int (u.1 0), .int (u.1 1), .ref (ad 1), .ref (ad 2), .ref (ad 3), .ref (ad 4), .ref (ad 5), .int (u.1 2), .ref (ad 6), .ref (ad 7), .ref (ad 8), .int (u.1 3), .int (u.1 4), .int (u.1 5), .int (u.1 6), .ref (ad 9), .ref (ad 10), .ref (ad 11), .ref (ad 12), .ref (ad 13), .ref (ad 14), .ref (ad 15), .ref (ad 16), .ref (ad 17), .ref (ad 18), .ref (ad 19), .int (u.1 7), .ref (ad 20)])),
  (ad 1, .inl (ck 3, 60, .inl (u.2.1 0))), (ad 2, .inl (ck 0, 60, .inl (u.2.1 1))), (ad 3, .inl (ck 0, 60, .inl (u.2.1 2))), (ad 4, .inl (ck 0, 60, .inl (u.2.1 3))), (ad 5, .inl (ck 0, 480, .inl (u.2.1 4))),
  (ad 6, .inl (ck 0, 60, .inl (u.2.1 5))), (ad 7, .inl (ck 0, 60, .inl (u.2.1 6))), (ad 8, .inl (ck 0, 60, .inl (u.2.1 7))),
  (ad 9, .inl (ck 0, 60, .inl (u.2.1 8))), (ad 10, .inl (ck 0, 60, .inl (u.2.1 9))), (ad 11, .inl (ck 0, 60, .inl (u.2.1 10))), (ad 12, .inl (ck 0, 60, .inl (u.2.1 11))),
  (ad 13, .inl (ck 1, 60, .inr (.inl (u.2.2 0)))), (ad 14, .inl (ck 1, 60, .inr (.inl (u.2.2 1)))),
  (ad 15, .inl (ck 0, 60, .inl (u.2.1 12))), (ad 16, .inl (ck 0, 60, .inl (u.2.1 13))), (ad 17, .inl (ck 0, 4800, .inl (u.2.1 14))),
  (ad 18, .inl (ck 0, 60, .inl (u.2.1 15))), (ad 19, .inl (ck 0, 60, .inl (u.2.1 16))), (ad 20, .inl (ck 0, 60, .inl (u.2.1 17)))]
/-! partial values: what a walk computes, or nothing -/
def gd {α : Type} (b : Bool) (k : Option α) : Option α := if b = true then k else none
theorem gd_some {α : Type} {b : Bool} {k : Option α} {x : α} (h : gd b k = some x) : b = true ∧ k = some x := by
  unfold gd at h
  by_cases hb : b = true
  · rw [if_pos hb] at h; exact ⟨hb, h⟩
  · rw [if_neg hb] at h; cases h
theorem gd_t {α : Type} {b : Bool} {k : Option α} (h : b = true) : gd b k = k := if_pos h
def bnd {α β : Type} (o : Option (α × St)) (k : α → St → Option β) : Option β := match o with
  | none => none
  | some q => k q.1 q.2
theorem bnd_some {α β : Type} {o : Option (α × St)} {k : α → St → Option β} {x : β} (h : bnd o k = some x) : ∃ (r : α) (u : St), o = some (r, u) ∧ k r u = some x := by
  cases o with
  | none => cases h
  | some q => exact ⟨q.1, q.2, rfl, h⟩
theorem bnd_t {α β : Type} {o : Option (α × St)} {k : α → St → Option β} {r : α} {u : St} (h : o = some (r, u)) : bnd o k = k r u := by rw [h]; rfl
def lt_ {α β : Type} (x : α) (k : α → β) : β := k x
theorem lt_at {α β : Type} {x z : α} {k : α → β} {o : β} (h : lt_ x k = o) (e : z = x) : k z = o := by subst e; exact h
/-- an index that is in range -/
def okI (i : Int32) (n : Nat) : Bool := decide (¬ (i < 0 ∨ n ≤ i.toNatClampNeg))
theorem okI_in {i : Int32} {n : Nat} (h : okI i n = true) : vp_in i n := by
  unfold vp_in
  exact of_decide_eq_true h
theorem okI_t {j n : Nat} (h : j < n) (hn : n < 2 ^ 31) : okI (nI j) n = true := decide_eq_true (nI_in h hn)
/-- how often a loop may turn -/
def FU : Nat := 100000
abbrev i2c_ (x : Int32) : Int32 := (x.toUInt32 % 65536).toInt32
abbrev lushr_ (x : Int64) (y : Int32) : Int64 := (x.toUInt64 >>> (y.toInt64.toUInt64 &&& Int64.toUInt64 63)).toInt64
abbrev lshl_ (x : Int64) (y : Int32) : Int64 := x <<< (y.toInt64 &&& 63)
abbrev lshr_ (x : Int64) (y : Int32) : Int64 := x >>> (y.toInt64 &&& 63)
/-! the statics that nobody writes -/
def strs : List (Nat × String) := [(55, "no such number"), (68, "no small letters"), (74, "no such part or term"), (82, "too many rows"), (93, "no such grouping"), (95, "no such separator"), (97, "no such type"), (99, "no such kind"), (130, "no such part of a value"), (147, "no such character"), (160, "no such bound"), (162, "nothing to tell"), (169, "too many terms"), (173, "no such group")]
def tens (j : Nat) : Int32 := match j with
  | 0 => 1
  | 1 => 10
  | 2 => 100
  | 3 => 1000
  | 4 => 10000
  | 5 => 100000
  | _ => 1000000
def xA : String := "java/lang/IllegalArgumentException"
def xS : String := "java/lang/IllegalStateException"
def xI : String := "java/lang/IndexOutOfBoundsException"
def xds : List MethodName := [⟨"java/lang/RuntimeException", "<init>", "(Ljava/lang/String;)V"⟩, ⟨"java/lang/Exception", "<init>", "(Ljava/lang/String;)V"⟩, ⟨"java/lang/Throwable", "<init>", "(Ljava/lang/String;)V"⟩]
/-- of the exceptions: each is castable to itself, which ones aren't to which, the constructors above them -/
def EvX (U : State) : Prop := va_Nw (.castable xA xA) U ∧ va_Nw (.castable xS xS) U ∧ va_Nw (.castable xI xI) U ∧ va_Nc xS xA U ∧ va_Nc xA xI U ∧ ∀ y ∈ xds, va_Nw (.declares y) U
theorem va_Nw_warmD {y : MethodName} {s U : State} (hW : s.WarmedH U.vm) (hZ : va_Nw (.declares y) s) : va_Nw (.declares y) U := va_tabs rfl (rfl : (s.setVm U.vm).vm = U.vm) (by rw [Cond.declares_setVm hW.alike]; exact hZ)
def Ev (tt : Nat) (A : Nat → Prop) (U : State) (H : Heap) : Prop :=
  va_Z RX2 "TENS" "[I" (.ref tt) A U H ∧ va_T .int tt 7 (fun j => .int (tens j)) A U H ∧ vx_Zq Bundle.tN "UNASSIGNED_STACK" Bundle.steD A U H ∧ vx_Zq Bundle.tN "SUPPRESSED_SENTINEL" Bundle.listD A U H ∧ (∀ q ∈ strs, ∃ sa : Nat, vk_R RX4 q.1 q.2 sa U) ∧ EvX U
theorem EvX.warm {s U : State} (hW : s.WarmedH U.vm) (h : EvX s) : EvX U := by
  obtain ⟨h1, h2, h3, h4, h5, h6⟩ := h
  exact ⟨va_Nw.warmC hW h1, va_Nw.warmC hW h2, va_Nw.warmC hW h3, va_Nc.moved hW.alike h4, va_Nc.moved hW.alike h5, fun y hy => va_Nw_warmD hW (h6 y hy)⟩
theorem EvX.same {s U : State} (hv : s.vm = U.vm) (h : EvX s) : EvX U := by
  obtain ⟨h1, h2, h3, h4, h5, h6⟩ := h
  have hW : s.vm.Alike U.vm := by rw [hv]; exact Vm.Alike.refl U.vm
  exact ⟨va_Nw.same rfl hv h1, va_Nw.same rfl hv h2, va_Nw.same rfl hv h3, va_Nc.moved hW h4, va_Nc.moved hW h5, fun y hy => va_Nw.same rfl hv (h6 y hy)⟩
theorem Ev.warm {tt : Nat} {A : Nat → Prop} {s U : State} {H : Heap} (hW : s.WarmedH U.vm) (h : Ev tt A s H) : Ev tt A U H := by
  obtain ⟨h1, h2, h3, h4, h5, h6⟩ := h
  exact ⟨va_Z.moved hW.alike h1, va_T.moved hW.alike h2, vx_Zq.moved hW.alike h3, vx_Zq.moved hW.alike h4, fun q hq => by obtain ⟨sa, hs⟩ := h5 q hq; exact ⟨sa, vk_R.warm hW hs⟩, h6.warm hW⟩
theorem Ev.same {tt : Nat} {A : Nat → Prop} {s U : State} {H : Heap} (hv : U.vm = s.vm) (h : Ev tt A s H) : Ev tt A U H := by
  obtain ⟨h1, h2, h3, h4, h5, h6⟩ := h
  have hW : s.vm.Alike U.vm := by rw [hv]; exact Vm.Alike.refl s.vm
  exact ⟨va_Z.moved hW h1, va_T.moved hW h2, vx_Zq.moved hW h3, vx_Zq.moved hW h4, fun q hq => by obtain ⟨sa, hs⟩ := h5 q hq; exact ⟨sa, vk_R.same hv hs⟩, h6.same hv.symm⟩
theorem Ev.kept {tt : Nat} {A : Nat → Prop} {U : State} {H H1 : Heap} (h : Ev tt A U H) (hq : ∀ a : Nat, a < H.size → ¬ A a → H1[a]? = H[a]?) : Ev tt A U H1 := by
  obtain ⟨h1, h2, h3, h4, h5⟩ := h
  exact ⟨h1.kept hq, h2.kept hq, h3.kept hq, h4.kept hq, h5⟩
theorem Ev.narrow {tt : Nat} {A B : Nat → Prop} {U : State} {H : Heap} (h : Ev tt A U H) (hAB : ∀ q, B q → A q) : Ev tt B U H := by
  obtain ⟨h1, h2, h3, h4, h5⟩ := h
  exact ⟨h1.narrow hAB, h2.narrow hAB, h3.narrow hAB, h4.narrow hAB, h5⟩
/-! a point of a walk: the tables, the cells, that they are apart, what may have changed, the statics -/
def CX {σ : Type} (wf : σ → va_W) (ck : Nat → ClassId) (D : va_G) (tt : Nat) (A : Nat → Prop) (s : State) (u : σ) (H : Heap) (locs : List Loc) : Prop :=
  va_K D vwCl (tysK ck) s ∧ va_P D vwCl (wf u) H ∧ va_D A (wf u) ∧ va_S A s.heap H locs ∧ (∀ q : Nat, s.heap.size ≤ q → A q) ∧ Ev tt A s s.heap
def PC {σ : Type} (wf : σ → va_W) (ck : Nat → ClassId) (D : va_G) (tt : Nat) (av : List Value) (u : σ) (sz : Nat) : Array Value → State → Prop :=
  va_Pc av (fun U => U.heap.size = sz ∧ va_P D vwCl (wf u) U.heap ∧ va_K D vwCl (tysK ck) U ∧ va_D (fun _ => True) (wf u) ∧ Ev tt (va_A (wf u) sz) U U.heap)
abbrev BW {σ : Type} (wf : σ → va_W) (D : va_G) (A : Nat → Prop) (u' : σ) (t : State) : Prop := va_P D vwCl (wf u') t.heap ∧ va_D A (wf u')
abbrev QI {σ : Type} (wf : σ → va_W) (D : va_G) (u : σ) (sz : Nat) (r : Int32) (u' : σ) : Array Value → State → Outcome → State → Prop := va_Qi (fun (x : Int32) (y : σ) => x = r ∧ y = u') (BW wf D (va_A (wf u) sz)) (va_A (wf u) sz)
abbrev QL {σ : Type} (wf : σ → va_W) (D : va_G) (u : σ) (sz : Nat) (r : Int64) (u' : σ) : Array Value → State → Outcome → State → Prop := va_Ql (fun (x : Int64) (y : σ) => x = r ∧ y = u') (BW wf D (va_A (wf u) sz)) (va_A (wf u) sz)
abbrev QV {σ : Type} (wf : σ → va_W) (D : va_G) (u : σ) (sz : Nat) (u' : σ) : Array Value → State → Outcome → State → Prop := va_Qv (fun (y : σ) => y = u') (BW wf D (va_A (wf u) sz)) (va_A (wf u) sz)
def MI (l : Launch) (y : MethodName) (ws : List Cond) (rm : Room) {σ : Type} (wf : σ → va_W) (ck : Nat → ClassId) (D : va_G) (tt : Nat) (av : List Value) (u : σ) (r : Int32) (u' : σ) : Prop := ∀ sz : Nat, Met l y ws rm (PC wf ck D tt av u sz) (QI wf D u sz r u') 0 0 (va_A (wf u) sz)
def ML (l : Launch) (y : MethodName) (ws : List Cond) (rm : Room) {σ : Type} (wf : σ → va_W) (ck : Nat → ClassId) (D : va_G) (tt : Nat) (av : List Value) (u : σ) (r : Int64) (u' : σ) : Prop := ∀ sz : Nat, Met l y ws rm (PC wf ck D tt av u sz) (QL wf D u sz r u') 0 0 (va_A (wf u) sz)
def MV (l : Launch) (y : MethodName) (ws : List Cond) (rm : Room) {σ : Type} (wf : σ → va_W) (ck : Nat → ClassId) (D : va_G) (tt : Nat) (av : List Value) (u : σ) (u' : σ) : Prop := ∀ sz : Nat, Met l y ws rm (PC wf ck D tt av u sz) (QV wf D u sz u') 0 0 (va_A (wf u) sz)
theorem cx_entry {σ : Type} {wf : σ → va_W} {ck : Nat → ClassId} {D : va_G} {tt : Nat} {av : List Value} {u : σ} {sz : Nat} {args : Array Value} {s : State} (hv : PC wf ck D tt av u sz args s) : args = av.toArray ∧ s.heap.size = sz ∧ CX wf ck D tt (va_A (wf u) sz) s u s.heap [] := by
  obtain ⟨h1, h2, h3, h4, h5, h6⟩ := hv
  exact ⟨h1, h2, h4, h3, h5.self, va_S.rf, fun q h => Or.inr (by rw [← h2]; exact h), h6⟩
theorem cx_blind {σ : Type} {wf : σ → va_W} {ck : Nat → ClassId} {D : va_G} {tt : Nat} {av : List Value} {u : σ} {sz : Nat} : FrameBlind (PC wf ck D tt av u sz) := by
  intro a U g mk q
  obtain ⟨h1, h2, h3, h4, h5, h6⟩ := q
  exact ⟨h1, h2, h3, va_K.moved (u := U) (U := U.calling g mk a) (Vm.Alike.refl U.vm) h4, h5, Ev.same (s := U) (U := U.calling g mk a) rfl h6⟩
section FX
variable {σ : Type} {wf : σ → va_W} {ck : Nat → ClassId} {D : va_G} {tt : Nat} {A : Nat → Prop} {s : State} {u : σ} {H : Heap} {locs : List Loc}
theorem CX.inA (C : CX wf ck D tt A s u H locs) : ∀ q, va_A (wf u) H.size q → A q := by
  intro q h
  rcases h with ⟨k, e, h⟩ | h
  · exact C.2.2.1.2 k (q, e) h
  · exact C.2.2.2.2.1 q (Nat.le_trans C.2.2.2.1.1 h)
theorem cx_pc (C : CX wf ck D tt A s u H locs) {av : List Value} {U : State} (hU : U.heap = H) (hW : s.WarmedH U.vm) : PC wf ck D tt av u H.size av.toArray U := by
  have h9 : Ev tt (va_A (wf u) H.size) U U.heap := by
    rw [hU]
    exact Ev.warm hW ((C.2.2.2.2.2.kept C.2.2.2.1.2.1).narrow C.inA)
  exact ⟨rfl, by rw [hU], by rw [hU]; exact C.2.1, va_K.moved hW.alike C.1, C.2.2.1.weaken (fun _ _ _ _ => trivial), h9⟩
theorem cx_preV (C : CX wf ck D tt A s u H locs) {b q0 ci : Nat} {q : vw_C} {fs : List Value} {As : List Value} (hc : vwCl[ci]? = some q) (he : (wf u)[q0]? = some (b, .inr (ci, fs))) : PreV s H q.1 b (PC wf ck D tt (.ref b :: As) u H.size) As :=
  ⟨cx_blind, va_recv C.1 C.2.1 hc he, fun _ hU hW => cx_pc C hU hW⟩
theorem cx_preS (C : CX wf ck D tt A s u H locs) {As : List Value} : PreS s H (PC wf ck D tt As u H.size) As :=
  ⟨cx_blind, fun _ hU hW => cx_pc C hU hW⟩
theorem cx_next (C : CX wf ck D tt A s u H locs) {u1 : σ} {t : State} {H1 : Heap} {locs1 : List Loc} (ht : t.heap = H1) (hB : BW wf D (va_A (wf u) H.size) u1 t) (hS : va_S A s.heap H1 locs1) : CX wf ck D tt A s u1 H1 locs1 :=
  ⟨C.1, by rw [← ht]; exact hB.1, hB.2.weaken (fun _ q _ h => C.inA q.1 h), hS, C.2.2.2.2.1, C.2.2.2.2.2⟩
theorem cx_put (C : CX wf ck D tt A s u H locs) {u1 : σ} {H1 : Heap} {locs1 : List Loc} (hP : va_P D vwCl (wf u1) H1) (hD : va_D A (wf u1)) (hS : va_S A s.heap H1 locs1) : CX wf ck D tt A s u1 H1 locs1 :=
  ⟨C.1, hP, hD, hS, C.2.2.2.2.1, C.2.2.2.2.2⟩
variable {p : Program} {l : Launch} {e : Env} {R : Room} {m : MethodId} {args : Array Value} {below : List Frame} {meth : Method} {c : Code} {cells slots : Nat} {Q : State → Prop}
variable {cc : ByteArray} {pc : Nat} {ls : Array Slot} {rest st0 : List Value} {mc ms : Nat} {a : Array Value}
theorem cx_calli (C : CX wf ck D tt A s u H locs) {r : Int32} {u1 : σ} (hr : va_Run p l e R s m args below meth c H locs cells slots mc ms (F0 m pc ls st0) rest (QI wf D u H.size r u1 a) (va_A (wf u) H.size))
    (kk : ∀ (H1 : Heap) (locs1 : List Loc), CX wf ck D tt A s u1 H1 locs1 → W p l e R s m args below meth c H1 locs1 (cells + mc) (slots + ms) Q (F0 m (pc + 3) ls (.int r :: rest))) : W p l e R s m args below meth c H locs cells slots Q (F0 m pc ls st0) := by
  refine va_calli hr C.2.2.2.1 (fun q _ h => C.inA q h) C.inA (fun r9 u9 t H1 locs1 ht _ hw hB _ _ hS => ?_)
  obtain ⟨h1, h2⟩ := hw
  subst h1; subst h2
  exact kk H1 locs1 (cx_next C ht hB hS)
theorem cx_calll (C : CX wf ck D tt A s u H locs) {r : Int64} {u1 : σ} (hr : va_Run p l e R s m args below meth c H locs cells slots mc ms (F0 m pc ls st0) rest (QL wf D u H.size r u1 a) (va_A (wf u) H.size))
    (kk : ∀ (H1 : Heap) (locs1 : List Loc), CX wf ck D tt A s u1 H1 locs1 → W p l e R s m args below meth c H1 locs1 (cells + mc) (slots + ms) Q (F0 m (pc + 3) ls (.long r :: rest))) : W p l e R s m args below meth c H locs cells slots Q (F0 m pc ls st0) := by
  refine va_calll hr C.2.2.2.1 (fun q _ h => C.inA q h) C.inA (fun r9 u9 t H1 locs1 ht _ hw hB _ _ hS => ?_)
  obtain ⟨h1, h2⟩ := hw
  subst h1; subst h2
  exact kk H1 locs1 (cx_next C ht hB hS)
theorem cx_callv (C : CX wf ck D tt A s u H locs) {u1 : σ} (hr : va_Run p l e R s m args below meth c H locs cells slots mc ms (F0 m pc ls st0) rest (QV wf D u H.size u1 a) (va_A (wf u) H.size))
    (kk : ∀ (H1 : Heap) (locs1 : List Loc), CX wf ck D tt A s u1 H1 locs1 → W p l e R s m args below meth c H1 locs1 (cells + mc) (slots + ms) Q (F0 m (pc + 3) ls rest)) : W p l e R s m args below meth c H locs cells slots Q (F0 m pc ls st0) := by
  refine va_callv hr C.2.2.2.1 (fun q _ h => C.inA q h) C.inA (fun u9 t H1 locs1 ht _ hw hB _ _ hS => ?_)
  subst hw
  exact kk H1 locs1 (cx_next C ht hB hS)
theorem cx_get (C : CX wf ck D tt A s u H locs) (hexec : p.tables.exec = Jvm.exec) (hb : c.code = cc) {own ref Cn : String} {T : u_T} {N ci index : Nat} {Ts : List Cond} (hts : ∀ w ∈ Ts, w.before args s = true) (hin : ∀ w ∈ u_ws Cn T N, w ∈ Ts) (hown : s.vm.findClass own = some m.cls) (q0 : Nat) {b : Nat} {fs : List Value} (he : (wf u)[q0]? = some (b, .inr (ci, fs))) (hc : vwCl[ci]? = some (Cn, T, N)) (k : Nat) (hk : k < N) (hlink : (Cond.fieldLink own index ref (T k).2.1 (T k).2.2.1).before args s = true) (hsame : ∀ x, s.fieldFound? (T k).1 (T k).2.1 (T k).2.2.1 = some x → s.fieldFound? ref (T k).2.1 (T k).2.2.1 = some x) {v : Value} (hv : fs[k]? = some v) (hdg : decode cc pc = .ok (.getfield index, 3))
    (kk : W p l e R s m args below meth c H locs cells slots Q (F0 m (pc + 3) ls (v :: rest))) : W p l e R s m args below meth c H locs cells slots Q (F0 m pc ls (.ref b :: rest)) :=
  va_get hexec hb hts hin hown C.1 C.2.1 q0 he hc k hk hlink hsame hv hdg kk
theorem cx_puti (C : CX wf ck D tt A s u H locs) (hexec : p.tables.exec = Jvm.exec) (hb : c.code = cc) {own ref Cn : String} {T : u_T} {N ci index : Nat} {Ts : List Cond} (hts : ∀ w ∈ Ts, w.before args s = true) (hin : ∀ w ∈ u_ws Cn T N, w ∈ Ts) (ty0 : Nat → FieldType) (hty : ∀ k, k < N → parseFieldDescriptor (T k).2.2.1 = some (ty0 k)) (hnm : ∀ a, a < N → ∀ b, b < N → a ≠ b → (T a).2.1 ≠ (T b).2.1) (hown : s.vm.findClass own = some m.cls) (q0 : Nat) {b : Nat} {fs : List Value} (he : (wf u)[q0]? = some (b, .inr (ci, fs))) (hc : vwCl[ci]? = some (Cn, T, N)) (k : Nat) (hk : k < N) (hlink : (Cond.fieldLink own index ref (T k).2.1 (T k).2.2.1).before args s = true) (hsame : ∀ x, s.fieldFound? (T k).1 (T k).2.1 (T k).2.2.1 = some x → s.fieldFound? ref (T k).2.1 (T k).2.2.1 = some x) (hfin : (T k).2.2.2 = false) {x : Int32} (hd : parseFieldDescriptor (T k).2.2.1 = some .int) (hl : k < fs.length) {u1 : σ} (hu : (wf u).set q0 (b, .inr (ci, fs.set k (.int x))) = wf u1)
    (hdg : decode cc pc = .ok (.putfield index, 3)) (kk : ∀ (u2 : σ) (H1 : Heap) (locs1 : List Loc), u2 = u1 → CX wf ck D tt A s u2 H1 locs1 → W p l e R s m args below meth c H1 locs1 cells slots Q (F0 m (pc + 3) ls rest)) : W p l e R s m args below meth c H locs cells slots Q (F0 m pc ls (.int x :: .ref b :: rest)) :=
  va_put hexec hb hts hin ty0 hty hnm hown C.1 C.2.1 C.2.2.1 C.2.2.2.1 q0 he hc k hk hlink hsame hfin hd rfl rfl hl hdg (fun H1 locs1 hP hD hS => kk u1 H1 locs1 rfl (cx_put C (by rw [← hu]; exact hP) (by rw [← hu]; exact hD) hS))
theorem cx_iald (C : CX wf ck D tt A s u H locs) (hexec : p.tables.exec = Jvm.exec) (hb : c.code = cc) (q0 : Nat) {b n : Nat} {f : Nat → Int32} (he : (wf u)[q0]? = some (b, .inl (ck 0, n, .inl f))) {i : Int32} (hin : okI i n = true) (hdg : decode cc pc = .ok (.iaload, 1))
    (kk : W p l e R s m args below meth c H locs cells slots Q (F0 m (pc + 1) ls (.int (f i.toNatClampNeg) :: rest))) : W p l e R s m args below meth c H locs cells slots Q (F0 m pc ls (.int i :: .ref b :: rest)) :=
  va_iald hexec hb C.1 C.2.1 q0 0 he rfl (okI_in hin) hdg kk
theorem cx_cald (C : CX wf ck D tt A s u H locs) (hexec : p.tables.exec = Jvm.exec) (hb : c.code = cc) (q0 : Nat) {b n : Nat} {f : Nat → Int32} (he : (wf u)[q0]? = some (b, .inl (ck 2, n, .inl f))) {i : Int32} (hin : okI i n = true) (hdg : decode cc pc = .ok (.caload, 1))
    (kk : W p l e R s m args below meth c H locs cells slots Q (F0 m (pc + 1) ls (.int (f i.toNatClampNeg) :: rest))) : W p l e R s m args below meth c H locs cells slots Q (F0 m pc ls (.int i :: .ref b :: rest)) :=
  va_cald hexec hb C.1 C.2.1 q0 2 he rfl (okI_in hin) hdg kk
theorem cx_zald (C : CX wf ck D tt A s u H locs) (hexec : p.tables.exec = Jvm.exec) (hb : c.code = cc) (q0 : Nat) {b n : Nat} {f : Nat → Int32} (he : (wf u)[q0]? = some (b, .inl (ck 3, n, .inl f))) {i : Int32} (hin : okI i n = true) (hdg : decode cc pc = .ok (.baload, 1))
    (kk : W p l e R s m args below meth c H locs cells slots Q (F0 m (pc + 1) ls (.int (f i.toNatClampNeg) :: rest))) : W p l e R s m args below meth c H locs cells slots Q (F0 m pc ls (.int i :: .ref b :: rest)) :=
  va_zald hexec hb C.1 C.2.1 q0 3 he rfl (okI_in hin) hdg kk
theorem cx_lald (C : CX wf ck D tt A s u H locs) (hexec : p.tables.exec = Jvm.exec) (hb : c.code = cc) (q0 : Nat) {b n : Nat} {f : Nat → Int64} (he : (wf u)[q0]? = some (b, .inl (ck 1, n, .inr (.inl f)))) {i : Int32} (hin : okI i n = true) (hdg : decode cc pc = .ok (.laload, 1))
    (kk : W p l e R s m args below meth c H locs cells slots Q (F0 m (pc + 1) ls (.long (f i.toNatClampNeg) :: rest))) : W p l e R s m args below meth c H locs cells slots Q (F0 m pc ls (.int i :: .ref b :: rest)) :=
  va_lald hexec hb C.1 C.2.1 q0 1 he rfl (okI_in hin) hdg kk
theorem cx_iast (C : CX wf ck D tt A s u H locs) (hexec : p.tables.exec = Jvm.exec) (hb : c.code = cc) (q0 : Nat) {b n : Nat} {f : Nat → Int32} (he : (wf u)[q0]? = some (b, .inl (ck 0, n, .inl f))) {i x : Int32} (hin : okI i n = true) {u1 : σ} (hu : (wf u).set q0 (b, .inl (ck 0, n, .inl (upd f i.toNatClampNeg x))) = wf u1) (hdg : decode cc pc = .ok (.iastore, 1))
    (kk : ∀ (u2 : σ) (H1 : Heap) (locs1 : List Loc), u2 = u1 → CX wf ck D tt A s u2 H1 locs1 → W p l e R s m args below meth c H1 locs1 cells slots Q (F0 m (pc + 1) ls rest)) : W p l e R s m args below meth c H locs cells slots Q (F0 m pc ls (.int x :: .int i :: .ref b :: rest)) :=
  va_iast hexec hb C.1 C.2.1 C.2.2.1 C.2.2.2.1 q0 0 he rfl (okI_in hin) hdg (fun H1 locs1 hP hD hS => kk u1 H1 locs1 rfl (cx_put C (by rw [← hu]; exact hP) (by rw [← hu]; exact hD) hS))
theorem cx_last (C : CX wf ck D tt A s u H locs) (hexec : p.tables.exec = Jvm.exec) (hb : c.code = cc) (q0 : Nat) {b n : Nat} {f : Nat → Int64} (he : (wf u)[q0]? = some (b, .inl (ck 1, n, .inr (.inl f)))) {i : Int32} {x : Int64} (hin : okI i n = true) {u1 : σ} (hu : (wf u).set q0 (b, .inl (ck 1, n, .inr (.inl (vp_updL f i.toNatClampNeg x)))) = wf u1) (hdg : decode cc pc = .ok (.lastore, 1))
    (kk : ∀ (u2 : σ) (H1 : Heap) (locs1 : List Loc), u2 = u1 → CX wf ck D tt A s u2 H1 locs1 → W p l e R s m args below meth c H1 locs1 cells slots Q (F0 m (pc + 1) ls rest)) : W p l e R s m args below meth c H locs cells slots Q (F0 m pc ls (.long x :: .int i :: .ref b :: rest)) :=
  va_last hexec hb C.1 C.2.1 C.2.2.1 C.2.2.2.1 q0 1 he rfl (okI_in hin) hdg (fun H1 locs1 hP hD hS => kk u1 H1 locs1 rfl (cx_put C (by rw [← hu]; exact hP) (by rw [← hu]; exact hD) hS))
theorem cx_cast (C : CX wf ck D tt A s u H locs) (hexec : p.tables.exec = Jvm.exec) (hb : c.code = cc) (q0 : Nat) {b n : Nat} {f : Nat → Int32} (he : (wf u)[q0]? = some (b, .inl (ck 2, n, .inl f))) {i x : Int32} (hin : okI i n = true) {u1 : σ} (hu : (wf u).set q0 (b, .inl (ck 2, n, .inl (upd f i.toNatClampNeg (vp_nar .char x)))) = wf u1) (hdg : decode cc pc = .ok (.castore, 1))
    (kk : ∀ (u2 : σ) (H1 : Heap) (locs1 : List Loc), u2 = u1 → CX wf ck D tt A s u2 H1 locs1 → W p l e R s m args below meth c H1 locs1 cells slots Q (F0 m (pc + 1) ls rest)) : W p l e R s m args below meth c H locs cells slots Q (F0 m pc ls (.int x :: .int i :: .ref b :: rest)) :=
  va_cast hexec hb C.1 C.2.1 C.2.2.1 C.2.2.2.1 q0 2 he rfl (okI_in hin) hdg (fun H1 locs1 hP hD hS => kk u1 H1 locs1 rfl (cx_put C (by rw [← hu]; exact hP) (by rw [← hu]; exact hD) hS))
theorem cx_zast (C : CX wf ck D tt A s u H locs) (hexec : p.tables.exec = Jvm.exec) (hb : c.code = cc) (q0 : Nat) {b n : Nat} {f : Nat → Int32} (he : (wf u)[q0]? = some (b, .inl (ck 3, n, .inl f))) {i x : Int32} (hin : okI i n = true) {u1 : σ} (hu : (wf u).set q0 (b, .inl (ck 3, n, .inl (upd f i.toNatClampNeg (vp_nar .boolean x)))) = wf u1) (hdg : decode cc pc = .ok (.bastore, 1))
    (kk : ∀ (u2 : σ) (H1 : Heap) (locs1 : List Loc), u2 = u1 → CX wf ck D tt A s u2 H1 locs1 → W p l e R s m args below meth c H1 locs1 cells slots Q (F0 m (pc + 1) ls rest)) : W p l e R s m args below meth c H locs cells slots Q (F0 m pc ls (.int x :: .int i :: .ref b :: rest)) :=
  va_zast hexec hb C.1 C.2.1 C.2.2.1 C.2.2.2.1 q0 3 he rfl (okI_in hin) hdg (fun H1 locs1 hP hD hS => kk u1 H1 locs1 rfl (cx_put C (by rw [← hu]; exact hP) (by rw [← hu]; exact hD) hS))
theorem cx_tens (C : CX wf ck D tt A s u H locs) (hexec : p.tables.exec = Jvm.exec) (hb : c.code = cc) {own : String} {index : Nat} (hown : s.vm.findClass own = some m.cls) (hlink : (Cond.fieldLink own index RX2 "TENS" "[I").before args s = true) (hdg : decode cc pc = .ok (.getstatic index, 3))
    (kk : W p l e R s m args below meth c H locs cells slots Q (F0 m (pc + 3) ls (.ref tt :: rest))) : W p l e R s m args below meth c H locs cells slots Q (F0 m pc ls rest) :=
  va_gets hexec hb C.2.2.2.2.2.1 C.2.2.2.1 hown hlink (fun _ h => h) hdg kk
theorem cx_tald (C : CX wf ck D tt A s u H locs) (hexec : p.tables.exec = Jvm.exec) (hb : c.code = cc) {i : Int32} (hin : okI i 7 = true) (hdg : decode cc pc = .ok (.iaload, 1))
    (kk : W p l e R s m args below meth c H locs cells slots Q (F0 m (pc + 1) ls (.int (tens i.toNatClampNeg) :: rest))) : W p l e R s m args below meth c H locs cells slots Q (F0 m pc ls (.int i :: .ref tt :: rest)) :=
  va_ti hexec hb C.2.2.2.2.2.2.1 C.2.2.2.1 (okI_in hin) rfl hdg kk
theorem cx_tlen (C : CX wf ck D tt A s u H locs) (hexec : p.tables.exec = Jvm.exec) (hb : c.code = cc) (hdg : decode cc pc = .ok (.arraylength, 1))
    (kk : W p l e R s m args below meth c H locs cells slots Q (F0 m (pc + 1) ls (.int 7 :: rest))) : W p l e R s m args below meth c H locs cells slots Q (F0 m pc ls (.ref tt :: rest)) :=
  va_tlen hexec hb C.2.2.2.2.2.2.1 C.2.2.2.1 rfl hdg kk
theorem cx_iret {u0 u' : σ} {sz : Nat} (C : CX wf ck D tt (va_A (wf u0) sz) s u H locs) {v r : Int32} (hexec : p.tables.exec = Jvm.exec) (hb : c.code = cc) (hr : meth.sig.returnType = some .int) (hlocks : meth.locks = false) (hf : some (v, u) = some (r, u')) (hdg : decode cc pc = .ok (.ireturn, 1)) : W p l e R s m args below meth c H locs cells slots (MQ below (QI wf D u0 sz r u') args s cells slots (va_A (wf u0) sz)) (F0 m pc ls [.int v]) := by
  cases hf
  exact W.iret hexec hb hr (fun t ht _ => ⟨⟨v, u, rfl, ⟨rfl, rfl⟩, by rw [ht]; exact C.2.1, C.2.2.1⟩, C.2.2.2.1.F ht⟩) C.2.2.2.1.2.2 hdg hlocks
theorem cx_zret {u0 u' : σ} {sz : Nat} (C : CX wf ck D tt (va_A (wf u0) sz) s u H locs) {v r : Int32} (hexec : p.tables.exec = Jvm.exec) (hb : c.code = cc) (hr : meth.sig.returnType = some .boolean) (hn : narrow .boolean (.int v) = .int v) (hlocks : meth.locks = false) (hf : some (v, u) = some (r, u')) (hdg : decode cc pc = .ok (.ireturn, 1)) : W p l e R s m args below meth c H locs cells slots (MQ below (QI wf D u0 sz r u') args s cells slots (va_A (wf u0) sz)) (F0 m pc ls [.int v]) := by
  cases hf
  exact W.zret hexec hb hr hn (fun t ht _ => ⟨⟨v, u, rfl, ⟨rfl, rfl⟩, by rw [ht]; exact C.2.1, C.2.2.1⟩, C.2.2.2.1.F ht⟩) C.2.2.2.1.2.2 hdg hlocks
theorem cx_lret {u0 u' : σ} {sz : Nat} (C : CX wf ck D tt (va_A (wf u0) sz) s u H locs) {v r : Int64} (hexec : p.tables.exec = Jvm.exec) (hb : c.code = cc) (hr : meth.sig.returnType = some .long) (hlocks : meth.locks = false) (hf : some (v, u) = some (r, u')) (hdg : decode cc pc = .ok (.lreturn, 1)) : W p l e R s m args below meth c H locs cells slots (MQ below (QL wf D u0 sz r u') args s cells slots (va_A (wf u0) sz)) (F0 m pc ls [.long v]) := by
  cases hf
  exact W.lret hexec hb hr (fun t ht _ => ⟨⟨v, u, rfl, ⟨rfl, rfl⟩, by rw [ht]; exact C.2.1, C.2.2.1⟩, C.2.2.2.1.F ht⟩) C.2.2.2.1.2.2 hdg hlocks
theorem cx_vret {u0 u' : σ} {sz : Nat} (C : CX wf ck D tt (va_A (wf u0) sz) s u H locs) (hexec : p.tables.exec = Jvm.exec) (hb : c.code = cc) (hr : meth.sig.returnType = none) (hlocks : meth.locks = false) (hf : some ((), u) = some ((), u')) (hdg : decode cc pc = .ok (.return_, 1)) : W p l e R s m args below meth c H locs cells slots (MQ below (QV wf D u0 sz u') args s cells slots (va_A (wf u0) sz)) (F0 m pc ls []) := by
  cases hf
  exact W.vret hexec hb hr (fun t ht _ => ⟨⟨u, rfl, rfl, by rw [ht]; exact C.2.1, C.2.2.1⟩, C.2.2.2.1.F ht⟩) C.2.2.2.1.2.2 hdg hlocks
end FX
/-- a boolean that a method answers -/
def okZ (v : Int32) : Bool := decide (v = 0 ∨ v = 1)
theorem okZ_n {v : Int32} (h : okZ v = true) : narrow .boolean (.int v) = .int v := by
  rcases of_decide_eq_true h with h | h <;> (subst h; decide)
