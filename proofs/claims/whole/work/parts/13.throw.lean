/-! ===== methods that throw: which exception, and that the world is as told ===== -/
def exn (k : Nat) : String := match k with
  | 1 => xA
  | 2 => xS
  | _ => xI
def XT (wf : St → va_W) (D : va_G) (u : St) (sz : Nat) (k : Nat) (u' : St) : String → State → State → Prop := vx_X (fun y : St => y = u') (fun (E : String) (y : St) (t : State) => E = exn k ∧ BW wf D (va_A (wf u) sz) y t) (va_A (wf u) sz)
abbrev QN : Array Value → State → Outcome → State → Prop := fun _ _ _ _ => False
def MT (l : Launch) (y : MethodName) (ws : List Cond) (rm : Room) (wf : St → va_W) (ck : Nat → ClassId) (D : va_G) (tt : Nat) (av : List Value) (u : St) (k : Nat) (u' : St) : Prop := ∀ sz : Nat, vx_Met l y ws rm (PC wf ck D tt av u sz) QN (XT wf D u sz k u') 1 6 (va_A (wf u) sz)
/-- a result that may be an exception -/
def bndT {α β : Type} (o : Option ((Nat ⊕ α) × St)) (k : α → St → Option ((Nat ⊕ β) × St)) : Option ((Nat ⊕ β) × St) := match o with
  | none => none
  | some (.inl e, u) => some (.inl e, u)
  | some (.inr r, u) => k r u
theorem bndT_inr {α β : Type} {o : Option ((Nat ⊕ α) × St)} {k : α → St → Option ((Nat ⊕ β) × St)} {x : β} {u' : St} (h : bndT o k = some (.inr x, u')) : ∃ (r : α) (u : St), o = some (.inr r, u) ∧ k r u = some (.inr x, u') := by
  match o, h with
  | none, h => cases h
  | some (.inl e, u), h => cases h
  | some (.inr r, u), h => exact ⟨r, u, rfl, h⟩
theorem bndT_inl {α β : Type} {o : Option ((Nat ⊕ α) × St)} {k : α → St → Option ((Nat ⊕ β) × St)} {x : Nat} {u' : St} (h : bndT o k = some (.inl x, u')) : o = some (.inl x, u') ∨ ∃ (r : α) (u : St), o = some (.inr r, u) ∧ k r u = some (.inl x, u') := by
  match o, h with
  | none, h => cases h
  | some (.inl e, u), h => cases h; exact Or.inl rfl
  | some (.inr r, u), h => exact Or.inr ⟨r, u, rfl, h⟩
abbrev xns : List String := ["java/lang/RuntimeException", "java/lang/Exception"]
theorem xg_A : ∀ w ∈ Cond.classLink RX4 53 xA :: Cond.initialized xA :: vx_atS RX4 57 xA xns, vx_ot w = true := by decide +kernel
theorem xg_S : ∀ w ∈ Cond.classLink RX4 80 xS :: Cond.initialized xS :: vx_atS RX4 84 xS xns, vx_ot w = true := by decide +kernel
theorem xg_I : ∀ w ∈ Cond.classLink RX4 145 xI :: Cond.initialized xI :: vx_atS RX4 149 xI xns, vx_ot w = true := by decide +kernel
theorem xb_A : ∀ w ∈ (vx_atS RX4 57 xA xns).filter (fun w => !goodWord w), w ∈ Cond.castable xA xA :: xds.map Cond.declares := by decide +kernel
theorem xb_S : ∀ w ∈ (vx_atS RX4 84 xS xns).filter (fun w => !goodWord w), w ∈ Cond.castable xS xS :: xds.map Cond.declares := by decide +kernel
theorem xb_I : ∀ w ∈ (vx_atS RX4 149 xI xns).filter (fun w => !goodWord w), w ∈ Cond.castable xI xI :: xds.map Cond.declares := by decide +kernel
section FT
variable {wf : St → va_W} {ck : Nat → ClassId} {D : va_G} {tt : Nat} {A : Nat → Prop} {s : State} {u : St} {H : Heap} {locs : List Loc}
variable {p : Program} {l : Launch} {e : Env} {R : Room} {m : MethodId} {args : Array Value} {below : List Frame} {meth : Method} {c : Code} {cells slots : Nat} {Q : State → Prop}
variable {cc : ByteArray} {pc : Nat} {ls : Array Slot} {rest st0 : List Value} {mc ms : Nat} {a : Array Value}
/-- throw new E("text") -/
theorem cx_throw {α : Type} {u0 u' : St} {sz k0 k : Nat} (C : CX wf ck D tt (va_A (wf u0) sz) s u H locs) (hexec : p.tables.exec = Jvm.exec) (hb : c.code = cc) (hst : l.stackTraces = false) (hown : s.vm.findClass RX4 = some m.cls) {cls text : String} {ik is ic : Nat} (he : cls = exn k0) (hfit : Bundle.fit cls = true)
    (hk : (Cond.classLink RX4 ik cls).before args s = true) (hini : (Cond.initialized cls).before args s = true) (hq : (is, text) ∈ strs) (h1 : ∀ w ∈ (vx_atS RX4 ic cls xns).filter goodWord, w.before args s = true) (h2 : ∀ w ∈ (vx_atS RX4 ic cls xns).filter (fun w => !goodWord w), w ∈ Cond.castable cls cls :: xds.map Cond.declares) (h3 : va_Nw (.castable cls cls) s)
    (hgood : ∀ w ∈ Cond.classLink RX4 ik cls :: Cond.initialized cls :: vx_atS RX4 ic cls xns, vx_ot w = true) (hsize : ls.size = c.maxLocals)
    (d0 : decode cc pc = .ok (.new ik, 3)) (d3 : decode cc (pc + 3) = .ok (.dup, 1)) (d4 : decode cc (pc + 4) = .ok (.ldc is, 2)) (d6 : decode cc (pc + 6) = .ok (.invokespecial ic, 3)) (d9 : decode cc (pc + 9) = .ok (.athrow, 1))
    (hout : ∀ x ∈ c.exceptionTable.toList, False) (hRf : 5 < R.frames) (hRl : (rest.map fun v => v.category).sum + 82 ≤ R.locals) (hRc : cells + 1 ≤ R.cells) (hRs : slots + 6 ≤ R.slots) (hlocks : meth.locks = false) (hc : cells + 1 ≤ 1) (hs : slots + 6 ≤ 6)
    (hf : (some ((Sum.inl k0 : Nat ⊕ α), u) : Option ((Nat ⊕ α) × St)) = some (Sum.inl k, u')) : W p l e R s m args below meth c H locs cells slots (vx_MQ below QN (XT wf D u0 sz k u') args s 1 6 (va_A (wf u0) sz)) (F0 m pc ls rest) := by
  cases hf
  obtain ⟨sa, hsa⟩ := C.2.2.2.2.2.2.2.2.2.1 (is, text) hq
  refine vx_throwS hexec hb hst hown hfit (by decide) hk hini hsa (vx_hat h1 h2 (vx_c (va_Nw.use rfl h3) (fun w hw => by obtain ⟨y, hy, rfl⟩ := List.mem_map.mp hw; exact va_Nw.use rfl (C.2.2.2.2.2.2.2.2.2.2.2.2.2.2.2 y hy)))) hgood C.2.2.2.2.2.2.2.1 C.2.2.2.2.2.2.2.2.1 C.2.2.2.1 hsize d0 d3 d4 d6 d9 (fun x hx => (hout x hx).elim) hRf hRl hRc hRs hlocks (fun t hvm hz hkp => ?_) C.2.2.2.1.2.2 hc hs
  refine ⟨u, rfl, ⟨he, ?_, C.2.2.1⟩, ?_⟩
  · exact C.2.1.kept (fun k9 q9 h9 => hkp q9.1 ((C.2.1 k9 q9 h9).lt))
  · exact ⟨Nat.le_trans C.2.2.2.1.1 hz, fun q hq1 hq2 => (hkp q (Nat.lt_of_lt_of_le hq1 C.2.2.2.1.1)).trans (C.2.2.2.1.2.1 q hq1 hq2)⟩
/-- a callee has thrown, this method has no handler: it goes on -/
theorem cx_passv {u0 u' : St} {sz k : Nat} (C : CX wf ck D tt (va_A (wf u0) sz) s u H locs) (hout : ∀ x ∈ c.exceptionTable.toList, False) (hlocks : meth.locks = false)
    (hr : vx_Run p l e R s m args below meth c H locs cells slots 1 6 (F0 m pc ls st0) rest (QN a) (XT wf D u H.size k u') (va_A (wf u) H.size)) (hc : cells + 1 ≤ 1) (hs : slots + 6 ≤ 6) : W p l e R s m args below meth c H locs cells slots (vx_MQ below QN (XT wf D u0 sz k u') args s 1 6 (va_A (wf u0) sz)) (F0 m pc ls st0) := by
  intro T hT X
  rcases hr T hT X with ⟨v, st₀, t, T', L, h0, X', hL, e1, e2, hq, st⟩ | ⟨q, st₀, t, T', L, E, ce, h0, X', hL, e1, e2, ⟨u9, hp, ⟨hE, hB⟩, hF⟩, hce, hcv, hcl, st⟩
  · exact hq.elim
  · obtain ⟨k1, k2, k3⟩ := vx_keep h0 e1 C.2.2.2.1 (fun q _ h => C.inA q h) C.inA hL hF
    have hO : vx_W p l e R s m args below meth c T'.heap (locs ++ L) (cells + 1) (slots + 6) (vx_MQ below QN (XT wf D u0 sz k u') args s 1 6 (va_A (wf u0) sz)) (F0 m pc ls rest) q := by
      refine vx_out (E := E) (ce := ce) (fun x hx => (hout x hx).elim) hlocks (by rw [e1]; exact hce) hcv hcl (fun t9 ht9 _ => ⟨u9, hp, ⟨hE, ?_, ?_⟩, ?_⟩) k3.2.2 hc hs
      · rw [ht9, e1]; exact hB.1
      · exact hB.2.weaken (fun _ q _ h => C.inA q.1 h)
      · exact ⟨by rw [ht9]; exact k3.1, fun q hq1 hq2 => by rw [ht9]; exact k3.2.1 q hq1 hq2⟩
    obtain ⟨t2, a1, b1⟩ := hO T' rfl X'
    exact ⟨t2, st.trans a1, b1⟩
theorem cx_iretT {u0 u' : St} {sz : Nat} (C : CX wf ck D tt (va_A (wf u0) sz) s u H locs) {v r : Int32} (hexec : p.tables.exec = Jvm.exec) (hb : c.code = cc) (hr : meth.sig.returnType = some .int) (hlocks : meth.locks = false) (hf : (some (.inr v, u) : Option ((Nat ⊕ Int32) × St)) = some (.inr r, u')) (hdg : decode cc pc = .ok (.ireturn, 1)) : W p l e R s m args below meth c H locs cells slots (MQ below (QI wf D u0 sz r u') args s cells slots (va_A (wf u0) sz)) (F0 m pc ls [.int v]) := by
  cases hf
  exact cx_iret C hexec hb hr hlocks rfl hdg
theorem cx_zretT {u0 u' : St} {sz : Nat} (C : CX wf ck D tt (va_A (wf u0) sz) s u H locs) {v r : Int32} (hexec : p.tables.exec = Jvm.exec) (hb : c.code = cc) (hr : meth.sig.returnType = some .boolean) (hn : narrow .boolean (.int v) = .int v) (hlocks : meth.locks = false) (hf : (some (.inr v, u) : Option ((Nat ⊕ Int32) × St)) = some (.inr r, u')) (hdg : decode cc pc = .ok (.ireturn, 1)) : W p l e R s m args below meth c H locs cells slots (MQ below (QI wf D u0 sz r u') args s cells slots (va_A (wf u0) sz)) (F0 m pc ls [.int v]) := by
  cases hf
  exact cx_zret C hexec hb hr hn hlocks rfl hdg
theorem cx_lretT {u0 u' : St} {sz : Nat} (C : CX wf ck D tt (va_A (wf u0) sz) s u H locs) {v r : Int64} (hexec : p.tables.exec = Jvm.exec) (hb : c.code = cc) (hr : meth.sig.returnType = some .long) (hlocks : meth.locks = false) (hf : (some (.inr v, u) : Option ((Nat ⊕ Int64) × St)) = some (.inr r, u')) (hdg : decode cc pc = .ok (.lreturn, 1)) : W p l e R s m args below meth c H locs cells slots (MQ below (QL wf D u0 sz r u') args s cells slots (va_A (wf u0) sz)) (F0 m pc ls [.long v]) := by
  cases hf
  exact cx_lret C hexec hb hr hlocks rfl hdg
theorem cx_vretT {u0 u' : St} {sz : Nat} (C : CX wf ck D tt (va_A (wf u0) sz) s u H locs) (hexec : p.tables.exec = Jvm.exec) (hb : c.code = cc) (hr : meth.sig.returnType = none) (hlocks : meth.locks = false) (hf : (some (.inr (), u) : Option ((Nat ⊕ Unit) × St)) = some (.inr (), u')) (hdg : decode cc pc = .ok (.return_, 1)) : W p l e R s m args below meth c H locs cells slots (MQ below (QV wf D u0 sz u') args s cells slots (va_A (wf u0) sz)) (F0 m pc ls []) := by
  cases hf
  exact cx_vret C hexec hb hr hlocks rfl hdg
end FT
