/-! ===== X3_clear ===== -/
def fX3_clear (u : St)  : Option (Unit × St) := lt_ (sS u 5 0) (fun u_1 => some ((), u_1))
abbrev rmX3_clear : Room := { frames := 0, cells := 0, slots := 0, locals := 0 }
set_option maxHeartbeats 4000000 in
set_option maxRecDepth 100000 in
theorem k_X3_clear (l : Launch) (ad : Nat → Nat) (ck : Nat → ClassId) (D : va_G) (tt : Nat) {u : St}  {u' : St} (hf : fX3_clear u = some ((), u')) : MV l yX3_clear wsX3_clear rmX3_clear (wA ad ck) ck D tt [.ref (ad 20)] u u' := by
  intro sz
  refine Met.ofW (cc := cX3_clear) (maxL := 1) (ret := none) (by decide) rfl ?_
  intro p e s m args below meth c s₁ B hml hv
  obtain ⟨rfl, hsz, C⟩ := cx_entry hv
  have hx := B.exec
  have hb := B.bytes
  have hr := B.returns
  have hts := atoms_spec (ws := wsX3_clear) B.pre
  have hown : s.vm.findClass RX3 = some m.cls := findClass_of_methodNamed B.named
  have hlocks := B.notSynchronized
  have hl := lv_entry ([.ref (ad 20)]) (n := 1) (Nat.le_of_ble_eq_true rfl)
  rw [lg_entry_eq]
  generalize (lg_sl ([.ref (ad 20)]) ++ List.replicate (1 - (lg_sl ([.ref (ad 20)])).length) Slot.unset).toArray = ls at hl ⊢
  have hl : lv_has ls 1 [(0, .ref (ad 20))] := hl
  unfold fX3_clear at hf
  refine lv_aload_n hx hb dX3_clear_0 rfl (lv_at hl 0 rfl) ?_
  refine lv_iconst (v := 0) hx hb dX3_clear_1 (by decide) ?_
  refine cx_puti C hx hb (T := TX3) (N := 2) hts (by decide +kernel) tyX3 tyX3_ok nmX3 hown 20 rfl rfl 1 (by decide) (hts (.fieldLink RX3 15 "AggregateRows$Values" "count" "I") (by decide +kernel)) (fun _ h9 => h9) rfl (by decide +kernel) (Nat.le_of_ble_eq_true rfl) (u1 := sS u 5 0) rfl dX3_clear_2 (fun u_1 H locs eu_1 C => ?_)
  replace hf := lt_at hf eu_1
  exact cx_vret C hx hb hr hlocks hf dX3_clear_5
/-! ===== X3_add ===== -/
def fX3_add (u : St) (a1 : Int32) : Option (Unit × St) := gd (okI (u.1 5) 60) (lt_ (sI u 5 (u.1 5).toNatClampNeg a1) (fun u_2 => lt_ (sS u_2 5 ((u_2.1 5) + 1)) (fun u_3 => some ((), u_3))))
abbrev rmX3_add : Room := { frames := 0, cells := 0, slots := 0, locals := 0 }
set_option maxHeartbeats 4000000 in
set_option maxRecDepth 100000 in
theorem k_X3_add (l : Launch) (ad : Nat → Nat) (ck : Nat → ClassId) (D : va_G) (tt : Nat) {u : St} {a1 : Int32} {u' : St} (hf : fX3_add u a1 = some ((), u')) : MV l yX3_add wsX3_add rmX3_add (wA ad ck) ck D tt [.ref (ad 20), .int a1] u u' := by
  intro sz
  refine Met.ofW (cc := cX3_add) (maxL := 2) (ret := none) (by decide) rfl ?_
  intro p e s m args below meth c s₁ B hml hv
  obtain ⟨rfl, hsz, C⟩ := cx_entry hv
  have hx := B.exec
  have hb := B.bytes
  have hr := B.returns
  have hts := atoms_spec (ws := wsX3_add) B.pre
  have hown : s.vm.findClass RX3 = some m.cls := findClass_of_methodNamed B.named
  have hlocks := B.notSynchronized
  have hl := lv_entry ([.ref (ad 20), .int a1]) (n := 2) (Nat.le_of_ble_eq_true rfl)
  rw [lg_entry_eq]
  generalize (lg_sl ([.ref (ad 20), .int a1]) ++ List.replicate (2 - (lg_sl ([.ref (ad 20), .int a1])).length) Slot.unset).toArray = ls at hl ⊢
  have hl : lv_has ls 2 [(0, .ref (ad 20)), (1, .int a1)] := hl
  unfold fX3_add at hf
  refine lv_aload_n hx hb dX3_add_0 rfl (lv_at hl 0 rfl) ?_
  refine cx_get C hx hb (T := TX3) (N := 2) hts (by decide +kernel) hown 20 rfl rfl 0 (by decide) (hts (.fieldLink RX3 9 "AggregateRows$Values" "picked" "[I") (by decide +kernel)) (fun _ h9 => h9) (v := .ref (ad 21)) rfl dX3_add_1 ?_
  refine lv_aload_n hx hb dX3_add_4 rfl (lv_at hl 0 rfl) ?_
  refine cx_get C hx hb (T := TX3) (N := 2) hts (by decide +kernel) hown 20 rfl rfl 1 (by decide) (hts (.fieldLink RX3 15 "AggregateRows$Values" "count" "I") (by decide +kernel)) (fun _ h9 => h9) (v := .int (u.1 5)) rfl dX3_add_5 ?_
  refine lv_iload_n hx hb dX3_add_8 rfl (lv_at hl 1 rfl) ?_
  obtain ⟨g_1, hf⟩ := gd_some hf
  refine cx_iast C hx hb 21 rfl g_1 (u1 := sI u 5 (u.1 5).toNatClampNeg a1) rfl dX3_add_9 (fun u_2 H locs eu_2 C => ?_)
  replace hf := lt_at hf eu_2
  refine lv_aload_n hx hb dX3_add_10 rfl (lv_at hl 0 rfl) ?_
  refine lv_dup hx hb dX3_add_11 rfl ?_
  refine cx_get C hx hb (T := TX3) (N := 2) hts (by decide +kernel) hown 20 rfl rfl 1 (by decide) (hts (.fieldLink RX3 15 "AggregateRows$Values" "count" "I") (by decide +kernel)) (fun _ h9 => h9) (v := .int (u_2.1 5)) rfl dX3_add_12 ?_
  refine lv_iconst (v := 1) hx hb dX3_add_15 (by decide) ?_
  refine lv_iadd hx hb dX3_add_16 ?_
  refine cx_puti C hx hb (T := TX3) (N := 2) hts (by decide +kernel) tyX3 tyX3_ok nmX3 hown 20 rfl rfl 1 (by decide) (hts (.fieldLink RX3 15 "AggregateRows$Values" "count" "I") (by decide +kernel)) (fun _ h9 => h9) rfl (by decide +kernel) (Nat.le_of_ble_eq_true rfl) (u1 := sS u_2 5 ((u_2.1 5) + 1)) rfl dX3_add_17 (fun u_3 H locs eu_3 C => ?_)
  replace hf := lt_at hf eu_3
  exact cx_vret C hx hb hr hlocks hf dX3_add_20
/-! ===== X3_count ===== -/
def fX3_count (u : St)  : Option (Int32 × St) := some ((u.1 5), u)
abbrev rmX3_count : Room := { frames := 0, cells := 0, slots := 0, locals := 0 }
set_option maxHeartbeats 4000000 in
set_option maxRecDepth 100000 in
theorem k_X3_count (l : Launch) (ad : Nat → Nat) (ck : Nat → ClassId) (D : va_G) (tt : Nat) {u : St}  {r : Int32} {u' : St} (hf : fX3_count u = some (r, u')) : MI l yX3_count wsX3_count rmX3_count (wA ad ck) ck D tt [.ref (ad 20)] u r u' := by
  intro sz
  refine Met.ofW (cc := cX3_count) (maxL := 1) (ret := (some .int)) (by decide) rfl ?_
  intro p e s m args below meth c s₁ B hml hv
  obtain ⟨rfl, hsz, C⟩ := cx_entry hv
  have hx := B.exec
  have hb := B.bytes
  have hr := B.returns
  have hts := atoms_spec (ws := wsX3_count) B.pre
  have hown : s.vm.findClass RX3 = some m.cls := findClass_of_methodNamed B.named
  have hlocks := B.notSynchronized
  have hl := lv_entry ([.ref (ad 20)]) (n := 1) (Nat.le_of_ble_eq_true rfl)
  rw [lg_entry_eq]
  generalize (lg_sl ([.ref (ad 20)]) ++ List.replicate (1 - (lg_sl ([.ref (ad 20)])).length) Slot.unset).toArray = ls at hl ⊢
  have hl : lv_has ls 1 [(0, .ref (ad 20))] := hl
  unfold fX3_count at hf
  refine lv_aload_n hx hb dX3_count_0 rfl (lv_at hl 0 rfl) ?_
  refine cx_get C hx hb (T := TX3) (N := 2) hts (by decide +kernel) hown 20 rfl rfl 1 (by decide) (hts (.fieldLink RX3 15 "AggregateRows$Values" "count" "I") (by decide +kernel)) (fun _ h9 => h9) (v := .int (u.1 5)) rfl dX3_count_1 ?_
  exact cx_iret C hx hb hr hlocks hf dX3_count_4
/-! ===== X3_at ===== -/
def fX3_at (u : St) (a1 : Int32) : Option (Int32 × St) := gd (okI a1 60) (some ((u.2.1 5 a1.toNatClampNeg), u))
abbrev rmX3_at : Room := { frames := 0, cells := 0, slots := 0, locals := 0 }
set_option maxHeartbeats 4000000 in
set_option maxRecDepth 100000 in
theorem k_X3_at (l : Launch) (ad : Nat → Nat) (ck : Nat → ClassId) (D : va_G) (tt : Nat) {u : St} {a1 : Int32} {r : Int32} {u' : St} (hf : fX3_at u a1 = some (r, u')) : MI l yX3_at wsX3_at rmX3_at (wA ad ck) ck D tt [.ref (ad 20), .int a1] u r u' := by
  intro sz
  refine Met.ofW (cc := cX3_at) (maxL := 2) (ret := (some .int)) (by decide) rfl ?_
  intro p e s m args below meth c s₁ B hml hv
  obtain ⟨rfl, hsz, C⟩ := cx_entry hv
  have hx := B.exec
  have hb := B.bytes
  have hr := B.returns
  have hts := atoms_spec (ws := wsX3_at) B.pre
  have hown : s.vm.findClass RX3 = some m.cls := findClass_of_methodNamed B.named
  have hlocks := B.notSynchronized
  have hl := lv_entry ([.ref (ad 20), .int a1]) (n := 2) (Nat.le_of_ble_eq_true rfl)
  rw [lg_entry_eq]
  generalize (lg_sl ([.ref (ad 20), .int a1]) ++ List.replicate (2 - (lg_sl ([.ref (ad 20), .int a1])).length) Slot.unset).toArray = ls at hl ⊢
  have hl : lv_has ls 2 [(0, .ref (ad 20)), (1, .int a1)] := hl
  unfold fX3_at at hf
  refine lv_aload_n hx hb dX3_at_0 rfl (lv_at hl 0 rfl) ?_
  refine cx_get C hx hb (T := TX3) (N := 2) hts (by decide +kernel) hown 20 rfl rfl 0 (by decide) (hts (.fieldLink RX3 9 "AggregateRows$Values" "picked" "[I") (by decide +kernel)) (fun _ h9 => h9) (v := .ref (ad 21)) rfl dX3_at_1 ?_
  refine lv_iload_n hx hb dX3_at_4 rfl (lv_at hl 1 rfl) ?_
  obtain ⟨g_1, hf⟩ := gd_some hf
  refine cx_iald C hx hb 21 rfl g_1 dX3_at_5 ?_
  exact cx_iret C hx hb hr hlocks hf dX3_at_6
/-! ===== X3_haveEqual ===== -/
def fX3_haveEqual_2  : Nat → Int32 → Int32 → St → Option (Int32 × St)
  | 0, _, _, _ => none
  | n2 + 1, x2, x3, w => (if (w.1 5) ≤ x3 then some (0, w) else gd (okI x3 60) (bnd (fX2_order w (w.2.1 5 x3.toNatClampNeg) x2) (fun r_4 u_5 => (if r_4 = 0 then some (1, u_5) else lt_ (x3 + 1) (fun x3_7 => fX3_haveEqual_2 n2 x2 x3_7 u_5)))))
def fX3_haveEqual (u : St) (a2 : Int32) : Option (Int32 × St) := fX3_haveEqual_2 FU a2 0 u
abbrev rmX3_haveEqual : Room := { frames := 2, cells := 0, slots := 0, locals := 45 }
set_option maxHeartbeats 4000000 in
set_option maxRecDepth 100000 in
theorem k_X3_haveEqual (l : Launch) (ad : Nat → Nat) (ck : Nat → ClassId) (D : va_G) (tt : Nat) {u : St} {a2 : Int32} {r : Int32} {u' : St} (hf : fX3_haveEqual u a2 = some (r, u')) : MI l yX3_haveEqual wsX3_haveEqual rmX3_haveEqual (wA ad ck) ck D tt [.ref (ad 20), .ref (ad 1), .int a2] u r u' := by
  intro sz
  refine Met.ofW (cc := cX3_haveEqual) (maxL := 4) (ret := (some .boolean)) (by decide) rfl ?_
  intro p e s m args below meth c s₁ B hml hv
  obtain ⟨rfl, hsz, C⟩ := cx_entry hv
  have hx := B.exec
  have hb := B.bytes
  have hr := B.returns
  have hts := atoms_spec (ws := wsX3_haveEqual) B.pre
  have hown : s.vm.findClass RX3 = some m.cls := findClass_of_methodNamed B.named
  have hlocks := B.notSynchronized
  have J2 : ∀ (n2 : Nat) (x2 : Int32) (x3 : Int32) (w : St) (H : Heap) (locs : List Loc) (ls : Array Slot), fX3_haveEqual_2 n2 x2 x3 w = some (r, u') → CX (wA ad ck) ck D tt (va_A (wA ad ck u) sz) s w H locs → lv_has ls 4 [(0, .ref (ad 20)), (1, .ref (ad 1)), (2, .int x2), (3, .int x3)] → W p l e (headSpec wsX3_haveEqual rmX3_haveEqual).room s m ([.ref (ad 20), .ref (ad 1), .int a2] : List Value).toArray below meth c H locs 0 0 (MQ below (QI (wA ad ck) D u sz r u') ([.ref (ad 20), .ref (ad 1), .int a2] : List Value).toArray s 0 0 (va_A (wA ad ck u) sz)) (F0 m 2 ls []) := by
    intro n2
    induction n2 with
    | zero =>
      intro x2 x3 w H locs ls hf
      have hf : (none : Option (Int32 × St)) = some (r, u') := hf
      cases hf
    | succ n2 ih2 =>
      intro x2 x3 w H locs ls hf C hl
      rw [fX3_haveEqual_2] at hf
      refine lv_iload_n hx hb dX3_haveEqual_2 rfl (lv_at hl 3 rfl) ?_
      refine lv_aload_n hx hb dX3_haveEqual_3 rfl (lv_at hl 0 rfl) ?_
      refine cx_get C hx hb (T := TX3) (N := 2) hts (by decide +kernel) hown 20 rfl rfl 1 (by decide) (hts (.fieldLink RX3 15 "AggregateRows$Values" "count" "I") (by decide +kernel)) (fun _ h9 => h9) (v := .int (w.1 5)) rfl dX3_haveEqual_4 ?_
      refine lv_icmp_ge (tgt := 32) hx hb dX3_haveEqual_7 (by decide) (fun c_1 => ?_) (fun c_1 => ?_)
      · replace hf := (if_pos c_1).symm.trans hf
        refine lv_iconst (v := 0) hx hb dX3_haveEqual_32 (by decide) ?_
        exact cx_zret C hx hb hr (by decide) hlocks hf dX3_haveEqual_33
      · replace hf := (if_neg c_1).symm.trans hf
        refine lv_aload_n hx hb dX3_haveEqual_10 rfl (lv_at hl 1 rfl) ?_
        refine lv_aload_n hx hb dX3_haveEqual_11 rfl (lv_at hl 0 rfl) ?_
        refine cx_get C hx hb (T := TX3) (N := 2) hts (by decide +kernel) hown 20 rfl rfl 0 (by decide) (hts (.fieldLink RX3 9 "AggregateRows$Values" "picked" "[I") (by decide +kernel)) (fun _ h9 => h9) (v := .ref (ad 21)) rfl dX3_haveEqual_12 ?_
        refine lv_iload_n hx hb dX3_haveEqual_15 rfl (lv_at hl 3 rfl) ?_
        obtain ⟨g_2, hf⟩ := gd_some hf
        refine cx_iald C hx hb 21 rfl g_2 dX3_haveEqual_16 ?_
        refine lv_iload_n hx hb dX3_haveEqual_17 rfl (lv_at hl 2 rfl) ?_
        obtain ⟨r_4, u_5, h_3, hf⟩ := bnd_some hf
        refine cx_calli C (va_runV (As := [.int (w.2.1 5 x3.toNatClampNeg), .int x2]) (rest := []) ⟨hx, hb, hml, hown, hts⟩ (k_X2_order l ad ck D tt h_3 _) (cwV 2 hts gX3_haveEqual_X2_order rfl rfl rfl (by decide +kernel) ⟨Nat.le_of_ble_eq_true rfl, Nat.le_of_ble_eq_true rfl⟩) (cx_preV C (q0 := 1) (ci := 2) rfl rfl) rfl rfl hl.1 rfl (lv_room (Nat.le_of_ble_eq_true rfl)) dX3_haveEqual_18 ⟨Nat.zero_le _, Nat.zero_le _⟩) (fun H locs C => ?_)
        refine lv_if_ne (tgt := 26) hx hb dX3_haveEqual_21 (by decide) (fun c_6 => ?_) (fun c_6 => ?_)
        · replace hf := (if_neg c_6).symm.trans hf
          obtain ⟨x3_7, ex3_7⟩ : ∃ y : Int32, y = x3 + 1 := ⟨_, rfl⟩
          replace hf := lt_at hf ex3_7
          refine lv_iinc (v := x3_7) (lv' := [(3, .int x3_7), (0, .ref (ad 20)), (1, .ref (ad 1)), (2, .int x2)]) hx hb dX3_haveEqual_26 hl (k := 3) rfl (by rw [ex3_7]; rfl) (by decide) rfl (fun ls hl => ?_)
          refine lv_goto (tgt := 2) hx hb dX3_haveEqual_29 (by decide) ?_
          exact ih2 x2 x3_7 u_5 _ _ _ hf C (lv_sub hl [1, 2, 3, 0] rfl)
        · replace hf := (if_pos c_6).symm.trans hf
          refine lv_iconst (v := 1) hx hb dX3_haveEqual_24 (by decide) ?_
          exact cx_zret C hx hb hr (by decide) hlocks hf dX3_haveEqual_25
  have hl := lv_entry ([.ref (ad 20), .ref (ad 1), .int a2]) (n := 4) (Nat.le_of_ble_eq_true rfl)
  rw [lg_entry_eq]
  generalize (lg_sl ([.ref (ad 20), .ref (ad 1), .int a2]) ++ List.replicate (4 - (lg_sl ([.ref (ad 20), .ref (ad 1), .int a2])).length) Slot.unset).toArray = ls at hl ⊢
  have hl : lv_has ls 4 [(0, .ref (ad 20)), (1, .ref (ad 1)), (2, .int a2)] := hl
  unfold fX3_haveEqual at hf
  refine lv_iconst (v := 0) hx hb dX3_haveEqual_0 (by decide) ?_
  refine lv_istore_n (lv' := [(3, .int 0), (0, .ref (ad 20)), (1, .ref (ad 1)), (2, .int a2)]) hx hb dX3_haveEqual_1 rfl hl (by decide) rfl (fun ls hl => ?_)
  exact J2 FU a2 0 u _ _ _ hf C (lv_sub hl [1, 2, 3, 0] rfl)
/-! ===== X3_haveText ===== -/
def fX3_haveText_2  : Nat → Int32 → St → Option (Int32 × St)
  | 0, _, _ => none
  | n2 + 1, x2, w => (if (w.1 5) ≤ x2 then some (0, w) else gd (okI x2 60) (bnd (fX2_isText w (w.2.1 5 x2.toNatClampNeg)) (fun r_4 u_5 => (if r_4 = 0 then lt_ (x2 + 1) (fun x2_7 => fX3_haveText_2 n2 x2_7 u_5) else some (1, u_5)))))
def fX3_haveText (u : St)  : Option (Int32 × St) := fX3_haveText_2 FU 0 u
abbrev rmX3_haveText : Room := { frames := 1, cells := 0, slots := 0, locals := 21 }
set_option maxHeartbeats 4000000 in
set_option maxRecDepth 100000 in
theorem k_X3_haveText (l : Launch) (ad : Nat → Nat) (ck : Nat → ClassId) (D : va_G) (tt : Nat) {u : St}  {r : Int32} {u' : St} (hf : fX3_haveText u = some (r, u')) : MI l yX3_haveText wsX3_haveText rmX3_haveText (wA ad ck) ck D tt [.ref (ad 20), .ref (ad 1)] u r u' := by
  intro sz
  refine Met.ofW (cc := cX3_haveText) (maxL := 3) (ret := (some .boolean)) (by decide) rfl ?_
  intro p e s m args below meth c s₁ B hml hv
  obtain ⟨rfl, hsz, C⟩ := cx_entry hv
  have hx := B.exec
  have hb := B.bytes
  have hr := B.returns
  have hts := atoms_spec (ws := wsX3_haveText) B.pre
  have hown : s.vm.findClass RX3 = some m.cls := findClass_of_methodNamed B.named
  have hlocks := B.notSynchronized
  have J2 : ∀ (n2 : Nat) (x2 : Int32) (w : St) (H : Heap) (locs : List Loc) (ls : Array Slot), fX3_haveText_2 n2 x2 w = some (r, u') → CX (wA ad ck) ck D tt (va_A (wA ad ck u) sz) s w H locs → lv_has ls 3 [(0, .ref (ad 20)), (1, .ref (ad 1)), (2, .int x2)] → W p l e (headSpec wsX3_haveText rmX3_haveText).room s m ([.ref (ad 20), .ref (ad 1)] : List Value).toArray below meth c H locs 0 0 (MQ below (QI (wA ad ck) D u sz r u') ([.ref (ad 20), .ref (ad 1)] : List Value).toArray s 0 0 (va_A (wA ad ck u) sz)) (F0 m 2 ls []) := by
    intro n2
    induction n2 with
    | zero =>
      intro x2 w H locs ls hf
      have hf : (none : Option (Int32 × St)) = some (r, u') := hf
      cases hf
    | succ n2 ih2 =>
      intro x2 w H locs ls hf C hl
      rw [fX3_haveText_2] at hf
      refine lv_iload_n hx hb dX3_haveText_2 rfl (lv_at hl 2 rfl) ?_
      refine lv_aload_n hx hb dX3_haveText_3 rfl (lv_at hl 0 rfl) ?_
      refine cx_get C hx hb (T := TX3) (N := 2) hts (by decide +kernel) hown 20 rfl rfl 1 (by decide) (hts (.fieldLink RX3 15 "AggregateRows$Values" "count" "I") (by decide +kernel)) (fun _ h9 => h9) (v := .int (w.1 5)) rfl dX3_haveText_4 ?_
      refine lv_icmp_ge (tgt := 31) hx hb dX3_haveText_7 (by decide) (fun c_1 => ?_) (fun c_1 => ?_)
      · replace hf := (if_pos c_1).symm.trans hf
        refine lv_iconst (v := 0) hx hb dX3_haveText_31 (by decide) ?_
        exact cx_zret C hx hb hr (by decide) hlocks hf dX3_haveText_32
      · replace hf := (if_neg c_1).symm.trans hf
        refine lv_aload_n hx hb dX3_haveText_10 rfl (lv_at hl 1 rfl) ?_
        refine lv_aload_n hx hb dX3_haveText_11 rfl (lv_at hl 0 rfl) ?_
        refine cx_get C hx hb (T := TX3) (N := 2) hts (by decide +kernel) hown 20 rfl rfl 0 (by decide) (hts (.fieldLink RX3 9 "AggregateRows$Values" "picked" "[I") (by decide +kernel)) (fun _ h9 => h9) (v := .ref (ad 21)) rfl dX3_haveText_12 ?_
        refine lv_iload_n hx hb dX3_haveText_15 rfl (lv_at hl 2 rfl) ?_
        obtain ⟨g_2, hf⟩ := gd_some hf
        refine cx_iald C hx hb 21 rfl g_2 dX3_haveText_16 ?_
        obtain ⟨r_4, u_5, h_3, hf⟩ := bnd_some hf
        refine cx_calli C (va_runV (As := [.int (w.2.1 5 x2.toNatClampNeg)]) (rest := []) ⟨hx, hb, hml, hown, hts⟩ (k_X2_isText l ad ck D tt h_3 _) (cwV 1 hts gX3_haveText_X2_isText rfl rfl rfl (by decide +kernel) ⟨Nat.le_of_ble_eq_true rfl, Nat.le_of_ble_eq_true rfl⟩) (cx_preV C (q0 := 1) (ci := 2) rfl rfl) rfl rfl hl.1 rfl (lv_room (Nat.le_of_ble_eq_true rfl)) dX3_haveText_17 ⟨Nat.zero_le _, Nat.zero_le _⟩) (fun H locs C => ?_)
        refine lv_if_eq (tgt := 25) hx hb dX3_haveText_20 (by decide) (fun c_6 => ?_) (fun c_6 => ?_)
        · replace hf := (if_pos c_6).symm.trans hf
          obtain ⟨x2_7, ex2_7⟩ : ∃ y : Int32, y = x2 + 1 := ⟨_, rfl⟩
          replace hf := lt_at hf ex2_7
          refine lv_iinc (v := x2_7) (lv' := [(2, .int x2_7), (0, .ref (ad 20)), (1, .ref (ad 1))]) hx hb dX3_haveText_25 hl (k := 2) rfl (by rw [ex2_7]; rfl) (by decide) rfl (fun ls hl => ?_)
          refine lv_goto (tgt := 2) hx hb dX3_haveText_28 (by decide) ?_
          exact ih2 x2_7 u_5 _ _ _ hf C (lv_sub hl [1, 2, 0] rfl)
        · replace hf := (if_neg c_6).symm.trans hf
          refine lv_iconst (v := 1) hx hb dX3_haveText_23 (by decide) ?_
          exact cx_zret C hx hb hr (by decide) hlocks hf dX3_haveText_24
  have hl := lv_entry ([.ref (ad 20), .ref (ad 1)]) (n := 3) (Nat.le_of_ble_eq_true rfl)
  rw [lg_entry_eq]
  generalize (lg_sl ([.ref (ad 20), .ref (ad 1)]) ++ List.replicate (3 - (lg_sl ([.ref (ad 20), .ref (ad 1)])).length) Slot.unset).toArray = ls at hl ⊢
  have hl : lv_has ls 3 [(0, .ref (ad 20)), (1, .ref (ad 1))] := hl
  unfold fX3_haveText at hf
  refine lv_iconst (v := 0) hx hb dX3_haveText_0 (by decide) ?_
  refine lv_istore_n (lv' := [(2, .int 0), (0, .ref (ad 20)), (1, .ref (ad 1))]) hx hb dX3_haveText_1 rfl hl (by decide) rfl (fun ls hl => ?_)
  exact J2 FU 0 u _ _ _ hf C (lv_sub hl [1, 2, 0] rfl)
/-! ===== X3_sum ===== -/
def fX3_sum_5  : Nat → Int64 → Int32 → St → Option (Int64 × St)
  | 0, _, _, _ => none
  | n5 + 1, x2, x4, w => (if (w.1 5) ≤ x4 then some (x2, w) else gd (okI x4 60) (bnd (fX2_thousandths w (w.2.1 5 x4.toNatClampNeg)) (fun r_4 u_5 => lt_ (x2 + r_4) (fun x2_6 => lt_ (x4 + 1) (fun x4_7 => fX3_sum_5 n5 x2_6 x4_7 u_5)))))
def fX3_sum (u : St)  : Option (Int64 × St) := fX3_sum_5 FU 0 0 u
abbrev rmX3_sum : Room := { frames := 1, cells := 0, slots := 0, locals := 21 }
set_option maxHeartbeats 4000000 in
set_option maxRecDepth 100000 in
theorem k_X3_sum (l : Launch) (ad : Nat → Nat) (ck : Nat → ClassId) (D : va_G) (tt : Nat) {u : St}  {r : Int64} {u' : St} (hf : fX3_sum u = some (r, u')) : ML l yX3_sum wsX3_sum rmX3_sum (wA ad ck) ck D tt [.ref (ad 20), .ref (ad 1)] u r u' := by
  intro sz
  refine Met.ofW (cc := cX3_sum) (maxL := 5) (ret := (some .long)) (by decide) rfl ?_
  intro p e s m args below meth c s₁ B hml hv
  obtain ⟨rfl, hsz, C⟩ := cx_entry hv
  have hx := B.exec
  have hb := B.bytes
  have hr := B.returns
  have hts := atoms_spec (ws := wsX3_sum) B.pre
  have hown : s.vm.findClass RX3 = some m.cls := findClass_of_methodNamed B.named
  have hlocks := B.notSynchronized
  have J5 : ∀ (n5 : Nat) (x2 : Int64) (x4 : Int32) (w : St) (H : Heap) (locs : List Loc) (ls : Array Slot), fX3_sum_5 n5 x2 x4 w = some (r, u') → CX (wA ad ck) ck D tt (va_A (wA ad ck u) sz) s w H locs → lv_has ls 5 [(0, .ref (ad 20)), (1, .ref (ad 1)), (2, .long x2), (4, .int x4)] → W p l e (headSpec wsX3_sum rmX3_sum).room s m ([.ref (ad 20), .ref (ad 1)] : List Value).toArray below meth c H locs 0 0 (MQ below (QL (wA ad ck) D u sz r u') ([.ref (ad 20), .ref (ad 1)] : List Value).toArray s 0 0 (va_A (wA ad ck u) sz)) (F0 m 5 ls []) := by
    intro n5
    induction n5 with
    | zero =>
      intro x2 x4 w H locs ls hf
      have hf : (none : Option (Int64 × St)) = some (r, u') := hf
      cases hf
    | succ n5 ih5 =>
      intro x2 x4 w H locs ls hf C hl
      rw [fX3_sum_5] at hf
      refine lv_iload hx hb dX3_sum_5 (lv_at hl 3 rfl) ?_
      refine lv_aload_n hx hb dX3_sum_7 rfl (lv_at hl 0 rfl) ?_
      refine cx_get C hx hb (T := TX3) (N := 2) hts (by decide +kernel) hown 20 rfl rfl 1 (by decide) (hts (.fieldLink RX3 15 "AggregateRows$Values" "count" "I") (by decide +kernel)) (fun _ h9 => h9) (v := .int (w.1 5)) rfl dX3_sum_8 ?_
      refine lv_icmp_ge (tgt := 34) hx hb dX3_sum_11 (by decide) (fun c_1 => ?_) (fun c_1 => ?_)
      · replace hf := (if_pos c_1).symm.trans hf
        refine lv_lload_n hx hb dX3_sum_34 rfl (lv_at hl 2 rfl) ?_
        exact cx_lret C hx hb hr hlocks hf dX3_sum_35
      · replace hf := (if_neg c_1).symm.trans hf
        refine lv_lload_n hx hb dX3_sum_14 rfl (lv_at hl 2 rfl) ?_
        refine lv_aload_n hx hb dX3_sum_15 rfl (lv_at hl 1 rfl) ?_
        refine lv_aload_n hx hb dX3_sum_16 rfl (lv_at hl 0 rfl) ?_
        refine cx_get C hx hb (T := TX3) (N := 2) hts (by decide +kernel) hown 20 rfl rfl 0 (by decide) (hts (.fieldLink RX3 9 "AggregateRows$Values" "picked" "[I") (by decide +kernel)) (fun _ h9 => h9) (v := .ref (ad 21)) rfl dX3_sum_17 ?_
        refine lv_iload hx hb dX3_sum_20 (lv_at hl 3 rfl) ?_
        obtain ⟨g_2, hf⟩ := gd_some hf
        refine cx_iald C hx hb 21 rfl g_2 dX3_sum_22 ?_
        obtain ⟨r_4, u_5, h_3, hf⟩ := bnd_some hf
        refine cx_calll C (va_runV (As := [.int (w.2.1 5 x4.toNatClampNeg)]) (rest := [.long x2]) ⟨hx, hb, hml, hown, hts⟩ (k_X2_thousandths l ad ck D tt h_3 _) (cwV 1 hts gX3_sum_X2_thousandths rfl rfl rfl (by decide +kernel) ⟨Nat.le_of_ble_eq_true rfl, Nat.le_of_ble_eq_true rfl⟩) (cx_preV C (q0 := 1) (ci := 2) rfl rfl) rfl rfl hl.1 rfl (lv_room (Nat.le_of_ble_eq_true rfl)) dX3_sum_23 ⟨Nat.zero_le _, Nat.zero_le _⟩) (fun H locs C => ?_)
        refine lv_ladd hx hb dX3_sum_26 ?_
        refine lv_topl (fun x2_6 ex2_6 => ?_)
        replace hf := lt_at hf ex2_6
        refine lv_lstore_n (lv' := [(2, .long x2_6), (0, .ref (ad 20)), (1, .ref (ad 1)), (4, .int x4)]) hx hb dX3_sum_27 rfl hl (by decide) rfl (fun ls hl => ?_)
        obtain ⟨x4_7, ex4_7⟩ : ∃ y : Int32, y = x4 + 1 := ⟨_, rfl⟩
        replace hf := lt_at hf ex4_7
        refine lv_iinc (v := x4_7) (lv' := [(4, .int x4_7), (2, .long x2_6), (0, .ref (ad 20)), (1, .ref (ad 1))]) hx hb dX3_sum_28 hl (k := 3) rfl (by rw [ex4_7]; rfl) (by decide) rfl (fun ls hl => ?_)
        refine lv_goto (tgt := 5) hx hb dX3_sum_31 (by decide) ?_
        exact ih5 x2_6 x4_7 u_5 _ _ _ hf C (lv_sub hl [2, 3, 1, 0] rfl)
  have hl := lv_entry ([.ref (ad 20), .ref (ad 1)]) (n := 5) (Nat.le_of_ble_eq_true rfl)
  rw [lg_entry_eq]
  generalize (lg_sl ([.ref (ad 20), .ref (ad 1)]) ++ List.replicate (5 - (lg_sl ([.ref (ad 20), .ref (ad 1)])).length) Slot.unset).toArray = ls at hl ⊢
  have hl : lv_has ls 5 [(0, .ref (ad 20)), (1, .ref (ad 1))] := hl
  unfold fX3_sum at hf
  refine lv_lconst (v := 0) hx hb dX3_sum_0 (by decide) ?_
  refine lv_lstore_n (lv' := [(2, .long 0), (0, .ref (ad 20)), (1, .ref (ad 1))]) hx hb dX3_sum_1 rfl hl (by decide) rfl (fun ls hl => ?_)
  refine lv_iconst (v := 0) hx hb dX3_sum_2 (by decide) ?_
  refine lv_istore (lv' := [(4, .int 0), (2, .long 0), (0, .ref (ad 20)), (1, .ref (ad 1))]) hx hb dX3_sum_3 hl (by decide) rfl (fun ls hl => ?_)
  exact J5 FU 0 0 u _ _ _ hf C (lv_sub hl [2, 3, 1, 0] rfl)
/-! ===== X3_sumAboveZero ===== -/
def fX3_sumAboveZero_5  : Nat → Int64 → Int32 → St → Option (Int64 × St)
  | 0, _, _, _ => none
  | n5 + 1, x2, x4, w => (if (w.1 5) ≤ x4 then some (x2, w) else gd (okI x4 60) (bnd (fX2_thousandths w (w.2.1 5 x4.toNatClampNeg)) (fun r_4 u_5 => lt_ (if r_4 < 0 then 0 else r_4) (fun z_6 => lt_ (x2 + z_6) (fun x2_7 => lt_ (x4 + 1) (fun x4_8 => fX3_sumAboveZero_5 n5 x2_7 x4_8 u_5))))))
def fX3_sumAboveZero (u : St)  : Option (Int64 × St) := fX3_sumAboveZero_5 FU 0 0 u
abbrev rmX3_sumAboveZero : Room := { frames := 1, cells := 0, slots := 0, locals := 23 }
set_option maxHeartbeats 4000000 in
set_option maxRecDepth 100000 in
theorem k_X3_sumAboveZero (l : Launch) (ad : Nat → Nat) (ck : Nat → ClassId) (D : va_G) (tt : Nat) {u : St}  {r : Int64} {u' : St} (hf : fX3_sumAboveZero u = some (r, u')) : ML l yX3_sumAboveZero wsX3_sumAboveZero rmX3_sumAboveZero (wA ad ck) ck D tt [.ref (ad 20), .ref (ad 1)] u r u' := by
  intro sz
  refine Met.ofW (cc := cX3_sumAboveZero) (maxL := 5) (ret := (some .long)) (by decide) rfl ?_
  intro p e s m args below meth c s₁ B hml hv
  obtain ⟨rfl, hsz, C⟩ := cx_entry hv
  have hx := B.exec
  have hb := B.bytes
  have hr := B.returns
  have hts := atoms_spec (ws := wsX3_sumAboveZero) B.pre
  have hown : s.vm.findClass RX3 = some m.cls := findClass_of_methodNamed B.named
  have hlocks := B.notSynchronized
  have J5 : ∀ (n5 : Nat) (x2 : Int64) (x4 : Int32) (w : St) (H : Heap) (locs : List Loc) (ls : Array Slot), fX3_sumAboveZero_5 n5 x2 x4 w = some (r, u') → CX (wA ad ck) ck D tt (va_A (wA ad ck u) sz) s w H locs → lv_has ls 5 [(0, .ref (ad 20)), (1, .ref (ad 1)), (2, .long x2), (4, .int x4)] → W p l e (headSpec wsX3_sumAboveZero rmX3_sumAboveZero).room s m ([.ref (ad 20), .ref (ad 1)] : List Value).toArray below meth c H locs 0 0 (MQ below (QL (wA ad ck) D u sz r u') ([.ref (ad 20), .ref (ad 1)] : List Value).toArray s 0 0 (va_A (wA ad ck u) sz)) (F0 m 5 ls []) := by
    intro n5
    induction n5 with
    | zero =>
      intro x2 x4 w H locs ls hf
      have hf : (none : Option (Int64 × St)) = some (r, u') := hf
      cases hf
    | succ n5 ih5 =>
      intro x2 x4 w H locs ls hf C hl
      rw [fX3_sumAboveZero_5] at hf
      refine lv_iload hx hb dX3_sumAboveZero_5 (lv_at hl 3 rfl) ?_
      refine lv_aload_n hx hb dX3_sumAboveZero_7 rfl (lv_at hl 0 rfl) ?_
      refine cx_get C hx hb (T := TX3) (N := 2) hts (by decide +kernel) hown 20 rfl rfl 1 (by decide) (hts (.fieldLink RX3 15 "AggregateRows$Values" "count" "I") (by decide +kernel)) (fun _ h9 => h9) (v := .int (w.1 5)) rfl dX3_sumAboveZero_8 ?_
      refine lv_icmp_ge (tgt := 38) hx hb dX3_sumAboveZero_11 (by decide) (fun c_1 => ?_) (fun c_1 => ?_)
      · replace hf := (if_pos c_1).symm.trans hf
        refine lv_lload_n hx hb dX3_sumAboveZero_38 rfl (lv_at hl 2 rfl) ?_
        exact cx_lret C hx hb hr hlocks hf dX3_sumAboveZero_39
      · replace hf := (if_neg c_1).symm.trans hf
        refine lv_lload_n hx hb dX3_sumAboveZero_14 rfl (lv_at hl 2 rfl) ?_
        refine lv_lconst (v := 0) hx hb dX3_sumAboveZero_15 (by decide) ?_
        refine lv_aload_n hx hb dX3_sumAboveZero_16 rfl (lv_at hl 1 rfl) ?_
        refine lv_aload_n hx hb dX3_sumAboveZero_17 rfl (lv_at hl 0 rfl) ?_
        refine cx_get C hx hb (T := TX3) (N := 2) hts (by decide +kernel) hown 20 rfl rfl 0 (by decide) (hts (.fieldLink RX3 9 "AggregateRows$Values" "picked" "[I") (by decide +kernel)) (fun _ h9 => h9) (v := .ref (ad 21)) rfl dX3_sumAboveZero_18 ?_
        refine lv_iload hx hb dX3_sumAboveZero_21 (lv_at hl 3 rfl) ?_
        obtain ⟨g_2, hf⟩ := gd_some hf
        refine cx_iald C hx hb 21 rfl g_2 dX3_sumAboveZero_23 ?_
        obtain ⟨r_4, u_5, h_3, hf⟩ := bnd_some hf
        refine cx_calll C (va_runV (As := [.int (w.2.1 5 x4.toNatClampNeg)]) (rest := [.long 0, .long x2]) ⟨hx, hb, hml, hown, hts⟩ (k_X2_thousandths l ad ck D tt h_3 _) (cwV 1 hts gX3_sumAboveZero_X2_thousandths rfl rfl rfl (by decide +kernel) ⟨Nat.le_of_ble_eq_true rfl, Nat.le_of_ble_eq_true rfl⟩) (cx_preV C (q0 := 1) (ci := 2) rfl rfl) rfl rfl hl.1 rfl (lv_room (Nat.le_of_ble_eq_true rfl)) dX3_sumAboveZero_24 ⟨Nat.zero_le _, Nat.zero_le _⟩) (fun H locs C => ?_)
        refine va_mmax_long hx hb (hml.trans hl.1.symm) hown (hts (.methodLink RX3 33 Lib.MathLoose.max_long.x) (by decide +kernel)) (hts (.static Lib.MathLoose.max_long.x) (by decide +kernel)) (hts (.initialized "java/lang/Math") (by decide +kernel)) (hts (.code Lib.MathLoose.max_long.x Lib.MathLoose.max_long.code 4 (some .long)) (by decide +kernel)) (Nat.le_of_ble_eq_true rfl) (Nat.le_of_ble_eq_true rfl) (Nat.zero_le _) (Nat.zero_le _) dX3_sumAboveZero_27 ?_
        refine lv_topl (fun z_6 ez_6 => ?_)
        replace hf := lt_at hf ez_6
        refine lv_ladd hx hb dX3_sumAboveZero_30 ?_
        refine lv_topl (fun x2_7 ex2_7 => ?_)
        replace hf := lt_at hf ex2_7
        refine lv_lstore_n (lv' := [(2, .long x2_7), (0, .ref (ad 20)), (1, .ref (ad 1)), (4, .int x4)]) hx hb dX3_sumAboveZero_31 rfl hl (by decide) rfl (fun ls hl => ?_)
        obtain ⟨x4_8, ex4_8⟩ : ∃ y : Int32, y = x4 + 1 := ⟨_, rfl⟩
        replace hf := lt_at hf ex4_8
        refine lv_iinc (v := x4_8) (lv' := [(4, .int x4_8), (2, .long x2_7), (0, .ref (ad 20)), (1, .ref (ad 1))]) hx hb dX3_sumAboveZero_32 hl (k := 3) rfl (by rw [ex4_8]; rfl) (by decide) rfl (fun ls hl => ?_)
        refine lv_goto (tgt := 5) hx hb dX3_sumAboveZero_35 (by decide) ?_
        exact ih5 x2_7 x4_8 u_5 _ _ _ hf C (lv_sub hl [2, 3, 1, 0] rfl)
  have hl := lv_entry ([.ref (ad 20), .ref (ad 1)]) (n := 5) (Nat.le_of_ble_eq_true rfl)
  rw [lg_entry_eq]
  generalize (lg_sl ([.ref (ad 20), .ref (ad 1)]) ++ List.replicate (5 - (lg_sl ([.ref (ad 20), .ref (ad 1)])).length) Slot.unset).toArray = ls at hl ⊢
  have hl : lv_has ls 5 [(0, .ref (ad 20)), (1, .ref (ad 1))] := hl
  unfold fX3_sumAboveZero at hf
  refine lv_lconst (v := 0) hx hb dX3_sumAboveZero_0 (by decide) ?_
  refine lv_lstore_n (lv' := [(2, .long 0), (0, .ref (ad 20)), (1, .ref (ad 1))]) hx hb dX3_sumAboveZero_1 rfl hl (by decide) rfl (fun ls hl => ?_)
  refine lv_iconst (v := 0) hx hb dX3_sumAboveZero_2 (by decide) ?_
  refine lv_istore (lv' := [(4, .int 0), (2, .long 0), (0, .ref (ad 20)), (1, .ref (ad 1))]) hx hb dX3_sumAboveZero_3 hl (by decide) rfl (fun ls hl => ?_)
  exact J5 FU 0 0 u _ _ _ hf C (lv_sub hl [2, 3, 1, 0] rfl)
/-! ===== X3_first ===== -/
def fX3_first (u : St)  : Option (Int32 × St) := (if (u.1 5) ≤ 0 then some ((-1), u) else gd (okI 0 60) (some ((u.2.1 5 (0 : Int32).toNatClampNeg), u)))
abbrev rmX3_first : Room := { frames := 0, cells := 0, slots := 0, locals := 0 }
set_option maxHeartbeats 4000000 in
set_option maxRecDepth 100000 in
theorem k_X3_first (l : Launch) (ad : Nat → Nat) (ck : Nat → ClassId) (D : va_G) (tt : Nat) {u : St}  {r : Int32} {u' : St} (hf : fX3_first u = some (r, u')) : MI l yX3_first wsX3_first rmX3_first (wA ad ck) ck D tt [.ref (ad 20)] u r u' := by
  intro sz
  refine Met.ofW (cc := cX3_first) (maxL := 1) (ret := (some .int)) (by decide) rfl ?_
  intro p e s m args below meth c s₁ B hml hv
  obtain ⟨rfl, hsz, C⟩ := cx_entry hv
  have hx := B.exec
  have hb := B.bytes
  have hr := B.returns
  have hts := atoms_spec (ws := wsX3_first) B.pre
  have hown : s.vm.findClass RX3 = some m.cls := findClass_of_methodNamed B.named
  have hlocks := B.notSynchronized
  have hl := lv_entry ([.ref (ad 20)]) (n := 1) (Nat.le_of_ble_eq_true rfl)
  rw [lg_entry_eq]
  generalize (lg_sl ([.ref (ad 20)]) ++ List.replicate (1 - (lg_sl ([.ref (ad 20)])).length) Slot.unset).toArray = ls at hl ⊢
  have hl : lv_has ls 1 [(0, .ref (ad 20))] := hl
  unfold fX3_first at hf
  refine lv_aload_n hx hb dX3_first_0 rfl (lv_at hl 0 rfl) ?_
  refine cx_get C hx hb (T := TX3) (N := 2) hts (by decide +kernel) hown 20 rfl rfl 1 (by decide) (hts (.fieldLink RX3 15 "AggregateRows$Values" "count" "I") (by decide +kernel)) (fun _ h9 => h9) (v := .int (u.1 5)) rfl dX3_first_1 ?_
  refine lv_if_le (tgt := 16) hx hb dX3_first_4 (by decide) (fun c_1 => ?_) (fun c_1 => ?_)
  · replace hf := (if_pos c_1).symm.trans hf
    refine lv_iconst (v := (-1)) hx hb dX3_first_16 (by decide) ?_
    exact cx_iret C hx hb hr hlocks hf dX3_first_17
  · replace hf := (if_neg c_1).symm.trans hf
    refine lv_aload_n hx hb dX3_first_7 rfl (lv_at hl 0 rfl) ?_
    refine cx_get C hx hb (T := TX3) (N := 2) hts (by decide +kernel) hown 20 rfl rfl 0 (by decide) (hts (.fieldLink RX3 9 "AggregateRows$Values" "picked" "[I") (by decide +kernel)) (fun _ h9 => h9) (v := .ref (ad 21)) rfl dX3_first_8 ?_
    refine lv_iconst (v := 0) hx hb dX3_first_11 (by decide) ?_
    obtain ⟨g_2, hf⟩ := gd_some hf
    refine cx_iald C hx hb 21 rfl g_2 dX3_first_12 ?_
    refine lv_goto (tgt := 17) hx hb dX3_first_13 (by decide) ?_
    exact cx_iret C hx hb hr hlocks hf dX3_first_17
/-! ===== X3_least ===== -/
def fX3_least_7  : Nat → Int32 → Int32 → St → Option (Int32 × St)
  | 0, _, _, _ => none
  | n7 + 1, x2, x3, w => (if (w.1 5) ≤ x3 then some (x2, w) else gd (okI x3 60) (bnd (fX2_order w (w.2.1 5 x3.toNatClampNeg) x2) (fun r_4 u_5 => (if 0 ≤ r_4 then lt_ (x3 + 1) (fun x3_7 => fX3_least_7 n7 x2 x3_7 u_5) else gd (okI x3 60) (lt_ (u_5.2.1 5 x3.toNatClampNeg) (fun x2_9 => lt_ (x3 + 1) (fun x3_10 => fX3_least_7 n7 x2_9 x3_10 u_5)))))))
def fX3_least (u : St)  : Option (Int32 × St) := bnd (fX3_first u) (fun r_2 u_3 => fX3_least_7 FU r_2 1 u_3)
abbrev rmX3_least : Room := { frames := 2, cells := 0, slots := 0, locals := 45 }
set_option maxHeartbeats 4000000 in
set_option maxRecDepth 100000 in
theorem k_X3_least (l : Launch) (ad : Nat → Nat) (ck : Nat → ClassId) (D : va_G) (tt : Nat) {u : St}  {r : Int32} {u' : St} (hf : fX3_least u = some (r, u')) : MI l yX3_least wsX3_least rmX3_least (wA ad ck) ck D tt [.ref (ad 20), .ref (ad 1)] u r u' := by
  intro sz
  refine Met.ofW (cc := cX3_least) (maxL := 4) (ret := (some .int)) (by decide) rfl ?_
  intro p e s m args below meth c s₁ B hml hv
  obtain ⟨rfl, hsz, C⟩ := cx_entry hv
  have hx := B.exec
  have hb := B.bytes
  have hr := B.returns
  have hts := atoms_spec (ws := wsX3_least) B.pre
  have hown : s.vm.findClass RX3 = some m.cls := findClass_of_methodNamed B.named
  have hlocks := B.notSynchronized
  have J7 : ∀ (n7 : Nat) (x2 : Int32) (x3 : Int32) (w : St) (H : Heap) (locs : List Loc) (ls : Array Slot), fX3_least_7 n7 x2 x3 w = some (r, u') → CX (wA ad ck) ck D tt (va_A (wA ad ck u) sz) s w H locs → lv_has ls 4 [(0, .ref (ad 20)), (1, .ref (ad 1)), (2, .int x2), (3, .int x3)] → W p l e (headSpec wsX3_least rmX3_least).room s m ([.ref (ad 20), .ref (ad 1)] : List Value).toArray below meth c H locs 0 0 (MQ below (QI (wA ad ck) D u sz r u') ([.ref (ad 20), .ref (ad 1)] : List Value).toArray s 0 0 (va_A (wA ad ck u) sz)) (F0 m 7 ls []) := by
    intro n7
    induction n7 with
    | zero =>
      intro x2 x3 w H locs ls hf
      have hf : (none : Option (Int32 × St)) = some (r, u') := hf
      cases hf
    | succ n7 ih7 =>
      intro x2 x3 w H locs ls hf C hl
      rw [fX3_least_7] at hf
      refine lv_iload_n hx hb dX3_least_7 rfl (lv_at hl 3 rfl) ?_
      refine lv_aload_n hx hb dX3_least_8 rfl (lv_at hl 0 rfl) ?_
      refine cx_get C hx hb (T := TX3) (N := 2) hts (by decide +kernel) hown 20 rfl rfl 1 (by decide) (hts (.fieldLink RX3 15 "AggregateRows$Values" "count" "I") (by decide +kernel)) (fun _ h9 => h9) (v := .int (w.1 5)) rfl dX3_least_9 ?_
      refine lv_icmp_ge (tgt := 42) hx hb dX3_least_12 (by decide) (fun c_1 => ?_) (fun c_1 => ?_)
      · replace hf := (if_pos c_1).symm.trans hf
        refine lv_iload_n hx hb dX3_least_42 rfl (lv_at hl 2 rfl) ?_
        exact cx_iret C hx hb hr hlocks hf dX3_least_43
      · replace hf := (if_neg c_1).symm.trans hf
        refine lv_aload_n hx hb dX3_least_15 rfl (lv_at hl 1 rfl) ?_
        refine lv_aload_n hx hb dX3_least_16 rfl (lv_at hl 0 rfl) ?_
        refine cx_get C hx hb (T := TX3) (N := 2) hts (by decide +kernel) hown 20 rfl rfl 0 (by decide) (hts (.fieldLink RX3 9 "AggregateRows$Values" "picked" "[I") (by decide +kernel)) (fun _ h9 => h9) (v := .ref (ad 21)) rfl dX3_least_17 ?_
        refine lv_iload_n hx hb dX3_least_20 rfl (lv_at hl 3 rfl) ?_
        obtain ⟨g_2, hf⟩ := gd_some hf
        refine cx_iald C hx hb 21 rfl g_2 dX3_least_21 ?_
        refine lv_iload_n hx hb dX3_least_22 rfl (lv_at hl 2 rfl) ?_
        obtain ⟨r_4, u_5, h_3, hf⟩ := bnd_some hf
        refine cx_calli C (va_runV (As := [.int (w.2.1 5 x3.toNatClampNeg), .int x2]) (rest := []) ⟨hx, hb, hml, hown, hts⟩ (k_X2_order l ad ck D tt h_3 _) (cwV 2 hts gX3_least_X2_order rfl rfl rfl (by decide +kernel) ⟨Nat.le_of_ble_eq_true rfl, Nat.le_of_ble_eq_true rfl⟩) (cx_preV C (q0 := 1) (ci := 2) rfl rfl) rfl rfl hl.1 rfl (lv_room (Nat.le_of_ble_eq_true rfl)) dX3_least_23 ⟨Nat.zero_le _, Nat.zero_le _⟩) (fun H locs C => ?_)
        refine lv_if_ge (tgt := 36) hx hb dX3_least_26 (by decide) (fun c_6 => ?_) (fun c_6 => ?_)
        · replace hf := (if_pos c_6).symm.trans hf
          obtain ⟨x3_7, ex3_7⟩ : ∃ y : Int32, y = x3 + 1 := ⟨_, rfl⟩
          replace hf := lt_at hf ex3_7
          refine lv_iinc (v := x3_7) (lv' := [(3, .int x3_7), (0, .ref (ad 20)), (1, .ref (ad 1)), (2, .int x2)]) hx hb dX3_least_36 hl (k := 3) rfl (by rw [ex3_7]; rfl) (by decide) rfl (fun ls hl => ?_)
          refine lv_goto (tgt := 7) hx hb dX3_least_39 (by decide) ?_
          exact ih7 x2 x3_7 u_5 _ _ _ hf C (lv_sub hl [1, 2, 3, 0] rfl)
        · replace hf := (if_neg c_6).symm.trans hf
          refine lv_aload_n hx hb dX3_least_29 rfl (lv_at hl 0 rfl) ?_
          refine cx_get C hx hb (T := TX3) (N := 2) hts (by decide +kernel) hown 20 rfl rfl 0 (by decide) (hts (.fieldLink RX3 9 "AggregateRows$Values" "picked" "[I") (by decide +kernel)) (fun _ h9 => h9) (v := .ref (ad 21)) rfl dX3_least_30 ?_
          refine lv_iload_n hx hb dX3_least_33 rfl (lv_at hl 3 rfl) ?_
          obtain ⟨g_8, hf⟩ := gd_some hf
          refine cx_iald C hx hb 21 rfl g_8 dX3_least_34 ?_
          refine lv_topi (fun x2_9 ex2_9 => ?_)
          replace hf := lt_at hf ex2_9
          refine lv_istore_n (lv' := [(2, .int x2_9), (0, .ref (ad 20)), (1, .ref (ad 1)), (3, .int x3)]) hx hb dX3_least_35 rfl hl (by decide) rfl (fun ls hl => ?_)
          obtain ⟨x3_10, ex3_10⟩ : ∃ y : Int32, y = x3 + 1 := ⟨_, rfl⟩
          replace hf := lt_at hf ex3_10
          refine lv_iinc (v := x3_10) (lv' := [(3, .int x3_10), (2, .int x2_9), (0, .ref (ad 20)), (1, .ref (ad 1))]) hx hb dX3_least_36 hl (k := 3) rfl (by rw [ex3_10]; rfl) (by decide) rfl (fun ls hl => ?_)
          refine lv_goto (tgt := 7) hx hb dX3_least_39 (by decide) ?_
          exact ih7 x2_9 x3_10 u_5 _ _ _ hf C (lv_sub hl [2, 3, 1, 0] rfl)
  have hl := lv_entry ([.ref (ad 20), .ref (ad 1)]) (n := 4) (Nat.le_of_ble_eq_true rfl)
  rw [lg_entry_eq]
  generalize (lg_sl ([.ref (ad 20), .ref (ad 1)]) ++ List.replicate (4 - (lg_sl ([.ref (ad 20), .ref (ad 1)])).length) Slot.unset).toArray = ls at hl ⊢
  have hl : lv_has ls 4 [(0, .ref (ad 20)), (1, .ref (ad 1))] := hl
  unfold fX3_least at hf
  refine lv_aload_n hx hb dX3_least_0 rfl (lv_at hl 0 rfl) ?_
  obtain ⟨r_2, u_3, h_1, hf⟩ := bnd_some hf
  refine cx_calli C (va_runV (As := []) (rest := []) ⟨hx, hb, hml, hown, hts⟩ (k_X3_first l ad ck D tt h_1 _) (cwV 0 hts gX3_least_X3_first rfl rfl rfl (by decide +kernel) ⟨Nat.le_of_ble_eq_true rfl, Nat.le_of_ble_eq_true rfl⟩) (cx_preV C (q0 := 20) (ci := 3) rfl rfl) rfl rfl hl.1 rfl (lv_room (Nat.le_of_ble_eq_true rfl)) dX3_least_1 ⟨Nat.zero_le _, Nat.zero_le _⟩) (fun H locs C => ?_)
  refine lv_istore_n (lv' := [(2, .int r_2), (0, .ref (ad 20)), (1, .ref (ad 1))]) hx hb dX3_least_4 rfl hl (by decide) rfl (fun ls hl => ?_)
  refine lv_iconst (v := 1) hx hb dX3_least_5 (by decide) ?_
  refine lv_istore_n (lv' := [(3, .int 1), (2, .int r_2), (0, .ref (ad 20)), (1, .ref (ad 1))]) hx hb dX3_least_6 rfl hl (by decide) rfl (fun ls hl => ?_)
  exact J7 FU r_2 1 u_3 _ _ _ hf C (lv_sub hl [2, 3, 1, 0] rfl)
/-! ===== X3_greatest ===== -/
def fX3_greatest_7  : Nat → Int32 → Int32 → St → Option (Int32 × St)
  | 0, _, _, _ => none
  | n7 + 1, x2, x3, w => (if (w.1 5) ≤ x3 then some (x2, w) else gd (okI x3 60) (bnd (fX2_order w (w.2.1 5 x3.toNatClampNeg) x2) (fun r_4 u_5 => (if r_4 ≤ 0 then lt_ (x3 + 1) (fun x3_7 => fX3_greatest_7 n7 x2 x3_7 u_5) else gd (okI x3 60) (lt_ (u_5.2.1 5 x3.toNatClampNeg) (fun x2_9 => lt_ (x3 + 1) (fun x3_10 => fX3_greatest_7 n7 x2_9 x3_10 u_5)))))))
def fX3_greatest (u : St)  : Option (Int32 × St) := bnd (fX3_first u) (fun r_2 u_3 => fX3_greatest_7 FU r_2 1 u_3)
abbrev rmX3_greatest : Room := { frames := 2, cells := 0, slots := 0, locals := 45 }
set_option maxHeartbeats 4000000 in
set_option maxRecDepth 100000 in
theorem k_X3_greatest (l : Launch) (ad : Nat → Nat) (ck : Nat → ClassId) (D : va_G) (tt : Nat) {u : St}  {r : Int32} {u' : St} (hf : fX3_greatest u = some (r, u')) : MI l yX3_greatest wsX3_greatest rmX3_greatest (wA ad ck) ck D tt [.ref (ad 20), .ref (ad 1)] u r u' := by
  intro sz
  refine Met.ofW (cc := cX3_greatest) (maxL := 4) (ret := (some .int)) (by decide) rfl ?_
  intro p e s m args below meth c s₁ B hml hv
  obtain ⟨rfl, hsz, C⟩ := cx_entry hv
  have hx := B.exec
  have hb := B.bytes
  have hr := B.returns
  have hts := atoms_spec (ws := wsX3_greatest) B.pre
  have hown : s.vm.findClass RX3 = some m.cls := findClass_of_methodNamed B.named
  have hlocks := B.notSynchronized
  have J7 : ∀ (n7 : Nat) (x2 : Int32) (x3 : Int32) (w : St) (H : Heap) (locs : List Loc) (ls : Array Slot), fX3_greatest_7 n7 x2 x3 w = some (r, u') → CX (wA ad ck) ck D tt (va_A (wA ad ck u) sz) s w H locs → lv_has ls 4 [(0, .ref (ad 20)), (1, .ref (ad 1)), (2, .int x2), (3, .int x3)] → W p l e (headSpec wsX3_greatest rmX3_greatest).room s m ([.ref (ad 20), .ref (ad 1)] : List Value).toArray below meth c H locs 0 0 (MQ below (QI (wA ad ck) D u sz r u') ([.ref (ad 20), .ref (ad 1)] : List Value).toArray s 0 0 (va_A (wA ad ck u) sz)) (F0 m 7 ls []) := by
    intro n7
    induction n7 with
    | zero =>
      intro x2 x3 w H locs ls hf
      have hf : (none : Option (Int32 × St)) = some (r, u') := hf
      cases hf
    | succ n7 ih7 =>
      intro x2 x3 w H locs ls hf C hl
      rw [fX3_greatest_7] at hf
      refine lv_iload_n hx hb dX3_greatest_7 rfl (lv_at hl 3 rfl) ?_
      refine lv_aload_n hx hb dX3_greatest_8 rfl (lv_at hl 0 rfl) ?_
      refine cx_get C hx hb (T := TX3) (N := 2) hts (by decide +kernel) hown 20 rfl rfl 1 (by decide) (hts (.fieldLink RX3 15 "AggregateRows$Values" "count" "I") (by decide +kernel)) (fun _ h9 => h9) (v := .int (w.1 5)) rfl dX3_greatest_9 ?_
      refine lv_icmp_ge (tgt := 42) hx hb dX3_greatest_12 (by decide) (fun c_1 => ?_) (fun c_1 => ?_)
      · replace hf := (if_pos c_1).symm.trans hf
        refine lv_iload_n hx hb dX3_greatest_42 rfl (lv_at hl 2 rfl) ?_
        exact cx_iret C hx hb hr hlocks hf dX3_greatest_43
      · replace hf := (if_neg c_1).symm.trans hf
        refine lv_aload_n hx hb dX3_greatest_15 rfl (lv_at hl 1 rfl) ?_
        refine lv_aload_n hx hb dX3_greatest_16 rfl (lv_at hl 0 rfl) ?_
        refine cx_get C hx hb (T := TX3) (N := 2) hts (by decide +kernel) hown 20 rfl rfl 0 (by decide) (hts (.fieldLink RX3 9 "AggregateRows$Values" "picked" "[I") (by decide +kernel)) (fun _ h9 => h9) (v := .ref (ad 21)) rfl dX3_greatest_17 ?_
        refine lv_iload_n hx hb dX3_greatest_20 rfl (lv_at hl 3 rfl) ?_
        obtain ⟨g_2, hf⟩ := gd_some hf
        refine cx_iald C hx hb 21 rfl g_2 dX3_greatest_21 ?_
        refine lv_iload_n hx hb dX3_greatest_22 rfl (lv_at hl 2 rfl) ?_
        obtain ⟨r_4, u_5, h_3, hf⟩ := bnd_some hf
        refine cx_calli C (va_runV (As := [.int (w.2.1 5 x3.toNatClampNeg), .int x2]) (rest := []) ⟨hx, hb, hml, hown, hts⟩ (k_X2_order l ad ck D tt h_3 _) (cwV 2 hts gX3_greatest_X2_order rfl rfl rfl (by decide +kernel) ⟨Nat.le_of_ble_eq_true rfl, Nat.le_of_ble_eq_true rfl⟩) (cx_preV C (q0 := 1) (ci := 2) rfl rfl) rfl rfl hl.1 rfl (lv_room (Nat.le_of_ble_eq_true rfl)) dX3_greatest_23 ⟨Nat.zero_le _, Nat.zero_le _⟩) (fun H locs C => ?_)
        refine lv_if_le (tgt := 36) hx hb dX3_greatest_26 (by decide) (fun c_6 => ?_) (fun c_6 => ?_)
        · replace hf := (if_pos c_6).symm.trans hf
          obtain ⟨x3_7, ex3_7⟩ : ∃ y : Int32, y = x3 + 1 := ⟨_, rfl⟩
          replace hf := lt_at hf ex3_7
          refine lv_iinc (v := x3_7) (lv' := [(3, .int x3_7), (0, .ref (ad 20)), (1, .ref (ad 1)), (2, .int x2)]) hx hb dX3_greatest_36 hl (k := 3) rfl (by rw [ex3_7]; rfl) (by decide) rfl (fun ls hl => ?_)
          refine lv_goto (tgt := 7) hx hb dX3_greatest_39 (by decide) ?_
          exact ih7 x2 x3_7 u_5 _ _ _ hf C (lv_sub hl [1, 2, 3, 0] rfl)
        · replace hf := (if_neg c_6).symm.trans hf
          refine lv_aload_n hx hb dX3_greatest_29 rfl (lv_at hl 0 rfl) ?_
          refine cx_get C hx hb (T := TX3) (N := 2) hts (by decide +kernel) hown 20 rfl rfl 0 (by decide) (hts (.fieldLink RX3 9 "AggregateRows$Values" "picked" "[I") (by decide +kernel)) (fun _ h9 => h9) (v := .ref (ad 21)) rfl dX3_greatest_30 ?_
          refine lv_iload_n hx hb dX3_greatest_33 rfl (lv_at hl 3 rfl) ?_
          obtain ⟨g_8, hf⟩ := gd_some hf
          refine cx_iald C hx hb 21 rfl g_8 dX3_greatest_34 ?_
          refine lv_topi (fun x2_9 ex2_9 => ?_)
          replace hf := lt_at hf ex2_9
          refine lv_istore_n (lv' := [(2, .int x2_9), (0, .ref (ad 20)), (1, .ref (ad 1)), (3, .int x3)]) hx hb dX3_greatest_35 rfl hl (by decide) rfl (fun ls hl => ?_)
          obtain ⟨x3_10, ex3_10⟩ : ∃ y : Int32, y = x3 + 1 := ⟨_, rfl⟩
          replace hf := lt_at hf ex3_10
          refine lv_iinc (v := x3_10) (lv' := [(3, .int x3_10), (2, .int x2_9), (0, .ref (ad 20)), (1, .ref (ad 1))]) hx hb dX3_greatest_36 hl (k := 3) rfl (by rw [ex3_10]; rfl) (by decide) rfl (fun ls hl => ?_)
          refine lv_goto (tgt := 7) hx hb dX3_greatest_39 (by decide) ?_
          exact ih7 x2_9 x3_10 u_5 _ _ _ hf C (lv_sub hl [2, 3, 1, 0] rfl)
  have hl := lv_entry ([.ref (ad 20), .ref (ad 1)]) (n := 4) (Nat.le_of_ble_eq_true rfl)
  rw [lg_entry_eq]
  generalize (lg_sl ([.ref (ad 20), .ref (ad 1)]) ++ List.replicate (4 - (lg_sl ([.ref (ad 20), .ref (ad 1)])).length) Slot.unset).toArray = ls at hl ⊢
  have hl : lv_has ls 4 [(0, .ref (ad 20)), (1, .ref (ad 1))] := hl
  unfold fX3_greatest at hf
  refine lv_aload_n hx hb dX3_greatest_0 rfl (lv_at hl 0 rfl) ?_
  obtain ⟨r_2, u_3, h_1, hf⟩ := bnd_some hf
  refine cx_calli C (va_runV (As := []) (rest := []) ⟨hx, hb, hml, hown, hts⟩ (k_X3_first l ad ck D tt h_1 _) (cwV 0 hts gX3_greatest_X3_first rfl rfl rfl (by decide +kernel) ⟨Nat.le_of_ble_eq_true rfl, Nat.le_of_ble_eq_true rfl⟩) (cx_preV C (q0 := 20) (ci := 3) rfl rfl) rfl rfl hl.1 rfl (lv_room (Nat.le_of_ble_eq_true rfl)) dX3_greatest_1 ⟨Nat.zero_le _, Nat.zero_le _⟩) (fun H locs C => ?_)
  refine lv_istore_n (lv' := [(2, .int r_2), (0, .ref (ad 20)), (1, .ref (ad 1))]) hx hb dX3_greatest_4 rfl hl (by decide) rfl (fun ls hl => ?_)
  refine lv_iconst (v := 1) hx hb dX3_greatest_5 (by decide) ?_
  refine lv_istore_n (lv' := [(3, .int 1), (2, .int r_2), (0, .ref (ad 20)), (1, .ref (ad 1))]) hx hb dX3_greatest_6 rfl hl (by decide) rfl (fun ls hl => ?_)
  exact J7 FU r_2 1 u_3 _ _ _ hf C (lv_sub hl [2, 3, 1, 0] rfl)
/-! ===== X3_span ===== -/
def fX3_span (u : St)  : Option (Int64 × St) := (if (u.1 5) ≤ 0 then some (0, u) else bnd (fX3_greatest u) (fun r_3 u_4 => bnd (fX2_thousandths u_4 r_3) (fun r_6 u_7 => bnd (fX3_least u_7) (fun r_9 u_10 => bnd (fX2_thousandths u_10 r_9) (fun r_12 u_13 => some ((r_6 - r_12), u_13))))))
abbrev rmX3_span : Room := { frames := 3, cells := 0, slots := 0, locals := 68 }
set_option maxHeartbeats 4000000 in
set_option maxRecDepth 100000 in
theorem k_X3_span (l : Launch) (ad : Nat → Nat) (ck : Nat → ClassId) (D : va_G) (tt : Nat) {u : St}  {r : Int64} {u' : St} (hf : fX3_span u = some (r, u')) : ML l yX3_span wsX3_span rmX3_span (wA ad ck) ck D tt [.ref (ad 20), .ref (ad 1)] u r u' := by
  intro sz
  refine Met.ofW (cc := cX3_span) (maxL := 2) (ret := (some .long)) (by decide) rfl ?_
  intro p e s m args below meth c s₁ B hml hv
  obtain ⟨rfl, hsz, C⟩ := cx_entry hv
  have hx := B.exec
  have hb := B.bytes
  have hr := B.returns
  have hts := atoms_spec (ws := wsX3_span) B.pre
  have hown : s.vm.findClass RX3 = some m.cls := findClass_of_methodNamed B.named
  have hlocks := B.notSynchronized
  have hl := lv_entry ([.ref (ad 20), .ref (ad 1)]) (n := 2) (Nat.le_of_ble_eq_true rfl)
  rw [lg_entry_eq]
  generalize (lg_sl ([.ref (ad 20), .ref (ad 1)]) ++ List.replicate (2 - (lg_sl ([.ref (ad 20), .ref (ad 1)])).length) Slot.unset).toArray = ls at hl ⊢
  have hl : lv_has ls 2 [(0, .ref (ad 20)), (1, .ref (ad 1))] := hl
  unfold fX3_span at hf
  refine lv_aload_n hx hb dX3_span_0 rfl (lv_at hl 0 rfl) ?_
  refine cx_get C hx hb (T := TX3) (N := 2) hts (by decide +kernel) hown 20 rfl rfl 1 (by decide) (hts (.fieldLink RX3 15 "AggregateRows$Values" "count" "I") (by decide +kernel)) (fun _ h9 => h9) (v := .int (u.1 5)) rfl dX3_span_1 ?_
  refine lv_if_le (tgt := 29) hx hb dX3_span_4 (by decide) (fun c_1 => ?_) (fun c_1 => ?_)
  · replace hf := (if_pos c_1).symm.trans hf
    refine lv_lconst (v := 0) hx hb dX3_span_29 (by decide) ?_
    exact cx_lret C hx hb hr hlocks hf dX3_span_30
  · replace hf := (if_neg c_1).symm.trans hf
    refine lv_aload_n hx hb dX3_span_7 rfl (lv_at hl 1 rfl) ?_
    refine lv_aload_n hx hb dX3_span_8 rfl (lv_at hl 0 rfl) ?_
    refine lv_aload_n hx hb dX3_span_9 rfl (lv_at hl 1 rfl) ?_
    obtain ⟨r_3, u_4, h_2, hf⟩ := bnd_some hf
    refine cx_calli C (va_runV (As := [.ref (ad 1)]) (rest := [.ref (ad 1)]) ⟨hx, hb, hml, hown, hts⟩ (k_X3_greatest l ad ck D tt h_2 _) (cwV 1 hts gX3_span_X3_greatest rfl rfl rfl (by decide +kernel) ⟨Nat.le_of_ble_eq_true rfl, Nat.le_of_ble_eq_true rfl⟩) (cx_preV C (q0 := 20) (ci := 3) rfl rfl) rfl rfl hl.1 rfl (lv_room (Nat.le_of_ble_eq_true rfl)) dX3_span_10 ⟨Nat.zero_le _, Nat.zero_le _⟩) (fun H locs C => ?_)
    obtain ⟨r_6, u_7, h_5, hf⟩ := bnd_some hf
    refine cx_calll C (va_runV (As := [.int r_3]) (rest := []) ⟨hx, hb, hml, hown, hts⟩ (k_X2_thousandths l ad ck D tt h_5 _) (cwV 1 hts gX3_span_X2_thousandths rfl rfl rfl (by decide +kernel) ⟨Nat.le_of_ble_eq_true rfl, Nat.le_of_ble_eq_true rfl⟩) (cx_preV C (q0 := 1) (ci := 2) rfl rfl) rfl rfl hl.1 rfl (lv_room (Nat.le_of_ble_eq_true rfl)) dX3_span_13 ⟨Nat.zero_le _, Nat.zero_le _⟩) (fun H locs C => ?_)
    refine lv_aload_n hx hb dX3_span_16 rfl (lv_at hl 1 rfl) ?_
    refine lv_aload_n hx hb dX3_span_17 rfl (lv_at hl 0 rfl) ?_
    refine lv_aload_n hx hb dX3_span_18 rfl (lv_at hl 1 rfl) ?_
    obtain ⟨r_9, u_10, h_8, hf⟩ := bnd_some hf
    refine cx_calli C (va_runV (As := [.ref (ad 1)]) (rest := [.ref (ad 1), .long r_6]) ⟨hx, hb, hml, hown, hts⟩ (k_X3_least l ad ck D tt h_8 _) (cwV 1 hts gX3_span_X3_least rfl rfl rfl (by decide +kernel) ⟨Nat.le_of_ble_eq_true rfl, Nat.le_of_ble_eq_true rfl⟩) (cx_preV C (q0 := 20) (ci := 3) rfl rfl) rfl rfl hl.1 rfl (lv_room (Nat.le_of_ble_eq_true rfl)) dX3_span_19 ⟨Nat.zero_le _, Nat.zero_le _⟩) (fun H locs C => ?_)
    obtain ⟨r_12, u_13, h_11, hf⟩ := bnd_some hf
    refine cx_calll C (va_runV (As := [.int r_9]) (rest := [.long r_6]) ⟨hx, hb, hml, hown, hts⟩ (k_X2_thousandths l ad ck D tt h_11 _) (cwV 1 hts gX3_span_X2_thousandths rfl rfl rfl (by decide +kernel) ⟨Nat.le_of_ble_eq_true rfl, Nat.le_of_ble_eq_true rfl⟩) (cx_preV C (q0 := 1) (ci := 2) rfl rfl) rfl rfl hl.1 rfl (lv_room (Nat.le_of_ble_eq_true rfl)) dX3_span_22 ⟨Nat.zero_le _, Nat.zero_le _⟩) (fun H locs C => ?_)
    refine lv_lsub hx hb dX3_span_25 ?_
    refine lv_goto (tgt := 30) hx hb dX3_span_26 (by decide) ?_
    exact cx_lret C hx hb hr hlocks hf dX3_span_30
/-! ===== X3_howManyBefore ===== -/
def fX3_howManyBefore_5  : Nat → Int32 → Int32 → Int32 → St → Option (Int32 × St)
  | 0, _, _, _, _ => none
  | n5 + 1, x2, x3, x4, w => (if (w.1 5) ≤ x4 then some (x3, w) else gd (okI x4 60) (gd (okI x2 60) (bnd (fX2_order w (w.2.1 5 x4.toNatClampNeg) (w.2.1 5 x2.toNatClampNeg)) (fun r_5 u_6 => (if r_5 < 0 then lt_ (x3 + 1) (fun x3_8 => lt_ (x4 + 1) (fun x4_9 => fX3_howManyBefore_5 n5 x2 x3_8 x4_9 u_6)) else (if r_5 = 0 then (if x2 ≤ x4 then lt_ (x4 + 1) (fun x4_13 => fX3_howManyBefore_5 n5 x2 x3 x4_13 u_6) else lt_ (x3 + 1) (fun x3_14 => lt_ (x4 + 1) (fun x4_15 => fX3_howManyBefore_5 n5 x2 x3_14 x4_15 u_6))) else lt_ (x4 + 1) (fun x4_11 => fX3_howManyBefore_5 n5 x2 x3 x4_11 u_6)))))))
def fX3_howManyBefore (u : St) (a2 : Int32) : Option (Int32 × St) := fX3_howManyBefore_5 FU a2 0 0 u
abbrev rmX3_howManyBefore : Room := { frames := 2, cells := 0, slots := 0, locals := 45 }
set_option maxHeartbeats 4000000 in
set_option maxRecDepth 100000 in
theorem k_X3_howManyBefore (l : Launch) (ad : Nat → Nat) (ck : Nat → ClassId) (D : va_G) (tt : Nat) {u : St} {a2 : Int32} {r : Int32} {u' : St} (hf : fX3_howManyBefore u a2 = some (r, u')) : MI l yX3_howManyBefore wsX3_howManyBefore rmX3_howManyBefore (wA ad ck) ck D tt [.ref (ad 20), .ref (ad 1), .int a2] u r u' := by
  intro sz
  refine Met.ofW (cc := cX3_howManyBefore) (maxL := 6) (ret := (some .int)) (by decide) rfl ?_
  intro p e s m args below meth c s₁ B hml hv
  obtain ⟨rfl, hsz, C⟩ := cx_entry hv
  have hx := B.exec
  have hb := B.bytes
  have hr := B.returns
  have hts := atoms_spec (ws := wsX3_howManyBefore) B.pre
  have hown : s.vm.findClass RX3 = some m.cls := findClass_of_methodNamed B.named
  have hlocks := B.notSynchronized
  have J5 : ∀ (n5 : Nat) (x2 : Int32) (x3 : Int32) (x4 : Int32) (w : St) (H : Heap) (locs : List Loc) (ls : Array Slot), fX3_howManyBefore_5 n5 x2 x3 x4 w = some (r, u') → CX (wA ad ck) ck D tt (va_A (wA ad ck u) sz) s w H locs → lv_has ls 6 [(0, .ref (ad 20)), (1, .ref (ad 1)), (2, .int x2), (3, .int x3), (4, .int x4)] → W p l e (headSpec wsX3_howManyBefore rmX3_howManyBefore).room s m ([.ref (ad 20), .ref (ad 1), .int a2] : List Value).toArray below meth c H locs 0 0 (MQ below (QI (wA ad ck) D u sz r u') ([.ref (ad 20), .ref (ad 1), .int a2] : List Value).toArray s 0 0 (va_A (wA ad ck u) sz)) (F0 m 5 ls []) := by
    intro n5
    induction n5 with
    | zero =>
      intro x2 x3 x4 w H locs ls hf
      have hf : (none : Option (Int32 × St)) = some (r, u') := hf
      cases hf
    | succ n5 ih5 =>
      intro x2 x3 x4 w H locs ls hf C hl
      rw [fX3_howManyBefore_5] at hf
      refine lv_iload hx hb dX3_howManyBefore_5 (lv_at hl 4 rfl) ?_
      refine lv_aload_n hx hb dX3_howManyBefore_7 rfl (lv_at hl 0 rfl) ?_
      refine cx_get C hx hb (T := TX3) (N := 2) hts (by decide +kernel) hown 20 rfl rfl 1 (by decide) (hts (.fieldLink RX3 15 "AggregateRows$Values" "count" "I") (by decide +kernel)) (fun _ h9 => h9) (v := .int (w.1 5)) rfl dX3_howManyBefore_8 ?_
      refine lv_icmp_ge (tgt := 58) hx hb dX3_howManyBefore_11 (by decide) (fun c_1 => ?_) (fun c_1 => ?_)
      · replace hf := (if_pos c_1).symm.trans hf
        refine lv_iload_n hx hb dX3_howManyBefore_58 rfl (lv_at hl 3 rfl) ?_
        exact cx_iret C hx hb hr hlocks hf dX3_howManyBefore_59
      · replace hf := (if_neg c_1).symm.trans hf
        refine lv_aload_n hx hb dX3_howManyBefore_14 rfl (lv_at hl 1 rfl) ?_
        refine lv_aload_n hx hb dX3_howManyBefore_15 rfl (lv_at hl 0 rfl) ?_
        refine cx_get C hx hb (T := TX3) (N := 2) hts (by decide +kernel) hown 20 rfl rfl 0 (by decide) (hts (.fieldLink RX3 9 "AggregateRows$Values" "picked" "[I") (by decide +kernel)) (fun _ h9 => h9) (v := .ref (ad 21)) rfl dX3_howManyBefore_16 ?_
        refine lv_iload hx hb dX3_howManyBefore_19 (lv_at hl 4 rfl) ?_
        obtain ⟨g_2, hf⟩ := gd_some hf
        refine cx_iald C hx hb 21 rfl g_2 dX3_howManyBefore_21 ?_
        refine lv_aload_n hx hb dX3_howManyBefore_22 rfl (lv_at hl 0 rfl) ?_
        refine cx_get C hx hb (T := TX3) (N := 2) hts (by decide +kernel) hown 20 rfl rfl 0 (by decide) (hts (.fieldLink RX3 9 "AggregateRows$Values" "picked" "[I") (by decide +kernel)) (fun _ h9 => h9) (v := .ref (ad 21)) rfl dX3_howManyBefore_23 ?_
        refine lv_iload_n hx hb dX3_howManyBefore_26 rfl (lv_at hl 2 rfl) ?_
        obtain ⟨g_3, hf⟩ := gd_some hf
        refine cx_iald C hx hb 21 rfl g_3 dX3_howManyBefore_27 ?_
        obtain ⟨r_5, u_6, h_4, hf⟩ := bnd_some hf
        refine cx_calli C (va_runV (As := [.int (w.2.1 5 x4.toNatClampNeg), .int (w.2.1 5 x2.toNatClampNeg)]) (rest := []) ⟨hx, hb, hml, hown, hts⟩ (k_X2_order l ad ck D tt h_4 _) (cwV 2 hts gX3_howManyBefore_X2_order rfl rfl rfl (by decide +kernel) ⟨Nat.le_of_ble_eq_true rfl, Nat.le_of_ble_eq_true rfl⟩) (cx_preV C (q0 := 1) (ci := 2) rfl rfl) rfl rfl hl.1 rfl (lv_room (Nat.le_of_ble_eq_true rfl)) dX3_howManyBefore_28 ⟨Nat.zero_le _, Nat.zero_le _⟩) (fun H locs C => ?_)
        refine lv_istore (lv' := [(5, .int r_5), (0, .ref (ad 20)), (1, .ref (ad 1)), (2, .int x2), (3, .int x3), (4, .int x4)]) hx hb dX3_howManyBefore_31 hl (by decide) rfl (fun ls hl => ?_)
        refine lv_iload hx hb dX3_howManyBefore_33 (lv_at hl 0 rfl) ?_
        refine lv_if_lt (tgt := 49) hx hb dX3_howManyBefore_35 (by decide) (fun c_7 => ?_) (fun c_7 => ?_)
        · replace hf := (if_pos c_7).symm.trans hf
          obtain ⟨x3_8, ex3_8⟩ : ∃ y : Int32, y = x3 + 1 := ⟨_, rfl⟩
          replace hf := lt_at hf ex3_8
          refine lv_iinc (v := x3_8) (lv' := [(3, .int x3_8), (5, .int r_5), (0, .ref (ad 20)), (1, .ref (ad 1)), (2, .int x2), (4, .int x4)]) hx hb dX3_howManyBefore_49 hl (k := 4) rfl (by rw [ex3_8]; rfl) (by decide) rfl (fun ls hl => ?_)
          obtain ⟨x4_9, ex4_9⟩ : ∃ y : Int32, y = x4 + 1 := ⟨_, rfl⟩
          replace hf := lt_at hf ex4_9
          refine lv_iinc (v := x4_9) (lv' := [(4, .int x4_9), (3, .int x3_8), (5, .int r_5), (0, .ref (ad 20)), (1, .ref (ad 1)), (2, .int x2)]) hx hb dX3_howManyBefore_52 hl (k := 5) rfl (by rw [ex4_9]; rfl) (by decide) rfl (fun ls hl => ?_)
          refine lv_goto (tgt := 5) hx hb dX3_howManyBefore_55 (by decide) ?_
          exact ih5 x2 x3_8 x4_9 u_6 _ _ _ hf C (lv_sub hl [3, 4, 5, 1, 0] rfl)
        · replace hf := (if_neg c_7).symm.trans hf
          refine lv_iload hx hb dX3_howManyBefore_38 (lv_at hl 0 rfl) ?_
          refine lv_if_ne (tgt := 52) hx hb dX3_howManyBefore_40 (by decide) (fun c_10 => ?_) (fun c_10 => ?_)
          · replace hf := (if_neg c_10).symm.trans hf
            obtain ⟨x4_11, ex4_11⟩ : ∃ y : Int32, y = x4 + 1 := ⟨_, rfl⟩
            replace hf := lt_at hf ex4_11
            refine lv_iinc (v := x4_11) (lv' := [(4, .int x4_11), (5, .int r_5), (0, .ref (ad 20)), (1, .ref (ad 1)), (2, .int x2), (3, .int x3)]) hx hb dX3_howManyBefore_52 hl (k := 5) rfl (by rw [ex4_11]; rfl) (by decide) rfl (fun ls hl => ?_)
            refine lv_goto (tgt := 5) hx hb dX3_howManyBefore_55 (by decide) ?_
            exact ih5 x2 x3 x4_11 u_6 _ _ _ hf C (lv_sub hl [2, 3, 4, 5, 0] rfl)
          · replace hf := (if_pos c_10).symm.trans hf
            refine lv_iload hx hb dX3_howManyBefore_43 (lv_at hl 5 rfl) ?_
            refine lv_iload_n hx hb dX3_howManyBefore_45 rfl (lv_at hl 3 rfl) ?_
            refine lv_icmp_ge (tgt := 52) hx hb dX3_howManyBefore_46 (by decide) (fun c_12 => ?_) (fun c_12 => ?_)
            · replace hf := (if_pos c_12).symm.trans hf
              obtain ⟨x4_13, ex4_13⟩ : ∃ y : Int32, y = x4 + 1 := ⟨_, rfl⟩
              replace hf := lt_at hf ex4_13
              refine lv_iinc (v := x4_13) (lv' := [(4, .int x4_13), (5, .int r_5), (0, .ref (ad 20)), (1, .ref (ad 1)), (2, .int x2), (3, .int x3)]) hx hb dX3_howManyBefore_52 hl (k := 5) rfl (by rw [ex4_13]; rfl) (by decide) rfl (fun ls hl => ?_)
              refine lv_goto (tgt := 5) hx hb dX3_howManyBefore_55 (by decide) ?_
              exact ih5 x2 x3 x4_13 u_6 _ _ _ hf C (lv_sub hl [2, 3, 4, 5, 0] rfl)
            · replace hf := (if_neg c_12).symm.trans hf
              obtain ⟨x3_14, ex3_14⟩ : ∃ y : Int32, y = x3 + 1 := ⟨_, rfl⟩
              replace hf := lt_at hf ex3_14
              refine lv_iinc (v := x3_14) (lv' := [(3, .int x3_14), (5, .int r_5), (0, .ref (ad 20)), (1, .ref (ad 1)), (2, .int x2), (4, .int x4)]) hx hb dX3_howManyBefore_49 hl (k := 4) rfl (by rw [ex3_14]; rfl) (by decide) rfl (fun ls hl => ?_)
              obtain ⟨x4_15, ex4_15⟩ : ∃ y : Int32, y = x4 + 1 := ⟨_, rfl⟩
              replace hf := lt_at hf ex4_15
              refine lv_iinc (v := x4_15) (lv' := [(4, .int x4_15), (3, .int x3_14), (5, .int r_5), (0, .ref (ad 20)), (1, .ref (ad 1)), (2, .int x2)]) hx hb dX3_howManyBefore_52 hl (k := 5) rfl (by rw [ex4_15]; rfl) (by decide) rfl (fun ls hl => ?_)
              refine lv_goto (tgt := 5) hx hb dX3_howManyBefore_55 (by decide) ?_
              exact ih5 x2 x3_14 x4_15 u_6 _ _ _ hf C (lv_sub hl [3, 4, 5, 1, 0] rfl)
  have hl := lv_entry ([.ref (ad 20), .ref (ad 1), .int a2]) (n := 6) (Nat.le_of_ble_eq_true rfl)
  rw [lg_entry_eq]
  generalize (lg_sl ([.ref (ad 20), .ref (ad 1), .int a2]) ++ List.replicate (6 - (lg_sl ([.ref (ad 20), .ref (ad 1), .int a2])).length) Slot.unset).toArray = ls at hl ⊢
  have hl : lv_has ls 6 [(0, .ref (ad 20)), (1, .ref (ad 1)), (2, .int a2)] := hl
  unfold fX3_howManyBefore at hf
  refine lv_iconst (v := 0) hx hb dX3_howManyBefore_0 (by decide) ?_
  refine lv_istore_n (lv' := [(3, .int 0), (0, .ref (ad 20)), (1, .ref (ad 1)), (2, .int a2)]) hx hb dX3_howManyBefore_1 rfl hl (by decide) rfl (fun ls hl => ?_)
  refine lv_iconst (v := 0) hx hb dX3_howManyBefore_2 (by decide) ?_
  refine lv_istore (lv' := [(4, .int 0), (3, .int 0), (0, .ref (ad 20)), (1, .ref (ad 1)), (2, .int a2)]) hx hb dX3_howManyBefore_3 hl (by decide) rfl (fun ls hl => ?_)
  exact J5 FU a2 0 0 u _ _ _ hf C (lv_sub hl [2, 3, 4, 1, 0] rfl)
/-! ===== X3_middle ===== -/
def fX3_middle_2  : Nat → Int32 → St → Option (Int32 × St)
  | 0, _, _ => none
  | n2 + 1, x2, w => (if (w.1 5) ≤ x2 then some ((-1), w) else bnd (fX3_howManyBefore w x2) (fun r_3 u_4 => (if r_3 = (((u_4.1 5) - 1) / 2) then gd (okI x2 60) (some ((u_4.2.1 5 x2.toNatClampNeg), u_4)) else lt_ (x2 + 1) (fun x2_6 => fX3_middle_2 n2 x2_6 u_4))))
def fX3_middle (u : St)  : Option (Int32 × St) := fX3_middle_2 FU 0 u
abbrev rmX3_middle : Room := { frames := 3, cells := 0, slots := 0, locals := 70 }
set_option maxHeartbeats 4000000 in
set_option maxRecDepth 100000 in
theorem k_X3_middle (l : Launch) (ad : Nat → Nat) (ck : Nat → ClassId) (D : va_G) (tt : Nat) {u : St}  {r : Int32} {u' : St} (hf : fX3_middle u = some (r, u')) : MI l yX3_middle wsX3_middle rmX3_middle (wA ad ck) ck D tt [.ref (ad 20), .ref (ad 1)] u r u' := by
  intro sz
  refine Met.ofW (cc := cX3_middle) (maxL := 3) (ret := (some .int)) (by decide) rfl ?_
  intro p e s m args below meth c s₁ B hml hv
  obtain ⟨rfl, hsz, C⟩ := cx_entry hv
  have hx := B.exec
  have hb := B.bytes
  have hr := B.returns
  have hts := atoms_spec (ws := wsX3_middle) B.pre
  have hown : s.vm.findClass RX3 = some m.cls := findClass_of_methodNamed B.named
  have hlocks := B.notSynchronized
  have J2 : ∀ (n2 : Nat) (x2 : Int32) (w : St) (H : Heap) (locs : List Loc) (ls : Array Slot), fX3_middle_2 n2 x2 w = some (r, u') → CX (wA ad ck) ck D tt (va_A (wA ad ck u) sz) s w H locs → lv_has ls 3 [(0, .ref (ad 20)), (1, .ref (ad 1)), (2, .int x2)] → W p l e (headSpec wsX3_middle rmX3_middle).room s m ([.ref (ad 20), .ref (ad 1)] : List Value).toArray below meth c H locs 0 0 (MQ below (QI (wA ad ck) D u sz r u') ([.ref (ad 20), .ref (ad 1)] : List Value).toArray s 0 0 (va_A (wA ad ck u) sz)) (F0 m 2 ls []) := by
    intro n2
    induction n2 with
    | zero =>
      intro x2 w H locs ls hf
      have hf : (none : Option (Int32 × St)) = some (r, u') := hf
      cases hf
    | succ n2 ih2 =>
      intro x2 w H locs ls hf C hl
      rw [fX3_middle_2] at hf
      refine lv_iload_n hx hb dX3_middle_2 rfl (lv_at hl 2 rfl) ?_
      refine lv_aload_n hx hb dX3_middle_3 rfl (lv_at hl 0 rfl) ?_
      refine cx_get C hx hb (T := TX3) (N := 2) hts (by decide +kernel) hown 20 rfl rfl 1 (by decide) (hts (.fieldLink RX3 15 "AggregateRows$Values" "count" "I") (by decide +kernel)) (fun _ h9 => h9) (v := .int (w.1 5)) rfl dX3_middle_4 ?_
      refine lv_icmp_ge (tgt := 40) hx hb dX3_middle_7 (by decide) (fun c_1 => ?_) (fun c_1 => ?_)
      · replace hf := (if_pos c_1).symm.trans hf
        refine lv_iconst (v := (-1)) hx hb dX3_middle_40 (by decide) ?_
        exact cx_iret C hx hb hr hlocks hf dX3_middle_41
      · replace hf := (if_neg c_1).symm.trans hf
        refine lv_aload_n hx hb dX3_middle_10 rfl (lv_at hl 0 rfl) ?_
        refine lv_aload_n hx hb dX3_middle_11 rfl (lv_at hl 1 rfl) ?_
        refine lv_iload_n hx hb dX3_middle_12 rfl (lv_at hl 2 rfl) ?_
        obtain ⟨r_3, u_4, h_2, hf⟩ := bnd_some hf
        refine cx_calli C (va_runV (As := [.ref (ad 1), .int x2]) (rest := []) ⟨hx, hb, hml, hown, hts⟩ (k_X3_howManyBefore l ad ck D tt h_2 _) (cwV 2 hts gX3_middle_X3_howManyBefore rfl rfl rfl (by decide +kernel) ⟨Nat.le_of_ble_eq_true rfl, Nat.le_of_ble_eq_true rfl⟩) (cx_preV C (q0 := 20) (ci := 3) rfl rfl) rfl rfl hl.1 rfl (lv_room (Nat.le_of_ble_eq_true rfl)) dX3_middle_13 ⟨Nat.zero_le _, Nat.zero_le _⟩) (fun H locs C => ?_)
        refine lv_aload_n hx hb dX3_middle_16 rfl (lv_at hl 0 rfl) ?_
        refine cx_get C hx hb (T := TX3) (N := 2) hts (by decide +kernel) hown 20 rfl rfl 1 (by decide) (hts (.fieldLink RX3 15 "AggregateRows$Values" "count" "I") (by decide +kernel)) (fun _ h9 => h9) (v := .int (u_4.1 5)) rfl dX3_middle_17 ?_
        refine lv_iconst (v := 1) hx hb dX3_middle_20 (by decide) ?_
        refine lv_isub hx hb dX3_middle_21 ?_
        refine lv_iconst (v := 2) hx hb dX3_middle_22 (by decide) ?_
        refine lv_idiv hx hb dX3_middle_23 (by decide) ?_
        refine lv_icmp_ne (tgt := 34) hx hb dX3_middle_24 (by decide) (fun c_5 => ?_) (fun c_5 => ?_)
        · replace hf := (if_neg c_5).symm.trans hf
          obtain ⟨x2_6, ex2_6⟩ : ∃ y : Int32, y = x2 + 1 := ⟨_, rfl⟩
          replace hf := lt_at hf ex2_6
          refine lv_iinc (v := x2_6) (lv' := [(2, .int x2_6), (0, .ref (ad 20)), (1, .ref (ad 1))]) hx hb dX3_middle_34 hl (k := 2) rfl (by rw [ex2_6]; rfl) (by decide) rfl (fun ls hl => ?_)
          refine lv_goto (tgt := 2) hx hb dX3_middle_37 (by decide) ?_
          exact ih2 x2_6 u_4 _ _ _ hf C (lv_sub hl [1, 2, 0] rfl)
        · replace hf := (if_pos c_5).symm.trans hf
          refine lv_aload_n hx hb dX3_middle_27 rfl (lv_at hl 0 rfl) ?_
          refine cx_get C hx hb (T := TX3) (N := 2) hts (by decide +kernel) hown 20 rfl rfl 0 (by decide) (hts (.fieldLink RX3 9 "AggregateRows$Values" "picked" "[I") (by decide +kernel)) (fun _ h9 => h9) (v := .ref (ad 21)) rfl dX3_middle_28 ?_
          refine lv_iload_n hx hb dX3_middle_31 rfl (lv_at hl 2 rfl) ?_
          obtain ⟨g_7, hf⟩ := gd_some hf
          refine cx_iald C hx hb 21 rfl g_7 dX3_middle_32 ?_
          exact cx_iret C hx hb hr hlocks hf dX3_middle_33
  have hl := lv_entry ([.ref (ad 20), .ref (ad 1)]) (n := 3) (Nat.le_of_ble_eq_true rfl)
  rw [lg_entry_eq]
  generalize (lg_sl ([.ref (ad 20), .ref (ad 1)]) ++ List.replicate (3 - (lg_sl ([.ref (ad 20), .ref (ad 1)])).length) Slot.unset).toArray = ls at hl ⊢
  have hl : lv_has ls 3 [(0, .ref (ad 20)), (1, .ref (ad 1))] := hl
  unfold fX3_middle at hf
  refine lv_iconst (v := 0) hx hb dX3_middle_0 (by decide) ?_
  refine lv_istore_n (lv' := [(2, .int 0), (0, .ref (ad 20)), (1, .ref (ad 1))]) hx hb dX3_middle_1 rfl hl (by decide) rfl (fun ls hl => ?_)
  exact J2 FU 0 u _ _ _ hf C (lv_sub hl [1, 2, 0] rfl)
