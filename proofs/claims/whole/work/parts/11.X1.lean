/-! ===== X1_count ===== -/
def fX1_count (u : St)  : Option (Int32 × St) := some ((u.1 4), u)
abbrev rmX1_count : Room := { frames := 0, cells := 0, slots := 0, locals := 0 }
set_option maxHeartbeats 4000000 in
set_option maxRecDepth 100000 in
theorem k_X1_count (l : Launch) (ad : Nat → Nat) (ck : Nat → ClassId) (D : va_G) (tt : Nat) {u : St}  {r : Int32} {u' : St} (hf : fX1_count u = some (r, u')) : MI l yX1_count wsX1_count rmX1_count (wA ad ck) ck D tt [.ref (ad 5)] u r u' := by
  intro sz
  refine Met.ofW (cc := cX1_count) (maxL := 1) (ret := (some .int)) (by decide) rfl ?_
  intro p e s m args below meth c s₁ B hml hv
  obtain ⟨rfl, hsz, C⟩ := cx_entry hv
  have hx := B.exec
  have hb := B.bytes
  have hr := B.returns
  have hts := atoms_spec (ws := wsX1_count) B.pre
  have hown : s.vm.findClass RX1 = some m.cls := findClass_of_methodNamed B.named
  have hlocks := B.notSynchronized
  have hl := lv_entry ([.ref (ad 5)]) (n := 1) (Nat.le_of_ble_eq_true rfl)
  rw [lg_entry_eq]
  generalize (lg_sl ([.ref (ad 5)]) ++ List.replicate (1 - (lg_sl ([.ref (ad 5)])).length) Slot.unset).toArray = ls at hl ⊢
  have hl : lv_has ls 1 [(0, .ref (ad 5))] := hl
  unfold fX1_count at hf
  refine lv_aload_n hx hb dX1_count_0 rfl (lv_at hl 0 rfl) ?_
  refine cx_get C hx hb (T := TX1) (N := 4) hts (by decide +kernel) hown 5 rfl rfl 3 (by decide) (hts (.fieldLink RX1 21 "AggregateRows$RowTable" "count" "I") (by decide +kernel)) (fun _ h9 => h9) (v := .int (u.1 4)) rfl dX1_count_1 ?_
  exact cx_iret C hx hb hr hlocks hf dX1_count_4
/-! ===== X1_isFull ===== -/
def fX1_isFull (u : St)  : Option (Int32 × St) := (if (u.1 4) < 60 then some (0, u) else some (1, u))
abbrev rmX1_isFull : Room := { frames := 0, cells := 0, slots := 0, locals := 0 }
set_option maxHeartbeats 4000000 in
set_option maxRecDepth 100000 in
theorem k_X1_isFull (l : Launch) (ad : Nat → Nat) (ck : Nat → ClassId) (D : va_G) (tt : Nat) {u : St}  {r : Int32} {u' : St} (hf : fX1_isFull u = some (r, u')) : MI l yX1_isFull wsX1_isFull rmX1_isFull (wA ad ck) ck D tt [.ref (ad 5)] u r u' := by
  intro sz
  refine Met.ofW (cc := cX1_isFull) (maxL := 1) (ret := (some .boolean)) (by decide) rfl ?_
  intro p e s m args below meth c s₁ B hml hv
  obtain ⟨rfl, hsz, C⟩ := cx_entry hv
  have hx := B.exec
  have hb := B.bytes
  have hr := B.returns
  have hts := atoms_spec (ws := wsX1_isFull) B.pre
  have hown : s.vm.findClass RX1 = some m.cls := findClass_of_methodNamed B.named
  have hlocks := B.notSynchronized
  have hl := lv_entry ([.ref (ad 5)]) (n := 1) (Nat.le_of_ble_eq_true rfl)
  rw [lg_entry_eq]
  generalize (lg_sl ([.ref (ad 5)]) ++ List.replicate (1 - (lg_sl ([.ref (ad 5)])).length) Slot.unset).toArray = ls at hl ⊢
  have hl : lv_has ls 1 [(0, .ref (ad 5))] := hl
  unfold fX1_isFull at hf
  refine lv_aload_n hx hb dX1_isFull_0 rfl (lv_at hl 0 rfl) ?_
  refine cx_get C hx hb (T := TX1) (N := 4) hts (by decide +kernel) hown 5 rfl rfl 3 (by decide) (hts (.fieldLink RX1 21 "AggregateRows$RowTable" "count" "I") (by decide +kernel)) (fun _ h9 => h9) (v := .int (u.1 4)) rfl dX1_isFull_1 ?_
  refine lv_bipush (v := 60) hx hb dX1_isFull_4 (by decide) ?_
  refine lv_icmp_lt (tgt := 13) hx hb dX1_isFull_6 (by decide) (fun c_1 => ?_) (fun c_1 => ?_)
  · replace hf := (if_pos c_1).symm.trans hf
    refine lv_iconst (v := 0) hx hb dX1_isFull_13 (by decide) ?_
    exact cx_zret C hx hb hr (by decide) hlocks hf dX1_isFull_14
  · replace hf := (if_neg c_1).symm.trans hf
    refine lv_iconst (v := 1) hx hb dX1_isFull_9 (by decide) ?_
    refine lv_goto (tgt := 14) hx hb dX1_isFull_10 (by decide) ?_
    exact cx_zret C hx hb hr (by decide) hlocks hf dX1_isFull_14
/-! ===== X1_keyAt ===== -/
def fX1_keyAt (u : St) (a1 : Int32) : Option (Int32 × St) := gd (okI a1 60) (some ((u.2.1 3 a1.toNatClampNeg), u))
abbrev rmX1_keyAt : Room := { frames := 0, cells := 0, slots := 0, locals := 0 }
set_option maxHeartbeats 4000000 in
set_option maxRecDepth 100000 in
theorem k_X1_keyAt (l : Launch) (ad : Nat → Nat) (ck : Nat → ClassId) (D : va_G) (tt : Nat) {u : St} {a1 : Int32} {r : Int32} {u' : St} (hf : fX1_keyAt u a1 = some (r, u')) : MI l yX1_keyAt wsX1_keyAt rmX1_keyAt (wA ad ck) ck D tt [.ref (ad 5), .int a1] u r u' := by
  intro sz
  refine Met.ofW (cc := cX1_keyAt) (maxL := 2) (ret := (some .int)) (by decide) rfl ?_
  intro p e s m args below meth c s₁ B hml hv
  obtain ⟨rfl, hsz, C⟩ := cx_entry hv
  have hx := B.exec
  have hb := B.bytes
  have hr := B.returns
  have hts := atoms_spec (ws := wsX1_keyAt) B.pre
  have hown : s.vm.findClass RX1 = some m.cls := findClass_of_methodNamed B.named
  have hlocks := B.notSynchronized
  have hl := lv_entry ([.ref (ad 5), .int a1]) (n := 2) (Nat.le_of_ble_eq_true rfl)
  rw [lg_entry_eq]
  generalize (lg_sl ([.ref (ad 5), .int a1]) ++ List.replicate (2 - (lg_sl ([.ref (ad 5), .int a1])).length) Slot.unset).toArray = ls at hl ⊢
  have hl : lv_has ls 2 [(0, .ref (ad 5)), (1, .int a1)] := hl
  unfold fX1_keyAt at hf
  refine lv_aload_n hx hb dX1_keyAt_0 rfl (lv_at hl 0 rfl) ?_
  refine cx_get C hx hb (T := TX1) (N := 4) hts (by decide +kernel) hown 5 rfl rfl 1 (by decide) (hts (.fieldLink RX1 15 "AggregateRows$RowTable" "keys" "[I") (by decide +kernel)) (fun _ h9 => h9) (v := .ref (ad 7)) rfl dX1_keyAt_1 ?_
  refine lv_iload_n hx hb dX1_keyAt_4 rfl (lv_at hl 1 rfl) ?_
  obtain ⟨g_1, hf⟩ := gd_some hf
  refine cx_iald C hx hb 7 rfl g_1 dX1_keyAt_5 ?_
  exact cx_iret C hx hb hr hlocks hf dX1_keyAt_6
/-! ===== X1_valueAt ===== -/
def fX1_valueAt (u : St) (a1 : Int32) : Option (Int32 × St) := gd (okI a1 60) (some ((u.2.1 4 a1.toNatClampNeg), u))
abbrev rmX1_valueAt : Room := { frames := 0, cells := 0, slots := 0, locals := 0 }
set_option maxHeartbeats 4000000 in
set_option maxRecDepth 100000 in
theorem k_X1_valueAt (l : Launch) (ad : Nat → Nat) (ck : Nat → ClassId) (D : va_G) (tt : Nat) {u : St} {a1 : Int32} {r : Int32} {u' : St} (hf : fX1_valueAt u a1 = some (r, u')) : MI l yX1_valueAt wsX1_valueAt rmX1_valueAt (wA ad ck) ck D tt [.ref (ad 5), .int a1] u r u' := by
  intro sz
  refine Met.ofW (cc := cX1_valueAt) (maxL := 2) (ret := (some .int)) (by decide) rfl ?_
  intro p e s m args below meth c s₁ B hml hv
  obtain ⟨rfl, hsz, C⟩ := cx_entry hv
  have hx := B.exec
  have hb := B.bytes
  have hr := B.returns
  have hts := atoms_spec (ws := wsX1_valueAt) B.pre
  have hown : s.vm.findClass RX1 = some m.cls := findClass_of_methodNamed B.named
  have hlocks := B.notSynchronized
  have hl := lv_entry ([.ref (ad 5), .int a1]) (n := 2) (Nat.le_of_ble_eq_true rfl)
  rw [lg_entry_eq]
  generalize (lg_sl ([.ref (ad 5), .int a1]) ++ List.replicate (2 - (lg_sl ([.ref (ad 5), .int a1])).length) Slot.unset).toArray = ls at hl ⊢
  have hl : lv_has ls 2 [(0, .ref (ad 5)), (1, .int a1)] := hl
  unfold fX1_valueAt at hf
  refine lv_aload_n hx hb dX1_valueAt_0 rfl (lv_at hl 0 rfl) ?_
  refine cx_get C hx hb (T := TX1) (N := 4) hts (by decide +kernel) hown 5 rfl rfl 2 (by decide) (hts (.fieldLink RX1 18 "AggregateRows$RowTable" "values" "[I") (by decide +kernel)) (fun _ h9 => h9) (v := .ref (ad 8)) rfl dX1_valueAt_1 ?_
  refine lv_iload_n hx hb dX1_valueAt_4 rfl (lv_at hl 1 rfl) ?_
  obtain ⟨g_1, hf⟩ := gd_some hf
  refine cx_iald C hx hb 8 rfl g_1 dX1_valueAt_5 ?_
  exact cx_iret C hx hb hr hlocks hf dX1_valueAt_6
/-! ===== X1_add ===== -/
def fX1_add_78  (x1 : Int32) (x2 : Int32) (x3 : Int32) (x4 : Int32) (w : St) : Option (Unit × St) := gd (okI x4 60) (lt_ (sI w 2 x4.toNatClampNeg x1) (fun u_2 => gd (okI x4 60) (lt_ (sI u_2 3 x4.toNatClampNeg x2) (fun u_4 => gd (okI x4 60) (lt_ (sI u_4 4 x4.toNatClampNeg x3) (fun u_6 => lt_ (sS u_6 4 ((u_6.1 4) + 1)) (fun u_7 => some ((), u_7))))))))
def fX1_add_6  : Nat → Int32 → Int32 → Int32 → Int32 → St → Option (Unit × St)
  | 0, _, _, _, _, _ => none
  | n6 + 1, x1, x2, x3, x4, w => (if x4 ≤ 0 then fX1_add_78 x1 x2 x3 x4 w else gd (okI (x4 - 1) 60) ((if (w.2.1 2 (x4 - 1).toNatClampNeg) ≤ x1 then fX1_add_78 x1 x2 x3 x4 w else gd (okI (x4 - 1) 60) (gd (okI x4 60) (lt_ (sI w 2 x4.toNatClampNeg (w.2.1 2 (x4 - 1).toNatClampNeg)) (fun u_6 => gd (okI (x4 - 1) 60) (gd (okI x4 60) (lt_ (sI u_6 3 x4.toNatClampNeg (u_6.2.1 3 (x4 - 1).toNatClampNeg)) (fun u_9 => gd (okI (x4 - 1) 60) (gd (okI x4 60) (lt_ (sI u_9 4 x4.toNatClampNeg (u_9.2.1 4 (x4 - 1).toNatClampNeg)) (fun u_12 => lt_ (x4 + (-1)) (fun x4_13 => fX1_add_6 n6 x1 x2 x3 x4_13 u_12)))))))))))))
def fX1_add (u : St) (a1 : Int32) (a2 : Int32) (a3 : Int32) : Option (Unit × St) := lt_ (u.1 4) (fun x4_1 => fX1_add_6 FU a1 a2 a3 x4_1 u)
abbrev rmX1_add : Room := { frames := 0, cells := 0, slots := 0, locals := 0 }
set_option maxHeartbeats 4000000 in
set_option maxRecDepth 100000 in
theorem k_X1_add (l : Launch) (ad : Nat → Nat) (ck : Nat → ClassId) (D : va_G) (tt : Nat) {u : St} {a1 : Int32} {a2 : Int32} {a3 : Int32} {u' : St} (hf : fX1_add u a1 a2 a3 = some ((), u')) : MV l yX1_add wsX1_add rmX1_add (wA ad ck) ck D tt [.ref (ad 5), .int a1, .int a2, .int a3] u u' := by
  intro sz
  refine Met.ofW (cc := cX1_add) (maxL := 5) (ret := none) (by decide) rfl ?_
  intro p e s m args below meth c s₁ B hml hv
  obtain ⟨rfl, hsz, C⟩ := cx_entry hv
  have hx := B.exec
  have hb := B.bytes
  have hr := B.returns
  have hts := atoms_spec (ws := wsX1_add) B.pre
  have hown : s.vm.findClass RX1 = some m.cls := findClass_of_methodNamed B.named
  have hlocks := B.notSynchronized
  have J78 : ∀ (x1 : Int32) (x2 : Int32) (x3 : Int32) (x4 : Int32) (w : St) (H : Heap) (locs : List Loc) (ls : Array Slot), fX1_add_78 x1 x2 x3 x4 w = some ((), u') → CX (wA ad ck) ck D tt (va_A (wA ad ck u) sz) s w H locs → lv_has ls 5 [(0, .ref (ad 5)), (1, .int x1), (2, .int x2), (3, .int x3), (4, .int x4)] → W p l e (headSpec wsX1_add rmX1_add).room s m ([.ref (ad 5), .int a1, .int a2, .int a3] : List Value).toArray below meth c H locs 0 0 (MQ below (QV (wA ad ck) D u sz u') ([.ref (ad 5), .int a1, .int a2, .int a3] : List Value).toArray s 0 0 (va_A (wA ad ck u) sz)) (F0 m 78 ls []) := by
    intro x1 x2 x3 x4 w H locs ls hf C hl
    unfold fX1_add_78 at hf
    refine lv_aload_n hx hb dX1_add_78 rfl (lv_at hl 0 rfl) ?_
    refine cx_get C hx hb (T := TX1) (N := 4) hts (by decide +kernel) hown 5 rfl rfl 0 (by decide) (hts (.fieldLink RX1 9 "AggregateRows$RowTable" "parts" "[I") (by decide +kernel)) (fun _ h9 => h9) (v := .ref (ad 6)) rfl dX1_add_79 ?_
    refine lv_iload hx hb dX1_add_82 (lv_at hl 4 rfl) ?_
    refine lv_iload_n hx hb dX1_add_84 rfl (lv_at hl 1 rfl) ?_
    obtain ⟨g_1, hf⟩ := gd_some hf
    refine cx_iast C hx hb 6 rfl g_1 (u1 := sI w 2 x4.toNatClampNeg x1) rfl dX1_add_85 (fun u_2 H locs eu_2 C => ?_)
    replace hf := lt_at hf eu_2
    refine lv_aload_n hx hb dX1_add_86 rfl (lv_at hl 0 rfl) ?_
    refine cx_get C hx hb (T := TX1) (N := 4) hts (by decide +kernel) hown 5 rfl rfl 1 (by decide) (hts (.fieldLink RX1 15 "AggregateRows$RowTable" "keys" "[I") (by decide +kernel)) (fun _ h9 => h9) (v := .ref (ad 7)) rfl dX1_add_87 ?_
    refine lv_iload hx hb dX1_add_90 (lv_at hl 4 rfl) ?_
    refine lv_iload_n hx hb dX1_add_92 rfl (lv_at hl 2 rfl) ?_
    obtain ⟨g_3, hf⟩ := gd_some hf
    refine cx_iast C hx hb 7 rfl g_3 (u1 := sI u_2 3 x4.toNatClampNeg x2) rfl dX1_add_93 (fun u_4 H locs eu_4 C => ?_)
    replace hf := lt_at hf eu_4
    refine lv_aload_n hx hb dX1_add_94 rfl (lv_at hl 0 rfl) ?_
    refine cx_get C hx hb (T := TX1) (N := 4) hts (by decide +kernel) hown 5 rfl rfl 2 (by decide) (hts (.fieldLink RX1 18 "AggregateRows$RowTable" "values" "[I") (by decide +kernel)) (fun _ h9 => h9) (v := .ref (ad 8)) rfl dX1_add_95 ?_
    refine lv_iload hx hb dX1_add_98 (lv_at hl 4 rfl) ?_
    refine lv_iload_n hx hb dX1_add_100 rfl (lv_at hl 3 rfl) ?_
    obtain ⟨g_5, hf⟩ := gd_some hf
    refine cx_iast C hx hb 8 rfl g_5 (u1 := sI u_4 4 x4.toNatClampNeg x3) rfl dX1_add_101 (fun u_6 H locs eu_6 C => ?_)
    replace hf := lt_at hf eu_6
    refine lv_aload_n hx hb dX1_add_102 rfl (lv_at hl 0 rfl) ?_
    refine lv_dup hx hb dX1_add_103 rfl ?_
    refine cx_get C hx hb (T := TX1) (N := 4) hts (by decide +kernel) hown 5 rfl rfl 3 (by decide) (hts (.fieldLink RX1 21 "AggregateRows$RowTable" "count" "I") (by decide +kernel)) (fun _ h9 => h9) (v := .int (u_6.1 4)) rfl dX1_add_104 ?_
    refine lv_iconst (v := 1) hx hb dX1_add_107 (by decide) ?_
    refine lv_iadd hx hb dX1_add_108 ?_
    refine cx_puti C hx hb (T := TX1) (N := 4) hts (by decide +kernel) tyX1 tyX1_ok nmX1 hown 5 rfl rfl 3 (by decide) (hts (.fieldLink RX1 21 "AggregateRows$RowTable" "count" "I") (by decide +kernel)) (fun _ h9 => h9) rfl (by decide +kernel) (Nat.le_of_ble_eq_true rfl) (u1 := sS u_6 4 ((u_6.1 4) + 1)) rfl dX1_add_109 (fun u_7 H locs eu_7 C => ?_)
    replace hf := lt_at hf eu_7
    exact cx_vret C hx hb hr hlocks hf dX1_add_112
  have J6 : ∀ (n6 : Nat) (x1 : Int32) (x2 : Int32) (x3 : Int32) (x4 : Int32) (w : St) (H : Heap) (locs : List Loc) (ls : Array Slot), fX1_add_6 n6 x1 x2 x3 x4 w = some ((), u') → CX (wA ad ck) ck D tt (va_A (wA ad ck u) sz) s w H locs → lv_has ls 5 [(0, .ref (ad 5)), (1, .int x1), (2, .int x2), (3, .int x3), (4, .int x4)] → W p l e (headSpec wsX1_add rmX1_add).room s m ([.ref (ad 5), .int a1, .int a2, .int a3] : List Value).toArray below meth c H locs 0 0 (MQ below (QV (wA ad ck) D u sz u') ([.ref (ad 5), .int a1, .int a2, .int a3] : List Value).toArray s 0 0 (va_A (wA ad ck u) sz)) (F0 m 6 ls []) := by
    intro n6
    induction n6 with
    | zero =>
      intro x1 x2 x3 x4 w H locs ls hf
      have hf : (none : Option (Unit × St)) = some ((), u') := hf
      cases hf
    | succ n6 ih6 =>
      intro x1 x2 x3 x4 w H locs ls hf C hl
      rw [fX1_add_6] at hf
      refine lv_iload hx hb dX1_add_6 (lv_at hl 4 rfl) ?_
      refine lv_if_le (tgt := 78) hx hb dX1_add_8 (by decide) (fun c_1 => ?_) (fun c_1 => ?_)
      · replace hf := (if_pos c_1).symm.trans hf
        exact J78 x1 x2 x3 x4 w _ _ _ hf C (lv_sub hl [0, 1, 2, 3, 4] rfl)
      · replace hf := (if_neg c_1).symm.trans hf
        refine lv_aload_n hx hb dX1_add_11 rfl (lv_at hl 0 rfl) ?_
        refine cx_get C hx hb (T := TX1) (N := 4) hts (by decide +kernel) hown 5 rfl rfl 0 (by decide) (hts (.fieldLink RX1 9 "AggregateRows$RowTable" "parts" "[I") (by decide +kernel)) (fun _ h9 => h9) (v := .ref (ad 6)) rfl dX1_add_12 ?_
        refine lv_iload hx hb dX1_add_15 (lv_at hl 4 rfl) ?_
        refine lv_iconst (v := 1) hx hb dX1_add_17 (by decide) ?_
        refine lv_isub hx hb dX1_add_18 ?_
        obtain ⟨g_2, hf⟩ := gd_some hf
        refine cx_iald C hx hb 6 rfl g_2 dX1_add_19 ?_
        refine lv_iload_n hx hb dX1_add_20 rfl (lv_at hl 1 rfl) ?_
        refine lv_icmp_le (tgt := 78) hx hb dX1_add_21 (by decide) (fun c_3 => ?_) (fun c_3 => ?_)
        · replace hf := (if_pos c_3).symm.trans hf
          exact J78 x1 x2 x3 x4 w _ _ _ hf C (lv_sub hl [0, 1, 2, 3, 4] rfl)
        · replace hf := (if_neg c_3).symm.trans hf
          refine lv_aload_n hx hb dX1_add_24 rfl (lv_at hl 0 rfl) ?_
          refine cx_get C hx hb (T := TX1) (N := 4) hts (by decide +kernel) hown 5 rfl rfl 0 (by decide) (hts (.fieldLink RX1 9 "AggregateRows$RowTable" "parts" "[I") (by decide +kernel)) (fun _ h9 => h9) (v := .ref (ad 6)) rfl dX1_add_25 ?_
          refine lv_iload hx hb dX1_add_28 (lv_at hl 4 rfl) ?_
          refine lv_aload_n hx hb dX1_add_30 rfl (lv_at hl 0 rfl) ?_
          refine cx_get C hx hb (T := TX1) (N := 4) hts (by decide +kernel) hown 5 rfl rfl 0 (by decide) (hts (.fieldLink RX1 9 "AggregateRows$RowTable" "parts" "[I") (by decide +kernel)) (fun _ h9 => h9) (v := .ref (ad 6)) rfl dX1_add_31 ?_
          refine lv_iload hx hb dX1_add_34 (lv_at hl 4 rfl) ?_
          refine lv_iconst (v := 1) hx hb dX1_add_36 (by decide) ?_
          refine lv_isub hx hb dX1_add_37 ?_
          obtain ⟨g_4, hf⟩ := gd_some hf
          refine cx_iald C hx hb 6 rfl g_4 dX1_add_38 ?_
          obtain ⟨g_5, hf⟩ := gd_some hf
          refine cx_iast C hx hb 6 rfl g_5 (u1 := sI w 2 x4.toNatClampNeg (w.2.1 2 (x4 - 1).toNatClampNeg)) rfl dX1_add_39 (fun u_6 H locs eu_6 C => ?_)
          replace hf := lt_at hf eu_6
          refine lv_aload_n hx hb dX1_add_40 rfl (lv_at hl 0 rfl) ?_
          refine cx_get C hx hb (T := TX1) (N := 4) hts (by decide +kernel) hown 5 rfl rfl 1 (by decide) (hts (.fieldLink RX1 15 "AggregateRows$RowTable" "keys" "[I") (by decide +kernel)) (fun _ h9 => h9) (v := .ref (ad 7)) rfl dX1_add_41 ?_
          refine lv_iload hx hb dX1_add_44 (lv_at hl 4 rfl) ?_
          refine lv_aload_n hx hb dX1_add_46 rfl (lv_at hl 0 rfl) ?_
          refine cx_get C hx hb (T := TX1) (N := 4) hts (by decide +kernel) hown 5 rfl rfl 1 (by decide) (hts (.fieldLink RX1 15 "AggregateRows$RowTable" "keys" "[I") (by decide +kernel)) (fun _ h9 => h9) (v := .ref (ad 7)) rfl dX1_add_47 ?_
          refine lv_iload hx hb dX1_add_50 (lv_at hl 4 rfl) ?_
          refine lv_iconst (v := 1) hx hb dX1_add_52 (by decide) ?_
          refine lv_isub hx hb dX1_add_53 ?_
          obtain ⟨g_7, hf⟩ := gd_some hf
          refine cx_iald C hx hb 7 rfl g_7 dX1_add_54 ?_
          obtain ⟨g_8, hf⟩ := gd_some hf
          refine cx_iast C hx hb 7 rfl g_8 (u1 := sI u_6 3 x4.toNatClampNeg (u_6.2.1 3 (x4 - 1).toNatClampNeg)) rfl dX1_add_55 (fun u_9 H locs eu_9 C => ?_)
          replace hf := lt_at hf eu_9
          refine lv_aload_n hx hb dX1_add_56 rfl (lv_at hl 0 rfl) ?_
          refine cx_get C hx hb (T := TX1) (N := 4) hts (by decide +kernel) hown 5 rfl rfl 2 (by decide) (hts (.fieldLink RX1 18 "AggregateRows$RowTable" "values" "[I") (by decide +kernel)) (fun _ h9 => h9) (v := .ref (ad 8)) rfl dX1_add_57 ?_
          refine lv_iload hx hb dX1_add_60 (lv_at hl 4 rfl) ?_
          refine lv_aload_n hx hb dX1_add_62 rfl (lv_at hl 0 rfl) ?_
          refine cx_get C hx hb (T := TX1) (N := 4) hts (by decide +kernel) hown 5 rfl rfl 2 (by decide) (hts (.fieldLink RX1 18 "AggregateRows$RowTable" "values" "[I") (by decide +kernel)) (fun _ h9 => h9) (v := .ref (ad 8)) rfl dX1_add_63 ?_
          refine lv_iload hx hb dX1_add_66 (lv_at hl 4 rfl) ?_
          refine lv_iconst (v := 1) hx hb dX1_add_68 (by decide) ?_
          refine lv_isub hx hb dX1_add_69 ?_
          obtain ⟨g_10, hf⟩ := gd_some hf
          refine cx_iald C hx hb 8 rfl g_10 dX1_add_70 ?_
          obtain ⟨g_11, hf⟩ := gd_some hf
          refine cx_iast C hx hb 8 rfl g_11 (u1 := sI u_9 4 x4.toNatClampNeg (u_9.2.1 4 (x4 - 1).toNatClampNeg)) rfl dX1_add_71 (fun u_12 H locs eu_12 C => ?_)
          replace hf := lt_at hf eu_12
          obtain ⟨x4_13, ex4_13⟩ : ∃ y : Int32, y = x4 + (-1) := ⟨_, rfl⟩
          replace hf := lt_at hf ex4_13
          refine lv_iinc (v := x4_13) (lv' := [(4, .int x4_13), (0, .ref (ad 5)), (1, .int x1), (2, .int x2), (3, .int x3)]) hx hb dX1_add_72 hl (k := 4) rfl (by rw [ex4_13]; rfl) (by decide) rfl (fun ls hl => ?_)
          refine lv_goto (tgt := 6) hx hb dX1_add_75 (by decide) ?_
          exact ih6 x1 x2 x3 x4_13 u_12 _ _ _ hf C (lv_sub hl [1, 2, 3, 4, 0] rfl)
  have hl := lv_entry ([.ref (ad 5), .int a1, .int a2, .int a3]) (n := 5) (Nat.le_of_ble_eq_true rfl)
  rw [lg_entry_eq]
  generalize (lg_sl ([.ref (ad 5), .int a1, .int a2, .int a3]) ++ List.replicate (5 - (lg_sl ([.ref (ad 5), .int a1, .int a2, .int a3])).length) Slot.unset).toArray = ls at hl ⊢
  have hl : lv_has ls 5 [(0, .ref (ad 5)), (1, .int a1), (2, .int a2), (3, .int a3)] := hl
  unfold fX1_add at hf
  refine lv_aload_n hx hb dX1_add_0 rfl (lv_at hl 0 rfl) ?_
  refine cx_get C hx hb (T := TX1) (N := 4) hts (by decide +kernel) hown 5 rfl rfl 3 (by decide) (hts (.fieldLink RX1 21 "AggregateRows$RowTable" "count" "I") (by decide +kernel)) (fun _ h9 => h9) (v := .int (u.1 4)) rfl dX1_add_1 ?_
  refine lv_topi (fun x4_1 ex4_1 => ?_)
  replace hf := lt_at hf ex4_1
  refine lv_istore (lv' := [(4, .int x4_1), (0, .ref (ad 5)), (1, .int a1), (2, .int a2), (3, .int a3)]) hx hb dX1_add_4 hl (by decide) rfl (fun ls hl => ?_)
  exact J6 FU a1 a2 a3 x4_1 u _ _ _ hf C (lv_sub hl [1, 2, 3, 4, 0] rfl)
