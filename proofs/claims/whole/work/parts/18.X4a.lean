/-! ===== X4_belongTogether ===== -/
def fX4_belongTogether (u : St) (a1 : Int32) (a2 : Int32) : Option (Int32 × St) := lt_ (u.1 0) (fun sw => if sw = 0 then (if a1 = a2 then some (1, u) else some (0, u)) else if sw = 1 then bnd (fX2_order u a1 a2) (fun r_5 u_6 => (if r_5 = 0 then some (1, u_6) else some (0, u_6))) else some (1, u))
abbrev rmX4_belongTogether : Room := { frames := 2, cells := 0, slots := 0, locals := 45 }
set_option maxHeartbeats 4000000 in
set_option maxRecDepth 100000 in
theorem k_X4_belongTogether (l : Launch) (ad : Nat → Nat) (ck : Nat → ClassId) (D : va_G) (tt : Nat) {u : St} {a1 : Int32} {a2 : Int32} {r : Int32} {u' : St} (hf : fX4_belongTogether u a1 a2 = some (r, u')) : MI l yX4_belongTogether wsX4_belongTogether rmX4_belongTogether (wA ad ck) ck D tt [.ref (ad 0), .int a1, .int a2] u r u' := by
  intro sz
  refine Met.ofW (cc := cX4_belongTogether) (maxL := 3) (ret := (some .boolean)) (by decide) rfl ?_
  intro p e s m args below meth c s₁ B hml hv
  obtain ⟨rfl, hsz, C⟩ := cx_entry hv
  have hx := B.exec
  have hb := B.bytes
  have hr := B.returns
  have hts := atoms_spec (ws := wsX4_belongTogether) B.pre
  have hown : s.vm.findClass RX4 = some m.cls := findClass_of_methodNamed B.named
  have hlocks := B.notSynchronized
  have hl := lv_entry ([.ref (ad 0), .int a1, .int a2]) (n := 3) (Nat.le_of_ble_eq_true rfl)
  rw [lg_entry_eq]
  generalize (lg_sl ([.ref (ad 0), .int a1, .int a2]) ++ List.replicate (3 - (lg_sl ([.ref (ad 0), .int a1, .int a2])).length) Slot.unset).toArray = ls at hl ⊢
  have hl : lv_has ls 3 [(0, .ref (ad 0)), (1, .int a1), (2, .int a2)] := hl
  unfold fX4_belongTogether at hf
  refine lv_aload_n hx hb dX4_belongTogether_0 rfl (lv_at hl 0 rfl) ?_
  refine cx_get C hx hb (T := TX4) (N := 8) hts (by decide +kernel) hown 0 rfl rfl 5 (by decide) (hts (.fieldLink RX4 41 "AggregateRows" "grouping" "I") (by decide +kernel)) (fun _ h9 => h9) (v := .int (u.1 0)) rfl dX4_belongTogether_1 ?_
  obtain ⟨sw, esw⟩ : ∃ z : Int32, z = (u.1 0) := ⟨_, rfl⟩
  rw [← esw]
  replace hf := lt_at hf esw
  by_cases c_1 : sw = 0
  · replace hf := (if_pos c_1).symm.trans hf
    subst c_1
    refine lv_lookup (tgt := 32) hx hb dX4_belongTogether_4 (by decide) (by rfl) (by decide) ?_
    refine lv_iload_n hx hb dX4_belongTogether_32 rfl (lv_at hl 1 rfl) ?_
    refine lv_iload_n hx hb dX4_belongTogether_33 rfl (lv_at hl 2 rfl) ?_
    refine lv_icmp_ne (tgt := 41) hx hb dX4_belongTogether_34 (by decide) (fun c_2 => ?_) (fun c_2 => ?_)
    · replace hf := (if_neg c_2).symm.trans hf
      refine lv_iconst (v := 0) hx hb dX4_belongTogether_41 (by decide) ?_
      exact cx_zret C hx hb hr (by decide) hlocks hf dX4_belongTogether_42
    · replace hf := (if_pos c_2).symm.trans hf
      refine lv_iconst (v := 1) hx hb dX4_belongTogether_37 (by decide) ?_
      refine lv_goto (tgt := 42) hx hb dX4_belongTogether_38 (by decide) ?_
      exact cx_zret C hx hb hr (by decide) hlocks hf dX4_belongTogether_42
  replace hf := (if_neg c_1).symm.trans hf
  by_cases c_3 : sw = 1
  · replace hf := (if_pos c_3).symm.trans hf
    subst c_3
    refine lv_lookup (tgt := 43) hx hb dX4_belongTogether_4 (by decide) (by rfl) (by decide) ?_
    refine lv_aload_n hx hb dX4_belongTogether_43 rfl (lv_at hl 0 rfl) ?_
    refine cx_get C hx hb (T := TX4) (N := 8) hts (by decide +kernel) hown 0 rfl rfl 0 (by decide) (hts (.fieldLink RX4 10 "AggregateRows" "terms" "LAggregateRows$Terms;") (by decide +kernel)) (fun _ h9 => h9) (v := .ref (ad 1)) rfl dX4_belongTogether_44 ?_
    refine lv_iload_n hx hb dX4_belongTogether_47 rfl (lv_at hl 1 rfl) ?_
    refine lv_iload_n hx hb dX4_belongTogether_48 rfl (lv_at hl 2 rfl) ?_
    obtain ⟨r_5, u_6, h_4, hf⟩ := bnd_some hf
    refine cx_calli C (va_runV (As := [.int a1, .int a2]) (rest := []) ⟨hx, hb, hml, hown, hts⟩ (k_X2_order l ad ck D tt h_4 _) (cwV 2 hts gX4_belongTogether_X2_order rfl rfl rfl (by decide +kernel) ⟨Nat.le_of_ble_eq_true rfl, Nat.le_of_ble_eq_true rfl⟩) (cx_preV C (q0 := 1) (ci := 2) rfl rfl) rfl rfl hl.1 rfl (lv_room (Nat.le_of_ble_eq_true rfl)) dX4_belongTogether_49 ⟨Nat.zero_le _, Nat.zero_le _⟩) (fun H locs C => ?_)
    refine lv_if_ne (tgt := 59) hx hb dX4_belongTogether_52 (by decide) (fun c_7 => ?_) (fun c_7 => ?_)
    · replace hf := (if_neg c_7).symm.trans hf
      refine lv_iconst (v := 0) hx hb dX4_belongTogether_59 (by decide) ?_
      exact cx_zret C hx hb hr (by decide) hlocks hf dX4_belongTogether_60
    · replace hf := (if_pos c_7).symm.trans hf
      refine lv_iconst (v := 1) hx hb dX4_belongTogether_55 (by decide) ?_
      refine lv_goto (tgt := 60) hx hb dX4_belongTogether_56 (by decide) ?_
      exact cx_zret C hx hb hr (by decide) hlocks hf dX4_belongTogether_60
  replace hf := (if_neg c_3).symm.trans hf
  refine lv_lookup (off := 57) (tgt := 61) hx hb dX4_belongTogether_4 (by decide) (by rw [lv_osw c_1 (by decide)]; rw [lv_osw c_3 (by decide)]; rfl) (by decide) ?_
  refine lv_iconst (v := 1) hx hb dX4_belongTogether_61 (by decide) ?_
  exact cx_zret C hx hb hr (by decide) hlocks hf dX4_belongTogether_62
/-! ===== X4_groupOfKey ===== -/
def fX4_groupOfKey_2  : Nat → Int32 → Int32 → St → Option (Int32 × St)
  | 0, _, _, _ => none
  | n2 + 1, x1, x2, w => bnd (fX0_count w) (fun r_2 u_3 => (if r_2 ≤ x2 then bnd (fX0_count u_3) (fun r_6 u_7 => some (r_6, u_7)) else bnd (fX0_firstKey u_3 x2) (fun r_9 u_10 => bnd (fX4_belongTogether u_10 r_9 x1) (fun r_12 u_13 => (if r_12 = 0 then lt_ (x2 + 1) (fun x2_15 => fX4_groupOfKey_2 n2 x1 x2_15 u_13) else some (x2, u_13))))))
def fX4_groupOfKey (u : St) (a1 : Int32) : Option (Int32 × St) := fX4_groupOfKey_2 FU a1 0 u
abbrev rmX4_groupOfKey : Room := { frames := 3, cells := 0, slots := 0, locals := 67 }
set_option maxHeartbeats 4000000 in
set_option maxRecDepth 100000 in
theorem k_X4_groupOfKey (l : Launch) (ad : Nat → Nat) (ck : Nat → ClassId) (D : va_G) (tt : Nat) {u : St} {a1 : Int32} {r : Int32} {u' : St} (hf : fX4_groupOfKey u a1 = some (r, u')) : MI l yX4_groupOfKey wsX4_groupOfKey rmX4_groupOfKey (wA ad ck) ck D tt [.ref (ad 0), .int a1] u r u' := by
  intro sz
  refine Met.ofW (cc := cX4_groupOfKey) (maxL := 3) (ret := (some .int)) (by decide) rfl ?_
  intro p e s m args below meth c s₁ B hml hv
  obtain ⟨rfl, hsz, C⟩ := cx_entry hv
  have hx := B.exec
  have hb := B.bytes
  have hr := B.returns
  have hts := atoms_spec (ws := wsX4_groupOfKey) B.pre
  have hown : s.vm.findClass RX4 = some m.cls := findClass_of_methodNamed B.named
  have hlocks := B.notSynchronized
  have J2 : ∀ (n2 : Nat) (x1 : Int32) (x2 : Int32) (w : St) (H : Heap) (locs : List Loc) (ls : Array Slot), fX4_groupOfKey_2 n2 x1 x2 w = some (r, u') → CX (wA ad ck) ck D tt (va_A (wA ad ck u) sz) s w H locs → lv_has ls 3 [(0, .ref (ad 0)), (1, .int x1), (2, .int x2)] → W p l e (headSpec wsX4_groupOfKey rmX4_groupOfKey).room s m ([.ref (ad 0), .int a1] : List Value).toArray below meth c H locs 0 0 (MQ below (QI (wA ad ck) D u sz r u') ([.ref (ad 0), .int a1] : List Value).toArray s 0 0 (va_A (wA ad ck u) sz)) (F0 m 2 ls []) := by
    intro n2
    induction n2 with
    | zero =>
      intro x1 x2 w H locs ls hf
      have hf : (none : Option (Int32 × St)) = some (r, u') := hf
      cases hf
    | succ n2 ih2 =>
      intro x1 x2 w H locs ls hf C hl
      rw [fX4_groupOfKey_2] at hf
      refine lv_iload_n hx hb dX4_groupOfKey_2 rfl (lv_at hl 2 rfl) ?_
      refine lv_aload_n hx hb dX4_groupOfKey_3 rfl (lv_at hl 0 rfl) ?_
      refine cx_get C hx hb (T := TX4) (N := 8) hts (by decide +kernel) hown 0 rfl rfl 2 (by decide) (hts (.fieldLink RX4 26 "AggregateRows" "results" "LAggregateRows$Results;") (by decide +kernel)) (fun _ h9 => h9) (v := .ref (ad 9)) rfl dX4_groupOfKey_4 ?_
      obtain ⟨r_2, u_3, h_1, hf⟩ := bnd_some hf
      refine cx_calli C (va_runV (As := []) (rest := [.int x2]) ⟨hx, hb, hml, hown, hts⟩ (k_X0_count l ad ck D tt h_1 _) (cwV 0 hts gX4_groupOfKey_X0_count rfl rfl rfl (by decide +kernel) ⟨Nat.le_of_ble_eq_true rfl, Nat.le_of_ble_eq_true rfl⟩) (cx_preV C (q0 := 9) (ci := 0) rfl rfl) rfl rfl hl.1 rfl (lv_room (Nat.le_of_ble_eq_true rfl)) dX4_groupOfKey_7 ⟨Nat.zero_le _, Nat.zero_le _⟩) (fun H locs C => ?_)
      refine lv_icmp_ge (tgt := 37) hx hb dX4_groupOfKey_10 (by decide) (fun c_4 => ?_) (fun c_4 => ?_)
      · replace hf := (if_pos c_4).symm.trans hf
        refine lv_aload_n hx hb dX4_groupOfKey_37 rfl (lv_at hl 0 rfl) ?_
        refine cx_get C hx hb (T := TX4) (N := 8) hts (by decide +kernel) hown 0 rfl rfl 2 (by decide) (hts (.fieldLink RX4 26 "AggregateRows" "results" "LAggregateRows$Results;") (by decide +kernel)) (fun _ h9 => h9) (v := .ref (ad 9)) rfl dX4_groupOfKey_38 ?_
        obtain ⟨r_6, u_7, h_5, hf⟩ := bnd_some hf
        refine cx_calli C (va_runV (As := []) (rest := []) ⟨hx, hb, hml, hown, hts⟩ (k_X0_count l ad ck D tt h_5 _) (cwV 0 hts gX4_groupOfKey_X0_count rfl rfl rfl (by decide +kernel) ⟨Nat.le_of_ble_eq_true rfl, Nat.le_of_ble_eq_true rfl⟩) (cx_preV C (q0 := 9) (ci := 0) rfl rfl) rfl rfl hl.1 rfl (lv_room (Nat.le_of_ble_eq_true rfl)) dX4_groupOfKey_41 ⟨Nat.zero_le _, Nat.zero_le _⟩) (fun H locs C => ?_)
        exact cx_iret C hx hb hr hlocks hf dX4_groupOfKey_44
      · replace hf := (if_neg c_4).symm.trans hf
        refine lv_aload_n hx hb dX4_groupOfKey_13 rfl (lv_at hl 0 rfl) ?_
        refine lv_aload_n hx hb dX4_groupOfKey_14 rfl (lv_at hl 0 rfl) ?_
        refine cx_get C hx hb (T := TX4) (N := 8) hts (by decide +kernel) hown 0 rfl rfl 2 (by decide) (hts (.fieldLink RX4 26 "AggregateRows" "results" "LAggregateRows$Results;") (by decide +kernel)) (fun _ h9 => h9) (v := .ref (ad 9)) rfl dX4_groupOfKey_15 ?_
        refine lv_iload_n hx hb dX4_groupOfKey_18 rfl (lv_at hl 2 rfl) ?_
        obtain ⟨r_9, u_10, h_8, hf⟩ := bnd_some hf
        refine cx_calli C (va_runV (As := [.int x2]) (rest := [.ref (ad 0)]) ⟨hx, hb, hml, hown, hts⟩ (k_X0_firstKey l ad ck D tt h_8 _) (cwV 1 hts gX4_groupOfKey_X0_firstKey rfl rfl rfl (by decide +kernel) ⟨Nat.le_of_ble_eq_true rfl, Nat.le_of_ble_eq_true rfl⟩) (cx_preV C (q0 := 9) (ci := 0) rfl rfl) rfl rfl hl.1 rfl (lv_room (Nat.le_of_ble_eq_true rfl)) dX4_groupOfKey_19 ⟨Nat.zero_le _, Nat.zero_le _⟩) (fun H locs C => ?_)
        refine lv_iload_n hx hb dX4_groupOfKey_22 rfl (lv_at hl 1 rfl) ?_
        obtain ⟨r_12, u_13, h_11, hf⟩ := bnd_some hf
        refine cx_calli C (va_runV (As := [.int r_9, .int x1]) (rest := []) ⟨hx, hb, hml, hown, hts⟩ (k_X4_belongTogether l ad ck D tt h_11 _) (cwV 2 hts gX4_groupOfKey_X4_belongTogether rfl rfl rfl (by decide +kernel) ⟨Nat.le_of_ble_eq_true rfl, Nat.le_of_ble_eq_true rfl⟩) (cx_preV C (q0 := 0) (ci := 4) rfl rfl) rfl rfl hl.1 rfl (lv_room (Nat.le_of_ble_eq_true rfl)) dX4_groupOfKey_23 ⟨Nat.zero_le _, Nat.zero_le _⟩) (fun H locs C => ?_)
        refine lv_if_eq (tgt := 31) hx hb dX4_groupOfKey_26 (by decide) (fun c_14 => ?_) (fun c_14 => ?_)
        · replace hf := (if_pos c_14).symm.trans hf
          obtain ⟨x2_15, ex2_15⟩ : ∃ y : Int32, y = x2 + 1 := ⟨_, rfl⟩
          replace hf := lt_at hf ex2_15
          refine lv_iinc (v := x2_15) (lv' := [(2, .int x2_15), (0, .ref (ad 0)), (1, .int x1)]) hx hb dX4_groupOfKey_31 hl (k := 2) rfl (by rw [ex2_15]; rfl) (by decide) rfl (fun ls hl => ?_)
          refine lv_goto (tgt := 2) hx hb dX4_groupOfKey_34 (by decide) ?_
          exact ih2 x1 x2_15 u_13 _ _ _ hf C (lv_sub hl [1, 2, 0] rfl)
        · replace hf := (if_neg c_14).symm.trans hf
          refine lv_iload_n hx hb dX4_groupOfKey_29 rfl (lv_at hl 2 rfl) ?_
          exact cx_iret C hx hb hr hlocks hf dX4_groupOfKey_30
  have hl := lv_entry ([.ref (ad 0), .int a1]) (n := 3) (Nat.le_of_ble_eq_true rfl)
  rw [lg_entry_eq]
  generalize (lg_sl ([.ref (ad 0), .int a1]) ++ List.replicate (3 - (lg_sl ([.ref (ad 0), .int a1])).length) Slot.unset).toArray = ls at hl ⊢
  have hl : lv_has ls 3 [(0, .ref (ad 0)), (1, .int a1)] := hl
  unfold fX4_groupOfKey at hf
  refine lv_iconst (v := 0) hx hb dX4_groupOfKey_0 (by decide) ?_
  refine lv_istore_n (lv' := [(2, .int 0), (0, .ref (ad 0)), (1, .int a1)]) hx hb dX4_groupOfKey_1 rfl hl (by decide) rfl (fun ls hl => ?_)
  exact J2 FU a1 0 u _ _ _ hf C (lv_sub hl [1, 2, 0] rfl)
/-! ===== X4_makeGroups ===== -/
def fX4_makeGroups_59 (k9 : Int32 → St → Option (Unit × St)) (x1 : Int32) (x2 : Int32) (w : St) : Option (Unit × St) := bnd (fX0_addRow w x2) (fun _ u_3 => gd (okI x1 60) (lt_ (sI u_3 14 x1.toNatClampNeg x2) (fun u_5 => lt_ (x1 + 1) (fun x1_6 => k9 x1_6 u_5))))
def fX4_makeGroups_9  : Nat → Int32 → St → Option (Unit × St)
  | 0, _, _ => none
  | n9 + 1, x1, w => bnd (fX1_count w) (fun r_2 u_3 => (if r_2 ≤ x1 then (if (u_3.1 0) = 2 then bnd (fX0_count u_3) (fun r_7 u_8 => (if r_7 = 0 then bnd (fX0_open u_8 (-1)) (fun _ u_12 => some ((), u_12)) else some ((), u_8))) else some ((), u_3)) else bnd (fX1_keyAt u_3 x1) (fun r_14 u_15 => bnd (fX4_groupOfKey u_15 r_14) (fun r_17 u_18 => bnd (fX0_count u_18) (fun r_20 u_21 => (if r_17 = r_20 then bnd (fX1_keyAt u_21 x1) (fun r_24 u_25 => bnd (fX0_open u_25 r_24) (fun _ u_28 => fX4_makeGroups_59 (fX4_makeGroups_9 n9) x1 r_17 u_28)) else fX4_makeGroups_59 (fX4_makeGroups_9 n9) x1 r_17 u_21))))))
def fX4_makeGroups (u : St)  : Option (Unit × St) := bnd (fX0_clear u) (fun _ u_3 => fX4_makeGroups_9 FU 0 u_3)
abbrev rmX4_makeGroups : Room := { frames := 4, cells := 0, slots := 0, locals := 89 }
set_option maxHeartbeats 4000000 in
set_option maxRecDepth 100000 in
theorem k_X4_makeGroups (l : Launch) (ad : Nat → Nat) (ck : Nat → ClassId) (D : va_G) (tt : Nat) {u : St}  {u' : St} (hf : fX4_makeGroups u = some ((), u')) : MV l yX4_makeGroups wsX4_makeGroups rmX4_makeGroups (wA ad ck) ck D tt [.ref (ad 0)] u u' := by
  intro sz
  refine Met.ofW (cc := cX4_makeGroups) (maxL := 3) (ret := none) (by decide) rfl ?_
  intro p e s m args below meth c s₁ B hml hv
  obtain ⟨rfl, hsz, C⟩ := cx_entry hv
  have hx := B.exec
  have hb := B.bytes
  have hr := B.returns
  have hts := atoms_spec (ws := wsX4_makeGroups) B.pre
  have hown : s.vm.findClass RX4 = some m.cls := findClass_of_methodNamed B.named
  have hlocks := B.notSynchronized
  have J9 : ∀ (n9 : Nat) (x1 : Int32) (w : St) (H : Heap) (locs : List Loc) (ls : Array Slot), fX4_makeGroups_9 n9 x1 w = some ((), u') → CX (wA ad ck) ck D tt (va_A (wA ad ck u) sz) s w H locs → lv_has ls 3 [(0, .ref (ad 0)), (1, .int x1)] → W p l e (headSpec wsX4_makeGroups rmX4_makeGroups).room s m ([.ref (ad 0)] : List Value).toArray below meth c H locs 0 0 (MQ below (QV (wA ad ck) D u sz u') ([.ref (ad 0)] : List Value).toArray s 0 0 (va_A (wA ad ck u) sz)) (F0 m 9 ls []) := by
    intro n9
    induction n9 with
    | zero =>
      intro x1 w H locs ls hf
      have hf : (none : Option (Unit × St)) = some ((), u') := hf
      cases hf
    | succ n9 ih9 =>
      intro x1 w H locs ls hf C hl
      rw [fX4_makeGroups_9] at hf
      have J59 : ∀ (x1 : Int32) (x2 : Int32) (w : St) (H : Heap) (locs : List Loc) (ls : Array Slot), fX4_makeGroups_59 (fX4_makeGroups_9 n9) x1 x2 w = some ((), u') → CX (wA ad ck) ck D tt (va_A (wA ad ck u) sz) s w H locs → lv_has ls 3 [(0, .ref (ad 0)), (1, .int x1), (2, .int x2)] → W p l e (headSpec wsX4_makeGroups rmX4_makeGroups).room s m ([.ref (ad 0)] : List Value).toArray below meth c H locs 0 0 (MQ below (QV (wA ad ck) D u sz u') ([.ref (ad 0)] : List Value).toArray s 0 0 (va_A (wA ad ck u) sz)) (F0 m 59 ls []) := by
        intro x1 x2 w H locs ls hf C hl
        unfold fX4_makeGroups_59 at hf
        refine lv_aload_n hx hb dX4_makeGroups_59 rfl (lv_at hl 0 rfl) ?_
        refine cx_get C hx hb (T := TX4) (N := 8) hts (by decide +kernel) hown 0 rfl rfl 2 (by decide) (hts (.fieldLink RX4 26 "AggregateRows" "results" "LAggregateRows$Results;") (by decide +kernel)) (fun _ h9 => h9) (v := .ref (ad 9)) rfl dX4_makeGroups_60 ?_
        refine lv_iload_n hx hb dX4_makeGroups_63 rfl (lv_at hl 2 rfl) ?_
        obtain ⟨_, u_3, h_1, hf⟩ := bnd_some hf
        refine cx_callv C (va_runV (As := [.int x2]) (rest := []) ⟨hx, hb, hml, hown, hts⟩ (k_X0_addRow l ad ck D tt h_1 _) (cwV 1 hts gX4_makeGroups_X0_addRow rfl rfl rfl (by decide +kernel) ⟨Nat.le_of_ble_eq_true rfl, Nat.le_of_ble_eq_true rfl⟩) (cx_preV C (q0 := 9) (ci := 0) rfl rfl) rfl rfl hl.1 rfl (lv_room (Nat.le_of_ble_eq_true rfl)) dX4_makeGroups_64 ⟨Nat.zero_le _, Nat.zero_le _⟩) (fun H locs C => ?_)
        refine lv_aload_n hx hb dX4_makeGroups_67 rfl (lv_at hl 0 rfl) ?_
        refine cx_get C hx hb (T := TX4) (N := 8) hts (by decide +kernel) hown 0 rfl rfl 4 (by decide) (hts (.fieldLink RX4 37 "AggregateRows" "groupOfRow" "[I") (by decide +kernel)) (fun _ h9 => h9) (v := .ref (ad 22)) rfl dX4_makeGroups_68 ?_
        refine lv_iload_n hx hb dX4_makeGroups_71 rfl (lv_at hl 1 rfl) ?_
        refine lv_iload_n hx hb dX4_makeGroups_72 rfl (lv_at hl 2 rfl) ?_
        obtain ⟨g_4, hf⟩ := gd_some hf
        refine cx_iast C hx hb 22 rfl g_4 (u1 := sI u_3 14 x1.toNatClampNeg x2) rfl dX4_makeGroups_73 (fun u_5 H locs eu_5 C => ?_)
        replace hf := lt_at hf eu_5
        obtain ⟨x1_6, ex1_6⟩ : ∃ y : Int32, y = x1 + 1 := ⟨_, rfl⟩
        replace hf := lt_at hf ex1_6
        refine lv_iinc (v := x1_6) (lv' := [(1, .int x1_6), (0, .ref (ad 0)), (2, .int x2)]) hx hb dX4_makeGroups_74 hl (k := 1) rfl (by rw [ex1_6]; rfl) (by decide) rfl (fun ls hl => ?_)
        refine lv_goto (tgt := 9) hx hb dX4_makeGroups_77 (by decide) ?_
        exact ih9 x1_6 u_5 _ _ _ hf C (lv_sub hl [1, 0] rfl)
      refine lv_iload_n hx hb dX4_makeGroups_9 rfl (lv_at hl 1 rfl) ?_
      refine lv_aload_n hx hb dX4_makeGroups_10 rfl (lv_at hl 0 rfl) ?_
      refine cx_get C hx hb (T := TX4) (N := 8) hts (by decide +kernel) hown 0 rfl rfl 1 (by decide) (hts (.fieldLink RX4 19 "AggregateRows" "table" "LAggregateRows$RowTable;") (by decide +kernel)) (fun _ h9 => h9) (v := .ref (ad 5)) rfl dX4_makeGroups_11 ?_
      obtain ⟨r_8, u_9, h_7, hf⟩ := bnd_some hf
      refine cx_calli C (va_runV (As := []) (rest := [.int x1]) ⟨hx, hb, hml, hown, hts⟩ (k_X1_count l ad ck D tt h_7 _) (cwV 0 hts gX4_makeGroups_X1_count rfl rfl rfl (by decide +kernel) ⟨Nat.le_of_ble_eq_true rfl, Nat.le_of_ble_eq_true rfl⟩) (cx_preV C (q0 := 5) (ci := 1) rfl rfl) rfl rfl hl.1 rfl (lv_room (Nat.le_of_ble_eq_true rfl)) dX4_makeGroups_14 ⟨Nat.zero_le _, Nat.zero_le _⟩) (fun H locs C => ?_)
      refine lv_icmp_ge (tgt := 80) hx hb dX4_makeGroups_17 (by decide) (fun c_10 => ?_) (fun c_10 => ?_)
      · replace hf := (if_pos c_10).symm.trans hf
        refine lv_aload_n hx hb dX4_makeGroups_80 rfl (lv_at hl 0 rfl) ?_
        refine cx_get C hx hb (T := TX4) (N := 8) hts (by decide +kernel) hown 0 rfl rfl 5 (by decide) (hts (.fieldLink RX4 41 "AggregateRows" "grouping" "I") (by decide +kernel)) (fun _ h9 => h9) (v := .int (u_9.1 0)) rfl dX4_makeGroups_81 ?_
        refine lv_iconst (v := 2) hx hb dX4_makeGroups_84 (by decide) ?_
        refine lv_icmp_ne (tgt := 106) hx hb dX4_makeGroups_85 (by decide) (fun c_11 => ?_) (fun c_11 => ?_)
        · replace hf := (if_neg c_11).symm.trans hf
          exact cx_vret C hx hb hr hlocks hf dX4_makeGroups_106
        · replace hf := (if_pos c_11).symm.trans hf
          refine lv_aload_n hx hb dX4_makeGroups_88 rfl (lv_at hl 0 rfl) ?_
          refine cx_get C hx hb (T := TX4) (N := 8) hts (by decide +kernel) hown 0 rfl rfl 2 (by decide) (hts (.fieldLink RX4 26 "AggregateRows" "results" "LAggregateRows$Results;") (by decide +kernel)) (fun _ h9 => h9) (v := .ref (ad 9)) rfl dX4_makeGroups_89 ?_
          obtain ⟨r_13, u_14, h_12, hf⟩ := bnd_some hf
          refine cx_calli C (va_runV (As := []) (rest := []) ⟨hx, hb, hml, hown, hts⟩ (k_X0_count l ad ck D tt h_12 _) (cwV 0 hts gX4_makeGroups_X0_count rfl rfl rfl (by decide +kernel) ⟨Nat.le_of_ble_eq_true rfl, Nat.le_of_ble_eq_true rfl⟩) (cx_preV C (q0 := 9) (ci := 0) rfl rfl) rfl rfl hl.1 rfl (lv_room (Nat.le_of_ble_eq_true rfl)) dX4_makeGroups_92 ⟨Nat.zero_le _, Nat.zero_le _⟩) (fun H locs C => ?_)
          refine lv_if_ne (tgt := 106) hx hb dX4_makeGroups_95 (by decide) (fun c_15 => ?_) (fun c_15 => ?_)
          · replace hf := (if_neg c_15).symm.trans hf
            exact cx_vret C hx hb hr hlocks hf dX4_makeGroups_106
          · replace hf := (if_pos c_15).symm.trans hf
            refine lv_aload_n hx hb dX4_makeGroups_98 rfl (lv_at hl 0 rfl) ?_
            refine cx_get C hx hb (T := TX4) (N := 8) hts (by decide +kernel) hown 0 rfl rfl 2 (by decide) (hts (.fieldLink RX4 26 "AggregateRows" "results" "LAggregateRows$Results;") (by decide +kernel)) (fun _ h9 => h9) (v := .ref (ad 9)) rfl dX4_makeGroups_99 ?_
            refine lv_iconst (v := (-1)) hx hb dX4_makeGroups_102 (by decide) ?_
            obtain ⟨_, u_18, h_16, hf⟩ := bnd_some hf
            refine cx_callv C (va_runV (As := [.int (-1)]) (rest := []) ⟨hx, hb, hml, hown, hts⟩ (k_X0_open l ad ck D tt h_16 _) (cwV 1 hts gX4_makeGroups_X0_open rfl rfl rfl (by decide +kernel) ⟨Nat.le_of_ble_eq_true rfl, Nat.le_of_ble_eq_true rfl⟩) (cx_preV C (q0 := 9) (ci := 0) rfl rfl) rfl rfl hl.1 rfl (lv_room (Nat.le_of_ble_eq_true rfl)) dX4_makeGroups_103 ⟨Nat.zero_le _, Nat.zero_le _⟩) (fun H locs C => ?_)
            exact cx_vret C hx hb hr hlocks hf dX4_makeGroups_106
      · replace hf := (if_neg c_10).symm.trans hf
        refine lv_aload_n hx hb dX4_makeGroups_20 rfl (lv_at hl 0 rfl) ?_
        refine lv_aload_n hx hb dX4_makeGroups_21 rfl (lv_at hl 0 rfl) ?_
        refine cx_get C hx hb (T := TX4) (N := 8) hts (by decide +kernel) hown 0 rfl rfl 1 (by decide) (hts (.fieldLink RX4 19 "AggregateRows" "table" "LAggregateRows$RowTable;") (by decide +kernel)) (fun _ h9 => h9) (v := .ref (ad 5)) rfl dX4_makeGroups_22 ?_
        refine lv_iload_n hx hb dX4_makeGroups_25 rfl (lv_at hl 1 rfl) ?_
        obtain ⟨r_20, u_21, h_19, hf⟩ := bnd_some hf
        refine cx_calli C (va_runV (As := [.int x1]) (rest := [.ref (ad 0)]) ⟨hx, hb, hml, hown, hts⟩ (k_X1_keyAt l ad ck D tt h_19 _) (cwV 1 hts gX4_makeGroups_X1_keyAt rfl rfl rfl (by decide +kernel) ⟨Nat.le_of_ble_eq_true rfl, Nat.le_of_ble_eq_true rfl⟩) (cx_preV C (q0 := 5) (ci := 1) rfl rfl) rfl rfl hl.1 rfl (lv_room (Nat.le_of_ble_eq_true rfl)) dX4_makeGroups_26 ⟨Nat.zero_le _, Nat.zero_le _⟩) (fun H locs C => ?_)
        obtain ⟨r_23, u_24, h_22, hf⟩ := bnd_some hf
        refine cx_calli C (va_runV (As := [.int r_20]) (rest := []) ⟨hx, hb, hml, hown, hts⟩ (k_X4_groupOfKey l ad ck D tt h_22 _) (cwV 1 hts gX4_makeGroups_X4_groupOfKey rfl rfl rfl (by decide +kernel) ⟨Nat.le_of_ble_eq_true rfl, Nat.le_of_ble_eq_true rfl⟩) (cx_preV C (q0 := 0) (ci := 4) rfl rfl) rfl rfl hl.1 rfl (lv_room (Nat.le_of_ble_eq_true rfl)) dX4_makeGroups_29 ⟨Nat.zero_le _, Nat.zero_le _⟩) (fun H locs C => ?_)
        refine lv_istore_n (lv' := [(2, .int r_23), (0, .ref (ad 0)), (1, .int x1)]) hx hb dX4_makeGroups_32 rfl hl (by decide) rfl (fun ls hl => ?_)
        refine lv_iload_n hx hb dX4_makeGroups_33 rfl (lv_at hl 0 rfl) ?_
        refine lv_aload_n hx hb dX4_makeGroups_34 rfl (lv_at hl 1 rfl) ?_
        refine cx_get C hx hb (T := TX4) (N := 8) hts (by decide +kernel) hown 0 rfl rfl 2 (by decide) (hts (.fieldLink RX4 26 "AggregateRows" "results" "LAggregateRows$Results;") (by decide +kernel)) (fun _ h9 => h9) (v := .ref (ad 9)) rfl dX4_makeGroups_35 ?_
        obtain ⟨r_26, u_27, h_25, hf⟩ := bnd_some hf
        refine cx_calli C (va_runV (As := []) (rest := [.int r_23]) ⟨hx, hb, hml, hown, hts⟩ (k_X0_count l ad ck D tt h_25 _) (cwV 0 hts gX4_makeGroups_X0_count rfl rfl rfl (by decide +kernel) ⟨Nat.le_of_ble_eq_true rfl, Nat.le_of_ble_eq_true rfl⟩) (cx_preV C (q0 := 9) (ci := 0) rfl rfl) rfl rfl hl.1 rfl (lv_room (Nat.le_of_ble_eq_true rfl)) dX4_makeGroups_38 ⟨Nat.zero_le _, Nat.zero_le _⟩) (fun H locs C => ?_)
        refine lv_icmp_ne (tgt := 59) hx hb dX4_makeGroups_41 (by decide) (fun c_28 => ?_) (fun c_28 => ?_)
        · replace hf := (if_neg c_28).symm.trans hf
          exact J59 x1 r_23 u_27 _ _ _ hf C (lv_sub hl [1, 2, 0] rfl)
        · replace hf := (if_pos c_28).symm.trans hf
          refine lv_aload_n hx hb dX4_makeGroups_44 rfl (lv_at hl 1 rfl) ?_
          refine cx_get C hx hb (T := TX4) (N := 8) hts (by decide +kernel) hown 0 rfl rfl 2 (by decide) (hts (.fieldLink RX4 26 "AggregateRows" "results" "LAggregateRows$Results;") (by decide +kernel)) (fun _ h9 => h9) (v := .ref (ad 9)) rfl dX4_makeGroups_45 ?_
          refine lv_aload_n hx hb dX4_makeGroups_48 rfl (lv_at hl 1 rfl) ?_
          refine cx_get C hx hb (T := TX4) (N := 8) hts (by decide +kernel) hown 0 rfl rfl 1 (by decide) (hts (.fieldLink RX4 19 "AggregateRows" "table" "LAggregateRows$RowTable;") (by decide +kernel)) (fun _ h9 => h9) (v := .ref (ad 5)) rfl dX4_makeGroups_49 ?_
          refine lv_iload_n hx hb dX4_makeGroups_52 rfl (lv_at hl 2 rfl) ?_
          obtain ⟨r_30, u_31, h_29, hf⟩ := bnd_some hf
          refine cx_calli C (va_runV (As := [.int x1]) (rest := [.ref (ad 9)]) ⟨hx, hb, hml, hown, hts⟩ (k_X1_keyAt l ad ck D tt h_29 _) (cwV 1 hts gX4_makeGroups_X1_keyAt rfl rfl rfl (by decide +kernel) ⟨Nat.le_of_ble_eq_true rfl, Nat.le_of_ble_eq_true rfl⟩) (cx_preV C (q0 := 5) (ci := 1) rfl rfl) rfl rfl hl.1 rfl (lv_room (Nat.le_of_ble_eq_true rfl)) dX4_makeGroups_53 ⟨Nat.zero_le _, Nat.zero_le _⟩) (fun H locs C => ?_)
          obtain ⟨_, u_34, h_32, hf⟩ := bnd_some hf
          refine cx_callv C (va_runV (As := [.int r_30]) (rest := []) ⟨hx, hb, hml, hown, hts⟩ (k_X0_open l ad ck D tt h_32 _) (cwV 1 hts gX4_makeGroups_X0_open rfl rfl rfl (by decide +kernel) ⟨Nat.le_of_ble_eq_true rfl, Nat.le_of_ble_eq_true rfl⟩) (cx_preV C (q0 := 9) (ci := 0) rfl rfl) rfl rfl hl.1 rfl (lv_room (Nat.le_of_ble_eq_true rfl)) dX4_makeGroups_56 ⟨Nat.zero_le _, Nat.zero_le _⟩) (fun H locs C => ?_)
          exact J59 x1 r_23 u_34 _ _ _ hf C (lv_sub hl [1, 2, 0] rfl)
  have hl := lv_entry ([.ref (ad 0)]) (n := 3) (Nat.le_of_ble_eq_true rfl)
  rw [lg_entry_eq]
  generalize (lg_sl ([.ref (ad 0)]) ++ List.replicate (3 - (lg_sl ([.ref (ad 0)])).length) Slot.unset).toArray = ls at hl ⊢
  have hl : lv_has ls 3 [(0, .ref (ad 0))] := hl
  unfold fX4_makeGroups at hf
  refine lv_aload_n hx hb dX4_makeGroups_0 rfl (lv_at hl 0 rfl) ?_
  refine cx_get C hx hb (T := TX4) (N := 8) hts (by decide +kernel) hown 0 rfl rfl 2 (by decide) (hts (.fieldLink RX4 26 "AggregateRows" "results" "LAggregateRows$Results;") (by decide +kernel)) (fun _ h9 => h9) (v := .ref (ad 9)) rfl dX4_makeGroups_1 ?_
  obtain ⟨_, u_3, h_1, hf⟩ := bnd_some hf
  refine cx_callv C (va_runV (As := []) (rest := []) ⟨hx, hb, hml, hown, hts⟩ (k_X0_clear l ad ck D tt h_1 _) (cwV 0 hts gX4_makeGroups_X0_clear rfl rfl rfl (by decide +kernel) ⟨Nat.le_of_ble_eq_true rfl, Nat.le_of_ble_eq_true rfl⟩) (cx_preV C (q0 := 9) (ci := 0) rfl rfl) rfl rfl hl.1 rfl (lv_room (Nat.le_of_ble_eq_true rfl)) dX4_makeGroups_4 ⟨Nat.zero_le _, Nat.zero_le _⟩) (fun H locs C => ?_)
  refine lv_iconst (v := 0) hx hb dX4_makeGroups_7 (by decide) ?_
  refine lv_istore_n (lv' := [(1, .int 0), (0, .ref (ad 0))]) hx hb dX4_makeGroups_8 rfl hl (by decide) rfl (fun ls hl => ?_)
  exact J9 FU 0 u_3 _ _ _ hf C (lv_sub hl [1, 0] rfl)
/-! ===== X4_pickValues ===== -/
def fX4_pickValues_66 (k9 : Int32 → Int32 → Int32 → St → Option (Unit × St)) (x1 : Int32) (x2 : Int32) (x3 : Int32) (x4 : Int32) (w : St) : Option (Unit × St) := bnd (fX3_add w x4) (fun _ u_3 => lt_ (x3 + 1) (fun x3_4 => k9 x1 x2 x3_4 u_3))
def fX4_pickValues_9  : Nat → Int32 → Int32 → Int32 → St → Option (Unit × St)
  | 0, _, _, _, _ => none
  | n9 + 1, x1, x2, x3, w => bnd (fX1_count w) (fun r_2 u_3 => (if r_2 ≤ x3 then some ((), u_3) else bnd (fX1_valueAt u_3 x3) (fun r_6 u_7 => gd (okI x3 60) ((if (u_7.2.1 14 x3.toNatClampNeg) = x1 then (if r_6 = (-1) then lt_ (x3 + 1) (fun x3_12 => fX4_pickValues_9 n9 x1 x2 x3_12 u_7) else (if x2 = 0 then fX4_pickValues_66 (fX4_pickValues_9 n9) x1 x2 x3 r_6 u_7 else bnd (fX3_haveEqual u_7 r_6) (fun r_15 u_16 => (if r_15 = 0 then fX4_pickValues_66 (fX4_pickValues_9 n9) x1 x2 x3 r_6 u_16 else lt_ (x3 + 1) (fun x3_18 => fX4_pickValues_9 n9 x1 x2 x3_18 u_16))))) else lt_ (x3 + 1) (fun x3_10 => fX4_pickValues_9 n9 x1 x2 x3_10 u_7))))))
def fX4_pickValues (u : St) (a1 : Int32) (a2 : Int32) : Option (Unit × St) := bnd (fX3_clear u) (fun _ u_3 => fX4_pickValues_9 FU a1 a2 0 u_3)
abbrev rmX4_pickValues : Room := { frames := 3, cells := 0, slots := 0, locals := 68 }
set_option maxHeartbeats 4000000 in
set_option maxRecDepth 100000 in
theorem k_X4_pickValues (l : Launch) (ad : Nat → Nat) (ck : Nat → ClassId) (D : va_G) (tt : Nat) {u : St} {a1 : Int32} {a2 : Int32} {u' : St} (hf : fX4_pickValues u a1 a2 = some ((), u')) : MV l yX4_pickValues wsX4_pickValues rmX4_pickValues (wA ad ck) ck D tt [.ref (ad 0), .int a1, .int a2] u u' := by
  intro sz
  refine Met.ofW (cc := cX4_pickValues) (maxL := 5) (ret := none) (by decide) rfl ?_
  intro p e s m args below meth c s₁ B hml hv
  obtain ⟨rfl, hsz, C⟩ := cx_entry hv
  have hx := B.exec
  have hb := B.bytes
  have hr := B.returns
  have hts := atoms_spec (ws := wsX4_pickValues) B.pre
  have hown : s.vm.findClass RX4 = some m.cls := findClass_of_methodNamed B.named
  have hlocks := B.notSynchronized
  have J9 : ∀ (n9 : Nat) (x1 : Int32) (x2 : Int32) (x3 : Int32) (w : St) (H : Heap) (locs : List Loc) (ls : Array Slot), fX4_pickValues_9 n9 x1 x2 x3 w = some ((), u') → CX (wA ad ck) ck D tt (va_A (wA ad ck u) sz) s w H locs → lv_has ls 5 [(0, .ref (ad 0)), (1, .int x1), (2, .int x2), (3, .int x3)] → W p l e (headSpec wsX4_pickValues rmX4_pickValues).room s m ([.ref (ad 0), .int a1, .int a2] : List Value).toArray below meth c H locs 0 0 (MQ below (QV (wA ad ck) D u sz u') ([.ref (ad 0), .int a1, .int a2] : List Value).toArray s 0 0 (va_A (wA ad ck u) sz)) (F0 m 9 ls []) := by
    intro n9
    induction n9 with
    | zero =>
      intro x1 x2 x3 w H locs ls hf
      have hf : (none : Option (Unit × St)) = some ((), u') := hf
      cases hf
    | succ n9 ih9 =>
      intro x1 x2 x3 w H locs ls hf C hl
      rw [fX4_pickValues_9] at hf
      have J66 : ∀ (x1 : Int32) (x2 : Int32) (x3 : Int32) (x4 : Int32) (w : St) (H : Heap) (locs : List Loc) (ls : Array Slot), fX4_pickValues_66 (fX4_pickValues_9 n9) x1 x2 x3 x4 w = some ((), u') → CX (wA ad ck) ck D tt (va_A (wA ad ck u) sz) s w H locs → lv_has ls 5 [(0, .ref (ad 0)), (1, .int x1), (2, .int x2), (3, .int x3), (4, .int x4)] → W p l e (headSpec wsX4_pickValues rmX4_pickValues).room s m ([.ref (ad 0), .int a1, .int a2] : List Value).toArray below meth c H locs 0 0 (MQ below (QV (wA ad ck) D u sz u') ([.ref (ad 0), .int a1, .int a2] : List Value).toArray s 0 0 (va_A (wA ad ck u) sz)) (F0 m 66 ls []) := by
        intro x1 x2 x3 x4 w H locs ls hf C hl
        unfold fX4_pickValues_66 at hf
        refine lv_aload_n hx hb dX4_pickValues_66 rfl (lv_at hl 0 rfl) ?_
        refine cx_get C hx hb (T := TX4) (N := 8) hts (by decide +kernel) hown 0 rfl rfl 3 (by decide) (hts (.fieldLink RX4 33 "AggregateRows" "values" "LAggregateRows$Values;") (by decide +kernel)) (fun _ h9 => h9) (v := .ref (ad 20)) rfl dX4_pickValues_67 ?_
        refine lv_iload hx hb dX4_pickValues_70 (lv_at hl 4 rfl) ?_
        obtain ⟨_, u_3, h_1, hf⟩ := bnd_some hf
        refine cx_callv C (va_runV (As := [.int x4]) (rest := []) ⟨hx, hb, hml, hown, hts⟩ (k_X3_add l ad ck D tt h_1 _) (cwV 1 hts gX4_pickValues_X3_add rfl rfl rfl (by decide +kernel) ⟨Nat.le_of_ble_eq_true rfl, Nat.le_of_ble_eq_true rfl⟩) (cx_preV C (q0 := 20) (ci := 3) rfl rfl) rfl rfl hl.1 rfl (lv_room (Nat.le_of_ble_eq_true rfl)) dX4_pickValues_72 ⟨Nat.zero_le _, Nat.zero_le _⟩) (fun H locs C => ?_)
        obtain ⟨x3_4, ex3_4⟩ : ∃ y : Int32, y = x3 + 1 := ⟨_, rfl⟩
        replace hf := lt_at hf ex3_4
        refine lv_iinc (v := x3_4) (lv' := [(3, .int x3_4), (0, .ref (ad 0)), (1, .int x1), (2, .int x2), (4, .int x4)]) hx hb dX4_pickValues_75 hl (k := 3) rfl (by rw [ex3_4]; rfl) (by decide) rfl (fun ls hl => ?_)
        refine lv_goto (tgt := 9) hx hb dX4_pickValues_78 (by decide) ?_
        exact ih9 x1 x2 x3_4 u_3 _ _ _ hf C (lv_sub hl [1, 2, 3, 0] rfl)
      refine lv_iload_n hx hb dX4_pickValues_9 rfl (lv_at hl 3 rfl) ?_
      refine lv_aload_n hx hb dX4_pickValues_10 rfl (lv_at hl 0 rfl) ?_
      refine cx_get C hx hb (T := TX4) (N := 8) hts (by decide +kernel) hown 0 rfl rfl 1 (by decide) (hts (.fieldLink RX4 19 "AggregateRows" "table" "LAggregateRows$RowTable;") (by decide +kernel)) (fun _ h9 => h9) (v := .ref (ad 5)) rfl dX4_pickValues_11 ?_
      obtain ⟨r_6, u_7, h_5, hf⟩ := bnd_some hf
      refine cx_calli C (va_runV (As := []) (rest := [.int x3]) ⟨hx, hb, hml, hown, hts⟩ (k_X1_count l ad ck D tt h_5 _) (cwV 0 hts gX4_pickValues_X1_count rfl rfl rfl (by decide +kernel) ⟨Nat.le_of_ble_eq_true rfl, Nat.le_of_ble_eq_true rfl⟩) (cx_preV C (q0 := 5) (ci := 1) rfl rfl) rfl rfl hl.1 rfl (lv_room (Nat.le_of_ble_eq_true rfl)) dX4_pickValues_14 ⟨Nat.zero_le _, Nat.zero_le _⟩) (fun H locs C => ?_)
      refine lv_icmp_ge (tgt := 81) hx hb dX4_pickValues_17 (by decide) (fun c_8 => ?_) (fun c_8 => ?_)
      · replace hf := (if_pos c_8).symm.trans hf
        exact cx_vret C hx hb hr hlocks hf dX4_pickValues_81
      · replace hf := (if_neg c_8).symm.trans hf
        refine lv_aload_n hx hb dX4_pickValues_20 rfl (lv_at hl 0 rfl) ?_
        refine cx_get C hx hb (T := TX4) (N := 8) hts (by decide +kernel) hown 0 rfl rfl 1 (by decide) (hts (.fieldLink RX4 19 "AggregateRows" "table" "LAggregateRows$RowTable;") (by decide +kernel)) (fun _ h9 => h9) (v := .ref (ad 5)) rfl dX4_pickValues_21 ?_
        refine lv_iload_n hx hb dX4_pickValues_24 rfl (lv_at hl 3 rfl) ?_
        obtain ⟨r_10, u_11, h_9, hf⟩ := bnd_some hf
        refine cx_calli C (va_runV (As := [.int x3]) (rest := []) ⟨hx, hb, hml, hown, hts⟩ (k_X1_valueAt l ad ck D tt h_9 _) (cwV 1 hts gX4_pickValues_X1_valueAt rfl rfl rfl (by decide +kernel) ⟨Nat.le_of_ble_eq_true rfl, Nat.le_of_ble_eq_true rfl⟩) (cx_preV C (q0 := 5) (ci := 1) rfl rfl) rfl rfl hl.1 rfl (lv_room (Nat.le_of_ble_eq_true rfl)) dX4_pickValues_25 ⟨Nat.zero_le _, Nat.zero_le _⟩) (fun H locs C => ?_)
        refine lv_istore (lv' := [(4, .int r_10), (0, .ref (ad 0)), (1, .int x1), (2, .int x2), (3, .int x3)]) hx hb dX4_pickValues_28 hl (by decide) rfl (fun ls hl => ?_)
        refine lv_aload_n hx hb dX4_pickValues_30 rfl (lv_at hl 1 rfl) ?_
        refine cx_get C hx hb (T := TX4) (N := 8) hts (by decide +kernel) hown 0 rfl rfl 4 (by decide) (hts (.fieldLink RX4 37 "AggregateRows" "groupOfRow" "[I") (by decide +kernel)) (fun _ h9 => h9) (v := .ref (ad 22)) rfl dX4_pickValues_31 ?_
        refine lv_iload_n hx hb dX4_pickValues_34 rfl (lv_at hl 4 rfl) ?_
        obtain ⟨g_12, hf⟩ := gd_some hf
        refine cx_iald C hx hb 22 rfl g_12 dX4_pickValues_35 ?_
        refine lv_iload_n hx hb dX4_pickValues_36 rfl (lv_at hl 2 rfl) ?_
        refine lv_icmp_ne (tgt := 75) hx hb dX4_pickValues_37 (by decide) (fun c_13 => ?_) (fun c_13 => ?_)
        · replace hf := (if_neg c_13).symm.trans hf
          obtain ⟨x3_14, ex3_14⟩ : ∃ y : Int32, y = x3 + 1 := ⟨_, rfl⟩
          replace hf := lt_at hf ex3_14
          refine lv_iinc (v := x3_14) (lv' := [(3, .int x3_14), (4, .int r_10), (0, .ref (ad 0)), (1, .int x1), (2, .int x2)]) hx hb dX4_pickValues_75 hl (k := 4) rfl (by rw [ex3_14]; rfl) (by decide) rfl (fun ls hl => ?_)
          refine lv_goto (tgt := 9) hx hb dX4_pickValues_78 (by decide) ?_
          exact ih9 x1 x2 x3_14 u_11 _ _ _ hf C (lv_sub hl [2, 3, 4, 0] rfl)
        · replace hf := (if_pos c_13).symm.trans hf
          refine lv_iload hx hb dX4_pickValues_40 (lv_at hl 0 rfl) ?_
          refine lv_iconst (v := (-1)) hx hb dX4_pickValues_42 (by decide) ?_
          refine lv_icmp_eq (tgt := 75) hx hb dX4_pickValues_43 (by decide) (fun c_15 => ?_) (fun c_15 => ?_)
          · replace hf := (if_pos c_15).symm.trans hf
            obtain ⟨x3_16, ex3_16⟩ : ∃ y : Int32, y = x3 + 1 := ⟨_, rfl⟩
            replace hf := lt_at hf ex3_16
            refine lv_iinc (v := x3_16) (lv' := [(3, .int x3_16), (4, .int r_10), (0, .ref (ad 0)), (1, .int x1), (2, .int x2)]) hx hb dX4_pickValues_75 hl (k := 4) rfl (by rw [ex3_16]; rfl) (by decide) rfl (fun ls hl => ?_)
            refine lv_goto (tgt := 9) hx hb dX4_pickValues_78 (by decide) ?_
            exact ih9 x1 x2 x3_16 u_11 _ _ _ hf C (lv_sub hl [2, 3, 4, 0] rfl)
          · replace hf := (if_neg c_15).symm.trans hf
            refine lv_iload_n hx hb dX4_pickValues_46 rfl (lv_at hl 3 rfl) ?_
            refine lv_if_eq (tgt := 66) hx hb dX4_pickValues_47 (by decide) (fun c_17 => ?_) (fun c_17 => ?_)
            · replace hf := (if_pos c_17).symm.trans hf
              exact J66 x1 x2 x3 r_10 u_11 _ _ _ hf C (lv_sub hl [1, 2, 3, 4, 0] rfl)
            · replace hf := (if_neg c_17).symm.trans hf
              refine lv_aload_n hx hb dX4_pickValues_50 rfl (lv_at hl 1 rfl) ?_
              refine cx_get C hx hb (T := TX4) (N := 8) hts (by decide +kernel) hown 0 rfl rfl 3 (by decide) (hts (.fieldLink RX4 33 "AggregateRows" "values" "LAggregateRows$Values;") (by decide +kernel)) (fun _ h9 => h9) (v := .ref (ad 20)) rfl dX4_pickValues_51 ?_
              refine lv_aload_n hx hb dX4_pickValues_54 rfl (lv_at hl 1 rfl) ?_
              refine cx_get C hx hb (T := TX4) (N := 8) hts (by decide +kernel) hown 0 rfl rfl 0 (by decide) (hts (.fieldLink RX4 10 "AggregateRows" "terms" "LAggregateRows$Terms;") (by decide +kernel)) (fun _ h9 => h9) (v := .ref (ad 1)) rfl dX4_pickValues_55 ?_
              refine lv_iload hx hb dX4_pickValues_58 (lv_at hl 0 rfl) ?_
              obtain ⟨r_19, u_20, h_18, hf⟩ := bnd_some hf
              refine cx_calli C (va_runV (As := [.ref (ad 1), .int r_10]) (rest := []) ⟨hx, hb, hml, hown, hts⟩ (k_X3_haveEqual l ad ck D tt h_18 _) (cwV 2 hts gX4_pickValues_X3_haveEqual rfl rfl rfl (by decide +kernel) ⟨Nat.le_of_ble_eq_true rfl, Nat.le_of_ble_eq_true rfl⟩) (cx_preV C (q0 := 20) (ci := 3) rfl rfl) rfl rfl hl.1 rfl (lv_room (Nat.le_of_ble_eq_true rfl)) dX4_pickValues_60 ⟨Nat.zero_le _, Nat.zero_le _⟩) (fun H locs C => ?_)
              refine lv_if_ne (tgt := 75) hx hb dX4_pickValues_63 (by decide) (fun c_21 => ?_) (fun c_21 => ?_)
              · replace hf := (if_neg c_21).symm.trans hf
                obtain ⟨x3_22, ex3_22⟩ : ∃ y : Int32, y = x3 + 1 := ⟨_, rfl⟩
                replace hf := lt_at hf ex3_22
                refine lv_iinc (v := x3_22) (lv' := [(3, .int x3_22), (4, .int r_10), (0, .ref (ad 0)), (1, .int x1), (2, .int x2)]) hx hb dX4_pickValues_75 hl (k := 4) rfl (by rw [ex3_22]; rfl) (by decide) rfl (fun ls hl => ?_)
                refine lv_goto (tgt := 9) hx hb dX4_pickValues_78 (by decide) ?_
                exact ih9 x1 x2 x3_22 u_20 _ _ _ hf C (lv_sub hl [2, 3, 4, 0] rfl)
              · replace hf := (if_pos c_21).symm.trans hf
                exact J66 x1 x2 x3 r_10 u_20 _ _ _ hf C (lv_sub hl [1, 2, 3, 4, 0] rfl)
  have hl := lv_entry ([.ref (ad 0), .int a1, .int a2]) (n := 5) (Nat.le_of_ble_eq_true rfl)
  rw [lg_entry_eq]
  generalize (lg_sl ([.ref (ad 0), .int a1, .int a2]) ++ List.replicate (5 - (lg_sl ([.ref (ad 0), .int a1, .int a2])).length) Slot.unset).toArray = ls at hl ⊢
  have hl : lv_has ls 5 [(0, .ref (ad 0)), (1, .int a1), (2, .int a2)] := hl
  unfold fX4_pickValues at hf
  refine lv_aload_n hx hb dX4_pickValues_0 rfl (lv_at hl 0 rfl) ?_
  refine cx_get C hx hb (T := TX4) (N := 8) hts (by decide +kernel) hown 0 rfl rfl 3 (by decide) (hts (.fieldLink RX4 33 "AggregateRows" "values" "LAggregateRows$Values;") (by decide +kernel)) (fun _ h9 => h9) (v := .ref (ad 20)) rfl dX4_pickValues_1 ?_
  obtain ⟨_, u_3, h_1, hf⟩ := bnd_some hf
  refine cx_callv C (va_runV (As := []) (rest := []) ⟨hx, hb, hml, hown, hts⟩ (k_X3_clear l ad ck D tt h_1 _) (cwV 0 hts gX4_pickValues_X3_clear rfl rfl rfl (by decide +kernel) ⟨Nat.le_of_ble_eq_true rfl, Nat.le_of_ble_eq_true rfl⟩) (cx_preV C (q0 := 20) (ci := 3) rfl rfl) rfl rfl hl.1 rfl (lv_room (Nat.le_of_ble_eq_true rfl)) dX4_pickValues_4 ⟨Nat.zero_le _, Nat.zero_le _⟩) (fun H locs C => ?_)
  refine lv_iconst (v := 0) hx hb dX4_pickValues_7 (by decide) ?_
  refine lv_istore_n (lv' := [(3, .int 0), (0, .ref (ad 0)), (1, .int a1), (2, .int a2)]) hx hb dX4_pickValues_8 rfl hl (by decide) rfl (fun ls hl => ?_)
  exact J9 FU a1 a2 0 u_3 _ _ _ hf C (lv_sub hl [1, 2, 3, 0] rfl)
