/-! ===== X4_setTerm ===== -/
def fX4_setTerm_67  (x1 : Int32) (x2 : Int32) (w : St) : Option (Unit × St) := bnd (fX0_setTermOfResult w x1 x2) (fun _ u_3 => some ((), u_3))
def fX4_setTerm (u : St) (a1 : Int32) (a2 : Int32) : Option (Unit × St) := (if a2 = (-1) then some ((), u) else bnd (fX2_isText u a2) (fun r_3 u_4 => (if r_3 = 0 then bnd (fX2_thousandths u_4 a2) (fun r_7 u_8 => bnd (fX0_setNumber u_8 a1 r_7 1000) (fun _ u_11 => fX4_setTerm_67 a1 a2 u_11)) else bnd (fX0_beginText u_4 a1) (fun _ u_14 => bnd (fX2_write u_14 a2) (fun _ u_17 => bnd (fX0_endText u_17 a1) (fun _ u_20 => fX4_setTerm_67 a1 a2 u_20))))))
abbrev rmX4_setTerm : Room := { frames := 3, cells := 0, slots := 0, locals := 80 }
set_option maxHeartbeats 4000000 in
set_option maxRecDepth 100000 in
theorem k_X4_setTerm (l : Launch) (ad : Nat → Nat) (ck : Nat → ClassId) (D : va_G) (tt : Nat) {u : St} {a1 : Int32} {a2 : Int32} {u' : St} (hf : fX4_setTerm u a1 a2 = some ((), u')) : MV l yX4_setTerm wsX4_setTerm rmX4_setTerm (wA ad ck) ck D tt [.ref (ad 0), .int a1, .int a2] u u' := by
  intro sz
  refine Met.ofW (cc := cX4_setTerm) (maxL := 3) (ret := none) (by decide) rfl ?_
  intro p e s m args below meth c s₁ B hml hv
  obtain ⟨rfl, hsz, C⟩ := cx_entry hv
  have hx := B.exec
  have hb := B.bytes
  have hr := B.returns
  have hts := atoms_spec (ws := wsX4_setTerm) B.pre
  have hown : s.vm.findClass RX4 = some m.cls := findClass_of_methodNamed B.named
  have hlocks := B.notSynchronized
  have J67 : ∀ (x1 : Int32) (x2 : Int32) (w : St) (H : Heap) (locs : List Loc) (ls : Array Slot), fX4_setTerm_67 x1 x2 w = some ((), u') → CX (wA ad ck) ck D tt (va_A (wA ad ck u) sz) s w H locs → lv_has ls 3 [(0, .ref (ad 0)), (1, .int x1), (2, .int x2)] → W p l e (headSpec wsX4_setTerm rmX4_setTerm).room s m ([.ref (ad 0), .int a1, .int a2] : List Value).toArray below meth c H locs 0 0 (MQ below (QV (wA ad ck) D u sz u') ([.ref (ad 0), .int a1, .int a2] : List Value).toArray s 0 0 (va_A (wA ad ck u) sz)) (F0 m 67 ls []) := by
    intro x1 x2 w H locs ls hf C hl
    unfold fX4_setTerm_67 at hf
    refine lv_aload_n hx hb dX4_setTerm_67 rfl (lv_at hl 0 rfl) ?_
    refine cx_get C hx hb (T := TX4) (N := 8) hts (by decide +kernel) hown 0 rfl rfl 2 (by decide) (hts (.fieldLink RX4 26 "AggregateRows" "results" "LAggregateRows$Results;") (by decide +kernel)) (fun _ h9 => h9) (v := .ref (ad 9)) rfl dX4_setTerm_68 ?_
    refine lv_iload_n hx hb dX4_setTerm_71 rfl (lv_at hl 1 rfl) ?_
    refine lv_iload_n hx hb dX4_setTerm_72 rfl (lv_at hl 2 rfl) ?_
    obtain ⟨_, u_3, h_1, hf⟩ := bnd_some hf
    refine cx_callv C (va_runV (As := [.int x1, .int x2]) (rest := []) ⟨hx, hb, hml, hown, hts⟩ (k_X0_setTermOfResult l ad ck D tt h_1 _) (cwV 2 hts gX4_setTerm_X0_setTermOfResult rfl rfl rfl (by decide +kernel) ⟨Nat.le_of_ble_eq_true rfl, Nat.le_of_ble_eq_true rfl⟩) (cx_preV C (q0 := 9) (ci := 0) rfl rfl) rfl rfl hl.1 rfl (lv_room (Nat.le_of_ble_eq_true rfl)) dX4_setTerm_73 ⟨Nat.zero_le _, Nat.zero_le _⟩) (fun H locs C => ?_)
    exact cx_vret C hx hb hr hlocks hf dX4_setTerm_76
  have hl := lv_entry ([.ref (ad 0), .int a1, .int a2]) (n := 3) (Nat.le_of_ble_eq_true rfl)
  rw [lg_entry_eq]
  generalize (lg_sl ([.ref (ad 0), .int a1, .int a2]) ++ List.replicate (3 - (lg_sl ([.ref (ad 0), .int a1, .int a2])).length) Slot.unset).toArray = ls at hl ⊢
  have hl : lv_has ls 3 [(0, .ref (ad 0)), (1, .int a1), (2, .int a2)] := hl
  unfold fX4_setTerm at hf
  refine lv_iload_n hx hb dX4_setTerm_0 rfl (lv_at hl 2 rfl) ?_
  refine lv_iconst (v := (-1)) hx hb dX4_setTerm_1 (by decide) ?_
  refine lv_icmp_ne (tgt := 6) hx hb dX4_setTerm_2 (by decide) (fun c_1 => ?_) (fun c_1 => ?_)
  · replace hf := (if_neg c_1).symm.trans hf
    refine lv_aload_n hx hb dX4_setTerm_6 rfl (lv_at hl 0 rfl) ?_
    refine cx_get C hx hb (T := TX4) (N := 8) hts (by decide +kernel) hown 0 rfl rfl 0 (by decide) (hts (.fieldLink RX4 10 "AggregateRows" "terms" "LAggregateRows$Terms;") (by decide +kernel)) (fun _ h9 => h9) (v := .ref (ad 1)) rfl dX4_setTerm_7 ?_
    refine lv_iload_n hx hb dX4_setTerm_10 rfl (lv_at hl 2 rfl) ?_
    obtain ⟨r_3, u_4, h_2, hf⟩ := bnd_some hf
    refine cx_calli C (va_runV (As := [.int a2]) (rest := []) ⟨hx, hb, hml, hown, hts⟩ (k_X2_isText l ad ck D tt h_2 _) (cwV 1 hts gX4_setTerm_X2_isText rfl rfl rfl (by decide +kernel) ⟨Nat.le_of_ble_eq_true rfl, Nat.le_of_ble_eq_true rfl⟩) (cx_preV C (q0 := 1) (ci := 2) rfl rfl) rfl rfl hl.1 rfl (lv_room (Nat.le_of_ble_eq_true rfl)) dX4_setTerm_11 ⟨Nat.zero_le _, Nat.zero_le _⟩) (fun H locs C => ?_)
    refine lv_if_eq (tgt := 48) hx hb dX4_setTerm_14 (by decide) (fun c_5 => ?_) (fun c_5 => ?_)
    · replace hf := (if_pos c_5).symm.trans hf
      refine lv_aload_n hx hb dX4_setTerm_48 rfl (lv_at hl 0 rfl) ?_
      refine cx_get C hx hb (T := TX4) (N := 8) hts (by decide +kernel) hown 0 rfl rfl 2 (by decide) (hts (.fieldLink RX4 26 "AggregateRows" "results" "LAggregateRows$Results;") (by decide +kernel)) (fun _ h9 => h9) (v := .ref (ad 9)) rfl dX4_setTerm_49 ?_
      refine lv_iload_n hx hb dX4_setTerm_52 rfl (lv_at hl 1 rfl) ?_
      refine lv_aload_n hx hb dX4_setTerm_53 rfl (lv_at hl 0 rfl) ?_
      refine cx_get C hx hb (T := TX4) (N := 8) hts (by decide +kernel) hown 0 rfl rfl 0 (by decide) (hts (.fieldLink RX4 10 "AggregateRows" "terms" "LAggregateRows$Terms;") (by decide +kernel)) (fun _ h9 => h9) (v := .ref (ad 1)) rfl dX4_setTerm_54 ?_
      refine lv_iload_n hx hb dX4_setTerm_57 rfl (lv_at hl 2 rfl) ?_
      obtain ⟨r_7, u_8, h_6, hf⟩ := bnd_some hf
      refine cx_calll C (va_runV (As := [.int a2]) (rest := [.int a1, .ref (ad 9)]) ⟨hx, hb, hml, hown, hts⟩ (k_X2_thousandths l ad ck D tt h_6 _) (cwV 1 hts gX4_setTerm_X2_thousandths rfl rfl rfl (by decide +kernel) ⟨Nat.le_of_ble_eq_true rfl, Nat.le_of_ble_eq_true rfl⟩) (cx_preV C (q0 := 1) (ci := 2) rfl rfl) rfl rfl hl.1 rfl (lv_room (Nat.le_of_ble_eq_true rfl)) dX4_setTerm_58 ⟨Nat.zero_le _, Nat.zero_le _⟩) (fun H locs C => ?_)
      refine lv_ldc2 (v := 1000) hx hb hown (hts (.constantLong RX4 223 (1000)) (by decide +kernel)) dX4_setTerm_61 ?_
      obtain ⟨_, u_11, h_9, hf⟩ := bnd_some hf
      refine cx_callv C (va_runV (As := [.int a1, .long r_7, .long 1000]) (rest := []) ⟨hx, hb, hml, hown, hts⟩ (k_X0_setNumber l ad ck D tt h_9 _) (cwV 3 hts gX4_setTerm_X0_setNumber rfl rfl rfl (by decide +kernel) ⟨Nat.le_of_ble_eq_true rfl, Nat.le_of_ble_eq_true rfl⟩) (cx_preV C (q0 := 9) (ci := 0) rfl rfl) rfl rfl hl.1 rfl (lv_room (Nat.le_of_ble_eq_true rfl)) dX4_setTerm_64 ⟨Nat.zero_le _, Nat.zero_le _⟩) (fun H locs C => ?_)
      exact J67 a1 a2 u_11 _ _ _ hf C (lv_sub hl [0, 1, 2] rfl)
    · replace hf := (if_neg c_5).symm.trans hf
      refine lv_aload_n hx hb dX4_setTerm_17 rfl (lv_at hl 0 rfl) ?_
      refine cx_get C hx hb (T := TX4) (N := 8) hts (by decide +kernel) hown 0 rfl rfl 2 (by decide) (hts (.fieldLink RX4 26 "AggregateRows" "results" "LAggregateRows$Results;") (by decide +kernel)) (fun _ h9 => h9) (v := .ref (ad 9)) rfl dX4_setTerm_18 ?_
      refine lv_iload_n hx hb dX4_setTerm_21 rfl (lv_at hl 1 rfl) ?_
      obtain ⟨_, u_14, h_12, hf⟩ := bnd_some hf
      refine cx_callv C (va_runV (As := [.int a1]) (rest := []) ⟨hx, hb, hml, hown, hts⟩ (k_X0_beginText l ad ck D tt h_12 _) (cwV 1 hts gX4_setTerm_X0_beginText rfl rfl rfl (by decide +kernel) ⟨Nat.le_of_ble_eq_true rfl, Nat.le_of_ble_eq_true rfl⟩) (cx_preV C (q0 := 9) (ci := 0) rfl rfl) rfl rfl hl.1 rfl (lv_room (Nat.le_of_ble_eq_true rfl)) dX4_setTerm_22 ⟨Nat.zero_le _, Nat.zero_le _⟩) (fun H locs C => ?_)
      refine lv_aload_n hx hb dX4_setTerm_25 rfl (lv_at hl 0 rfl) ?_
      refine cx_get C hx hb (T := TX4) (N := 8) hts (by decide +kernel) hown 0 rfl rfl 0 (by decide) (hts (.fieldLink RX4 10 "AggregateRows" "terms" "LAggregateRows$Terms;") (by decide +kernel)) (fun _ h9 => h9) (v := .ref (ad 1)) rfl dX4_setTerm_26 ?_
      refine lv_iload_n hx hb dX4_setTerm_29 rfl (lv_at hl 2 rfl) ?_
      refine lv_aload_n hx hb dX4_setTerm_30 rfl (lv_at hl 0 rfl) ?_
      refine cx_get C hx hb (T := TX4) (N := 8) hts (by decide +kernel) hown 0 rfl rfl 2 (by decide) (hts (.fieldLink RX4 26 "AggregateRows" "results" "LAggregateRows$Results;") (by decide +kernel)) (fun _ h9 => h9) (v := .ref (ad 9)) rfl dX4_setTerm_31 ?_
      obtain ⟨_, u_17, h_15, hf⟩ := bnd_some hf
      refine cx_callv C (va_runV (As := [.int a2, .ref (ad 9)]) (rest := []) ⟨hx, hb, hml, hown, hts⟩ (k_X2_write l ad ck D tt h_15 _) (cwV 2 hts gX4_setTerm_X2_write rfl rfl rfl (by decide +kernel) ⟨Nat.le_of_ble_eq_true rfl, Nat.le_of_ble_eq_true rfl⟩) (cx_preV C (q0 := 1) (ci := 2) rfl rfl) rfl rfl hl.1 rfl (lv_room (Nat.le_of_ble_eq_true rfl)) dX4_setTerm_34 ⟨Nat.zero_le _, Nat.zero_le _⟩) (fun H locs C => ?_)
      refine lv_aload_n hx hb dX4_setTerm_37 rfl (lv_at hl 0 rfl) ?_
      refine cx_get C hx hb (T := TX4) (N := 8) hts (by decide +kernel) hown 0 rfl rfl 2 (by decide) (hts (.fieldLink RX4 26 "AggregateRows" "results" "LAggregateRows$Results;") (by decide +kernel)) (fun _ h9 => h9) (v := .ref (ad 9)) rfl dX4_setTerm_38 ?_
      refine lv_iload_n hx hb dX4_setTerm_41 rfl (lv_at hl 1 rfl) ?_
      obtain ⟨_, u_20, h_18, hf⟩ := bnd_some hf
      refine cx_callv C (va_runV (As := [.int a1]) (rest := []) ⟨hx, hb, hml, hown, hts⟩ (k_X0_endText l ad ck D tt h_18 _) (cwV 1 hts gX4_setTerm_X0_endText rfl rfl rfl (by decide +kernel) ⟨Nat.le_of_ble_eq_true rfl, Nat.le_of_ble_eq_true rfl⟩) (cx_preV C (q0 := 9) (ci := 0) rfl rfl) rfl rfl hl.1 rfl (lv_room (Nat.le_of_ble_eq_true rfl)) dX4_setTerm_42 ⟨Nat.zero_le _, Nat.zero_le _⟩) (fun H locs C => ?_)
      refine lv_goto (tgt := 67) hx hb dX4_setTerm_45 (by decide) ?_
      exact J67 a1 a2 u_20 _ _ _ hf C (lv_sub hl [0, 1, 2] rfl)
  · replace hf := (if_pos c_1).symm.trans hf
    exact cx_vret C hx hb hr hlocks hf dX4_setTerm_5
/-! ===== X4_join ===== -/
def fX4_join_82  (x1 : Int32) (w : St) : Option (Unit × St) := bnd (fX0_openLength w x1) (fun r_2 u_3 => (if r_2 ≤ 80 then bnd (fX0_endText u_3 x1) (fun _ u_7 => some ((), u_7)) else bnd (fX0_setError u_3 x1 2) (fun _ u_10 => some ((), u_10))))
def fX4_join_57 (k10 : Int32 → Int32 → St → Option (Unit × St)) (x1 : Int32) (x2 : Int32) (w : St) : Option (Unit × St) := bnd (fX3_at w x2) (fun r_2 u_3 => bnd (fX2_write u_3 r_2) (fun _ u_6 => lt_ (x2 + 1) (fun x2_7 => k10 x1 x2_7 u_6)))
def fX4_join_10  : Nat → Int32 → Int32 → St → Option (Unit × St)
  | 0, _, _, _ => none
  | n10 + 1, x1, x2, w => bnd (fX3_count w) (fun r_2 u_3 => (if r_2 ≤ x2 then fX4_join_82 x1 u_3 else bnd (fX0_openLength u_3 x1) (fun r_6 u_7 => (if 80 < r_6 then fX4_join_82 x1 u_7 else (if x2 ≤ 0 then fX4_join_57 (fX4_join_10 n10) x1 x2 u_7 else (if (u_7.1 1) = 0 then fX4_join_57 (fX4_join_10 n10) x1 x2 u_7 else bnd (fX0_put u_7 (i2c_ (u_7.1 1))) (fun _ u_13 => fX4_join_57 (fX4_join_10 n10) x1 x2 u_13)))))))
def fX4_join (u : St) (a1 : Int32) : Option (Unit × St) := bnd (fX0_beginText u a1) (fun _ u_3 => fX4_join_10 FU a1 0 u_3)
abbrev rmX4_join : Room := { frames := 3, cells := 0, slots := 0, locals := 71 }
set_option maxHeartbeats 4000000 in
set_option maxRecDepth 100000 in
theorem k_X4_join (l : Launch) (ad : Nat → Nat) (ck : Nat → ClassId) (D : va_G) (tt : Nat) {u : St} {a1 : Int32} {u' : St} (hf : fX4_join u a1 = some ((), u')) : MV l yX4_join wsX4_join rmX4_join (wA ad ck) ck D tt [.ref (ad 0), .int a1] u u' := by
  intro sz
  refine Met.ofW (cc := cX4_join) (maxL := 3) (ret := none) (by decide) rfl ?_
  intro p e s m args below meth c s₁ B hml hv
  obtain ⟨rfl, hsz, C⟩ := cx_entry hv
  have hx := B.exec
  have hb := B.bytes
  have hr := B.returns
  have hts := atoms_spec (ws := wsX4_join) B.pre
  have hown : s.vm.findClass RX4 = some m.cls := findClass_of_methodNamed B.named
  have hlocks := B.notSynchronized
  have J82 : ∀ (x1 : Int32) (w : St) (H : Heap) (locs : List Loc) (ls : Array Slot), fX4_join_82 x1 w = some ((), u') → CX (wA ad ck) ck D tt (va_A (wA ad ck u) sz) s w H locs → lv_has ls 3 [(0, .ref (ad 0)), (1, .int x1)] → W p l e (headSpec wsX4_join rmX4_join).room s m ([.ref (ad 0), .int a1] : List Value).toArray below meth c H locs 0 0 (MQ below (QV (wA ad ck) D u sz u') ([.ref (ad 0), .int a1] : List Value).toArray s 0 0 (va_A (wA ad ck u) sz)) (F0 m 82 ls []) := by
    intro x1 w H locs ls hf C hl
    unfold fX4_join_82 at hf
    refine lv_aload_n hx hb dX4_join_82 rfl (lv_at hl 0 rfl) ?_
    refine cx_get C hx hb (T := TX4) (N := 8) hts (by decide +kernel) hown 0 rfl rfl 2 (by decide) (hts (.fieldLink RX4 26 "AggregateRows" "results" "LAggregateRows$Results;") (by decide +kernel)) (fun _ h9 => h9) (v := .ref (ad 9)) rfl dX4_join_83 ?_
    refine lv_iload_n hx hb dX4_join_86 rfl (lv_at hl 1 rfl) ?_
    obtain ⟨r_2, u_3, h_1, hf⟩ := bnd_some hf
    refine cx_calli C (va_runV (As := [.int x1]) (rest := []) ⟨hx, hb, hml, hown, hts⟩ (k_X0_openLength l ad ck D tt h_1 _) (cwV 1 hts gX4_join_X0_openLength rfl rfl rfl (by decide +kernel) ⟨Nat.le_of_ble_eq_true rfl, Nat.le_of_ble_eq_true rfl⟩) (cx_preV C (q0 := 9) (ci := 0) rfl rfl) rfl rfl hl.1 rfl (lv_room (Nat.le_of_ble_eq_true rfl)) dX4_join_87 ⟨Nat.zero_le _, Nat.zero_le _⟩) (fun H locs C => ?_)
    refine lv_bipush (v := 80) hx hb dX4_join_90 (by decide) ?_
    refine lv_icmp_le (tgt := 107) hx hb dX4_join_92 (by decide) (fun c_4 => ?_) (fun c_4 => ?_)
    · replace hf := (if_pos c_4).symm.trans hf
      refine lv_aload_n hx hb dX4_join_107 rfl (lv_at hl 0 rfl) ?_
      refine cx_get C hx hb (T := TX4) (N := 8) hts (by decide +kernel) hown 0 rfl rfl 2 (by decide) (hts (.fieldLink RX4 26 "AggregateRows" "results" "LAggregateRows$Results;") (by decide +kernel)) (fun _ h9 => h9) (v := .ref (ad 9)) rfl dX4_join_108 ?_
      refine lv_iload_n hx hb dX4_join_111 rfl (lv_at hl 1 rfl) ?_
      obtain ⟨_, u_7, h_5, hf⟩ := bnd_some hf
      refine cx_callv C (va_runV (As := [.int x1]) (rest := []) ⟨hx, hb, hml, hown, hts⟩ (k_X0_endText l ad ck D tt h_5 _) (cwV 1 hts gX4_join_X0_endText rfl rfl rfl (by decide +kernel) ⟨Nat.le_of_ble_eq_true rfl, Nat.le_of_ble_eq_true rfl⟩) (cx_preV C (q0 := 9) (ci := 0) rfl rfl) rfl rfl hl.1 rfl (lv_room (Nat.le_of_ble_eq_true rfl)) dX4_join_112 ⟨Nat.zero_le _, Nat.zero_le _⟩) (fun H locs C => ?_)
      exact cx_vret C hx hb hr hlocks hf dX4_join_115
    · replace hf := (if_neg c_4).symm.trans hf
      refine lv_aload_n hx hb dX4_join_95 rfl (lv_at hl 0 rfl) ?_
      refine cx_get C hx hb (T := TX4) (N := 8) hts (by decide +kernel) hown 0 rfl rfl 2 (by decide) (hts (.fieldLink RX4 26 "AggregateRows" "results" "LAggregateRows$Results;") (by decide +kernel)) (fun _ h9 => h9) (v := .ref (ad 9)) rfl dX4_join_96 ?_
      refine lv_iload_n hx hb dX4_join_99 rfl (lv_at hl 1 rfl) ?_
      refine lv_iconst (v := 2) hx hb dX4_join_100 (by decide) ?_
      obtain ⟨_, u_10, h_8, hf⟩ := bnd_some hf
      refine cx_callv C (va_runV (As := [.int x1, .int 2]) (rest := []) ⟨hx, hb, hml, hown, hts⟩ (k_X0_setError l ad ck D tt h_8 _) (cwV 2 hts gX4_join_X0_setError rfl rfl rfl (by decide +kernel) ⟨Nat.le_of_ble_eq_true rfl, Nat.le_of_ble_eq_true rfl⟩) (cx_preV C (q0 := 9) (ci := 0) rfl rfl) rfl rfl hl.1 rfl (lv_room (Nat.le_of_ble_eq_true rfl)) dX4_join_101 ⟨Nat.zero_le _, Nat.zero_le _⟩) (fun H locs C => ?_)
      refine lv_goto (tgt := 115) hx hb dX4_join_104 (by decide) ?_
      exact cx_vret C hx hb hr hlocks hf dX4_join_115
  have J10 : ∀ (n10 : Nat) (x1 : Int32) (x2 : Int32) (w : St) (H : Heap) (locs : List Loc) (ls : Array Slot), fX4_join_10 n10 x1 x2 w = some ((), u') → CX (wA ad ck) ck D tt (va_A (wA ad ck u) sz) s w H locs → lv_has ls 3 [(0, .ref (ad 0)), (1, .int x1), (2, .int x2)] → W p l e (headSpec wsX4_join rmX4_join).room s m ([.ref (ad 0), .int a1] : List Value).toArray below meth c H locs 0 0 (MQ below (QV (wA ad ck) D u sz u') ([.ref (ad 0), .int a1] : List Value).toArray s 0 0 (va_A (wA ad ck u) sz)) (F0 m 10 ls []) := by
    intro n10
    induction n10 with
    | zero =>
      intro x1 x2 w H locs ls hf
      have hf : (none : Option (Unit × St)) = some ((), u') := hf
      cases hf
    | succ n10 ih10 =>
      intro x1 x2 w H locs ls hf C hl
      rw [fX4_join_10] at hf
      have J57 : ∀ (x1 : Int32) (x2 : Int32) (w : St) (H : Heap) (locs : List Loc) (ls : Array Slot), fX4_join_57 (fX4_join_10 n10) x1 x2 w = some ((), u') → CX (wA ad ck) ck D tt (va_A (wA ad ck u) sz) s w H locs → lv_has ls 3 [(0, .ref (ad 0)), (1, .int x1), (2, .int x2)] → W p l e (headSpec wsX4_join rmX4_join).room s m ([.ref (ad 0), .int a1] : List Value).toArray below meth c H locs 0 0 (MQ below (QV (wA ad ck) D u sz u') ([.ref (ad 0), .int a1] : List Value).toArray s 0 0 (va_A (wA ad ck u) sz)) (F0 m 57 ls []) := by
        intro x1 x2 w H locs ls hf C hl
        unfold fX4_join_57 at hf
        refine lv_aload_n hx hb dX4_join_57 rfl (lv_at hl 0 rfl) ?_
        refine cx_get C hx hb (T := TX4) (N := 8) hts (by decide +kernel) hown 0 rfl rfl 0 (by decide) (hts (.fieldLink RX4 10 "AggregateRows" "terms" "LAggregateRows$Terms;") (by decide +kernel)) (fun _ h9 => h9) (v := .ref (ad 1)) rfl dX4_join_58 ?_
        refine lv_aload_n hx hb dX4_join_61 rfl (lv_at hl 0 rfl) ?_
        refine cx_get C hx hb (T := TX4) (N := 8) hts (by decide +kernel) hown 0 rfl rfl 3 (by decide) (hts (.fieldLink RX4 33 "AggregateRows" "values" "LAggregateRows$Values;") (by decide +kernel)) (fun _ h9 => h9) (v := .ref (ad 20)) rfl dX4_join_62 ?_
        refine lv_iload_n hx hb dX4_join_65 rfl (lv_at hl 2 rfl) ?_
        obtain ⟨r_2, u_3, h_1, hf⟩ := bnd_some hf
        refine cx_calli C (va_runV (As := [.int x2]) (rest := [.ref (ad 1)]) ⟨hx, hb, hml, hown, hts⟩ (k_X3_at l ad ck D tt h_1 _) (cwV 1 hts gX4_join_X3_at rfl rfl rfl (by decide +kernel) ⟨Nat.le_of_ble_eq_true rfl, Nat.le_of_ble_eq_true rfl⟩) (cx_preV C (q0 := 20) (ci := 3) rfl rfl) rfl rfl hl.1 rfl (lv_room (Nat.le_of_ble_eq_true rfl)) dX4_join_66 ⟨Nat.zero_le _, Nat.zero_le _⟩) (fun H locs C => ?_)
        refine lv_aload_n hx hb dX4_join_69 rfl (lv_at hl 0 rfl) ?_
        refine cx_get C hx hb (T := TX4) (N := 8) hts (by decide +kernel) hown 0 rfl rfl 2 (by decide) (hts (.fieldLink RX4 26 "AggregateRows" "results" "LAggregateRows$Results;") (by decide +kernel)) (fun _ h9 => h9) (v := .ref (ad 9)) rfl dX4_join_70 ?_
        obtain ⟨_, u_6, h_4, hf⟩ := bnd_some hf
        refine cx_callv C (va_runV (As := [.int r_2, .ref (ad 9)]) (rest := []) ⟨hx, hb, hml, hown, hts⟩ (k_X2_write l ad ck D tt h_4 _) (cwV 2 hts gX4_join_X2_write rfl rfl rfl (by decide +kernel) ⟨Nat.le_of_ble_eq_true rfl, Nat.le_of_ble_eq_true rfl⟩) (cx_preV C (q0 := 1) (ci := 2) rfl rfl) rfl rfl hl.1 rfl (lv_room (Nat.le_of_ble_eq_true rfl)) dX4_join_73 ⟨Nat.zero_le _, Nat.zero_le _⟩) (fun H locs C => ?_)
        obtain ⟨x2_7, ex2_7⟩ : ∃ y : Int32, y = x2 + 1 := ⟨_, rfl⟩
        replace hf := lt_at hf ex2_7
        refine lv_iinc (v := x2_7) (lv' := [(2, .int x2_7), (0, .ref (ad 0)), (1, .int x1)]) hx hb dX4_join_76 hl (k := 2) rfl (by rw [ex2_7]; rfl) (by decide) rfl (fun ls hl => ?_)
        refine lv_goto (tgt := 10) hx hb dX4_join_79 (by decide) ?_
        exact ih10 x1 x2_7 u_6 _ _ _ hf C (lv_sub hl [1, 2, 0] rfl)
      refine lv_iload_n hx hb dX4_join_10 rfl (lv_at hl 2 rfl) ?_
      refine lv_aload_n hx hb dX4_join_11 rfl (lv_at hl 0 rfl) ?_
      refine cx_get C hx hb (T := TX4) (N := 8) hts (by decide +kernel) hown 0 rfl rfl 3 (by decide) (hts (.fieldLink RX4 33 "AggregateRows" "values" "LAggregateRows$Values;") (by decide +kernel)) (fun _ h9 => h9) (v := .ref (ad 20)) rfl dX4_join_12 ?_
      obtain ⟨r_9, u_10, h_8, hf⟩ := bnd_some hf
      refine cx_calli C (va_runV (As := []) (rest := [.int x2]) ⟨hx, hb, hml, hown, hts⟩ (k_X3_count l ad ck D tt h_8 _) (cwV 0 hts gX4_join_X3_count rfl rfl rfl (by decide +kernel) ⟨Nat.le_of_ble_eq_true rfl, Nat.le_of_ble_eq_true rfl⟩) (cx_preV C (q0 := 20) (ci := 3) rfl rfl) rfl rfl hl.1 rfl (lv_room (Nat.le_of_ble_eq_true rfl)) dX4_join_15 ⟨Nat.zero_le _, Nat.zero_le _⟩) (fun H locs C => ?_)
      refine lv_icmp_ge (tgt := 82) hx hb dX4_join_18 (by decide) (fun c_11 => ?_) (fun c_11 => ?_)
      · replace hf := (if_pos c_11).symm.trans hf
        exact J82 x1 u_10 _ _ _ hf C (lv_sub hl [0, 1] rfl)
      · replace hf := (if_neg c_11).symm.trans hf
        refine lv_aload_n hx hb dX4_join_21 rfl (lv_at hl 0 rfl) ?_
        refine cx_get C hx hb (T := TX4) (N := 8) hts (by decide +kernel) hown 0 rfl rfl 2 (by decide) (hts (.fieldLink RX4 26 "AggregateRows" "results" "LAggregateRows$Results;") (by decide +kernel)) (fun _ h9 => h9) (v := .ref (ad 9)) rfl dX4_join_22 ?_
        refine lv_iload_n hx hb dX4_join_25 rfl (lv_at hl 1 rfl) ?_
        obtain ⟨r_13, u_14, h_12, hf⟩ := bnd_some hf
        refine cx_calli C (va_runV (As := [.int x1]) (rest := []) ⟨hx, hb, hml, hown, hts⟩ (k_X0_openLength l ad ck D tt h_12 _) (cwV 1 hts gX4_join_X0_openLength rfl rfl rfl (by decide +kernel) ⟨Nat.le_of_ble_eq_true rfl, Nat.le_of_ble_eq_true rfl⟩) (cx_preV C (q0 := 9) (ci := 0) rfl rfl) rfl rfl hl.1 rfl (lv_room (Nat.le_of_ble_eq_true rfl)) dX4_join_26 ⟨Nat.zero_le _, Nat.zero_le _⟩) (fun H locs C => ?_)
        refine lv_bipush (v := 80) hx hb dX4_join_29 (by decide) ?_
        refine lv_icmp_gt (tgt := 82) hx hb dX4_join_31 (by decide) (fun c_15 => ?_) (fun c_15 => ?_)
        · replace hf := (if_pos c_15).symm.trans hf
          exact J82 x1 u_14 _ _ _ hf C (lv_sub hl [0, 1] rfl)
        · replace hf := (if_neg c_15).symm.trans hf
          refine lv_iload_n hx hb dX4_join_34 rfl (lv_at hl 2 rfl) ?_
          refine lv_if_le (tgt := 57) hx hb dX4_join_35 (by decide) (fun c_16 => ?_) (fun c_16 => ?_)
          · replace hf := (if_pos c_16).symm.trans hf
            exact J57 x1 x2 u_14 _ _ _ hf C (lv_sub hl [0, 1, 2] rfl)
          · replace hf := (if_neg c_16).symm.trans hf
            refine lv_aload_n hx hb dX4_join_38 rfl (lv_at hl 0 rfl) ?_
            refine cx_get C hx hb (T := TX4) (N := 8) hts (by decide +kernel) hown 0 rfl rfl 6 (by decide) (hts (.fieldLink RX4 45 "AggregateRows" "between" "I") (by decide +kernel)) (fun _ h9 => h9) (v := .int (u_14.1 1)) rfl dX4_join_39 ?_
            refine lv_if_eq (tgt := 57) hx hb dX4_join_42 (by decide) (fun c_17 => ?_) (fun c_17 => ?_)
            · replace hf := (if_pos c_17).symm.trans hf
              exact J57 x1 x2 u_14 _ _ _ hf C (lv_sub hl [0, 1, 2] rfl)
            · replace hf := (if_neg c_17).symm.trans hf
              refine lv_aload_n hx hb dX4_join_45 rfl (lv_at hl 0 rfl) ?_
              refine cx_get C hx hb (T := TX4) (N := 8) hts (by decide +kernel) hown 0 rfl rfl 2 (by decide) (hts (.fieldLink RX4 26 "AggregateRows" "results" "LAggregateRows$Results;") (by decide +kernel)) (fun _ h9 => h9) (v := .ref (ad 9)) rfl dX4_join_46 ?_
              refine lv_aload_n hx hb dX4_join_49 rfl (lv_at hl 0 rfl) ?_
              refine cx_get C hx hb (T := TX4) (N := 8) hts (by decide +kernel) hown 0 rfl rfl 6 (by decide) (hts (.fieldLink RX4 45 "AggregateRows" "between" "I") (by decide +kernel)) (fun _ h9 => h9) (v := .int (u_14.1 1)) rfl dX4_join_50 ?_
              refine lv_i2c (v := i2c_ (u_14.1 1)) hx hb dX4_join_53 rfl ?_
              obtain ⟨_, u_20, h_18, hf⟩ := bnd_some hf
              refine cx_callv C (va_runV (As := [.int (i2c_ (u_14.1 1))]) (rest := []) ⟨hx, hb, hml, hown, hts⟩ (k_X0_put l ad ck D tt h_18 _) (cwV 1 hts gX4_join_X0_put rfl rfl rfl (by decide +kernel) ⟨Nat.le_of_ble_eq_true rfl, Nat.le_of_ble_eq_true rfl⟩) (cx_preV C (q0 := 9) (ci := 0) rfl rfl) rfl rfl hl.1 rfl (lv_room (Nat.le_of_ble_eq_true rfl)) dX4_join_54 ⟨Nat.zero_le _, Nat.zero_le _⟩) (fun H locs C => ?_)
              exact J57 x1 x2 u_20 _ _ _ hf C (lv_sub hl [0, 1, 2] rfl)
  have hl := lv_entry ([.ref (ad 0), .int a1]) (n := 3) (Nat.le_of_ble_eq_true rfl)
  rw [lg_entry_eq]
  generalize (lg_sl ([.ref (ad 0), .int a1]) ++ List.replicate (3 - (lg_sl ([.ref (ad 0), .int a1])).length) Slot.unset).toArray = ls at hl ⊢
  have hl : lv_has ls 3 [(0, .ref (ad 0)), (1, .int a1)] := hl
  unfold fX4_join at hf
  refine lv_aload_n hx hb dX4_join_0 rfl (lv_at hl 0 rfl) ?_
  refine cx_get C hx hb (T := TX4) (N := 8) hts (by decide +kernel) hown 0 rfl rfl 2 (by decide) (hts (.fieldLink RX4 26 "AggregateRows" "results" "LAggregateRows$Results;") (by decide +kernel)) (fun _ h9 => h9) (v := .ref (ad 9)) rfl dX4_join_1 ?_
  refine lv_iload_n hx hb dX4_join_4 rfl (lv_at hl 1 rfl) ?_
  obtain ⟨_, u_3, h_1, hf⟩ := bnd_some hf
  refine cx_callv C (va_runV (As := [.int a1]) (rest := []) ⟨hx, hb, hml, hown, hts⟩ (k_X0_beginText l ad ck D tt h_1 _) (cwV 1 hts gX4_join_X0_beginText rfl rfl rfl (by decide +kernel) ⟨Nat.le_of_ble_eq_true rfl, Nat.le_of_ble_eq_true rfl⟩) (cx_preV C (q0 := 9) (ci := 0) rfl rfl) rfl rfl hl.1 rfl (lv_room (Nat.le_of_ble_eq_true rfl)) dX4_join_5 ⟨Nat.zero_le _, Nat.zero_le _⟩) (fun H locs C => ?_)
  refine lv_iconst (v := 0) hx hb dX4_join_8 (by decide) ?_
  refine lv_istore_n (lv' := [(2, .int 0), (0, .ref (ad 0)), (1, .int a1)]) hx hb dX4_join_9 rfl hl (by decide) rfl (fun ls hl => ?_)
  exact J10 FU a1 0 u_3 _ _ _ hf C (lv_sub hl [1, 2, 0] rfl)
/-! ===== X4_reckonShare ===== -/
def fX4_reckonShare (u : St) (a1 : Int32) : Option (Unit × St) := bnd (fX3_count u) (fun r_2 u_3 => (if r_2 = 0 then bnd (fX0_setError u_3 a1 3) (fun _ u_16 => some ((), u_16)) else bnd (fX3_sumAboveZero u_3) (fun r_6 u_7 => bnd (fX3_count u_7) (fun r_9 u_10 => bnd (fX0_setNumber u_10 a1 r_6 (1000 * (r_9.toInt64))) (fun _ u_13 => some ((), u_13))))))
abbrev rmX4_reckonShare : Room := { frames := 3, cells := 0, slots := 0, locals := 80 }
set_option maxHeartbeats 4000000 in
set_option maxRecDepth 100000 in
theorem k_X4_reckonShare (l : Launch) (ad : Nat → Nat) (ck : Nat → ClassId) (D : va_G) (tt : Nat) {u : St} {a1 : Int32} {u' : St} (hf : fX4_reckonShare u a1 = some ((), u')) : MV l yX4_reckonShare wsX4_reckonShare rmX4_reckonShare (wA ad ck) ck D tt [.ref (ad 0), .int a1] u u' := by
  intro sz
  refine Met.ofW (cc := cX4_reckonShare) (maxL := 2) (ret := none) (by decide) rfl ?_
  intro p e s m args below meth c s₁ B hml hv
  obtain ⟨rfl, hsz, C⟩ := cx_entry hv
  have hx := B.exec
  have hb := B.bytes
  have hr := B.returns
  have hts := atoms_spec (ws := wsX4_reckonShare) B.pre
  have hown : s.vm.findClass RX4 = some m.cls := findClass_of_methodNamed B.named
  have hlocks := B.notSynchronized
  have hl := lv_entry ([.ref (ad 0), .int a1]) (n := 2) (Nat.le_of_ble_eq_true rfl)
  rw [lg_entry_eq]
  generalize (lg_sl ([.ref (ad 0), .int a1]) ++ List.replicate (2 - (lg_sl ([.ref (ad 0), .int a1])).length) Slot.unset).toArray = ls at hl ⊢
  have hl : lv_has ls 2 [(0, .ref (ad 0)), (1, .int a1)] := hl
  unfold fX4_reckonShare at hf
  refine lv_aload_n hx hb dX4_reckonShare_0 rfl (lv_at hl 0 rfl) ?_
  refine cx_get C hx hb (T := TX4) (N := 8) hts (by decide +kernel) hown 0 rfl rfl 3 (by decide) (hts (.fieldLink RX4 33 "AggregateRows" "values" "LAggregateRows$Values;") (by decide +kernel)) (fun _ h9 => h9) (v := .ref (ad 20)) rfl dX4_reckonShare_1 ?_
  obtain ⟨r_2, u_3, h_1, hf⟩ := bnd_some hf
  refine cx_calli C (va_runV (As := []) (rest := []) ⟨hx, hb, hml, hown, hts⟩ (k_X3_count l ad ck D tt h_1 _) (cwV 0 hts gX4_reckonShare_X3_count rfl rfl rfl (by decide +kernel) ⟨Nat.le_of_ble_eq_true rfl, Nat.le_of_ble_eq_true rfl⟩) (cx_preV C (q0 := 20) (ci := 3) rfl rfl) rfl rfl hl.1 rfl (lv_room (Nat.le_of_ble_eq_true rfl)) dX4_reckonShare_4 ⟨Nat.zero_le _, Nat.zero_le _⟩) (fun H locs C => ?_)
  refine lv_if_ne (tgt := 22) hx hb dX4_reckonShare_7 (by decide) (fun c_4 => ?_) (fun c_4 => ?_)
  · replace hf := (if_neg c_4).symm.trans hf
    refine lv_aload_n hx hb dX4_reckonShare_22 rfl (lv_at hl 0 rfl) ?_
    refine cx_get C hx hb (T := TX4) (N := 8) hts (by decide +kernel) hown 0 rfl rfl 2 (by decide) (hts (.fieldLink RX4 26 "AggregateRows" "results" "LAggregateRows$Results;") (by decide +kernel)) (fun _ h9 => h9) (v := .ref (ad 9)) rfl dX4_reckonShare_23 ?_
    refine lv_iload_n hx hb dX4_reckonShare_26 rfl (lv_at hl 1 rfl) ?_
    refine lv_aload_n hx hb dX4_reckonShare_27 rfl (lv_at hl 0 rfl) ?_
    refine cx_get C hx hb (T := TX4) (N := 8) hts (by decide +kernel) hown 0 rfl rfl 3 (by decide) (hts (.fieldLink RX4 33 "AggregateRows" "values" "LAggregateRows$Values;") (by decide +kernel)) (fun _ h9 => h9) (v := .ref (ad 20)) rfl dX4_reckonShare_28 ?_
    refine lv_aload_n hx hb dX4_reckonShare_31 rfl (lv_at hl 0 rfl) ?_
    refine cx_get C hx hb (T := TX4) (N := 8) hts (by decide +kernel) hown 0 rfl rfl 0 (by decide) (hts (.fieldLink RX4 10 "AggregateRows" "terms" "LAggregateRows$Terms;") (by decide +kernel)) (fun _ h9 => h9) (v := .ref (ad 1)) rfl dX4_reckonShare_32 ?_
    obtain ⟨r_6, u_7, h_5, hf⟩ := bnd_some hf
    refine cx_calll C (va_runV (As := [.ref (ad 1)]) (rest := [.int a1, .ref (ad 9)]) ⟨hx, hb, hml, hown, hts⟩ (k_X3_sumAboveZero l ad ck D tt h_5 _) (cwV 1 hts gX4_reckonShare_X3_sumAboveZero rfl rfl rfl (by decide +kernel) ⟨Nat.le_of_ble_eq_true rfl, Nat.le_of_ble_eq_true rfl⟩) (cx_preV C (q0 := 20) (ci := 3) rfl rfl) rfl rfl hl.1 rfl (lv_room (Nat.le_of_ble_eq_true rfl)) dX4_reckonShare_35 ⟨Nat.zero_le _, Nat.zero_le _⟩) (fun H locs C => ?_)
    refine lv_ldc2 (v := 1000) hx hb hown (hts (.constantLong RX4 223 (1000)) (by decide +kernel)) dX4_reckonShare_38 ?_
    refine lv_aload_n hx hb dX4_reckonShare_41 rfl (lv_at hl 0 rfl) ?_
    refine cx_get C hx hb (T := TX4) (N := 8) hts (by decide +kernel) hown 0 rfl rfl 3 (by decide) (hts (.fieldLink RX4 33 "AggregateRows" "values" "LAggregateRows$Values;") (by decide +kernel)) (fun _ h9 => h9) (v := .ref (ad 20)) rfl dX4_reckonShare_42 ?_
    obtain ⟨r_9, u_10, h_8, hf⟩ := bnd_some hf
    refine cx_calli C (va_runV (As := []) (rest := [.long 1000, .long r_6, .int a1, .ref (ad 9)]) ⟨hx, hb, hml, hown, hts⟩ (k_X3_count l ad ck D tt h_8 _) (cwV 0 hts gX4_reckonShare_X3_count rfl rfl rfl (by decide +kernel) ⟨Nat.le_of_ble_eq_true rfl, Nat.le_of_ble_eq_true rfl⟩) (cx_preV C (q0 := 20) (ci := 3) rfl rfl) rfl rfl hl.1 rfl (lv_room (Nat.le_of_ble_eq_true rfl)) dX4_reckonShare_45 ⟨Nat.zero_le _, Nat.zero_le _⟩) (fun H locs C => ?_)
    refine lv_i2l hx hb dX4_reckonShare_48 rfl ?_
    refine lv_lmul hx hb dX4_reckonShare_49 ?_
    obtain ⟨_, u_13, h_11, hf⟩ := bnd_some hf
    refine cx_callv C (va_runV (As := [.int a1, .long r_6, .long (1000 * (r_9.toInt64))]) (rest := []) ⟨hx, hb, hml, hown, hts⟩ (k_X0_setNumber l ad ck D tt h_11 _) (cwV 3 hts gX4_reckonShare_X0_setNumber rfl rfl rfl (by decide +kernel) ⟨Nat.le_of_ble_eq_true rfl, Nat.le_of_ble_eq_true rfl⟩) (cx_preV C (q0 := 9) (ci := 0) rfl rfl) rfl rfl hl.1 rfl (lv_room (Nat.le_of_ble_eq_true rfl)) dX4_reckonShare_50 ⟨Nat.zero_le _, Nat.zero_le _⟩) (fun H locs C => ?_)
    exact cx_vret C hx hb hr hlocks hf dX4_reckonShare_53
  · replace hf := (if_pos c_4).symm.trans hf
    refine lv_aload_n hx hb dX4_reckonShare_10 rfl (lv_at hl 0 rfl) ?_
    refine cx_get C hx hb (T := TX4) (N := 8) hts (by decide +kernel) hown 0 rfl rfl 2 (by decide) (hts (.fieldLink RX4 26 "AggregateRows" "results" "LAggregateRows$Results;") (by decide +kernel)) (fun _ h9 => h9) (v := .ref (ad 9)) rfl dX4_reckonShare_11 ?_
    refine lv_iload_n hx hb dX4_reckonShare_14 rfl (lv_at hl 1 rfl) ?_
    refine lv_iconst (v := 3) hx hb dX4_reckonShare_15 (by decide) ?_
    obtain ⟨_, u_16, h_14, hf⟩ := bnd_some hf
    refine cx_callv C (va_runV (As := [.int a1, .int 3]) (rest := []) ⟨hx, hb, hml, hown, hts⟩ (k_X0_setError l ad ck D tt h_14 _) (cwV 2 hts gX4_reckonShare_X0_setError rfl rfl rfl (by decide +kernel) ⟨Nat.le_of_ble_eq_true rfl, Nat.le_of_ble_eq_true rfl⟩) (cx_preV C (q0 := 9) (ci := 0) rfl rfl) rfl rfl hl.1 rfl (lv_room (Nat.le_of_ble_eq_true rfl)) dX4_reckonShare_16 ⟨Nat.zero_le _, Nat.zero_le _⟩) (fun H locs C => ?_)
    refine lv_goto (tgt := 53) hx hb dX4_reckonShare_19 (by decide) ?_
    exact cx_vret C hx hb hr hlocks hf dX4_reckonShare_53
/-! ===== X4_reckonOwn ===== -/
def fX4_reckonOwn (u : St) (a1 : Int32) : Option (Unit × St) := lt_ (u.1 2) (fun sw => if sw = 0 then bnd (fX3_span u) (fun r_3 u_4 => bnd (fX0_setNumber u_4 a1 r_3 1000) (fun _ u_7 => some ((), u_7))) else if sw = 1 then bnd (fX3_middle u) (fun r_10 u_11 => bnd (fX4_setTerm u_11 a1 r_10) (fun _ u_14 => some ((), u_14))) else bnd (fX4_reckonShare u a1) (fun _ u_17 => some ((), u_17)))
abbrev rmX4_reckonOwn : Room := { frames := 4, cells := 0, slots := 0, locals := 102 }
set_option maxHeartbeats 4000000 in
set_option maxRecDepth 100000 in
theorem k_X4_reckonOwn (l : Launch) (ad : Nat → Nat) (ck : Nat → ClassId) (D : va_G) (tt : Nat) {u : St} {a1 : Int32} {u' : St} (hf : fX4_reckonOwn u a1 = some ((), u')) : MV l yX4_reckonOwn wsX4_reckonOwn rmX4_reckonOwn (wA ad ck) ck D tt [.ref (ad 0), .int a1] u u' := by
  intro sz
  refine Met.ofW (cc := cX4_reckonOwn) (maxL := 2) (ret := none) (by decide) rfl ?_
  intro p e s m args below meth c s₁ B hml hv
  obtain ⟨rfl, hsz, C⟩ := cx_entry hv
  have hx := B.exec
  have hb := B.bytes
  have hr := B.returns
  have hts := atoms_spec (ws := wsX4_reckonOwn) B.pre
  have hown : s.vm.findClass RX4 = some m.cls := findClass_of_methodNamed B.named
  have hlocks := B.notSynchronized
  have hl := lv_entry ([.ref (ad 0), .int a1]) (n := 2) (Nat.le_of_ble_eq_true rfl)
  rw [lg_entry_eq]
  generalize (lg_sl ([.ref (ad 0), .int a1]) ++ List.replicate (2 - (lg_sl ([.ref (ad 0), .int a1])).length) Slot.unset).toArray = ls at hl ⊢
  have hl : lv_has ls 2 [(0, .ref (ad 0)), (1, .int a1)] := hl
  unfold fX4_reckonOwn at hf
  refine lv_aload_n hx hb dX4_reckonOwn_0 rfl (lv_at hl 0 rfl) ?_
  refine cx_get C hx hb (T := TX4) (N := 8) hts (by decide +kernel) hown 0 rfl rfl 7 (by decide) (hts (.fieldLink RX4 48 "AggregateRows" "ownType" "I") (by decide +kernel)) (fun _ h9 => h9) (v := .int (u.1 2)) rfl dX4_reckonOwn_1 ?_
  obtain ⟨sw, esw⟩ : ∃ z : Int32, z = (u.1 2) := ⟨_, rfl⟩
  rw [← esw]
  replace hf := lt_at hf esw
  by_cases c_1 : sw = 0
  · replace hf := (if_pos c_1).symm.trans hf
    subst c_1
    refine lv_lookup (tgt := 32) hx hb dX4_reckonOwn_4 (by decide) (by rfl) (by decide) ?_
    refine lv_aload_n hx hb dX4_reckonOwn_32 rfl (lv_at hl 0 rfl) ?_
    refine cx_get C hx hb (T := TX4) (N := 8) hts (by decide +kernel) hown 0 rfl rfl 2 (by decide) (hts (.fieldLink RX4 26 "AggregateRows" "results" "LAggregateRows$Results;") (by decide +kernel)) (fun _ h9 => h9) (v := .ref (ad 9)) rfl dX4_reckonOwn_33 ?_
    refine lv_iload_n hx hb dX4_reckonOwn_36 rfl (lv_at hl 1 rfl) ?_
    refine lv_aload_n hx hb dX4_reckonOwn_37 rfl (lv_at hl 0 rfl) ?_
    refine cx_get C hx hb (T := TX4) (N := 8) hts (by decide +kernel) hown 0 rfl rfl 3 (by decide) (hts (.fieldLink RX4 33 "AggregateRows" "values" "LAggregateRows$Values;") (by decide +kernel)) (fun _ h9 => h9) (v := .ref (ad 20)) rfl dX4_reckonOwn_38 ?_
    refine lv_aload_n hx hb dX4_reckonOwn_41 rfl (lv_at hl 0 rfl) ?_
    refine cx_get C hx hb (T := TX4) (N := 8) hts (by decide +kernel) hown 0 rfl rfl 0 (by decide) (hts (.fieldLink RX4 10 "AggregateRows" "terms" "LAggregateRows$Terms;") (by decide +kernel)) (fun _ h9 => h9) (v := .ref (ad 1)) rfl dX4_reckonOwn_42 ?_
    obtain ⟨r_3, u_4, h_2, hf⟩ := bnd_some hf
    refine cx_calll C (va_runV (As := [.ref (ad 1)]) (rest := [.int a1, .ref (ad 9)]) ⟨hx, hb, hml, hown, hts⟩ (k_X3_span l ad ck D tt h_2 _) (cwV 1 hts gX4_reckonOwn_X3_span rfl rfl rfl (by decide +kernel) ⟨Nat.le_of_ble_eq_true rfl, Nat.le_of_ble_eq_true rfl⟩) (cx_preV C (q0 := 20) (ci := 3) rfl rfl) rfl rfl hl.1 rfl (lv_room (Nat.le_of_ble_eq_true rfl)) dX4_reckonOwn_45 ⟨Nat.zero_le _, Nat.zero_le _⟩) (fun H locs C => ?_)
    refine lv_ldc2 (v := 1000) hx hb hown (hts (.constantLong RX4 223 (1000)) (by decide +kernel)) dX4_reckonOwn_48 ?_
    obtain ⟨_, u_7, h_5, hf⟩ := bnd_some hf
    refine cx_callv C (va_runV (As := [.int a1, .long r_3, .long 1000]) (rest := []) ⟨hx, hb, hml, hown, hts⟩ (k_X0_setNumber l ad ck D tt h_5 _) (cwV 3 hts gX4_reckonOwn_X0_setNumber rfl rfl rfl (by decide +kernel) ⟨Nat.le_of_ble_eq_true rfl, Nat.le_of_ble_eq_true rfl⟩) (cx_preV C (q0 := 9) (ci := 0) rfl rfl) rfl rfl hl.1 rfl (lv_room (Nat.le_of_ble_eq_true rfl)) dX4_reckonOwn_51 ⟨Nat.zero_le _, Nat.zero_le _⟩) (fun H locs C => ?_)
    refine lv_goto (tgt := 81) hx hb dX4_reckonOwn_54 (by decide) ?_
    exact cx_vret C hx hb hr hlocks hf dX4_reckonOwn_81
  replace hf := (if_neg c_1).symm.trans hf
  by_cases c_8 : sw = 1
  · replace hf := (if_pos c_8).symm.trans hf
    subst c_8
    refine lv_lookup (tgt := 57) hx hb dX4_reckonOwn_4 (by decide) (by rfl) (by decide) ?_
    refine lv_aload_n hx hb dX4_reckonOwn_57 rfl (lv_at hl 0 rfl) ?_
    refine lv_iload_n hx hb dX4_reckonOwn_58 rfl (lv_at hl 1 rfl) ?_
    refine lv_aload_n hx hb dX4_reckonOwn_59 rfl (lv_at hl 0 rfl) ?_
    refine cx_get C hx hb (T := TX4) (N := 8) hts (by decide +kernel) hown 0 rfl rfl 3 (by decide) (hts (.fieldLink RX4 33 "AggregateRows" "values" "LAggregateRows$Values;") (by decide +kernel)) (fun _ h9 => h9) (v := .ref (ad 20)) rfl dX4_reckonOwn_60 ?_
    refine lv_aload_n hx hb dX4_reckonOwn_63 rfl (lv_at hl 0 rfl) ?_
    refine cx_get C hx hb (T := TX4) (N := 8) hts (by decide +kernel) hown 0 rfl rfl 0 (by decide) (hts (.fieldLink RX4 10 "AggregateRows" "terms" "LAggregateRows$Terms;") (by decide +kernel)) (fun _ h9 => h9) (v := .ref (ad 1)) rfl dX4_reckonOwn_64 ?_
    obtain ⟨r_10, u_11, h_9, hf⟩ := bnd_some hf
    refine cx_calli C (va_runV (As := [.ref (ad 1)]) (rest := [.int a1, .ref (ad 0)]) ⟨hx, hb, hml, hown, hts⟩ (k_X3_middle l ad ck D tt h_9 _) (cwV 1 hts gX4_reckonOwn_X3_middle rfl rfl rfl (by decide +kernel) ⟨Nat.le_of_ble_eq_true rfl, Nat.le_of_ble_eq_true rfl⟩) (cx_preV C (q0 := 20) (ci := 3) rfl rfl) rfl rfl hl.1 rfl (lv_room (Nat.le_of_ble_eq_true rfl)) dX4_reckonOwn_67 ⟨Nat.zero_le _, Nat.zero_le _⟩) (fun H locs C => ?_)
    obtain ⟨_, u_14, h_12, hf⟩ := bnd_some hf
    refine cx_callv C (va_runV (As := [.int a1, .int r_10]) (rest := []) ⟨hx, hb, hml, hown, hts⟩ (k_X4_setTerm l ad ck D tt h_12 _) (cwV 2 hts gX4_reckonOwn_X4_setTerm rfl rfl rfl (by decide +kernel) ⟨Nat.le_of_ble_eq_true rfl, Nat.le_of_ble_eq_true rfl⟩) (cx_preV C (q0 := 0) (ci := 4) rfl rfl) rfl rfl hl.1 rfl (lv_room (Nat.le_of_ble_eq_true rfl)) dX4_reckonOwn_70 ⟨Nat.zero_le _, Nat.zero_le _⟩) (fun H locs C => ?_)
    refine lv_goto (tgt := 81) hx hb dX4_reckonOwn_73 (by decide) ?_
    exact cx_vret C hx hb hr hlocks hf dX4_reckonOwn_81
  replace hf := (if_neg c_8).symm.trans hf
  refine lv_lookup (off := 72) (tgt := 76) hx hb dX4_reckonOwn_4 (by decide) (by rw [lv_osw c_1 (by decide)]; rw [lv_osw c_8 (by decide)]; rfl) (by decide) ?_
  refine lv_aload_n hx hb dX4_reckonOwn_76 rfl (lv_at hl 0 rfl) ?_
  refine lv_iload_n hx hb dX4_reckonOwn_77 rfl (lv_at hl 1 rfl) ?_
  obtain ⟨_, u_17, h_15, hf⟩ := bnd_some hf
  refine cx_callv C (va_runV (As := [.int a1]) (rest := []) ⟨hx, hb, hml, hown, hts⟩ (k_X4_reckonShare l ad ck D tt h_15 _) (cwV 1 hts gX4_reckonOwn_X4_reckonShare rfl rfl rfl (by decide +kernel) ⟨Nat.le_of_ble_eq_true rfl, Nat.le_of_ble_eq_true rfl⟩) (cx_preV C (q0 := 0) (ci := 4) rfl rfl) rfl rfl hl.1 rfl (lv_room (Nat.le_of_ble_eq_true rfl)) dX4_reckonOwn_78 ⟨Nat.zero_le _, Nat.zero_le _⟩) (fun H locs C => ?_)
  exact cx_vret C hx hb hr hlocks hf dX4_reckonOwn_81
/-! ===== X4_reckon ===== -/
def fX4_reckon_50  (x1 : Int32) (x2 : Int32) (w : St) : Option (Unit × St) := lt_ x2 (fun sw => if sw = 0 then bnd (fX3_count w) (fun r_3 u_4 => bnd (fX0_setNumber u_4 x1 (r_3.toInt64) 1) (fun _ u_7 => some ((), u_7))) else if sw = 1 then bnd (fX3_sum w) (fun r_10 u_11 => bnd (fX0_setNumber u_11 x1 r_10 1000) (fun _ u_14 => some ((), u_14))) else if sw = 2 then bnd (fX3_sum w) (fun r_17 u_18 => bnd (fX3_count u_18) (fun r_20 u_21 => lt_ (if 1 < r_20 then r_20 else 1) (fun z_22 => bnd (fX0_setNumber u_21 x1 r_17 (1000 * (z_22.toInt64))) (fun _ u_25 => some ((), u_25))))) else if sw = 3 then bnd (fX3_least w) (fun r_28 u_29 => bnd (fX4_setTerm u_29 x1 r_28) (fun _ u_32 => some ((), u_32))) else if sw = 4 then bnd (fX3_greatest w) (fun r_35 u_36 => bnd (fX4_setTerm u_36 x1 r_35) (fun _ u_39 => some ((), u_39))) else if sw = 5 then bnd (fX3_first w) (fun r_42 u_43 => bnd (fX4_setTerm u_43 x1 r_42) (fun _ u_46 => some ((), u_46))) else if sw = 6 then bnd (fX4_join w x1) (fun _ u_50 => some ((), u_50)) else bnd (fX4_reckonOwn w x1) (fun _ u_53 => some ((), u_53)))
def fX4_reckon_21  (x1 : Int32) (x2 : Int32) (y0 : Int32) (w : St) : Option (Unit × St) := (if y0 = 0 then fX4_reckon_50 x1 x2 w else bnd (fX3_haveText w) (fun r_3 u_4 => (if r_3 = 0 then fX4_reckon_50 x1 x2 u_4 else bnd (fX0_setError u_4 x1 1) (fun _ u_8 => some ((), u_8)))))
def fX4_reckon (u : St) (a1 : Int32) (a2 : Int32) : Option (Unit × St) := (if a2 = 1 then fX4_reckon_21 a1 a2 1 u else (if a2 = 2 then fX4_reckon_21 a1 a2 1 u else (if a2 = 7 then fX4_reckon_21 a1 a2 1 u else fX4_reckon_21 a1 a2 0 u)))
abbrev rmX4_reckon : Room := { frames := 5, cells := 0, slots := 0, locals := 123 }
set_option maxHeartbeats 4000000 in
set_option maxRecDepth 100000 in
theorem k_X4_reckon (l : Launch) (ad : Nat → Nat) (ck : Nat → ClassId) (D : va_G) (tt : Nat) {u : St} {a1 : Int32} {a2 : Int32} {u' : St} (hf : fX4_reckon u a1 a2 = some ((), u')) : MV l yX4_reckon wsX4_reckon rmX4_reckon (wA ad ck) ck D tt [.ref (ad 0), .int a1, .int a2] u u' := by
  intro sz
  refine Met.ofW (cc := cX4_reckon) (maxL := 4) (ret := none) (by decide) rfl ?_
  intro p e s m args below meth c s₁ B hml hv
  obtain ⟨rfl, hsz, C⟩ := cx_entry hv
  have hx := B.exec
  have hb := B.bytes
  have hr := B.returns
  have hts := atoms_spec (ws := wsX4_reckon) B.pre
  have hown : s.vm.findClass RX4 = some m.cls := findClass_of_methodNamed B.named
  have hlocks := B.notSynchronized
  have J50 : ∀ (x1 : Int32) (x2 : Int32) (w : St) (H : Heap) (locs : List Loc) (ls : Array Slot), fX4_reckon_50 x1 x2 w = some ((), u') → CX (wA ad ck) ck D tt (va_A (wA ad ck u) sz) s w H locs → lv_has ls 4 [(0, .ref (ad 0)), (1, .int x1), (2, .int x2)] → W p l e (headSpec wsX4_reckon rmX4_reckon).room s m ([.ref (ad 0), .int a1, .int a2] : List Value).toArray below meth c H locs 0 0 (MQ below (QV (wA ad ck) D u sz u') ([.ref (ad 0), .int a1, .int a2] : List Value).toArray s 0 0 (va_A (wA ad ck u) sz)) (F0 m 50 ls []) := by
    intro x1 x2 w H locs ls hf C hl
    unfold fX4_reckon_50 at hf
    refine lv_iload_n hx hb dX4_reckon_50 rfl (lv_at hl 2 rfl) ?_
    obtain ⟨sw, esw⟩ : ∃ z : Int32, z = x2 := ⟨_, rfl⟩
    rw [← esw]
    replace hf := lt_at hf esw
    by_cases c_1 : sw = 0
    · replace hf := (if_pos c_1).symm.trans hf
      subst c_1
      refine lv_tableIn (tgt := 92) hx hb dX4_reckon_51 (by decide) (by decide) (by rfl) (by decide) ?_
      refine lv_aload_n hx hb dX4_reckon_92 rfl (lv_at hl 0 rfl) ?_
      refine cx_get C hx hb (T := TX4) (N := 8) hts (by decide +kernel) hown 0 rfl rfl 2 (by decide) (hts (.fieldLink RX4 26 "AggregateRows" "results" "LAggregateRows$Results;") (by decide +kernel)) (fun _ h9 => h9) (v := .ref (ad 9)) rfl dX4_reckon_93 ?_
      refine lv_iload_n hx hb dX4_reckon_96 rfl (lv_at hl 1 rfl) ?_
      refine lv_aload_n hx hb dX4_reckon_97 rfl (lv_at hl 0 rfl) ?_
      refine cx_get C hx hb (T := TX4) (N := 8) hts (by decide +kernel) hown 0 rfl rfl 3 (by decide) (hts (.fieldLink RX4 33 "AggregateRows" "values" "LAggregateRows$Values;") (by decide +kernel)) (fun _ h9 => h9) (v := .ref (ad 20)) rfl dX4_reckon_98 ?_
      obtain ⟨r_3, u_4, h_2, hf⟩ := bnd_some hf
      refine cx_calli C (va_runV (As := []) (rest := [.int x1, .ref (ad 9)]) ⟨hx, hb, hml, hown, hts⟩ (k_X3_count l ad ck D tt h_2 _) (cwV 0 hts gX4_reckon_X3_count rfl rfl rfl (by decide +kernel) ⟨Nat.le_of_ble_eq_true rfl, Nat.le_of_ble_eq_true rfl⟩) (cx_preV C (q0 := 20) (ci := 3) rfl rfl) rfl rfl hl.1 rfl (lv_room (Nat.le_of_ble_eq_true rfl)) dX4_reckon_101 ⟨Nat.zero_le _, Nat.zero_le _⟩) (fun H locs C => ?_)
      refine lv_i2l hx hb dX4_reckon_104 rfl ?_
      refine lv_lconst (v := 1) hx hb dX4_reckon_105 (by decide) ?_
      obtain ⟨_, u_7, h_5, hf⟩ := bnd_some hf
      refine cx_callv C (va_runV (As := [.int x1, .long (r_3.toInt64), .long 1]) (rest := []) ⟨hx, hb, hml, hown, hts⟩ (k_X0_setNumber l ad ck D tt h_5 _) (cwV 3 hts gX4_reckon_X0_setNumber rfl rfl rfl (by decide +kernel) ⟨Nat.le_of_ble_eq_true rfl, Nat.le_of_ble_eq_true rfl⟩) (cx_preV C (q0 := 9) (ci := 0) rfl rfl) rfl rfl hl.1 rfl (lv_room (Nat.le_of_ble_eq_true rfl)) dX4_reckon_106 ⟨Nat.zero_le _, Nat.zero_le _⟩) (fun H locs C => ?_)
      refine lv_goto (tgt := 241) hx hb dX4_reckon_109 (by decide) ?_
      exact cx_vret C hx hb hr hlocks hf dX4_reckon_241
    replace hf := (if_neg c_1).symm.trans hf
    by_cases c_8 : sw = 1
    · replace hf := (if_pos c_8).symm.trans hf
      subst c_8
      refine lv_tableIn (tgt := 112) hx hb dX4_reckon_51 (by decide) (by decide) (by rfl) (by decide) ?_
      refine lv_aload_n hx hb dX4_reckon_112 rfl (lv_at hl 0 rfl) ?_
      refine cx_get C hx hb (T := TX4) (N := 8) hts (by decide +kernel) hown 0 rfl rfl 2 (by decide) (hts (.fieldLink RX4 26 "AggregateRows" "results" "LAggregateRows$Results;") (by decide +kernel)) (fun _ h9 => h9) (v := .ref (ad 9)) rfl dX4_reckon_113 ?_
      refine lv_iload_n hx hb dX4_reckon_116 rfl (lv_at hl 1 rfl) ?_
      refine lv_aload_n hx hb dX4_reckon_117 rfl (lv_at hl 0 rfl) ?_
      refine cx_get C hx hb (T := TX4) (N := 8) hts (by decide +kernel) hown 0 rfl rfl 3 (by decide) (hts (.fieldLink RX4 33 "AggregateRows" "values" "LAggregateRows$Values;") (by decide +kernel)) (fun _ h9 => h9) (v := .ref (ad 20)) rfl dX4_reckon_118 ?_
      refine lv_aload_n hx hb dX4_reckon_121 rfl (lv_at hl 0 rfl) ?_
      refine cx_get C hx hb (T := TX4) (N := 8) hts (by decide +kernel) hown 0 rfl rfl 0 (by decide) (hts (.fieldLink RX4 10 "AggregateRows" "terms" "LAggregateRows$Terms;") (by decide +kernel)) (fun _ h9 => h9) (v := .ref (ad 1)) rfl dX4_reckon_122 ?_
      obtain ⟨r_10, u_11, h_9, hf⟩ := bnd_some hf
      refine cx_calll C (va_runV (As := [.ref (ad 1)]) (rest := [.int x1, .ref (ad 9)]) ⟨hx, hb, hml, hown, hts⟩ (k_X3_sum l ad ck D tt h_9 _) (cwV 1 hts gX4_reckon_X3_sum rfl rfl rfl (by decide +kernel) ⟨Nat.le_of_ble_eq_true rfl, Nat.le_of_ble_eq_true rfl⟩) (cx_preV C (q0 := 20) (ci := 3) rfl rfl) rfl rfl hl.1 rfl (lv_room (Nat.le_of_ble_eq_true rfl)) dX4_reckon_125 ⟨Nat.zero_le _, Nat.zero_le _⟩) (fun H locs C => ?_)
      refine lv_ldc2 (v := 1000) hx hb hown (hts (.constantLong RX4 223 (1000)) (by decide +kernel)) dX4_reckon_128 ?_
      obtain ⟨_, u_14, h_12, hf⟩ := bnd_some hf
      refine cx_callv C (va_runV (As := [.int x1, .long r_10, .long 1000]) (rest := []) ⟨hx, hb, hml, hown, hts⟩ (k_X0_setNumber l ad ck D tt h_12 _) (cwV 3 hts gX4_reckon_X0_setNumber rfl rfl rfl (by decide +kernel) ⟨Nat.le_of_ble_eq_true rfl, Nat.le_of_ble_eq_true rfl⟩) (cx_preV C (q0 := 9) (ci := 0) rfl rfl) rfl rfl hl.1 rfl (lv_room (Nat.le_of_ble_eq_true rfl)) dX4_reckon_131 ⟨Nat.zero_le _, Nat.zero_le _⟩) (fun H locs C => ?_)
      refine lv_goto (tgt := 241) hx hb dX4_reckon_134 (by decide) ?_
      exact cx_vret C hx hb hr hlocks hf dX4_reckon_241
    replace hf := (if_neg c_8).symm.trans hf
    by_cases c_15 : sw = 2
    · replace hf := (if_pos c_15).symm.trans hf
      subst c_15
      refine lv_tableIn (tgt := 137) hx hb dX4_reckon_51 (by decide) (by decide) (by rfl) (by decide) ?_
      refine lv_aload_n hx hb dX4_reckon_137 rfl (lv_at hl 0 rfl) ?_
      refine cx_get C hx hb (T := TX4) (N := 8) hts (by decide +kernel) hown 0 rfl rfl 2 (by decide) (hts (.fieldLink RX4 26 "AggregateRows" "results" "LAggregateRows$Results;") (by decide +kernel)) (fun _ h9 => h9) (v := .ref (ad 9)) rfl dX4_reckon_138 ?_
      refine lv_iload_n hx hb dX4_reckon_141 rfl (lv_at hl 1 rfl) ?_
      refine lv_aload_n hx hb dX4_reckon_142 rfl (lv_at hl 0 rfl) ?_
      refine cx_get C hx hb (T := TX4) (N := 8) hts (by decide +kernel) hown 0 rfl rfl 3 (by decide) (hts (.fieldLink RX4 33 "AggregateRows" "values" "LAggregateRows$Values;") (by decide +kernel)) (fun _ h9 => h9) (v := .ref (ad 20)) rfl dX4_reckon_143 ?_
      refine lv_aload_n hx hb dX4_reckon_146 rfl (lv_at hl 0 rfl) ?_
      refine cx_get C hx hb (T := TX4) (N := 8) hts (by decide +kernel) hown 0 rfl rfl 0 (by decide) (hts (.fieldLink RX4 10 "AggregateRows" "terms" "LAggregateRows$Terms;") (by decide +kernel)) (fun _ h9 => h9) (v := .ref (ad 1)) rfl dX4_reckon_147 ?_
      obtain ⟨r_17, u_18, h_16, hf⟩ := bnd_some hf
      refine cx_calll C (va_runV (As := [.ref (ad 1)]) (rest := [.int x1, .ref (ad 9)]) ⟨hx, hb, hml, hown, hts⟩ (k_X3_sum l ad ck D tt h_16 _) (cwV 1 hts gX4_reckon_X3_sum rfl rfl rfl (by decide +kernel) ⟨Nat.le_of_ble_eq_true rfl, Nat.le_of_ble_eq_true rfl⟩) (cx_preV C (q0 := 20) (ci := 3) rfl rfl) rfl rfl hl.1 rfl (lv_room (Nat.le_of_ble_eq_true rfl)) dX4_reckon_150 ⟨Nat.zero_le _, Nat.zero_le _⟩) (fun H locs C => ?_)
      refine lv_ldc2 (v := 1000) hx hb hown (hts (.constantLong RX4 223 (1000)) (by decide +kernel)) dX4_reckon_153 ?_
      refine lv_iconst (v := 1) hx hb dX4_reckon_156 (by decide) ?_
      refine lv_aload_n hx hb dX4_reckon_157 rfl (lv_at hl 0 rfl) ?_
      refine cx_get C hx hb (T := TX4) (N := 8) hts (by decide +kernel) hown 0 rfl rfl 3 (by decide) (hts (.fieldLink RX4 33 "AggregateRows" "values" "LAggregateRows$Values;") (by decide +kernel)) (fun _ h9 => h9) (v := .ref (ad 20)) rfl dX4_reckon_158 ?_
      obtain ⟨r_20, u_21, h_19, hf⟩ := bnd_some hf
      refine cx_calli C (va_runV (As := []) (rest := [.int 1, .long 1000, .long r_17, .int x1, .ref (ad 9)]) ⟨hx, hb, hml, hown, hts⟩ (k_X3_count l ad ck D tt h_19 _) (cwV 0 hts gX4_reckon_X3_count rfl rfl rfl (by decide +kernel) ⟨Nat.le_of_ble_eq_true rfl, Nat.le_of_ble_eq_true rfl⟩) (cx_preV C (q0 := 20) (ci := 3) rfl rfl) rfl rfl hl.1 rfl (lv_room (Nat.le_of_ble_eq_true rfl)) dX4_reckon_161 ⟨Nat.zero_le _, Nat.zero_le _⟩) (fun H locs C => ?_)
      refine va_mmax hx hb (hml.trans hl.1.symm) hown (hts (.methodLink RX4 225 Lib.Math.max.name) (by decide +kernel)) (hts (.static Lib.Math.max.name) (by decide +kernel)) (hts (.initialized "java/lang/Math") (by decide +kernel)) (hts (.code Lib.Math.max.name Lib.Math.max.code 2 (some .int)) (by decide +kernel)) (Nat.le_of_ble_eq_true rfl) (Nat.le_of_ble_eq_true rfl) (Nat.zero_le _) (Nat.zero_le _) dX4_reckon_164 ?_
      refine lv_topi (fun z_22 ez_22 => ?_)
      replace hf := lt_at hf ez_22
      refine lv_i2l hx hb dX4_reckon_167 rfl ?_
      refine lv_lmul hx hb dX4_reckon_168 ?_
      obtain ⟨_, u_25, h_23, hf⟩ := bnd_some hf
      refine cx_callv C (va_runV (As := [.int x1, .long r_17, .long (1000 * (z_22.toInt64))]) (rest := []) ⟨hx, hb, hml, hown, hts⟩ (k_X0_setNumber l ad ck D tt h_23 _) (cwV 3 hts gX4_reckon_X0_setNumber rfl rfl rfl (by decide +kernel) ⟨Nat.le_of_ble_eq_true rfl, Nat.le_of_ble_eq_true rfl⟩) (cx_preV C (q0 := 9) (ci := 0) rfl rfl) rfl rfl hl.1 rfl (lv_room (Nat.le_of_ble_eq_true rfl)) dX4_reckon_169 ⟨Nat.zero_le _, Nat.zero_le _⟩) (fun H locs C => ?_)
      refine lv_goto (tgt := 241) hx hb dX4_reckon_172 (by decide) ?_
      exact cx_vret C hx hb hr hlocks hf dX4_reckon_241
    replace hf := (if_neg c_15).symm.trans hf
    by_cases c_26 : sw = 3
    · replace hf := (if_pos c_26).symm.trans hf
      subst c_26
      refine lv_tableIn (tgt := 175) hx hb dX4_reckon_51 (by decide) (by decide) (by rfl) (by decide) ?_
      refine lv_aload_n hx hb dX4_reckon_175 rfl (lv_at hl 0 rfl) ?_
      refine lv_iload_n hx hb dX4_reckon_176 rfl (lv_at hl 1 rfl) ?_
      refine lv_aload_n hx hb dX4_reckon_177 rfl (lv_at hl 0 rfl) ?_
      refine cx_get C hx hb (T := TX4) (N := 8) hts (by decide +kernel) hown 0 rfl rfl 3 (by decide) (hts (.fieldLink RX4 33 "AggregateRows" "values" "LAggregateRows$Values;") (by decide +kernel)) (fun _ h9 => h9) (v := .ref (ad 20)) rfl dX4_reckon_178 ?_
      refine lv_aload_n hx hb dX4_reckon_181 rfl (lv_at hl 0 rfl) ?_
      refine cx_get C hx hb (T := TX4) (N := 8) hts (by decide +kernel) hown 0 rfl rfl 0 (by decide) (hts (.fieldLink RX4 10 "AggregateRows" "terms" "LAggregateRows$Terms;") (by decide +kernel)) (fun _ h9 => h9) (v := .ref (ad 1)) rfl dX4_reckon_182 ?_
      obtain ⟨r_28, u_29, h_27, hf⟩ := bnd_some hf
      refine cx_calli C (va_runV (As := [.ref (ad 1)]) (rest := [.int x1, .ref (ad 0)]) ⟨hx, hb, hml, hown, hts⟩ (k_X3_least l ad ck D tt h_27 _) (cwV 1 hts gX4_reckon_X3_least rfl rfl rfl (by decide +kernel) ⟨Nat.le_of_ble_eq_true rfl, Nat.le_of_ble_eq_true rfl⟩) (cx_preV C (q0 := 20) (ci := 3) rfl rfl) rfl rfl hl.1 rfl (lv_room (Nat.le_of_ble_eq_true rfl)) dX4_reckon_185 ⟨Nat.zero_le _, Nat.zero_le _⟩) (fun H locs C => ?_)
      obtain ⟨_, u_32, h_30, hf⟩ := bnd_some hf
      refine cx_callv C (va_runV (As := [.int x1, .int r_28]) (rest := []) ⟨hx, hb, hml, hown, hts⟩ (k_X4_setTerm l ad ck D tt h_30 _) (cwV 2 hts gX4_reckon_X4_setTerm rfl rfl rfl (by decide +kernel) ⟨Nat.le_of_ble_eq_true rfl, Nat.le_of_ble_eq_true rfl⟩) (cx_preV C (q0 := 0) (ci := 4) rfl rfl) rfl rfl hl.1 rfl (lv_room (Nat.le_of_ble_eq_true rfl)) dX4_reckon_188 ⟨Nat.zero_le _, Nat.zero_le _⟩) (fun H locs C => ?_)
      refine lv_goto (tgt := 241) hx hb dX4_reckon_191 (by decide) ?_
      exact cx_vret C hx hb hr hlocks hf dX4_reckon_241
    replace hf := (if_neg c_26).symm.trans hf
    by_cases c_33 : sw = 4
    · replace hf := (if_pos c_33).symm.trans hf
      subst c_33
      refine lv_tableIn (tgt := 194) hx hb dX4_reckon_51 (by decide) (by decide) (by rfl) (by decide) ?_
      refine lv_aload_n hx hb dX4_reckon_194 rfl (lv_at hl 0 rfl) ?_
      refine lv_iload_n hx hb dX4_reckon_195 rfl (lv_at hl 1 rfl) ?_
      refine lv_aload_n hx hb dX4_reckon_196 rfl (lv_at hl 0 rfl) ?_
      refine cx_get C hx hb (T := TX4) (N := 8) hts (by decide +kernel) hown 0 rfl rfl 3 (by decide) (hts (.fieldLink RX4 33 "AggregateRows" "values" "LAggregateRows$Values;") (by decide +kernel)) (fun _ h9 => h9) (v := .ref (ad 20)) rfl dX4_reckon_197 ?_
      refine lv_aload_n hx hb dX4_reckon_200 rfl (lv_at hl 0 rfl) ?_
      refine cx_get C hx hb (T := TX4) (N := 8) hts (by decide +kernel) hown 0 rfl rfl 0 (by decide) (hts (.fieldLink RX4 10 "AggregateRows" "terms" "LAggregateRows$Terms;") (by decide +kernel)) (fun _ h9 => h9) (v := .ref (ad 1)) rfl dX4_reckon_201 ?_
      obtain ⟨r_35, u_36, h_34, hf⟩ := bnd_some hf
      refine cx_calli C (va_runV (As := [.ref (ad 1)]) (rest := [.int x1, .ref (ad 0)]) ⟨hx, hb, hml, hown, hts⟩ (k_X3_greatest l ad ck D tt h_34 _) (cwV 1 hts gX4_reckon_X3_greatest rfl rfl rfl (by decide +kernel) ⟨Nat.le_of_ble_eq_true rfl, Nat.le_of_ble_eq_true rfl⟩) (cx_preV C (q0 := 20) (ci := 3) rfl rfl) rfl rfl hl.1 rfl (lv_room (Nat.le_of_ble_eq_true rfl)) dX4_reckon_204 ⟨Nat.zero_le _, Nat.zero_le _⟩) (fun H locs C => ?_)
      obtain ⟨_, u_39, h_37, hf⟩ := bnd_some hf
      refine cx_callv C (va_runV (As := [.int x1, .int r_35]) (rest := []) ⟨hx, hb, hml, hown, hts⟩ (k_X4_setTerm l ad ck D tt h_37 _) (cwV 2 hts gX4_reckon_X4_setTerm rfl rfl rfl (by decide +kernel) ⟨Nat.le_of_ble_eq_true rfl, Nat.le_of_ble_eq_true rfl⟩) (cx_preV C (q0 := 0) (ci := 4) rfl rfl) rfl rfl hl.1 rfl (lv_room (Nat.le_of_ble_eq_true rfl)) dX4_reckon_207 ⟨Nat.zero_le _, Nat.zero_le _⟩) (fun H locs C => ?_)
      refine lv_goto (tgt := 241) hx hb dX4_reckon_210 (by decide) ?_
      exact cx_vret C hx hb hr hlocks hf dX4_reckon_241
    replace hf := (if_neg c_33).symm.trans hf
    by_cases c_40 : sw = 5
    · replace hf := (if_pos c_40).symm.trans hf
      subst c_40
      refine lv_tableIn (tgt := 213) hx hb dX4_reckon_51 (by decide) (by decide) (by rfl) (by decide) ?_
      refine lv_aload_n hx hb dX4_reckon_213 rfl (lv_at hl 0 rfl) ?_
      refine lv_iload_n hx hb dX4_reckon_214 rfl (lv_at hl 1 rfl) ?_
      refine lv_aload_n hx hb dX4_reckon_215 rfl (lv_at hl 0 rfl) ?_
      refine cx_get C hx hb (T := TX4) (N := 8) hts (by decide +kernel) hown 0 rfl rfl 3 (by decide) (hts (.fieldLink RX4 33 "AggregateRows" "values" "LAggregateRows$Values;") (by decide +kernel)) (fun _ h9 => h9) (v := .ref (ad 20)) rfl dX4_reckon_216 ?_
      obtain ⟨r_42, u_43, h_41, hf⟩ := bnd_some hf
      refine cx_calli C (va_runV (As := []) (rest := [.int x1, .ref (ad 0)]) ⟨hx, hb, hml, hown, hts⟩ (k_X3_first l ad ck D tt h_41 _) (cwV 0 hts gX4_reckon_X3_first rfl rfl rfl (by decide +kernel) ⟨Nat.le_of_ble_eq_true rfl, Nat.le_of_ble_eq_true rfl⟩) (cx_preV C (q0 := 20) (ci := 3) rfl rfl) rfl rfl hl.1 rfl (lv_room (Nat.le_of_ble_eq_true rfl)) dX4_reckon_219 ⟨Nat.zero_le _, Nat.zero_le _⟩) (fun H locs C => ?_)
      obtain ⟨_, u_46, h_44, hf⟩ := bnd_some hf
      refine cx_callv C (va_runV (As := [.int x1, .int r_42]) (rest := []) ⟨hx, hb, hml, hown, hts⟩ (k_X4_setTerm l ad ck D tt h_44 _) (cwV 2 hts gX4_reckon_X4_setTerm rfl rfl rfl (by decide +kernel) ⟨Nat.le_of_ble_eq_true rfl, Nat.le_of_ble_eq_true rfl⟩) (cx_preV C (q0 := 0) (ci := 4) rfl rfl) rfl rfl hl.1 rfl (lv_room (Nat.le_of_ble_eq_true rfl)) dX4_reckon_222 ⟨Nat.zero_le _, Nat.zero_le _⟩) (fun H locs C => ?_)
      refine lv_goto (tgt := 241) hx hb dX4_reckon_225 (by decide) ?_
      exact cx_vret C hx hb hr hlocks hf dX4_reckon_241
    replace hf := (if_neg c_40).symm.trans hf
    by_cases c_47 : sw = 6
    · replace hf := (if_pos c_47).symm.trans hf
      subst c_47
      refine lv_tableIn (tgt := 228) hx hb dX4_reckon_51 (by decide) (by decide) (by rfl) (by decide) ?_
      refine lv_aload_n hx hb dX4_reckon_228 rfl (lv_at hl 0 rfl) ?_
      refine lv_iload_n hx hb dX4_reckon_229 rfl (lv_at hl 1 rfl) ?_
      obtain ⟨_, u_50, h_48, hf⟩ := bnd_some hf
      refine cx_callv C (va_runV (As := [.int x1]) (rest := []) ⟨hx, hb, hml, hown, hts⟩ (k_X4_join l ad ck D tt h_48 _) (cwV 1 hts gX4_reckon_X4_join rfl rfl rfl (by decide +kernel) ⟨Nat.le_of_ble_eq_true rfl, Nat.le_of_ble_eq_true rfl⟩) (cx_preV C (q0 := 0) (ci := 4) rfl rfl) rfl rfl hl.1 rfl (lv_room (Nat.le_of_ble_eq_true rfl)) dX4_reckon_230 ⟨Nat.zero_le _, Nat.zero_le _⟩) (fun H locs C => ?_)
      refine lv_goto (tgt := 241) hx hb dX4_reckon_233 (by decide) ?_
      exact cx_vret C hx hb hr hlocks hf dX4_reckon_241
    replace hf := (if_neg c_47).symm.trans hf
    refine lv_tableOut (tgt := 236) hx hb dX4_reckon_51 (by have q0 := lv_neT (a := 0) c_1 (by decide); have q1 := lv_neT (a := 1) c_8 (by decide); have q2 := lv_neT (a := 2) c_15 (by decide); have q3 := lv_neT (a := 3) c_26 (by decide); have q4 := lv_neT (a := 4) c_33 (by decide); have q5 := lv_neT (a := 5) c_40 (by decide); have q6 := lv_neT (a := 6) c_47 (by decide); omega) (by decide) ?_
    refine lv_aload_n hx hb dX4_reckon_236 rfl (lv_at hl 0 rfl) ?_
    refine lv_iload_n hx hb dX4_reckon_237 rfl (lv_at hl 1 rfl) ?_
    obtain ⟨_, u_53, h_51, hf⟩ := bnd_some hf
    refine cx_callv C (va_runV (As := [.int x1]) (rest := []) ⟨hx, hb, hml, hown, hts⟩ (k_X4_reckonOwn l ad ck D tt h_51 _) (cwV 1 hts gX4_reckon_X4_reckonOwn rfl rfl rfl (by decide +kernel) ⟨Nat.le_of_ble_eq_true rfl, Nat.le_of_ble_eq_true rfl⟩) (cx_preV C (q0 := 0) (ci := 4) rfl rfl) rfl rfl hl.1 rfl (lv_room (Nat.le_of_ble_eq_true rfl)) dX4_reckon_238 ⟨Nat.zero_le _, Nat.zero_le _⟩) (fun H locs C => ?_)
    exact cx_vret C hx hb hr hlocks hf dX4_reckon_241
  have J21 : ∀ (x1 : Int32) (x2 : Int32) (y0 : Int32) (w : St) (H : Heap) (locs : List Loc) (ls : Array Slot), fX4_reckon_21 x1 x2 y0 w = some ((), u') → CX (wA ad ck) ck D tt (va_A (wA ad ck u) sz) s w H locs → lv_has ls 4 [(0, .ref (ad 0)), (1, .int x1), (2, .int x2)] → W p l e (headSpec wsX4_reckon rmX4_reckon).room s m ([.ref (ad 0), .int a1, .int a2] : List Value).toArray below meth c H locs 0 0 (MQ below (QV (wA ad ck) D u sz u') ([.ref (ad 0), .int a1, .int a2] : List Value).toArray s 0 0 (va_A (wA ad ck u) sz)) (F0 m 21 ls [.int y0]) := by
    intro x1 x2 y0 w H locs ls hf C hl
    unfold fX4_reckon_21 at hf
    refine lv_istore_n (lv' := [(3, .int y0), (0, .ref (ad 0)), (1, .int x1), (2, .int x2)]) hx hb dX4_reckon_21 rfl hl (by decide) rfl (fun ls hl => ?_)
    refine lv_iload_n hx hb dX4_reckon_22 rfl (lv_at hl 0 rfl) ?_
    refine lv_if_eq (tgt := 50) hx hb dX4_reckon_23 (by decide) (fun c_1 => ?_) (fun c_1 => ?_)
    · replace hf := (if_pos c_1).symm.trans hf
      exact J50 x1 x2 w _ _ _ hf C (lv_sub hl [1, 2, 3] rfl)
    · replace hf := (if_neg c_1).symm.trans hf
      refine lv_aload_n hx hb dX4_reckon_26 rfl (lv_at hl 1 rfl) ?_
      refine cx_get C hx hb (T := TX4) (N := 8) hts (by decide +kernel) hown 0 rfl rfl 3 (by decide) (hts (.fieldLink RX4 33 "AggregateRows" "values" "LAggregateRows$Values;") (by decide +kernel)) (fun _ h9 => h9) (v := .ref (ad 20)) rfl dX4_reckon_27 ?_
      refine lv_aload_n hx hb dX4_reckon_30 rfl (lv_at hl 1 rfl) ?_
      refine cx_get C hx hb (T := TX4) (N := 8) hts (by decide +kernel) hown 0 rfl rfl 0 (by decide) (hts (.fieldLink RX4 10 "AggregateRows" "terms" "LAggregateRows$Terms;") (by decide +kernel)) (fun _ h9 => h9) (v := .ref (ad 1)) rfl dX4_reckon_31 ?_
      obtain ⟨r_3, u_4, h_2, hf⟩ := bnd_some hf
      refine cx_calli C (va_runV (As := [.ref (ad 1)]) (rest := []) ⟨hx, hb, hml, hown, hts⟩ (k_X3_haveText l ad ck D tt h_2 _) (cwV 1 hts gX4_reckon_X3_haveText rfl rfl rfl (by decide +kernel) ⟨Nat.le_of_ble_eq_true rfl, Nat.le_of_ble_eq_true rfl⟩) (cx_preV C (q0 := 20) (ci := 3) rfl rfl) rfl rfl hl.1 rfl (lv_room (Nat.le_of_ble_eq_true rfl)) dX4_reckon_34 ⟨Nat.zero_le _, Nat.zero_le _⟩) (fun H locs C => ?_)
      refine lv_if_eq (tgt := 50) hx hb dX4_reckon_37 (by decide) (fun c_5 => ?_) (fun c_5 => ?_)
      · replace hf := (if_pos c_5).symm.trans hf
        exact J50 x1 x2 u_4 _ _ _ hf C (lv_sub hl [1, 2, 3] rfl)
      · replace hf := (if_neg c_5).symm.trans hf
        refine lv_aload_n hx hb dX4_reckon_40 rfl (lv_at hl 1 rfl) ?_
        refine cx_get C hx hb (T := TX4) (N := 8) hts (by decide +kernel) hown 0 rfl rfl 2 (by decide) (hts (.fieldLink RX4 26 "AggregateRows" "results" "LAggregateRows$Results;") (by decide +kernel)) (fun _ h9 => h9) (v := .ref (ad 9)) rfl dX4_reckon_41 ?_
        refine lv_iload_n hx hb dX4_reckon_44 rfl (lv_at hl 2 rfl) ?_
        refine lv_iconst (v := 1) hx hb dX4_reckon_45 (by decide) ?_
        obtain ⟨_, u_8, h_6, hf⟩ := bnd_some hf
        refine cx_callv C (va_runV (As := [.int x1, .int 1]) (rest := []) ⟨hx, hb, hml, hown, hts⟩ (k_X0_setError l ad ck D tt h_6 _) (cwV 2 hts gX4_reckon_X0_setError rfl rfl rfl (by decide +kernel) ⟨Nat.le_of_ble_eq_true rfl, Nat.le_of_ble_eq_true rfl⟩) (cx_preV C (q0 := 9) (ci := 0) rfl rfl) rfl rfl hl.1 rfl (lv_room (Nat.le_of_ble_eq_true rfl)) dX4_reckon_46 ⟨Nat.zero_le _, Nat.zero_le _⟩) (fun H locs C => ?_)
        exact cx_vret C hx hb hr hlocks hf dX4_reckon_49
  have hl := lv_entry ([.ref (ad 0), .int a1, .int a2]) (n := 4) (Nat.le_of_ble_eq_true rfl)
  rw [lg_entry_eq]
  generalize (lg_sl ([.ref (ad 0), .int a1, .int a2]) ++ List.replicate (4 - (lg_sl ([.ref (ad 0), .int a1, .int a2])).length) Slot.unset).toArray = ls at hl ⊢
  have hl : lv_has ls 4 [(0, .ref (ad 0)), (1, .int a1), (2, .int a2)] := hl
  unfold fX4_reckon at hf
  refine lv_iload_n hx hb dX4_reckon_0 rfl (lv_at hl 2 rfl) ?_
  refine lv_iconst (v := 1) hx hb dX4_reckon_1 (by decide) ?_
  refine lv_icmp_eq (tgt := 16) hx hb dX4_reckon_2 (by decide) (fun c_1 => ?_) (fun c_1 => ?_)
  · replace hf := (if_pos c_1).symm.trans hf
    refine lv_iconst (v := 1) hx hb dX4_reckon_16 (by decide) ?_
    refine lv_goto (tgt := 21) hx hb dX4_reckon_17 (by decide) ?_
    exact J21 a1 a2 1 u _ _ _ hf C (lv_sub hl [0, 1, 2] rfl)
  · replace hf := (if_neg c_1).symm.trans hf
    refine lv_iload_n hx hb dX4_reckon_5 rfl (lv_at hl 2 rfl) ?_
    refine lv_iconst (v := 2) hx hb dX4_reckon_6 (by decide) ?_
    refine lv_icmp_eq (tgt := 16) hx hb dX4_reckon_7 (by decide) (fun c_2 => ?_) (fun c_2 => ?_)
    · replace hf := (if_pos c_2).symm.trans hf
      refine lv_iconst (v := 1) hx hb dX4_reckon_16 (by decide) ?_
      refine lv_goto (tgt := 21) hx hb dX4_reckon_17 (by decide) ?_
      exact J21 a1 a2 1 u _ _ _ hf C (lv_sub hl [0, 1, 2] rfl)
    · replace hf := (if_neg c_2).symm.trans hf
      refine lv_iload_n hx hb dX4_reckon_10 rfl (lv_at hl 2 rfl) ?_
      refine lv_bipush (v := 7) hx hb dX4_reckon_11 (by decide) ?_
      refine lv_icmp_ne (tgt := 20) hx hb dX4_reckon_13 (by decide) (fun c_3 => ?_) (fun c_3 => ?_)
      · replace hf := (if_neg c_3).symm.trans hf
        refine lv_iconst (v := 0) hx hb dX4_reckon_20 (by decide) ?_
        exact J21 a1 a2 0 u _ _ _ hf C (lv_sub hl [0, 1, 2] rfl)
      · replace hf := (if_pos c_3).symm.trans hf
        refine lv_iconst (v := 1) hx hb dX4_reckon_16 (by decide) ?_
        refine lv_goto (tgt := 21) hx hb dX4_reckon_17 (by decide) ?_
        exact J21 a1 a2 1 u _ _ _ hf C (lv_sub hl [0, 1, 2] rfl)
