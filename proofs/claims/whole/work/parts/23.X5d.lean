/-! ===== X5_join ===== -/
def fX5_join_30 (k2 : Int32 → Int32 → St → Option (Unit × St)) (x1 : Int32) (x2 : Int32) (w : St) : Option (Unit × St) := gd (okI x2 60) (bnd (fX5_sayTerm w x1 (w.2.1 17 x2.toNatClampNeg)) (fun _ u_4 => lt_ (x2 + 1) (fun x2_5 => k2 x1 x2_5 u_4)))
def fX5_join_2  : Nat → Int32 → Int32 → St → Option (Unit × St)
  | 0, _, _, _ => none
  | n2 + 1, x1, x2, w => (if (w.1 7) ≤ x2 then gd (okI x1 60) (lt_ (sI w 10 x1.toNatClampNeg 1) (fun u_3 => gd (okI x1 60) ((if (u_3.2.1 13 x1.toNatClampNeg) ≤ 80 then some ((), u_3) else gd (okI x1 60) (lt_ (sI u_3 13 x1.toNatClampNeg 0) (fun u_7 => bnd (fX5_fail u_7 x1 2) (fun _ u_10 => some ((), u_10)))))))) else (if x2 ≤ 0 then fX5_join_30 (fX5_join_2 n2) x1 x2 w else (if (w.1 4) = 0 then fX5_join_30 (fX5_join_2 n2) x1 x2 w else bnd (fX5_say w x1 (w.1 4)) (fun _ u_15 => fX5_join_30 (fX5_join_2 n2) x1 x2 u_15))))
def fX5_join (u : St) (a1 : Int32) : Option (Unit × St) := fX5_join_2 FU a1 0 u
abbrev rmX5_join : Room := { frames := 2, cells := 0, slots := 0, locals := 49 }
set_option maxHeartbeats 4000000 in
set_option maxRecDepth 100000 in
theorem k_X5_join (l : Launch) (ad : Nat → Nat) (ck : Nat → ClassId) (D : va_G) (tt : Nat) {u : St} {a1 : Int32} {u' : St} (hf : fX5_join u a1 = some ((), u')) : MV l yX5_join wsX5_join rmX5_join (wM ad ck) ck D tt [.ref (ad 0), .int a1] u u' := by
  intro sz
  refine Met.ofW (cc := cX5_join) (maxL := 3) (ret := none) (by decide) rfl ?_
  intro p e s m args below meth c s₁ B hml hv
  obtain ⟨rfl, hsz, C⟩ := cx_entry hv
  have hx := B.exec
  have hb := B.bytes
  have hr := B.returns
  have hts := atoms_spec (ws := wsX5_join) B.pre
  have hown : s.vm.findClass RX5 = some m.cls := findClass_of_methodNamed B.named
  have hlocks := B.notSynchronized
  have J2 : ∀ (n2 : Nat) (x1 : Int32) (x2 : Int32) (w : St) (H : Heap) (locs : List Loc) (ls : Array Slot), fX5_join_2 n2 x1 x2 w = some ((), u') → CX (wM ad ck) ck D tt (va_A (wM ad ck u) sz) s w H locs → lv_has ls 3 [(0, .ref (ad 0)), (1, .int x1), (2, .int x2)] → W p l e (headSpec wsX5_join rmX5_join).room s m ([.ref (ad 0), .int a1] : List Value).toArray below meth c H locs 0 0 (MQ below (QV (wM ad ck) D u sz u') ([.ref (ad 0), .int a1] : List Value).toArray s 0 0 (va_A (wM ad ck u) sz)) (F0 m 2 ls []) := by
    intro n2
    induction n2 with
    | zero =>
      intro x1 x2 w H locs ls hf
      have hf : (none : Option (Unit × St)) = some ((), u') := hf
      cases hf
    | succ n2 ih2 =>
      intro x1 x2 w H locs ls hf C hl
      rw [fX5_join_2] at hf
      have J30 : ∀ (x1 : Int32) (x2 : Int32) (w : St) (H : Heap) (locs : List Loc) (ls : Array Slot), fX5_join_30 (fX5_join_2 n2) x1 x2 w = some ((), u') → CX (wM ad ck) ck D tt (va_A (wM ad ck u) sz) s w H locs → lv_has ls 3 [(0, .ref (ad 0)), (1, .int x1), (2, .int x2)] → W p l e (headSpec wsX5_join rmX5_join).room s m ([.ref (ad 0), .int a1] : List Value).toArray below meth c H locs 0 0 (MQ below (QV (wM ad ck) D u sz u') ([.ref (ad 0), .int a1] : List Value).toArray s 0 0 (va_A (wM ad ck u) sz)) (F0 m 30 ls []) := by
        intro x1 x2 w H locs ls hf C hl
        unfold fX5_join_30 at hf
        refine lv_aload_n hx hb dX5_join_30 rfl (lv_at hl 0 rfl) ?_
        refine lv_iload_n hx hb dX5_join_31 rfl (lv_at hl 1 rfl) ?_
        refine lv_aload_n hx hb dX5_join_32 rfl (lv_at hl 0 rfl) ?_
        refine cx_get C hx hb (T := TX5) (N := 28) hts (by decide +kernel) hown 0 rfl rfl 27 (by decide) (hts (.fieldLink RX5 69 "AggregateRowsModel" "list" "[I") (by decide +kernel)) (fun _ h9 => h9) (v := .ref (ad 20)) rfl dX5_join_33 ?_
        refine lv_iload_n hx hb dX5_join_36 rfl (lv_at hl 2 rfl) ?_
        obtain ⟨g_1, hf⟩ := gd_some hf
        refine cx_iald C hx hb 20 rfl g_1 dX5_join_37 ?_
        obtain ⟨_, u_4, h_2, hf⟩ := bnd_some hf
        refine cx_callv C (va_runV (As := [.int x1, .int (w.2.1 17 x2.toNatClampNeg)]) (rest := []) ⟨hx, hb, hml, hown, hts⟩ (k_X5_sayTerm l ad ck D tt h_2 _) (cwV 2 hts gX5_join_X5_sayTerm rfl rfl rfl (by decide +kernel) ⟨Nat.le_of_ble_eq_true rfl, Nat.le_of_ble_eq_true rfl⟩) (cx_preV C (q0 := 0) (ci := 5) rfl rfl) rfl rfl hl.1 rfl (lv_room (Nat.le_of_ble_eq_true rfl)) dX5_join_38 ⟨Nat.zero_le _, Nat.zero_le _⟩) (fun H locs C => ?_)
        obtain ⟨x2_5, ex2_5⟩ : ∃ y : Int32, y = x2 + 1 := ⟨_, rfl⟩
        replace hf := lt_at hf ex2_5
        refine lv_iinc (v := x2_5) (lv' := [(2, .int x2_5), (0, .ref (ad 0)), (1, .int x1)]) hx hb dX5_join_41 hl (k := 2) rfl (by rw [ex2_5]; rfl) (by decide) rfl (fun ls hl => ?_)
        refine lv_goto (tgt := 2) hx hb dX5_join_44 (by decide) ?_
        exact ih2 x1 x2_5 u_4 _ _ _ hf C (lv_sub hl [1, 2, 0] rfl)
      refine lv_iload_n hx hb dX5_join_2 rfl (lv_at hl 2 rfl) ?_
      refine lv_aload_n hx hb dX5_join_3 rfl (lv_at hl 0 rfl) ?_
      refine cx_get C hx hb (T := TX5) (N := 28) hts (by decide +kernel) hown 0 rfl rfl 26 (by decide) (hts (.fieldLink RX5 134 "AggregateRowsModel" "many" "I") (by decide +kernel)) (fun _ h9 => h9) (v := .int (w.1 7)) rfl dX5_join_4 ?_
      refine lv_icmp_ge (tgt := 47) hx hb dX5_join_7 (by decide) (fun c_6 => ?_) (fun c_6 => ?_)
      · replace hf := (if_pos c_6).symm.trans hf
        refine lv_aload_n hx hb dX5_join_47 rfl (lv_at hl 0 rfl) ?_
        refine cx_get C hx hb (T := TX5) (N := 28) hts (by decide +kernel) hown 0 rfl rfl 17 (by decide) (hts (.fieldLink RX5 41 "AggregateRowsModel" "groupSort" "[I") (by decide +kernel)) (fun _ h9 => h9) (v := .ref (ad 11)) rfl dX5_join_48 ?_
        refine lv_iload_n hx hb dX5_join_51 rfl (lv_at hl 1 rfl) ?_
        refine lv_iconst (v := 1) hx hb dX5_join_52 (by decide) ?_
        obtain ⟨g_7, hf⟩ := gd_some hf
        refine cx_iast C hx hb 11 rfl g_7 (u1 := sI w 10 x1.toNatClampNeg 1) rfl dX5_join_53 (fun u_8 H locs eu_8 C => ?_)
        replace hf := lt_at hf eu_8
        refine lv_aload_n hx hb dX5_join_54 rfl (lv_at hl 0 rfl) ?_
        refine cx_get C hx hb (T := TX5) (N := 28) hts (by decide +kernel) hown 0 rfl rfl 22 (by decide) (hts (.fieldLink RX5 57 "AggregateRowsModel" "groupSize" "[I") (by decide +kernel)) (fun _ h9 => h9) (v := .ref (ad 16)) rfl dX5_join_55 ?_
        refine lv_iload_n hx hb dX5_join_58 rfl (lv_at hl 1 rfl) ?_
        obtain ⟨g_9, hf⟩ := gd_some hf
        refine cx_iald C hx hb 16 rfl g_9 dX5_join_59 ?_
        refine lv_bipush (v := 80) hx hb dX5_join_60 (by decide) ?_
        refine lv_icmp_le (tgt := 78) hx hb dX5_join_62 (by decide) (fun c_10 => ?_) (fun c_10 => ?_)
        · replace hf := (if_pos c_10).symm.trans hf
          exact cx_vret C hx hb hr hlocks hf dX5_join_78
        · replace hf := (if_neg c_10).symm.trans hf
          refine lv_aload_n hx hb dX5_join_65 rfl (lv_at hl 0 rfl) ?_
          refine cx_get C hx hb (T := TX5) (N := 28) hts (by decide +kernel) hown 0 rfl rfl 22 (by decide) (hts (.fieldLink RX5 57 "AggregateRowsModel" "groupSize" "[I") (by decide +kernel)) (fun _ h9 => h9) (v := .ref (ad 16)) rfl dX5_join_66 ?_
          refine lv_iload_n hx hb dX5_join_69 rfl (lv_at hl 1 rfl) ?_
          refine lv_iconst (v := 0) hx hb dX5_join_70 (by decide) ?_
          obtain ⟨g_11, hf⟩ := gd_some hf
          refine cx_iast C hx hb 16 rfl g_11 (u1 := sI u_8 13 x1.toNatClampNeg 0) rfl dX5_join_71 (fun u_12 H locs eu_12 C => ?_)
          replace hf := lt_at hf eu_12
          refine lv_aload_n hx hb dX5_join_72 rfl (lv_at hl 0 rfl) ?_
          refine lv_iload_n hx hb dX5_join_73 rfl (lv_at hl 1 rfl) ?_
          refine lv_iconst (v := 2) hx hb dX5_join_74 (by decide) ?_
          obtain ⟨_, u_15, h_13, hf⟩ := bnd_some hf
          refine cx_callv C (va_runV (As := [.int x1, .int 2]) (rest := []) ⟨hx, hb, hml, hown, hts⟩ (k_X5_fail l ad ck D tt h_13 _) (cwV 2 hts gX5_join_X5_fail rfl rfl rfl (by decide +kernel) ⟨Nat.le_of_ble_eq_true rfl, Nat.le_of_ble_eq_true rfl⟩) (cx_preV C (q0 := 0) (ci := 5) rfl rfl) rfl rfl hl.1 rfl (lv_room (Nat.le_of_ble_eq_true rfl)) dX5_join_75 ⟨Nat.zero_le _, Nat.zero_le _⟩) (fun H locs C => ?_)
          exact cx_vret C hx hb hr hlocks hf dX5_join_78
      · replace hf := (if_neg c_6).symm.trans hf
        refine lv_iload_n hx hb dX5_join_10 rfl (lv_at hl 2 rfl) ?_
        refine lv_if_le (tgt := 30) hx hb dX5_join_11 (by decide) (fun c_16 => ?_) (fun c_16 => ?_)
        · replace hf := (if_pos c_16).symm.trans hf
          exact J30 x1 x2 w _ _ _ hf C (lv_sub hl [0, 1, 2] rfl)
        · replace hf := (if_neg c_16).symm.trans hf
          refine lv_aload_n hx hb dX5_join_14 rfl (lv_at hl 0 rfl) ?_
          refine cx_get C hx hb (T := TX5) (N := 28) hts (by decide +kernel) hown 0 rfl rfl 12 (by decide) (hts (.fieldLink RX5 117 "AggregateRowsModel" "separator" "I") (by decide +kernel)) (fun _ h9 => h9) (v := .int (w.1 4)) rfl dX5_join_15 ?_
          refine lv_if_eq (tgt := 30) hx hb dX5_join_18 (by decide) (fun c_17 => ?_) (fun c_17 => ?_)
          · replace hf := (if_pos c_17).symm.trans hf
            exact J30 x1 x2 w _ _ _ hf C (lv_sub hl [0, 1, 2] rfl)
          · replace hf := (if_neg c_17).symm.trans hf
            refine lv_aload_n hx hb dX5_join_21 rfl (lv_at hl 0 rfl) ?_
            refine lv_iload_n hx hb dX5_join_22 rfl (lv_at hl 1 rfl) ?_
            refine lv_aload_n hx hb dX5_join_23 rfl (lv_at hl 0 rfl) ?_
            refine cx_get C hx hb (T := TX5) (N := 28) hts (by decide +kernel) hown 0 rfl rfl 12 (by decide) (hts (.fieldLink RX5 117 "AggregateRowsModel" "separator" "I") (by decide +kernel)) (fun _ h9 => h9) (v := .int (w.1 4)) rfl dX5_join_24 ?_
            obtain ⟨_, u_20, h_18, hf⟩ := bnd_some hf
            refine cx_callv C (va_runV (As := [.int x1, .int (w.1 4)]) (rest := []) ⟨hx, hb, hml, hown, hts⟩ (k_X5_say l ad ck D tt h_18 _) (cwV 2 hts gX5_join_X5_say rfl rfl rfl (by decide +kernel) ⟨Nat.le_of_ble_eq_true rfl, Nat.le_of_ble_eq_true rfl⟩) (cx_preV C (q0 := 0) (ci := 5) rfl rfl) rfl rfl hl.1 rfl (lv_room (Nat.le_of_ble_eq_true rfl)) dX5_join_27 ⟨Nat.zero_le _, Nat.zero_le _⟩) (fun H locs C => ?_)
            exact J30 x1 x2 u_20 _ _ _ hf C (lv_sub hl [0, 1, 2] rfl)
  have hl := lv_entry ([.ref (ad 0), .int a1]) (n := 3) (Nat.le_of_ble_eq_true rfl)
  rw [lg_entry_eq]
  generalize (lg_sl ([.ref (ad 0), .int a1]) ++ List.replicate (3 - (lg_sl ([.ref (ad 0), .int a1])).length) Slot.unset).toArray = ls at hl ⊢
  have hl : lv_has ls 3 [(0, .ref (ad 0)), (1, .int a1)] := hl
  unfold fX5_join at hf
  refine lv_iconst (v := 0) hx hb dX5_join_0 (by decide) ?_
  refine lv_istore_n (lv' := [(2, .int 0), (0, .ref (ad 0)), (1, .int a1)]) hx hb dX5_join_1 rfl hl (by decide) rfl (fun ls hl => ?_)
  exact J2 FU a1 0 u _ _ _ hf C (lv_sub hl [1, 2, 0] rfl)
/-! ===== X5_middle ===== -/
def fX5_middle_67 (k4 : Int32 → Int32 → St → Option (Int32 × St)) (k17 : Int32 → Int32 → Int32 → Int32 → St → Option (Int32 × St)) (x1 : Int32) (x2 : Int32) (x4 : Int32) (y0 : Int32) (y1 : Int32) (w : St) : Option (Int32 × St) := lt_ (y0 + y1) (fun x3_1 => lt_ (x4 + 1) (fun x4_2 => k17 x1 x2 x3_1 x4_2 w))
def fX5_middle_17 (k4 : Int32 → Int32 → St → Option (Int32 × St)) : Nat → Int32 → Int32 → Int32 → Int32 → St → Option (Int32 × St)
  | 0, _, _, _, _, _ => none
  | n17 + 1, x1, x2, x3, x4, w => (if (w.1 7) ≤ x4 then (if x3 = (((w.1 7) - 1) / 2) then gd (okI x2 60) (lt_ (w.2.1 17 x2.toNatClampNeg) (fun x1_5 => lt_ (x2 + 1) (fun x2_6 => k4 x1_5 x2_6 w))) else lt_ (x2 + 1) (fun x2_3 => k4 x1 x2_3 w)) else gd (okI x4 60) (gd (okI x2 60) (bnd (fX5_compare w (w.2.1 17 x4.toNatClampNeg) (w.2.1 17 x2.toNatClampNeg)) (fun r_10 u_11 => (if r_10 < 0 then fX5_middle_67 (k4) (fX5_middle_17 k4 n17) x1 x2 x4 x3 1 u_11 else (if r_10 = 0 then (if x2 ≤ x4 then fX5_middle_67 (k4) (fX5_middle_17 k4 n17) x1 x2 x4 x3 0 u_11 else fX5_middle_67 (k4) (fX5_middle_17 k4 n17) x1 x2 x4 x3 1 u_11) else fX5_middle_67 (k4) (fX5_middle_17 k4 n17) x1 x2 x4 x3 0 u_11))))))
def fX5_middle_4  : Nat → Int32 → Int32 → St → Option (Int32 × St)
  | 0, _, _, _ => none
  | n4 + 1, x1, x2, w => (if (w.1 7) ≤ x2 then some (x1, w) else fX5_middle_17 (fX5_middle_4 n4) FU x1 x2 0 0 w)
def fX5_middle (u : St)  : Option (Int32 × St) := fX5_middle_4 FU (-1) 0 u
abbrev rmX5_middle : Room := { frames := 2, cells := 0, slots := 0, locals := 50 }
set_option maxHeartbeats 4000000 in
set_option maxRecDepth 100000 in
theorem k_X5_middle (l : Launch) (ad : Nat → Nat) (ck : Nat → ClassId) (D : va_G) (tt : Nat) {u : St}  {r : Int32} {u' : St} (hf : fX5_middle u = some (r, u')) : MI l yX5_middle wsX5_middle rmX5_middle (wM ad ck) ck D tt [.ref (ad 0)] u r u' := by
  intro sz
  refine Met.ofW (cc := cX5_middle) (maxL := 6) (ret := (some .int)) (by decide) rfl ?_
  intro p e s m args below meth c s₁ B hml hv
  obtain ⟨rfl, hsz, C⟩ := cx_entry hv
  have hx := B.exec
  have hb := B.bytes
  have hr := B.returns
  have hts := atoms_spec (ws := wsX5_middle) B.pre
  have hown : s.vm.findClass RX5 = some m.cls := findClass_of_methodNamed B.named
  have hlocks := B.notSynchronized
  have J4 : ∀ (n4 : Nat) (x1 : Int32) (x2 : Int32) (w : St) (H : Heap) (locs : List Loc) (ls : Array Slot), fX5_middle_4 n4 x1 x2 w = some (r, u') → CX (wM ad ck) ck D tt (va_A (wM ad ck u) sz) s w H locs → lv_has ls 6 [(0, .ref (ad 0)), (1, .int x1), (2, .int x2)] → W p l e (headSpec wsX5_middle rmX5_middle).room s m ([.ref (ad 0)] : List Value).toArray below meth c H locs 0 0 (MQ below (QI (wM ad ck) D u sz r u') ([.ref (ad 0)] : List Value).toArray s 0 0 (va_A (wM ad ck u) sz)) (F0 m 4 ls []) := by
    intro n4
    induction n4 with
    | zero =>
      intro x1 x2 w H locs ls hf
      have hf : (none : Option (Int32 × St)) = some (r, u') := hf
      cases hf
    | succ n4 ih4 =>
      intro x1 x2 w H locs ls hf C hl
      rw [fX5_middle_4] at hf
      have J17 : ∀ (n17 : Nat) (x1 : Int32) (x2 : Int32) (x3 : Int32) (x4 : Int32) (w : St) (H : Heap) (locs : List Loc) (ls : Array Slot), fX5_middle_17 (fX5_middle_4 n4) n17 x1 x2 x3 x4 w = some (r, u') → CX (wM ad ck) ck D tt (va_A (wM ad ck u) sz) s w H locs → lv_has ls 6 [(0, .ref (ad 0)), (1, .int x1), (2, .int x2), (3, .int x3), (4, .int x4)] → W p l e (headSpec wsX5_middle rmX5_middle).room s m ([.ref (ad 0)] : List Value).toArray below meth c H locs 0 0 (MQ below (QI (wM ad ck) D u sz r u') ([.ref (ad 0)] : List Value).toArray s 0 0 (va_A (wM ad ck u) sz)) (F0 m 17 ls []) := by
        intro n17
        induction n17 with
        | zero =>
          intro x1 x2 x3 x4 w H locs ls hf
          have hf : (none : Option (Int32 × St)) = some (r, u') := hf
          cases hf
        | succ n17 ih17 =>
          intro x1 x2 x3 x4 w H locs ls hf C hl
          rw [fX5_middle_17] at hf
          have J67 : ∀ (x1 : Int32) (x2 : Int32) (x4 : Int32) (y0 : Int32) (y1 : Int32) (w : St) (H : Heap) (locs : List Loc) (ls : Array Slot), fX5_middle_67 (fX5_middle_4 n4) (fX5_middle_17 (fX5_middle_4 n4) n17) x1 x2 x4 y0 y1 w = some (r, u') → CX (wM ad ck) ck D tt (va_A (wM ad ck u) sz) s w H locs → lv_has ls 6 [(0, .ref (ad 0)), (1, .int x1), (2, .int x2), (4, .int x4)] → W p l e (headSpec wsX5_middle rmX5_middle).room s m ([.ref (ad 0)] : List Value).toArray below meth c H locs 0 0 (MQ below (QI (wM ad ck) D u sz r u') ([.ref (ad 0)] : List Value).toArray s 0 0 (va_A (wM ad ck u) sz)) (F0 m 67 ls [.int y1, .int y0]) := by
            intro x1 x2 x4 y0 y1 w H locs ls hf C hl
            unfold fX5_middle_67 at hf
            refine lv_iadd hx hb dX5_middle_67 ?_
            refine lv_topi (fun x3_1 ex3_1 => ?_)
            replace hf := lt_at hf ex3_1
            refine lv_istore_n (lv' := [(3, .int x3_1), (0, .ref (ad 0)), (1, .int x1), (2, .int x2), (4, .int x4)]) hx hb dX5_middle_68 rfl hl (by decide) rfl (fun ls hl => ?_)
            obtain ⟨x4_2, ex4_2⟩ : ∃ y : Int32, y = x4 + 1 := ⟨_, rfl⟩
            replace hf := lt_at hf ex4_2
            refine lv_iinc (v := x4_2) (lv' := [(4, .int x4_2), (3, .int x3_1), (0, .ref (ad 0)), (1, .int x1), (2, .int x2)]) hx hb dX5_middle_69 hl (k := 4) rfl (by rw [ex4_2]; rfl) (by decide) rfl (fun ls hl => ?_)
            refine lv_goto (tgt := 17) hx hb dX5_middle_72 (by decide) ?_
            exact ih17 x1 x2 x3_1 x4_2 w _ _ _ hf C (lv_sub hl [2, 3, 4, 1, 0] rfl)
          refine lv_iload hx hb dX5_middle_17 (lv_at hl 4 rfl) ?_
          refine lv_aload_n hx hb dX5_middle_19 rfl (lv_at hl 0 rfl) ?_
          refine cx_get C hx hb (T := TX5) (N := 28) hts (by decide +kernel) hown 0 rfl rfl 26 (by decide) (hts (.fieldLink RX5 134 "AggregateRowsModel" "many" "I") (by decide +kernel)) (fun _ h9 => h9) (v := .int (w.1 7)) rfl dX5_middle_20 ?_
          refine lv_icmp_ge (tgt := 75) hx hb dX5_middle_23 (by decide) (fun c_3 => ?_) (fun c_3 => ?_)
          · replace hf := (if_pos c_3).symm.trans hf
            refine lv_iload_n hx hb dX5_middle_75 rfl (lv_at hl 3 rfl) ?_
            refine lv_aload_n hx hb dX5_middle_76 rfl (lv_at hl 0 rfl) ?_
            refine cx_get C hx hb (T := TX5) (N := 28) hts (by decide +kernel) hown 0 rfl rfl 26 (by decide) (hts (.fieldLink RX5 134 "AggregateRowsModel" "many" "I") (by decide +kernel)) (fun _ h9 => h9) (v := .int (w.1 7)) rfl dX5_middle_77 ?_
            refine lv_iconst (v := 1) hx hb dX5_middle_80 (by decide) ?_
            refine lv_isub hx hb dX5_middle_81 ?_
            refine lv_iconst (v := 2) hx hb dX5_middle_82 (by decide) ?_
            refine lv_idiv hx hb dX5_middle_83 (by decide) ?_
            refine lv_icmp_ne (tgt := 96) hx hb dX5_middle_84 (by decide) (fun c_4 => ?_) (fun c_4 => ?_)
            · replace hf := (if_neg c_4).symm.trans hf
              refine lv_iload_n hx hb dX5_middle_96 rfl (lv_at hl 1 rfl) ?_
              refine lv_istore_n (lv' := [(1, .int x1), (0, .ref (ad 0)), (2, .int x2), (3, .int x3), (4, .int x4)]) hx hb dX5_middle_97 rfl hl (by decide) rfl (fun ls hl => ?_)
              obtain ⟨x2_5, ex2_5⟩ : ∃ y : Int32, y = x2 + 1 := ⟨_, rfl⟩
              replace hf := lt_at hf ex2_5
              refine lv_iinc (v := x2_5) (lv' := [(2, .int x2_5), (1, .int x1), (0, .ref (ad 0)), (3, .int x3), (4, .int x4)]) hx hb dX5_middle_98 hl (k := 2) rfl (by rw [ex2_5]; rfl) (by decide) rfl (fun ls hl => ?_)
              refine lv_goto (tgt := 4) hx hb dX5_middle_101 (by decide) ?_
              exact ih4 x1 x2_5 w _ _ _ hf C (lv_sub hl [2, 1, 0] rfl)
            · replace hf := (if_pos c_4).symm.trans hf
              refine lv_aload_n hx hb dX5_middle_87 rfl (lv_at hl 0 rfl) ?_
              refine cx_get C hx hb (T := TX5) (N := 28) hts (by decide +kernel) hown 0 rfl rfl 27 (by decide) (hts (.fieldLink RX5 69 "AggregateRowsModel" "list" "[I") (by decide +kernel)) (fun _ h9 => h9) (v := .ref (ad 20)) rfl dX5_middle_88 ?_
              refine lv_iload_n hx hb dX5_middle_91 rfl (lv_at hl 2 rfl) ?_
              obtain ⟨g_6, hf⟩ := gd_some hf
              refine cx_iald C hx hb 20 rfl g_6 dX5_middle_92 ?_
              refine lv_goto (tgt := 97) hx hb dX5_middle_93 (by decide) ?_
              refine lv_topi (fun x1_7 ex1_7 => ?_)
              replace hf := lt_at hf ex1_7
              refine lv_istore_n (lv' := [(1, .int x1_7), (0, .ref (ad 0)), (2, .int x2), (3, .int x3), (4, .int x4)]) hx hb dX5_middle_97 rfl hl (by decide) rfl (fun ls hl => ?_)
              obtain ⟨x2_8, ex2_8⟩ : ∃ y : Int32, y = x2 + 1 := ⟨_, rfl⟩
              replace hf := lt_at hf ex2_8
              refine lv_iinc (v := x2_8) (lv' := [(2, .int x2_8), (1, .int x1_7), (0, .ref (ad 0)), (3, .int x3), (4, .int x4)]) hx hb dX5_middle_98 hl (k := 2) rfl (by rw [ex2_8]; rfl) (by decide) rfl (fun ls hl => ?_)
              refine lv_goto (tgt := 4) hx hb dX5_middle_101 (by decide) ?_
              exact ih4 x1_7 x2_8 w _ _ _ hf C (lv_sub hl [2, 1, 0] rfl)
          · replace hf := (if_neg c_3).symm.trans hf
            refine lv_aload_n hx hb dX5_middle_26 rfl (lv_at hl 0 rfl) ?_
            refine lv_aload_n hx hb dX5_middle_27 rfl (lv_at hl 0 rfl) ?_
            refine cx_get C hx hb (T := TX5) (N := 28) hts (by decide +kernel) hown 0 rfl rfl 27 (by decide) (hts (.fieldLink RX5 69 "AggregateRowsModel" "list" "[I") (by decide +kernel)) (fun _ h9 => h9) (v := .ref (ad 20)) rfl dX5_middle_28 ?_
            refine lv_iload hx hb dX5_middle_31 (lv_at hl 4 rfl) ?_
            obtain ⟨g_9, hf⟩ := gd_some hf
            refine cx_iald C hx hb 20 rfl g_9 dX5_middle_33 ?_
            refine lv_aload_n hx hb dX5_middle_34 rfl (lv_at hl 0 rfl) ?_
            refine cx_get C hx hb (T := TX5) (N := 28) hts (by decide +kernel) hown 0 rfl rfl 27 (by decide) (hts (.fieldLink RX5 69 "AggregateRowsModel" "list" "[I") (by decide +kernel)) (fun _ h9 => h9) (v := .ref (ad 20)) rfl dX5_middle_35 ?_
            refine lv_iload_n hx hb dX5_middle_38 rfl (lv_at hl 2 rfl) ?_
            obtain ⟨g_10, hf⟩ := gd_some hf
            refine cx_iald C hx hb 20 rfl g_10 dX5_middle_39 ?_
            obtain ⟨r_12, u_13, h_11, hf⟩ := bnd_some hf
            refine cx_calli C (va_runV (As := [.int (w.2.1 17 x4.toNatClampNeg), .int (w.2.1 17 x2.toNatClampNeg)]) (rest := []) ⟨hx, hb, hml, hown, hts⟩ (k_X5_compare l ad ck D tt h_11 _) (cwV 2 hts gX5_middle_X5_compare rfl rfl rfl (by decide +kernel) ⟨Nat.le_of_ble_eq_true rfl, Nat.le_of_ble_eq_true rfl⟩) (cx_preV C (q0 := 0) (ci := 5) rfl rfl) rfl rfl hl.1 rfl (lv_room (Nat.le_of_ble_eq_true rfl)) dX5_middle_40 ⟨Nat.zero_le _, Nat.zero_le _⟩) (fun H locs C => ?_)
            refine lv_istore (lv' := [(5, .int r_12), (0, .ref (ad 0)), (1, .int x1), (2, .int x2), (3, .int x3), (4, .int x4)]) hx hb dX5_middle_43 hl (by decide) rfl (fun ls hl => ?_)
            refine lv_iload_n hx hb dX5_middle_45 rfl (lv_at hl 4 rfl) ?_
            refine lv_iload hx hb dX5_middle_46 (lv_at hl 0 rfl) ?_
            refine lv_if_lt (tgt := 62) hx hb dX5_middle_48 (by decide) (fun c_14 => ?_) (fun c_14 => ?_)
            · replace hf := (if_pos c_14).symm.trans hf
              refine lv_iconst (v := 1) hx hb dX5_middle_62 (by decide) ?_
              refine lv_goto (tgt := 67) hx hb dX5_middle_63 (by decide) ?_
              exact J67 x1 x2 x4 x3 1 u_13 _ _ _ hf C (lv_sub hl [1, 2, 3, 5] rfl)
            · replace hf := (if_neg c_14).symm.trans hf
              refine lv_iload hx hb dX5_middle_51 (lv_at hl 0 rfl) ?_
              refine lv_if_ne (tgt := 66) hx hb dX5_middle_53 (by decide) (fun c_15 => ?_) (fun c_15 => ?_)
              · replace hf := (if_neg c_15).symm.trans hf
                refine lv_iconst (v := 0) hx hb dX5_middle_66 (by decide) ?_
                exact J67 x1 x2 x4 x3 0 u_13 _ _ _ hf C (lv_sub hl [1, 2, 3, 5] rfl)
              · replace hf := (if_pos c_15).symm.trans hf
                refine lv_iload hx hb dX5_middle_56 (lv_at hl 5 rfl) ?_
                refine lv_iload_n hx hb dX5_middle_58 rfl (lv_at hl 3 rfl) ?_
                refine lv_icmp_ge (tgt := 66) hx hb dX5_middle_59 (by decide) (fun c_16 => ?_) (fun c_16 => ?_)
                · replace hf := (if_pos c_16).symm.trans hf
                  refine lv_iconst (v := 0) hx hb dX5_middle_66 (by decide) ?_
                  exact J67 x1 x2 x4 x3 0 u_13 _ _ _ hf C (lv_sub hl [1, 2, 3, 5] rfl)
                · replace hf := (if_neg c_16).symm.trans hf
                  refine lv_iconst (v := 1) hx hb dX5_middle_62 (by decide) ?_
                  refine lv_goto (tgt := 67) hx hb dX5_middle_63 (by decide) ?_
                  exact J67 x1 x2 x4 x3 1 u_13 _ _ _ hf C (lv_sub hl [1, 2, 3, 5] rfl)
      refine lv_iload_n hx hb dX5_middle_4 rfl (lv_at hl 2 rfl) ?_
      refine lv_aload_n hx hb dX5_middle_5 rfl (lv_at hl 0 rfl) ?_
      refine cx_get C hx hb (T := TX5) (N := 28) hts (by decide +kernel) hown 0 rfl rfl 26 (by decide) (hts (.fieldLink RX5 134 "AggregateRowsModel" "many" "I") (by decide +kernel)) (fun _ h9 => h9) (v := .int (w.1 7)) rfl dX5_middle_6 ?_
      refine lv_icmp_ge (tgt := 104) hx hb dX5_middle_9 (by decide) (fun c_17 => ?_) (fun c_17 => ?_)
      · replace hf := (if_pos c_17).symm.trans hf
        refine lv_iload_n hx hb dX5_middle_104 rfl (lv_at hl 1 rfl) ?_
        exact cx_iret C hx hb hr hlocks hf dX5_middle_105
      · replace hf := (if_neg c_17).symm.trans hf
        refine lv_iconst (v := 0) hx hb dX5_middle_12 (by decide) ?_
        refine lv_istore_n (lv' := [(3, .int 0), (0, .ref (ad 0)), (1, .int x1), (2, .int x2)]) hx hb dX5_middle_13 rfl hl (by decide) rfl (fun ls hl => ?_)
        refine lv_iconst (v := 0) hx hb dX5_middle_14 (by decide) ?_
        refine lv_istore (lv' := [(4, .int 0), (3, .int 0), (0, .ref (ad 0)), (1, .int x1), (2, .int x2)]) hx hb dX5_middle_15 hl (by decide) rfl (fun ls hl => ?_)
        exact J17 FU x1 x2 0 0 w _ _ _ hf C (lv_sub hl [2, 3, 4, 1, 0] rfl)
  have hl := lv_entry ([.ref (ad 0)]) (n := 6) (Nat.le_of_ble_eq_true rfl)
  rw [lg_entry_eq]
  generalize (lg_sl ([.ref (ad 0)]) ++ List.replicate (6 - (lg_sl ([.ref (ad 0)])).length) Slot.unset).toArray = ls at hl ⊢
  have hl : lv_has ls 6 [(0, .ref (ad 0))] := hl
  unfold fX5_middle at hf
  refine lv_iconst (v := (-1)) hx hb dX5_middle_0 (by decide) ?_
  refine lv_istore_n (lv' := [(1, .int (-1)), (0, .ref (ad 0))]) hx hb dX5_middle_1 rfl hl (by decide) rfl (fun ls hl => ?_)
  refine lv_iconst (v := 0) hx hb dX5_middle_2 (by decide) ?_
  refine lv_istore_n (lv' := [(2, .int 0), (1, .int (-1)), (0, .ref (ad 0))]) hx hb dX5_middle_3 rfl hl (by decide) rfl (fun ls hl => ?_)
  exact J4 FU (-1) 0 u _ _ _ hf C (lv_sub hl [2, 1, 0] rfl)
/-! ===== X5_tellOwn ===== -/
def fX5_tellOwn (u : St) (a1 : Int32) : Option (Unit × St) := (if (u.1 5) = 0 then (if (u.1 7) = 0 then bnd (fX5_tellNumber u a1 0 1000) (fun _ u_37 => some ((), u_37)) else bnd (fX5_outermost u 1) (fun r_21 u_22 => bnd (fX5_thousandths u_22 r_21) (fun r_24 u_25 => bnd (fX5_outermost u_25 (-1)) (fun r_27 u_28 => bnd (fX5_thousandths u_28 r_27) (fun r_30 u_31 => bnd (fX5_tellNumber u_31 a1 (r_24 - r_30) 1000) (fun _ u_34 => some ((), u_34))))))) else (if (u.1 5) = 1 then bnd (fX5_middle u) (fun r_14 u_15 => bnd (fX5_tellTerm u_15 a1 r_14) (fun _ u_18 => some ((), u_18))) else (if (u.1 7) = 0 then bnd (fX5_fail u a1 3) (fun _ u_12 => some ((), u_12)) else bnd (fX5_sum u 1) (fun r_5 u_6 => bnd (fX5_tellNumber u_6 a1 r_5 (1000 * ((u_6.1 7).toInt64))) (fun _ u_9 => some ((), u_9))))))
abbrev rmX5_tellOwn : Room := { frames := 3, cells := 0, slots := 0, locals := 75 }
set_option maxHeartbeats 4000000 in
set_option maxRecDepth 100000 in
theorem k_X5_tellOwn (l : Launch) (ad : Nat → Nat) (ck : Nat → ClassId) (D : va_G) (tt : Nat) {u : St} {a1 : Int32} {u' : St} (hf : fX5_tellOwn u a1 = some ((), u')) : MV l yX5_tellOwn wsX5_tellOwn rmX5_tellOwn (wM ad ck) ck D tt [.ref (ad 0), .int a1] u u' := by
  intro sz
  refine Met.ofW (cc := cX5_tellOwn) (maxL := 2) (ret := none) (by decide) rfl ?_
  intro p e s m args below meth c s₁ B hml hv
  obtain ⟨rfl, hsz, C⟩ := cx_entry hv
  have hx := B.exec
  have hb := B.bytes
  have hr := B.returns
  have hts := atoms_spec (ws := wsX5_tellOwn) B.pre
  have hown : s.vm.findClass RX5 = some m.cls := findClass_of_methodNamed B.named
  have hlocks := B.notSynchronized
  have hl := lv_entry ([.ref (ad 0), .int a1]) (n := 2) (Nat.le_of_ble_eq_true rfl)
  rw [lg_entry_eq]
  generalize (lg_sl ([.ref (ad 0), .int a1]) ++ List.replicate (2 - (lg_sl ([.ref (ad 0), .int a1])).length) Slot.unset).toArray = ls at hl ⊢
  have hl : lv_has ls 2 [(0, .ref (ad 0)), (1, .int a1)] := hl
  unfold fX5_tellOwn at hf
  refine lv_aload_n hx hb dX5_tellOwn_0 rfl (lv_at hl 0 rfl) ?_
  refine cx_get C hx hb (T := TX5) (N := 28) hts (by decide +kernel) hown 0 rfl rfl 13 (by decide) (hts (.fieldLink RX5 120 "AggregateRowsModel" "own" "I") (by decide +kernel)) (fun _ h9 => h9) (v := .int (u.1 5)) rfl dX5_tellOwn_1 ?_
  refine lv_if_ne (tgt := 48) hx hb dX5_tellOwn_4 (by decide) (fun c_1 => ?_) (fun c_1 => ?_)
  · replace hf := (if_neg c_1).symm.trans hf
    refine lv_aload_n hx hb dX5_tellOwn_48 rfl (lv_at hl 0 rfl) ?_
    refine cx_get C hx hb (T := TX5) (N := 28) hts (by decide +kernel) hown 0 rfl rfl 13 (by decide) (hts (.fieldLink RX5 120 "AggregateRowsModel" "own" "I") (by decide +kernel)) (fun _ h9 => h9) (v := .int (u.1 5)) rfl dX5_tellOwn_49 ?_
    refine lv_iconst (v := 1) hx hb dX5_tellOwn_52 (by decide) ?_
    refine lv_icmp_ne (tgt := 68) hx hb dX5_tellOwn_53 (by decide) (fun c_2 => ?_) (fun c_2 => ?_)
    · replace hf := (if_neg c_2).symm.trans hf
      refine lv_aload_n hx hb dX5_tellOwn_68 rfl (lv_at hl 0 rfl) ?_
      refine cx_get C hx hb (T := TX5) (N := 28) hts (by decide +kernel) hown 0 rfl rfl 26 (by decide) (hts (.fieldLink RX5 134 "AggregateRowsModel" "many" "I") (by decide +kernel)) (fun _ h9 => h9) (v := .int (u.1 7)) rfl dX5_tellOwn_69 ?_
      refine lv_if_ne (tgt := 84) hx hb dX5_tellOwn_72 (by decide) (fun c_3 => ?_) (fun c_3 => ?_)
      · replace hf := (if_neg c_3).symm.trans hf
        refine lv_aload_n hx hb dX5_tellOwn_84 rfl (lv_at hl 0 rfl) ?_
        refine lv_iload_n hx hb dX5_tellOwn_85 rfl (lv_at hl 1 rfl) ?_
        refine lv_aload_n hx hb dX5_tellOwn_86 rfl (lv_at hl 0 rfl) ?_
        refine lv_iconst (v := 1) hx hb dX5_tellOwn_87 (by decide) ?_
        obtain ⟨r_5, u_6, h_4, hf⟩ := bnd_some hf
        refine cx_calll C (va_runV (As := [.int 1]) (rest := [.int a1, .ref (ad 0)]) ⟨hx, hb, hml, hown, hts⟩ (k_X5_sum l ad ck D tt h_4 _) (cwV 1 hts gX5_tellOwn_X5_sum rfl rfl rfl (by decide +kernel) ⟨Nat.le_of_ble_eq_true rfl, Nat.le_of_ble_eq_true rfl⟩) (cx_preV C (q0 := 0) (ci := 5) rfl rfl) rfl rfl hl.1 rfl (lv_room (Nat.le_of_ble_eq_true rfl)) dX5_tellOwn_88 ⟨Nat.zero_le _, Nat.zero_le _⟩) (fun H locs C => ?_)
        refine lv_ldc2 (v := 1000) hx hb hown (hts (.constantLong RX5 144 (1000)) (by decide +kernel)) dX5_tellOwn_91 ?_
        refine lv_aload_n hx hb dX5_tellOwn_94 rfl (lv_at hl 0 rfl) ?_
        refine cx_get C hx hb (T := TX5) (N := 28) hts (by decide +kernel) hown 0 rfl rfl 26 (by decide) (hts (.fieldLink RX5 134 "AggregateRowsModel" "many" "I") (by decide +kernel)) (fun _ h9 => h9) (v := .int (u_6.1 7)) rfl dX5_tellOwn_95 ?_
        refine lv_i2l hx hb dX5_tellOwn_98 rfl ?_
        refine lv_lmul hx hb dX5_tellOwn_99 ?_
        obtain ⟨_, u_9, h_7, hf⟩ := bnd_some hf
        refine cx_callv C (va_runV (As := [.int a1, .long r_5, .long (1000 * ((u_6.1 7).toInt64))]) (rest := []) ⟨hx, hb, hml, hown, hts⟩ (k_X5_tellNumber l ad ck D tt h_7 _) (cwV 3 hts gX5_tellOwn_X5_tellNumber rfl rfl rfl (by decide +kernel) ⟨Nat.le_of_ble_eq_true rfl, Nat.le_of_ble_eq_true rfl⟩) (cx_preV C (q0 := 0) (ci := 5) rfl rfl) rfl rfl hl.1 rfl (lv_room (Nat.le_of_ble_eq_true rfl)) dX5_tellOwn_100 ⟨Nat.zero_le _, Nat.zero_le _⟩) (fun H locs C => ?_)
        exact cx_vret C hx hb hr hlocks hf dX5_tellOwn_103
      · replace hf := (if_pos c_3).symm.trans hf
        refine lv_aload_n hx hb dX5_tellOwn_75 rfl (lv_at hl 0 rfl) ?_
        refine lv_iload_n hx hb dX5_tellOwn_76 rfl (lv_at hl 1 rfl) ?_
        refine lv_iconst (v := 3) hx hb dX5_tellOwn_77 (by decide) ?_
        obtain ⟨_, u_12, h_10, hf⟩ := bnd_some hf
        refine cx_callv C (va_runV (As := [.int a1, .int 3]) (rest := []) ⟨hx, hb, hml, hown, hts⟩ (k_X5_fail l ad ck D tt h_10 _) (cwV 2 hts gX5_tellOwn_X5_fail rfl rfl rfl (by decide +kernel) ⟨Nat.le_of_ble_eq_true rfl, Nat.le_of_ble_eq_true rfl⟩) (cx_preV C (q0 := 0) (ci := 5) rfl rfl) rfl rfl hl.1 rfl (lv_room (Nat.le_of_ble_eq_true rfl)) dX5_tellOwn_78 ⟨Nat.zero_le _, Nat.zero_le _⟩) (fun H locs C => ?_)
        refine lv_goto (tgt := 103) hx hb dX5_tellOwn_81 (by decide) ?_
        exact cx_vret C hx hb hr hlocks hf dX5_tellOwn_103
    · replace hf := (if_pos c_2).symm.trans hf
      refine lv_aload_n hx hb dX5_tellOwn_56 rfl (lv_at hl 0 rfl) ?_
      refine lv_iload_n hx hb dX5_tellOwn_57 rfl (lv_at hl 1 rfl) ?_
      refine lv_aload_n hx hb dX5_tellOwn_58 rfl (lv_at hl 0 rfl) ?_
      obtain ⟨r_14, u_15, h_13, hf⟩ := bnd_some hf
      refine cx_calli C (va_runV (As := []) (rest := [.int a1, .ref (ad 0)]) ⟨hx, hb, hml, hown, hts⟩ (k_X5_middle l ad ck D tt h_13 _) (cwV 0 hts gX5_tellOwn_X5_middle rfl rfl rfl (by decide +kernel) ⟨Nat.le_of_ble_eq_true rfl, Nat.le_of_ble_eq_true rfl⟩) (cx_preV C (q0 := 0) (ci := 5) rfl rfl) rfl rfl hl.1 rfl (lv_room (Nat.le_of_ble_eq_true rfl)) dX5_tellOwn_59 ⟨Nat.zero_le _, Nat.zero_le _⟩) (fun H locs C => ?_)
      obtain ⟨_, u_18, h_16, hf⟩ := bnd_some hf
      refine cx_callv C (va_runV (As := [.int a1, .int r_14]) (rest := []) ⟨hx, hb, hml, hown, hts⟩ (k_X5_tellTerm l ad ck D tt h_16 _) (cwV 2 hts gX5_tellOwn_X5_tellTerm rfl rfl rfl (by decide +kernel) ⟨Nat.le_of_ble_eq_true rfl, Nat.le_of_ble_eq_true rfl⟩) (cx_preV C (q0 := 0) (ci := 5) rfl rfl) rfl rfl hl.1 rfl (lv_room (Nat.le_of_ble_eq_true rfl)) dX5_tellOwn_62 ⟨Nat.zero_le _, Nat.zero_le _⟩) (fun H locs C => ?_)
      refine lv_goto (tgt := 103) hx hb dX5_tellOwn_65 (by decide) ?_
      exact cx_vret C hx hb hr hlocks hf dX5_tellOwn_103
  · replace hf := (if_pos c_1).symm.trans hf
    refine lv_aload_n hx hb dX5_tellOwn_7 rfl (lv_at hl 0 rfl) ?_
    refine lv_iload_n hx hb dX5_tellOwn_8 rfl (lv_at hl 1 rfl) ?_
    refine lv_aload_n hx hb dX5_tellOwn_9 rfl (lv_at hl 0 rfl) ?_
    refine cx_get C hx hb (T := TX5) (N := 28) hts (by decide +kernel) hown 0 rfl rfl 26 (by decide) (hts (.fieldLink RX5 134 "AggregateRowsModel" "many" "I") (by decide +kernel)) (fun _ h9 => h9) (v := .int (u.1 7)) rfl dX5_tellOwn_10 ?_
    refine lv_if_ne (tgt := 20) hx hb dX5_tellOwn_13 (by decide) (fun c_19 => ?_) (fun c_19 => ?_)
    · replace hf := (if_neg c_19).symm.trans hf
      refine lv_aload_n hx hb dX5_tellOwn_20 rfl (lv_at hl 0 rfl) ?_
      refine lv_aload_n hx hb dX5_tellOwn_21 rfl (lv_at hl 0 rfl) ?_
      refine lv_iconst (v := 1) hx hb dX5_tellOwn_22 (by decide) ?_
      obtain ⟨r_21, u_22, h_20, hf⟩ := bnd_some hf
      refine cx_calli C (va_runV (As := [.int 1]) (rest := [.ref (ad 0), .int a1, .ref (ad 0)]) ⟨hx, hb, hml, hown, hts⟩ (k_X5_outermost l ad ck D tt h_20 _) (cwV 1 hts gX5_tellOwn_X5_outermost rfl rfl rfl (by decide +kernel) ⟨Nat.le_of_ble_eq_true rfl, Nat.le_of_ble_eq_true rfl⟩) (cx_preV C (q0 := 0) (ci := 5) rfl rfl) rfl rfl hl.1 rfl (lv_room (Nat.le_of_ble_eq_true rfl)) dX5_tellOwn_23 ⟨Nat.zero_le _, Nat.zero_le _⟩) (fun H locs C => ?_)
      obtain ⟨r_24, u_25, h_23, hf⟩ := bnd_some hf
      refine cx_calll C (va_runV (As := [.int r_21]) (rest := [.int a1, .ref (ad 0)]) ⟨hx, hb, hml, hown, hts⟩ (k_X5_thousandths l ad ck D tt h_23 _) (cwV 1 hts gX5_tellOwn_X5_thousandths rfl rfl rfl (by decide +kernel) ⟨Nat.le_of_ble_eq_true rfl, Nat.le_of_ble_eq_true rfl⟩) (cx_preV C (q0 := 0) (ci := 5) rfl rfl) rfl rfl hl.1 rfl (lv_room (Nat.le_of_ble_eq_true rfl)) dX5_tellOwn_26 ⟨Nat.zero_le _, Nat.zero_le _⟩) (fun H locs C => ?_)
      refine lv_aload_n hx hb dX5_tellOwn_29 rfl (lv_at hl 0 rfl) ?_
      refine lv_aload_n hx hb dX5_tellOwn_30 rfl (lv_at hl 0 rfl) ?_
      refine lv_iconst (v := (-1)) hx hb dX5_tellOwn_31 (by decide) ?_
      obtain ⟨r_27, u_28, h_26, hf⟩ := bnd_some hf
      refine cx_calli C (va_runV (As := [.int (-1)]) (rest := [.ref (ad 0), .long r_24, .int a1, .ref (ad 0)]) ⟨hx, hb, hml, hown, hts⟩ (k_X5_outermost l ad ck D tt h_26 _) (cwV 1 hts gX5_tellOwn_X5_outermost rfl rfl rfl (by decide +kernel) ⟨Nat.le_of_ble_eq_true rfl, Nat.le_of_ble_eq_true rfl⟩) (cx_preV C (q0 := 0) (ci := 5) rfl rfl) rfl rfl hl.1 rfl (lv_room (Nat.le_of_ble_eq_true rfl)) dX5_tellOwn_32 ⟨Nat.zero_le _, Nat.zero_le _⟩) (fun H locs C => ?_)
      obtain ⟨r_30, u_31, h_29, hf⟩ := bnd_some hf
      refine cx_calll C (va_runV (As := [.int r_27]) (rest := [.long r_24, .int a1, .ref (ad 0)]) ⟨hx, hb, hml, hown, hts⟩ (k_X5_thousandths l ad ck D tt h_29 _) (cwV 1 hts gX5_tellOwn_X5_thousandths rfl rfl rfl (by decide +kernel) ⟨Nat.le_of_ble_eq_true rfl, Nat.le_of_ble_eq_true rfl⟩) (cx_preV C (q0 := 0) (ci := 5) rfl rfl) rfl rfl hl.1 rfl (lv_room (Nat.le_of_ble_eq_true rfl)) dX5_tellOwn_35 ⟨Nat.zero_le _, Nat.zero_le _⟩) (fun H locs C => ?_)
      refine lv_lsub hx hb dX5_tellOwn_38 ?_
      refine lv_ldc2 (v := 1000) hx hb hown (hts (.constantLong RX5 144 (1000)) (by decide +kernel)) dX5_tellOwn_39 ?_
      obtain ⟨_, u_34, h_32, hf⟩ := bnd_some hf
      refine cx_callv C (va_runV (As := [.int a1, .long (r_24 - r_30), .long 1000]) (rest := []) ⟨hx, hb, hml, hown, hts⟩ (k_X5_tellNumber l ad ck D tt h_32 _) (cwV 3 hts gX5_tellOwn_X5_tellNumber rfl rfl rfl (by decide +kernel) ⟨Nat.le_of_ble_eq_true rfl, Nat.le_of_ble_eq_true rfl⟩) (cx_preV C (q0 := 0) (ci := 5) rfl rfl) rfl rfl hl.1 rfl (lv_room (Nat.le_of_ble_eq_true rfl)) dX5_tellOwn_42 ⟨Nat.zero_le _, Nat.zero_le _⟩) (fun H locs C => ?_)
      refine lv_goto (tgt := 103) hx hb dX5_tellOwn_45 (by decide) ?_
      exact cx_vret C hx hb hr hlocks hf dX5_tellOwn_103
    · replace hf := (if_pos c_19).symm.trans hf
      refine lv_lconst (v := 0) hx hb dX5_tellOwn_16 (by decide) ?_
      refine lv_goto (tgt := 39) hx hb dX5_tellOwn_17 (by decide) ?_
      refine lv_ldc2 (v := 1000) hx hb hown (hts (.constantLong RX5 144 (1000)) (by decide +kernel)) dX5_tellOwn_39 ?_
      obtain ⟨_, u_37, h_35, hf⟩ := bnd_some hf
      refine cx_callv C (va_runV (As := [.int a1, .long 0, .long 1000]) (rest := []) ⟨hx, hb, hml, hown, hts⟩ (k_X5_tellNumber l ad ck D tt h_35 _) (cwV 3 hts gX5_tellOwn_X5_tellNumber rfl rfl rfl (by decide +kernel) ⟨Nat.le_of_ble_eq_true rfl, Nat.le_of_ble_eq_true rfl⟩) (cx_preV C (q0 := 0) (ci := 5) rfl rfl) rfl rfl hl.1 rfl (lv_room (Nat.le_of_ble_eq_true rfl)) dX5_tellOwn_42 ⟨Nat.zero_le _, Nat.zero_le _⟩) (fun H locs C => ?_)
      refine lv_goto (tgt := 103) hx hb dX5_tellOwn_45 (by decide) ?_
      exact cx_vret C hx hb hr hlocks hf dX5_tellOwn_103
/-! ===== X5_tell ===== -/
def fX5_tell_65  (x1 : Int32) (x2 : Int32) (w : St) : Option (Unit × St) := lt_ x2 (fun sw => if sw = 0 then bnd (fX5_tellNumber w x1 ((w.1 7).toInt64) 1) (fun _ u_4 => some ((), u_4)) else if sw = 1 then bnd (fX5_sum w 0) (fun r_7 u_8 => bnd (fX5_tellNumber u_8 x1 r_7 1000) (fun _ u_11 => some ((), u_11))) else if sw = 2 then bnd (fX5_sum w 0) (fun r_14 u_15 => (if (u_15.1 7) = 0 then bnd (fX5_tellNumber u_15 x1 r_14 1) (fun _ u_22 => some ((), u_22)) else bnd (fX5_tellNumber u_15 x1 r_14 (1000 * ((u_15.1 7).toInt64))) (fun _ u_19 => some ((), u_19)))) else if sw = 3 then bnd (fX5_outermost w (-1)) (fun r_25 u_26 => bnd (fX5_tellTerm u_26 x1 r_25) (fun _ u_29 => some ((), u_29))) else if sw = 4 then bnd (fX5_outermost w 1) (fun r_32 u_33 => bnd (fX5_tellTerm u_33 x1 r_32) (fun _ u_36 => some ((), u_36))) else if sw = 5 then (if (w.1 7) = 0 then bnd (fX5_tellTerm w x1 (-1)) (fun _ u_45 => some ((), u_45)) else gd (okI 0 60) (bnd (fX5_tellTerm w x1 (w.2.1 17 (0 : Int32).toNatClampNeg)) (fun _ u_42 => some ((), u_42)))) else if sw = 6 then bnd (fX5_join w x1) (fun _ u_49 => some ((), u_49)) else bnd (fX5_tellOwn w x1) (fun _ u_52 => some ((), u_52)))
def fX5_tell_51  (x1 : Int32) (x2 : Int32) (w : St) : Option (Unit × St) := bnd (fX5_hasText w) (fun r_2 u_3 => (if r_2 = 0 then fX5_tell_65 x1 x2 u_3 else bnd (fX5_fail u_3 x1 1) (fun _ u_7 => some ((), u_7))))
def fX5_tell (u : St) (a1 : Int32) (a2 : Int32) : Option (Unit × St) := gd (okI a1 60) (lt_ (sI u 11 a1.toNatClampNeg 0) (fun u_2 => gd (okI a1 60) (lt_ (sJ u_2 0 a1.toNatClampNeg 0) (fun u_4 => gd (okI a1 60) (lt_ (sJ u_4 1 a1.toNatClampNeg 1) (fun u_6 => gd (okI a1 60) (lt_ (sI u_6 12 a1.toNatClampNeg (-1)) (fun u_8 => gd (okI a1 60) (lt_ (sI u_8 13 a1.toNatClampNeg 0) (fun u_10 => (if a2 = 1 then fX5_tell_51 a1 a2 u_10 else (if a2 = 2 then fX5_tell_51 a1 a2 u_10 else (if a2 = 7 then fX5_tell_51 a1 a2 u_10 else fX5_tell_65 a1 a2 u_10)))))))))))))
abbrev rmX5_tell : Room := { frames := 4, cells := 0, slots := 0, locals := 96 }
set_option maxHeartbeats 4000000 in
set_option maxRecDepth 100000 in
theorem k_X5_tell (l : Launch) (ad : Nat → Nat) (ck : Nat → ClassId) (D : va_G) (tt : Nat) {u : St} {a1 : Int32} {a2 : Int32} {u' : St} (hf : fX5_tell u a1 a2 = some ((), u')) : MV l yX5_tell wsX5_tell rmX5_tell (wM ad ck) ck D tt [.ref (ad 0), .int a1, .int a2] u u' := by
  intro sz
  refine Met.ofW (cc := cX5_tell) (maxL := 3) (ret := none) (by decide) rfl ?_
  intro p e s m args below meth c s₁ B hml hv
  obtain ⟨rfl, hsz, C⟩ := cx_entry hv
  have hx := B.exec
  have hb := B.bytes
  have hr := B.returns
  have hts := atoms_spec (ws := wsX5_tell) B.pre
  have hown : s.vm.findClass RX5 = some m.cls := findClass_of_methodNamed B.named
  have hlocks := B.notSynchronized
  have J65 : ∀ (x1 : Int32) (x2 : Int32) (w : St) (H : Heap) (locs : List Loc) (ls : Array Slot), fX5_tell_65 x1 x2 w = some ((), u') → CX (wM ad ck) ck D tt (va_A (wM ad ck u) sz) s w H locs → lv_has ls 3 [(0, .ref (ad 0)), (1, .int x1), (2, .int x2)] → W p l e (headSpec wsX5_tell rmX5_tell).room s m ([.ref (ad 0), .int a1, .int a2] : List Value).toArray below meth c H locs 0 0 (MQ below (QV (wM ad ck) D u sz u') ([.ref (ad 0), .int a1, .int a2] : List Value).toArray s 0 0 (va_A (wM ad ck u) sz)) (F0 m 65 ls []) := by
    intro x1 x2 w H locs ls hf C hl
    unfold fX5_tell_65 at hf
    refine lv_iload_n hx hb dX5_tell_65 rfl (lv_at hl 2 rfl) ?_
    obtain ⟨sw, esw⟩ : ∃ z : Int32, z = x2 := ⟨_, rfl⟩
    rw [← esw]
    replace hf := lt_at hf esw
    by_cases c_1 : sw = 0
    · replace hf := (if_pos c_1).symm.trans hf
      subst c_1
      refine lv_tableIn (tgt := 108) hx hb dX5_tell_66 (by decide) (by decide) (by rfl) (by decide) ?_
      refine lv_aload_n hx hb dX5_tell_108 rfl (lv_at hl 0 rfl) ?_
      refine lv_iload_n hx hb dX5_tell_109 rfl (lv_at hl 1 rfl) ?_
      refine lv_aload_n hx hb dX5_tell_110 rfl (lv_at hl 0 rfl) ?_
      refine cx_get C hx hb (T := TX5) (N := 28) hts (by decide +kernel) hown 0 rfl rfl 26 (by decide) (hts (.fieldLink RX5 134 "AggregateRowsModel" "many" "I") (by decide +kernel)) (fun _ h9 => h9) (v := .int (w.1 7)) rfl dX5_tell_111 ?_
      refine lv_i2l hx hb dX5_tell_114 rfl ?_
      refine lv_lconst (v := 1) hx hb dX5_tell_115 (by decide) ?_
      obtain ⟨_, u_4, h_2, hf⟩ := bnd_some hf
      refine cx_callv C (va_runV (As := [.int x1, .long ((w.1 7).toInt64), .long 1]) (rest := []) ⟨hx, hb, hml, hown, hts⟩ (k_X5_tellNumber l ad ck D tt h_2 _) (cwV 3 hts gX5_tell_X5_tellNumber rfl rfl rfl (by decide +kernel) ⟨Nat.le_of_ble_eq_true rfl, Nat.le_of_ble_eq_true rfl⟩) (cx_preV C (q0 := 0) (ci := 5) rfl rfl) rfl rfl hl.1 rfl (lv_room (Nat.le_of_ble_eq_true rfl)) dX5_tell_116 ⟨Nat.zero_le _, Nat.zero_le _⟩) (fun H locs C => ?_)
      refine lv_goto (tgt := 235) hx hb dX5_tell_119 (by decide) ?_
      exact cx_vret C hx hb hr hlocks hf dX5_tell_235
    replace hf := (if_neg c_1).symm.trans hf
    by_cases c_5 : sw = 1
    · replace hf := (if_pos c_5).symm.trans hf
      subst c_5
      refine lv_tableIn (tgt := 122) hx hb dX5_tell_66 (by decide) (by decide) (by rfl) (by decide) ?_
      refine lv_aload_n hx hb dX5_tell_122 rfl (lv_at hl 0 rfl) ?_
      refine lv_iload_n hx hb dX5_tell_123 rfl (lv_at hl 1 rfl) ?_
      refine lv_aload_n hx hb dX5_tell_124 rfl (lv_at hl 0 rfl) ?_
      refine lv_iconst (v := 0) hx hb dX5_tell_125 (by decide) ?_
      obtain ⟨r_7, u_8, h_6, hf⟩ := bnd_some hf
      refine cx_calll C (va_runV (As := [.int 0]) (rest := [.int x1, .ref (ad 0)]) ⟨hx, hb, hml, hown, hts⟩ (k_X5_sum l ad ck D tt h_6 _) (cwV 1 hts gX5_tell_X5_sum rfl rfl rfl (by decide +kernel) ⟨Nat.le_of_ble_eq_true rfl, Nat.le_of_ble_eq_true rfl⟩) (cx_preV C (q0 := 0) (ci := 5) rfl rfl) rfl rfl hl.1 rfl (lv_room (Nat.le_of_ble_eq_true rfl)) dX5_tell_126 ⟨Nat.zero_le _, Nat.zero_le _⟩) (fun H locs C => ?_)
      refine lv_ldc2 (v := 1000) hx hb hown (hts (.constantLong RX5 144 (1000)) (by decide +kernel)) dX5_tell_129 ?_
      obtain ⟨_, u_11, h_9, hf⟩ := bnd_some hf
      refine cx_callv C (va_runV (As := [.int x1, .long r_7, .long 1000]) (rest := []) ⟨hx, hb, hml, hown, hts⟩ (k_X5_tellNumber l ad ck D tt h_9 _) (cwV 3 hts gX5_tell_X5_tellNumber rfl rfl rfl (by decide +kernel) ⟨Nat.le_of_ble_eq_true rfl, Nat.le_of_ble_eq_true rfl⟩) (cx_preV C (q0 := 0) (ci := 5) rfl rfl) rfl rfl hl.1 rfl (lv_room (Nat.le_of_ble_eq_true rfl)) dX5_tell_132 ⟨Nat.zero_le _, Nat.zero_le _⟩) (fun H locs C => ?_)
      refine lv_goto (tgt := 235) hx hb dX5_tell_135 (by decide) ?_
      exact cx_vret C hx hb hr hlocks hf dX5_tell_235
    replace hf := (if_neg c_5).symm.trans hf
    by_cases c_12 : sw = 2
    · replace hf := (if_pos c_12).symm.trans hf
      subst c_12
      refine lv_tableIn (tgt := 138) hx hb dX5_tell_66 (by decide) (by decide) (by rfl) (by decide) ?_
      refine lv_aload_n hx hb dX5_tell_138 rfl (lv_at hl 0 rfl) ?_
      refine lv_iload_n hx hb dX5_tell_139 rfl (lv_at hl 1 rfl) ?_
      refine lv_aload_n hx hb dX5_tell_140 rfl (lv_at hl 0 rfl) ?_
      refine lv_iconst (v := 0) hx hb dX5_tell_141 (by decide) ?_
      obtain ⟨r_14, u_15, h_13, hf⟩ := bnd_some hf
      refine cx_calll C (va_runV (As := [.int 0]) (rest := [.int x1, .ref (ad 0)]) ⟨hx, hb, hml, hown, hts⟩ (k_X5_sum l ad ck D tt h_13 _) (cwV 1 hts gX5_tell_X5_sum rfl rfl rfl (by decide +kernel) ⟨Nat.le_of_ble_eq_true rfl, Nat.le_of_ble_eq_true rfl⟩) (cx_preV C (q0 := 0) (ci := 5) rfl rfl) rfl rfl hl.1 rfl (lv_room (Nat.le_of_ble_eq_true rfl)) dX5_tell_142 ⟨Nat.zero_le _, Nat.zero_le _⟩) (fun H locs C => ?_)
      refine lv_aload_n hx hb dX5_tell_145 rfl (lv_at hl 0 rfl) ?_
      refine cx_get C hx hb (T := TX5) (N := 28) hts (by decide +kernel) hown 0 rfl rfl 26 (by decide) (hts (.fieldLink RX5 134 "AggregateRowsModel" "many" "I") (by decide +kernel)) (fun _ h9 => h9) (v := .int (u_15.1 7)) rfl dX5_tell_146 ?_
      refine lv_if_ne (tgt := 156) hx hb dX5_tell_149 (by decide) (fun c_16 => ?_) (fun c_16 => ?_)
      · replace hf := (if_neg c_16).symm.trans hf
        refine lv_ldc2 (v := 1000) hx hb hown (hts (.constantLong RX5 144 (1000)) (by decide +kernel)) dX5_tell_156 ?_
        refine lv_aload_n hx hb dX5_tell_159 rfl (lv_at hl 0 rfl) ?_
        refine cx_get C hx hb (T := TX5) (N := 28) hts (by decide +kernel) hown 0 rfl rfl 26 (by decide) (hts (.fieldLink RX5 134 "AggregateRowsModel" "many" "I") (by decide +kernel)) (fun _ h9 => h9) (v := .int (u_15.1 7)) rfl dX5_tell_160 ?_
        refine lv_i2l hx hb dX5_tell_163 rfl ?_
        refine lv_lmul hx hb dX5_tell_164 ?_
        obtain ⟨_, u_19, h_17, hf⟩ := bnd_some hf
        refine cx_callv C (va_runV (As := [.int x1, .long r_14, .long (1000 * ((u_15.1 7).toInt64))]) (rest := []) ⟨hx, hb, hml, hown, hts⟩ (k_X5_tellNumber l ad ck D tt h_17 _) (cwV 3 hts gX5_tell_X5_tellNumber rfl rfl rfl (by decide +kernel) ⟨Nat.le_of_ble_eq_true rfl, Nat.le_of_ble_eq_true rfl⟩) (cx_preV C (q0 := 0) (ci := 5) rfl rfl) rfl rfl hl.1 rfl (lv_room (Nat.le_of_ble_eq_true rfl)) dX5_tell_165 ⟨Nat.zero_le _, Nat.zero_le _⟩) (fun H locs C => ?_)
        refine lv_goto (tgt := 235) hx hb dX5_tell_168 (by decide) ?_
        exact cx_vret C hx hb hr hlocks hf dX5_tell_235
      · replace hf := (if_pos c_16).symm.trans hf
        refine lv_lconst (v := 1) hx hb dX5_tell_152 (by decide) ?_
        refine lv_goto (tgt := 165) hx hb dX5_tell_153 (by decide) ?_
        obtain ⟨_, u_22, h_20, hf⟩ := bnd_some hf
        refine cx_callv C (va_runV (As := [.int x1, .long r_14, .long 1]) (rest := []) ⟨hx, hb, hml, hown, hts⟩ (k_X5_tellNumber l ad ck D tt h_20 _) (cwV 3 hts gX5_tell_X5_tellNumber rfl rfl rfl (by decide +kernel) ⟨Nat.le_of_ble_eq_true rfl, Nat.le_of_ble_eq_true rfl⟩) (cx_preV C (q0 := 0) (ci := 5) rfl rfl) rfl rfl hl.1 rfl (lv_room (Nat.le_of_ble_eq_true rfl)) dX5_tell_165 ⟨Nat.zero_le _, Nat.zero_le _⟩) (fun H locs C => ?_)
        refine lv_goto (tgt := 235) hx hb dX5_tell_168 (by decide) ?_
        exact cx_vret C hx hb hr hlocks hf dX5_tell_235
    replace hf := (if_neg c_12).symm.trans hf
    by_cases c_23 : sw = 3
    · replace hf := (if_pos c_23).symm.trans hf
      subst c_23
      refine lv_tableIn (tgt := 171) hx hb dX5_tell_66 (by decide) (by decide) (by rfl) (by decide) ?_
      refine lv_aload_n hx hb dX5_tell_171 rfl (lv_at hl 0 rfl) ?_
      refine lv_iload_n hx hb dX5_tell_172 rfl (lv_at hl 1 rfl) ?_
      refine lv_aload_n hx hb dX5_tell_173 rfl (lv_at hl 0 rfl) ?_
      refine lv_iconst (v := (-1)) hx hb dX5_tell_174 (by decide) ?_
      obtain ⟨r_25, u_26, h_24, hf⟩ := bnd_some hf
      refine cx_calli C (va_runV (As := [.int (-1)]) (rest := [.int x1, .ref (ad 0)]) ⟨hx, hb, hml, hown, hts⟩ (k_X5_outermost l ad ck D tt h_24 _) (cwV 1 hts gX5_tell_X5_outermost rfl rfl rfl (by decide +kernel) ⟨Nat.le_of_ble_eq_true rfl, Nat.le_of_ble_eq_true rfl⟩) (cx_preV C (q0 := 0) (ci := 5) rfl rfl) rfl rfl hl.1 rfl (lv_room (Nat.le_of_ble_eq_true rfl)) dX5_tell_175 ⟨Nat.zero_le _, Nat.zero_le _⟩) (fun H locs C => ?_)
      obtain ⟨_, u_29, h_27, hf⟩ := bnd_some hf
      refine cx_callv C (va_runV (As := [.int x1, .int r_25]) (rest := []) ⟨hx, hb, hml, hown, hts⟩ (k_X5_tellTerm l ad ck D tt h_27 _) (cwV 2 hts gX5_tell_X5_tellTerm rfl rfl rfl (by decide +kernel) ⟨Nat.le_of_ble_eq_true rfl, Nat.le_of_ble_eq_true rfl⟩) (cx_preV C (q0 := 0) (ci := 5) rfl rfl) rfl rfl hl.1 rfl (lv_room (Nat.le_of_ble_eq_true rfl)) dX5_tell_178 ⟨Nat.zero_le _, Nat.zero_le _⟩) (fun H locs C => ?_)
      refine lv_goto (tgt := 235) hx hb dX5_tell_181 (by decide) ?_
      exact cx_vret C hx hb hr hlocks hf dX5_tell_235
    replace hf := (if_neg c_23).symm.trans hf
    by_cases c_30 : sw = 4
    · replace hf := (if_pos c_30).symm.trans hf
      subst c_30
      refine lv_tableIn (tgt := 184) hx hb dX5_tell_66 (by decide) (by decide) (by rfl) (by decide) ?_
      refine lv_aload_n hx hb dX5_tell_184 rfl (lv_at hl 0 rfl) ?_
      refine lv_iload_n hx hb dX5_tell_185 rfl (lv_at hl 1 rfl) ?_
      refine lv_aload_n hx hb dX5_tell_186 rfl (lv_at hl 0 rfl) ?_
      refine lv_iconst (v := 1) hx hb dX5_tell_187 (by decide) ?_
      obtain ⟨r_32, u_33, h_31, hf⟩ := bnd_some hf
      refine cx_calli C (va_runV (As := [.int 1]) (rest := [.int x1, .ref (ad 0)]) ⟨hx, hb, hml, hown, hts⟩ (k_X5_outermost l ad ck D tt h_31 _) (cwV 1 hts gX5_tell_X5_outermost rfl rfl rfl (by decide +kernel) ⟨Nat.le_of_ble_eq_true rfl, Nat.le_of_ble_eq_true rfl⟩) (cx_preV C (q0 := 0) (ci := 5) rfl rfl) rfl rfl hl.1 rfl (lv_room (Nat.le_of_ble_eq_true rfl)) dX5_tell_188 ⟨Nat.zero_le _, Nat.zero_le _⟩) (fun H locs C => ?_)
      obtain ⟨_, u_36, h_34, hf⟩ := bnd_some hf
      refine cx_callv C (va_runV (As := [.int x1, .int r_32]) (rest := []) ⟨hx, hb, hml, hown, hts⟩ (k_X5_tellTerm l ad ck D tt h_34 _) (cwV 2 hts gX5_tell_X5_tellTerm rfl rfl rfl (by decide +kernel) ⟨Nat.le_of_ble_eq_true rfl, Nat.le_of_ble_eq_true rfl⟩) (cx_preV C (q0 := 0) (ci := 5) rfl rfl) rfl rfl hl.1 rfl (lv_room (Nat.le_of_ble_eq_true rfl)) dX5_tell_191 ⟨Nat.zero_le _, Nat.zero_le _⟩) (fun H locs C => ?_)
      refine lv_goto (tgt := 235) hx hb dX5_tell_194 (by decide) ?_
      exact cx_vret C hx hb hr hlocks hf dX5_tell_235
    replace hf := (if_neg c_30).symm.trans hf
    by_cases c_37 : sw = 5
    · replace hf := (if_pos c_37).symm.trans hf
      subst c_37
      refine lv_tableIn (tgt := 197) hx hb dX5_tell_66 (by decide) (by decide) (by rfl) (by decide) ?_
      refine lv_aload_n hx hb dX5_tell_197 rfl (lv_at hl 0 rfl) ?_
      refine lv_iload_n hx hb dX5_tell_198 rfl (lv_at hl 1 rfl) ?_
      refine lv_aload_n hx hb dX5_tell_199 rfl (lv_at hl 0 rfl) ?_
      refine cx_get C hx hb (T := TX5) (N := 28) hts (by decide +kernel) hown 0 rfl rfl 26 (by decide) (hts (.fieldLink RX5 134 "AggregateRowsModel" "many" "I") (by decide +kernel)) (fun _ h9 => h9) (v := .int (w.1 7)) rfl dX5_tell_200 ?_
      refine lv_if_ne (tgt := 210) hx hb dX5_tell_203 (by decide) (fun c_38 => ?_) (fun c_38 => ?_)
      · replace hf := (if_neg c_38).symm.trans hf
        refine lv_aload_n hx hb dX5_tell_210 rfl (lv_at hl 0 rfl) ?_
        refine cx_get C hx hb (T := TX5) (N := 28) hts (by decide +kernel) hown 0 rfl rfl 27 (by decide) (hts (.fieldLink RX5 69 "AggregateRowsModel" "list" "[I") (by decide +kernel)) (fun _ h9 => h9) (v := .ref (ad 20)) rfl dX5_tell_211 ?_
        refine lv_iconst (v := 0) hx hb dX5_tell_214 (by decide) ?_
        obtain ⟨g_39, hf⟩ := gd_some hf
        refine cx_iald C hx hb 20 rfl g_39 dX5_tell_215 ?_
        obtain ⟨_, u_42, h_40, hf⟩ := bnd_some hf
        refine cx_callv C (va_runV (As := [.int x1, .int (w.2.1 17 (0 : Int32).toNatClampNeg)]) (rest := []) ⟨hx, hb, hml, hown, hts⟩ (k_X5_tellTerm l ad ck D tt h_40 _) (cwV 2 hts gX5_tell_X5_tellTerm rfl rfl rfl (by decide +kernel) ⟨Nat.le_of_ble_eq_true rfl, Nat.le_of_ble_eq_true rfl⟩) (cx_preV C (q0 := 0) (ci := 5) rfl rfl) rfl rfl hl.1 rfl (lv_room (Nat.le_of_ble_eq_true rfl)) dX5_tell_216 ⟨Nat.zero_le _, Nat.zero_le _⟩) (fun H locs C => ?_)
        refine lv_goto (tgt := 235) hx hb dX5_tell_219 (by decide) ?_
        exact cx_vret C hx hb hr hlocks hf dX5_tell_235
      · replace hf := (if_pos c_38).symm.trans hf
        refine lv_iconst (v := (-1)) hx hb dX5_tell_206 (by decide) ?_
        refine lv_goto (tgt := 216) hx hb dX5_tell_207 (by decide) ?_
        obtain ⟨_, u_45, h_43, hf⟩ := bnd_some hf
        refine cx_callv C (va_runV (As := [.int x1, .int (-1)]) (rest := []) ⟨hx, hb, hml, hown, hts⟩ (k_X5_tellTerm l ad ck D tt h_43 _) (cwV 2 hts gX5_tell_X5_tellTerm rfl rfl rfl (by decide +kernel) ⟨Nat.le_of_ble_eq_true rfl, Nat.le_of_ble_eq_true rfl⟩) (cx_preV C (q0 := 0) (ci := 5) rfl rfl) rfl rfl hl.1 rfl (lv_room (Nat.le_of_ble_eq_true rfl)) dX5_tell_216 ⟨Nat.zero_le _, Nat.zero_le _⟩) (fun H locs C => ?_)
        refine lv_goto (tgt := 235) hx hb dX5_tell_219 (by decide) ?_
        exact cx_vret C hx hb hr hlocks hf dX5_tell_235
    replace hf := (if_neg c_37).symm.trans hf
    by_cases c_46 : sw = 6
    · replace hf := (if_pos c_46).symm.trans hf
      subst c_46
      refine lv_tableIn (tgt := 222) hx hb dX5_tell_66 (by decide) (by decide) (by rfl) (by decide) ?_
      refine lv_aload_n hx hb dX5_tell_222 rfl (lv_at hl 0 rfl) ?_
      refine lv_iload_n hx hb dX5_tell_223 rfl (lv_at hl 1 rfl) ?_
      obtain ⟨_, u_49, h_47, hf⟩ := bnd_some hf
      refine cx_callv C (va_runV (As := [.int x1]) (rest := []) ⟨hx, hb, hml, hown, hts⟩ (k_X5_join l ad ck D tt h_47 _) (cwV 1 hts gX5_tell_X5_join rfl rfl rfl (by decide +kernel) ⟨Nat.le_of_ble_eq_true rfl, Nat.le_of_ble_eq_true rfl⟩) (cx_preV C (q0 := 0) (ci := 5) rfl rfl) rfl rfl hl.1 rfl (lv_room (Nat.le_of_ble_eq_true rfl)) dX5_tell_224 ⟨Nat.zero_le _, Nat.zero_le _⟩) (fun H locs C => ?_)
      refine lv_goto (tgt := 235) hx hb dX5_tell_227 (by decide) ?_
      exact cx_vret C hx hb hr hlocks hf dX5_tell_235
    replace hf := (if_neg c_46).symm.trans hf
    refine lv_tableOut (tgt := 230) hx hb dX5_tell_66 (by have q0 := lv_neT (a := 0) c_1 (by decide); have q1 := lv_neT (a := 1) c_5 (by decide); have q2 := lv_neT (a := 2) c_12 (by decide); have q3 := lv_neT (a := 3) c_23 (by decide); have q4 := lv_neT (a := 4) c_30 (by decide); have q5 := lv_neT (a := 5) c_37 (by decide); have q6 := lv_neT (a := 6) c_46 (by decide); omega) (by decide) ?_
    refine lv_aload_n hx hb dX5_tell_230 rfl (lv_at hl 0 rfl) ?_
    refine lv_iload_n hx hb dX5_tell_231 rfl (lv_at hl 1 rfl) ?_
    obtain ⟨_, u_52, h_50, hf⟩ := bnd_some hf
    refine cx_callv C (va_runV (As := [.int x1]) (rest := []) ⟨hx, hb, hml, hown, hts⟩ (k_X5_tellOwn l ad ck D tt h_50 _) (cwV 1 hts gX5_tell_X5_tellOwn rfl rfl rfl (by decide +kernel) ⟨Nat.le_of_ble_eq_true rfl, Nat.le_of_ble_eq_true rfl⟩) (cx_preV C (q0 := 0) (ci := 5) rfl rfl) rfl rfl hl.1 rfl (lv_room (Nat.le_of_ble_eq_true rfl)) dX5_tell_232 ⟨Nat.zero_le _, Nat.zero_le _⟩) (fun H locs C => ?_)
    exact cx_vret C hx hb hr hlocks hf dX5_tell_235
  have J51 : ∀ (x1 : Int32) (x2 : Int32) (w : St) (H : Heap) (locs : List Loc) (ls : Array Slot), fX5_tell_51 x1 x2 w = some ((), u') → CX (wM ad ck) ck D tt (va_A (wM ad ck u) sz) s w H locs → lv_has ls 3 [(0, .ref (ad 0)), (1, .int x1), (2, .int x2)] → W p l e (headSpec wsX5_tell rmX5_tell).room s m ([.ref (ad 0), .int a1, .int a2] : List Value).toArray below meth c H locs 0 0 (MQ below (QV (wM ad ck) D u sz u') ([.ref (ad 0), .int a1, .int a2] : List Value).toArray s 0 0 (va_A (wM ad ck u) sz)) (F0 m 51 ls []) := by
    intro x1 x2 w H locs ls hf C hl
    unfold fX5_tell_51 at hf
    refine lv_aload_n hx hb dX5_tell_51 rfl (lv_at hl 0 rfl) ?_
    obtain ⟨r_2, u_3, h_1, hf⟩ := bnd_some hf
    refine cx_calli C (va_runV (As := []) (rest := []) ⟨hx, hb, hml, hown, hts⟩ (k_X5_hasText l ad ck D tt h_1 _) (cwV 0 hts gX5_tell_X5_hasText rfl rfl rfl (by decide +kernel) ⟨Nat.le_of_ble_eq_true rfl, Nat.le_of_ble_eq_true rfl⟩) (cx_preV C (q0 := 0) (ci := 5) rfl rfl) rfl rfl hl.1 rfl (lv_room (Nat.le_of_ble_eq_true rfl)) dX5_tell_52 ⟨Nat.zero_le _, Nat.zero_le _⟩) (fun H locs C => ?_)
    refine lv_if_eq (tgt := 65) hx hb dX5_tell_55 (by decide) (fun c_4 => ?_) (fun c_4 => ?_)
    · replace hf := (if_pos c_4).symm.trans hf
      exact J65 x1 x2 u_3 _ _ _ hf C (lv_sub hl [0, 1, 2] rfl)
    · replace hf := (if_neg c_4).symm.trans hf
      refine lv_aload_n hx hb dX5_tell_58 rfl (lv_at hl 0 rfl) ?_
      refine lv_iload_n hx hb dX5_tell_59 rfl (lv_at hl 1 rfl) ?_
      refine lv_iconst (v := 1) hx hb dX5_tell_60 (by decide) ?_
      obtain ⟨_, u_7, h_5, hf⟩ := bnd_some hf
      refine cx_callv C (va_runV (As := [.int x1, .int 1]) (rest := []) ⟨hx, hb, hml, hown, hts⟩ (k_X5_fail l ad ck D tt h_5 _) (cwV 2 hts gX5_tell_X5_fail rfl rfl rfl (by decide +kernel) ⟨Nat.le_of_ble_eq_true rfl, Nat.le_of_ble_eq_true rfl⟩) (cx_preV C (q0 := 0) (ci := 5) rfl rfl) rfl rfl hl.1 rfl (lv_room (Nat.le_of_ble_eq_true rfl)) dX5_tell_61 ⟨Nat.zero_le _, Nat.zero_le _⟩) (fun H locs C => ?_)
      exact cx_vret C hx hb hr hlocks hf dX5_tell_64
  have hl := lv_entry ([.ref (ad 0), .int a1, .int a2]) (n := 3) (Nat.le_of_ble_eq_true rfl)
  rw [lg_entry_eq]
  generalize (lg_sl ([.ref (ad 0), .int a1, .int a2]) ++ List.replicate (3 - (lg_sl ([.ref (ad 0), .int a1, .int a2])).length) Slot.unset).toArray = ls at hl ⊢
  have hl : lv_has ls 3 [(0, .ref (ad 0)), (1, .int a1), (2, .int a2)] := hl
  unfold fX5_tell at hf
  refine lv_aload_n hx hb dX5_tell_0 rfl (lv_at hl 0 rfl) ?_
  refine cx_get C hx hb (T := TX5) (N := 28) hts (by decide +kernel) hown 0 rfl rfl 18 (by decide) (hts (.fieldLink RX5 44 "AggregateRowsModel" "groupWhy" "[I") (by decide +kernel)) (fun _ h9 => h9) (v := .ref (ad 12)) rfl dX5_tell_1 ?_
  refine lv_iload_n hx hb dX5_tell_4 rfl (lv_at hl 1 rfl) ?_
  refine lv_iconst (v := 0) hx hb dX5_tell_5 (by decide) ?_
  obtain ⟨g_1, hf⟩ := gd_some hf
  refine cx_iast C hx hb 12 rfl g_1 (u1 := sI u 11 a1.toNatClampNeg 0) rfl dX5_tell_6 (fun u_2 H locs eu_2 C => ?_)
  replace hf := lt_at hf eu_2
  refine lv_aload_n hx hb dX5_tell_7 rfl (lv_at hl 0 rfl) ?_
  refine cx_get C hx hb (T := TX5) (N := 28) hts (by decide +kernel) hown 0 rfl rfl 19 (by decide) (hts (.fieldLink RX5 47 "AggregateRowsModel" "groupUpper" "[J") (by decide +kernel)) (fun _ h9 => h9) (v := .ref (ad 13)) rfl dX5_tell_8 ?_
  refine lv_iload_n hx hb dX5_tell_11 rfl (lv_at hl 1 rfl) ?_
  refine lv_lconst (v := 0) hx hb dX5_tell_12 (by decide) ?_
  obtain ⟨g_3, hf⟩ := gd_some hf
  refine cx_last C hx hb 13 rfl g_3 (u1 := sJ u_2 0 a1.toNatClampNeg 0) rfl dX5_tell_13 (fun u_4 H locs eu_4 C => ?_)
  replace hf := lt_at hf eu_4
  refine lv_aload_n hx hb dX5_tell_14 rfl (lv_at hl 0 rfl) ?_
  refine cx_get C hx hb (T := TX5) (N := 28) hts (by decide +kernel) hown 0 rfl rfl 20 (by decide) (hts (.fieldLink RX5 51 "AggregateRowsModel" "groupLower" "[J") (by decide +kernel)) (fun _ h9 => h9) (v := .ref (ad 14)) rfl dX5_tell_15 ?_
  refine lv_iload_n hx hb dX5_tell_18 rfl (lv_at hl 1 rfl) ?_
  refine lv_lconst (v := 1) hx hb dX5_tell_19 (by decide) ?_
  obtain ⟨g_5, hf⟩ := gd_some hf
  refine cx_last C hx hb 14 rfl g_5 (u1 := sJ u_4 1 a1.toNatClampNeg 1) rfl dX5_tell_20 (fun u_6 H locs eu_6 C => ?_)
  replace hf := lt_at hf eu_6
  refine lv_aload_n hx hb dX5_tell_21 rfl (lv_at hl 0 rfl) ?_
  refine cx_get C hx hb (T := TX5) (N := 28) hts (by decide +kernel) hown 0 rfl rfl 21 (by decide) (hts (.fieldLink RX5 54 "AggregateRowsModel" "groupTerm" "[I") (by decide +kernel)) (fun _ h9 => h9) (v := .ref (ad 15)) rfl dX5_tell_22 ?_
  refine lv_iload_n hx hb dX5_tell_25 rfl (lv_at hl 1 rfl) ?_
  refine lv_iconst (v := (-1)) hx hb dX5_tell_26 (by decide) ?_
  obtain ⟨g_7, hf⟩ := gd_some hf
  refine cx_iast C hx hb 15 rfl g_7 (u1 := sI u_6 12 a1.toNatClampNeg (-1)) rfl dX5_tell_27 (fun u_8 H locs eu_8 C => ?_)
  replace hf := lt_at hf eu_8
  refine lv_aload_n hx hb dX5_tell_28 rfl (lv_at hl 0 rfl) ?_
  refine cx_get C hx hb (T := TX5) (N := 28) hts (by decide +kernel) hown 0 rfl rfl 22 (by decide) (hts (.fieldLink RX5 57 "AggregateRowsModel" "groupSize" "[I") (by decide +kernel)) (fun _ h9 => h9) (v := .ref (ad 16)) rfl dX5_tell_29 ?_
  refine lv_iload_n hx hb dX5_tell_32 rfl (lv_at hl 1 rfl) ?_
  refine lv_iconst (v := 0) hx hb dX5_tell_33 (by decide) ?_
  obtain ⟨g_9, hf⟩ := gd_some hf
  refine cx_iast C hx hb 16 rfl g_9 (u1 := sI u_8 13 a1.toNatClampNeg 0) rfl dX5_tell_34 (fun u_10 H locs eu_10 C => ?_)
  replace hf := lt_at hf eu_10
  refine lv_iload_n hx hb dX5_tell_35 rfl (lv_at hl 2 rfl) ?_
  refine lv_iconst (v := 1) hx hb dX5_tell_36 (by decide) ?_
  refine lv_icmp_eq (tgt := 51) hx hb dX5_tell_37 (by decide) (fun c_11 => ?_) (fun c_11 => ?_)
  · replace hf := (if_pos c_11).symm.trans hf
    exact J51 a1 a2 u_10 _ _ _ hf C (lv_sub hl [0, 1, 2] rfl)
  · replace hf := (if_neg c_11).symm.trans hf
    refine lv_iload_n hx hb dX5_tell_40 rfl (lv_at hl 2 rfl) ?_
    refine lv_iconst (v := 2) hx hb dX5_tell_41 (by decide) ?_
    refine lv_icmp_eq (tgt := 51) hx hb dX5_tell_42 (by decide) (fun c_12 => ?_) (fun c_12 => ?_)
    · replace hf := (if_pos c_12).symm.trans hf
      exact J51 a1 a2 u_10 _ _ _ hf C (lv_sub hl [0, 1, 2] rfl)
    · replace hf := (if_neg c_12).symm.trans hf
      refine lv_iload_n hx hb dX5_tell_45 rfl (lv_at hl 2 rfl) ?_
      refine lv_bipush (v := 7) hx hb dX5_tell_46 (by decide) ?_
      refine lv_icmp_ne (tgt := 65) hx hb dX5_tell_48 (by decide) (fun c_13 => ?_) (fun c_13 => ?_)
      · replace hf := (if_neg c_13).symm.trans hf
        exact J65 a1 a2 u_10 _ _ _ hf C (lv_sub hl [0, 1, 2] rfl)
      · replace hf := (if_pos c_13).symm.trans hf
        exact J51 a1 a2 u_10 _ _ _ hf C (lv_sub hl [0, 1, 2] rfl)
/-! ===== X5_run ===== -/
def fX5_run_40  : Nat → Int32 → Int32 → Int32 → St → Option (Int32 × St)
  | 0, _, _, _, _ => none
  | n40 + 1, x1, x2, x3, w => (if (w.1 6) ≤ x3 then some ((w.1 6), w) else bnd (fX5_gather w x3 x2) (fun _ u_4 => bnd (fX5_tell u_4 x3 x1) (fun _ u_7 => lt_ (x3 + 1) (fun x3_8 => fX5_run_40 n40 x1 x2 x3_8 u_7))))
def fX5_run_18  (x1 : Int32) (x2 : Int32) (y1 : Int32) (w : St) : Option (Int32 × St) := lt_ (sS w 0 y1) (fun u_1 => (if (u_1.1 0) ≤ 0 then bnd (fX5_lineUp u_1) (fun _ u_5 => bnd (fX5_findGroups u_5) (fun _ u_8 => fX5_run_40 FU x1 x2 0 u_8)) else some (0, u_1)))
def fX5_run (u : St) (a1 : Int32) (a2 : Int32) : Option (Int32 × St) := bnd (fX5_within u (a1.toInt64) 0 7) (fun r_2 u_3 => (if r_2 = 0 then fX5_run_18 a1 a2 1 u_3 else fX5_run_18 a1 a2 0 u_3))
abbrev rmX5_run : Room := { frames := 5, cells := 0, slots := 0, locals := 118 }
set_option maxHeartbeats 4000000 in
set_option maxRecDepth 100000 in
theorem k_X5_run (l : Launch) (ad : Nat → Nat) (ck : Nat → ClassId) (D : va_G) (tt : Nat) {u : St} {a1 : Int32} {a2 : Int32} {r : Int32} {u' : St} (hf : fX5_run u a1 a2 = some (r, u')) : MI l yX5_run wsX5_run rmX5_run (wM ad ck) ck D tt [.ref (ad 0), .int a1, .int a2] u r u' := by
  intro sz
  refine Met.ofW (cc := cX5_run) (maxL := 4) (ret := (some .int)) (by decide) rfl ?_
  intro p e s m args below meth c s₁ B hml hv
  obtain ⟨rfl, hsz, C⟩ := cx_entry hv
  have hx := B.exec
  have hb := B.bytes
  have hr := B.returns
  have hts := atoms_spec (ws := wsX5_run) B.pre
  have hown : s.vm.findClass RX5 = some m.cls := findClass_of_methodNamed B.named
  have hlocks := B.notSynchronized
  have J40 : ∀ (n40 : Nat) (x1 : Int32) (x2 : Int32) (x3 : Int32) (w : St) (H : Heap) (locs : List Loc) (ls : Array Slot), fX5_run_40 n40 x1 x2 x3 w = some (r, u') → CX (wM ad ck) ck D tt (va_A (wM ad ck u) sz) s w H locs → lv_has ls 4 [(0, .ref (ad 0)), (1, .int x1), (2, .int x2), (3, .int x3)] → W p l e (headSpec wsX5_run rmX5_run).room s m ([.ref (ad 0), .int a1, .int a2] : List Value).toArray below meth c H locs 0 0 (MQ below (QI (wM ad ck) D u sz r u') ([.ref (ad 0), .int a1, .int a2] : List Value).toArray s 0 0 (va_A (wM ad ck u) sz)) (F0 m 40 ls []) := by
    intro n40
    induction n40 with
    | zero =>
      intro x1 x2 x3 w H locs ls hf
      have hf : (none : Option (Int32 × St)) = some (r, u') := hf
      cases hf
    | succ n40 ih40 =>
      intro x1 x2 x3 w H locs ls hf C hl
      rw [fX5_run_40] at hf
      refine lv_iload_n hx hb dX5_run_40 rfl (lv_at hl 3 rfl) ?_
      refine lv_aload_n hx hb dX5_run_41 rfl (lv_at hl 0 rfl) ?_
      refine cx_get C hx hb (T := TX5) (N := 28) hts (by decide +kernel) hown 0 rfl rfl 14 (by decide) (hts (.fieldLink RX5 127 "AggregateRowsModel" "groups" "I") (by decide +kernel)) (fun _ h9 => h9) (v := .int (w.1 6)) rfl dX5_run_42 ?_
      refine lv_icmp_ge (tgt := 66) hx hb dX5_run_45 (by decide) (fun c_1 => ?_) (fun c_1 => ?_)
      · replace hf := (if_pos c_1).symm.trans hf
        refine lv_aload_n hx hb dX5_run_66 rfl (lv_at hl 0 rfl) ?_
        refine cx_get C hx hb (T := TX5) (N := 28) hts (by decide +kernel) hown 0 rfl rfl 14 (by decide) (hts (.fieldLink RX5 127 "AggregateRowsModel" "groups" "I") (by decide +kernel)) (fun _ h9 => h9) (v := .int (w.1 6)) rfl dX5_run_67 ?_
        exact cx_iret C hx hb hr hlocks hf dX5_run_70
      · replace hf := (if_neg c_1).symm.trans hf
        refine lv_aload_n hx hb dX5_run_48 rfl (lv_at hl 0 rfl) ?_
        refine lv_iload_n hx hb dX5_run_49 rfl (lv_at hl 3 rfl) ?_
        refine lv_iload_n hx hb dX5_run_50 rfl (lv_at hl 2 rfl) ?_
        obtain ⟨_, u_4, h_2, hf⟩ := bnd_some hf
        refine cx_callv C (va_runV (As := [.int x3, .int x2]) (rest := []) ⟨hx, hb, hml, hown, hts⟩ (k_X5_gather l ad ck D tt h_2 _) (cwV 2 hts gX5_run_X5_gather rfl rfl rfl (by decide +kernel) ⟨Nat.le_of_ble_eq_true rfl, Nat.le_of_ble_eq_true rfl⟩) (cx_preV C (q0 := 0) (ci := 5) rfl rfl) rfl rfl hl.1 rfl (lv_room (Nat.le_of_ble_eq_true rfl)) dX5_run_51 ⟨Nat.zero_le _, Nat.zero_le _⟩) (fun H locs C => ?_)
        refine lv_aload_n hx hb dX5_run_54 rfl (lv_at hl 0 rfl) ?_
        refine lv_iload_n hx hb dX5_run_55 rfl (lv_at hl 3 rfl) ?_
        refine lv_iload_n hx hb dX5_run_56 rfl (lv_at hl 1 rfl) ?_
        obtain ⟨_, u_7, h_5, hf⟩ := bnd_some hf
        refine cx_callv C (va_runV (As := [.int x3, .int x1]) (rest := []) ⟨hx, hb, hml, hown, hts⟩ (k_X5_tell l ad ck D tt h_5 _) (cwV 2 hts gX5_run_X5_tell rfl rfl rfl (by decide +kernel) ⟨Nat.le_of_ble_eq_true rfl, Nat.le_of_ble_eq_true rfl⟩) (cx_preV C (q0 := 0) (ci := 5) rfl rfl) rfl rfl hl.1 rfl (lv_room (Nat.le_of_ble_eq_true rfl)) dX5_run_57 ⟨Nat.zero_le _, Nat.zero_le _⟩) (fun H locs C => ?_)
        obtain ⟨x3_8, ex3_8⟩ : ∃ y : Int32, y = x3 + 1 := ⟨_, rfl⟩
        replace hf := lt_at hf ex3_8
        refine lv_iinc (v := x3_8) (lv' := [(3, .int x3_8), (0, .ref (ad 0)), (1, .int x1), (2, .int x2)]) hx hb dX5_run_60 hl (k := 3) rfl (by rw [ex3_8]; rfl) (by decide) rfl (fun ls hl => ?_)
        refine lv_goto (tgt := 40) hx hb dX5_run_63 (by decide) ?_
        exact ih40 x1 x2 x3_8 u_7 _ _ _ hf C (lv_sub hl [1, 2, 3, 0] rfl)
  have J18 : ∀ (x1 : Int32) (x2 : Int32) (y1 : Int32) (w : St) (H : Heap) (locs : List Loc) (ls : Array Slot), fX5_run_18 x1 x2 y1 w = some (r, u') → CX (wM ad ck) ck D tt (va_A (wM ad ck u) sz) s w H locs → lv_has ls 4 [(0, .ref (ad 0)), (1, .int x1), (2, .int x2)] → W p l e (headSpec wsX5_run rmX5_run).room s m ([.ref (ad 0), .int a1, .int a2] : List Value).toArray below meth c H locs 0 0 (MQ below (QI (wM ad ck) D u sz r u') ([.ref (ad 0), .int a1, .int a2] : List Value).toArray s 0 0 (va_A (wM ad ck u) sz)) (F0 m 18 ls [.int y1, .ref (ad 0)]) := by
    intro x1 x2 y1 w H locs ls hf C hl
    unfold fX5_run_18 at hf
    refine cx_puti C hx hb (T := TX5) (N := 28) hts (by decide +kernel) tyX5 tyX5_ok nmX5 hown 0 rfl rfl 0 (by decide) (hts (.fieldLink RX5 72 "AggregateRowsModel" "fault" "I") (by decide +kernel)) (fun _ h9 => h9) rfl (by decide +kernel) (Nat.le_of_ble_eq_true rfl) (u1 := sS w 0 y1) rfl dX5_run_18 (fun u_1 H locs eu_1 C => ?_)
    replace hf := lt_at hf eu_1
    refine lv_aload_n hx hb dX5_run_21 rfl (lv_at hl 0 rfl) ?_
    refine cx_get C hx hb (T := TX5) (N := 28) hts (by decide +kernel) hown 0 rfl rfl 0 (by decide) (hts (.fieldLink RX5 72 "AggregateRowsModel" "fault" "I") (by decide +kernel)) (fun _ h9 => h9) (v := .int (u_1.1 0)) rfl dX5_run_22 ?_
    refine lv_if_le (tgt := 30) hx hb dX5_run_25 (by decide) (fun c_2 => ?_) (fun c_2 => ?_)
    · replace hf := (if_pos c_2).symm.trans hf
      refine lv_aload_n hx hb dX5_run_30 rfl (lv_at hl 0 rfl) ?_
      obtain ⟨_, u_5, h_3, hf⟩ := bnd_some hf
      refine cx_callv C (va_runV (As := []) (rest := []) ⟨hx, hb, hml, hown, hts⟩ (k_X5_lineUp l ad ck D tt h_3 _) (cwV 0 hts gX5_run_X5_lineUp rfl rfl rfl (by decide +kernel) ⟨Nat.le_of_ble_eq_true rfl, Nat.le_of_ble_eq_true rfl⟩) (cx_preV C (q0 := 0) (ci := 5) rfl rfl) rfl rfl hl.1 rfl (lv_room (Nat.le_of_ble_eq_true rfl)) dX5_run_31 ⟨Nat.zero_le _, Nat.zero_le _⟩) (fun H locs C => ?_)
      refine lv_aload_n hx hb dX5_run_34 rfl (lv_at hl 0 rfl) ?_
      obtain ⟨_, u_8, h_6, hf⟩ := bnd_some hf
      refine cx_callv C (va_runV (As := []) (rest := []) ⟨hx, hb, hml, hown, hts⟩ (k_X5_findGroups l ad ck D tt h_6 _) (cwV 0 hts gX5_run_X5_findGroups rfl rfl rfl (by decide +kernel) ⟨Nat.le_of_ble_eq_true rfl, Nat.le_of_ble_eq_true rfl⟩) (cx_preV C (q0 := 0) (ci := 5) rfl rfl) rfl rfl hl.1 rfl (lv_room (Nat.le_of_ble_eq_true rfl)) dX5_run_35 ⟨Nat.zero_le _, Nat.zero_le _⟩) (fun H locs C => ?_)
      refine lv_iconst (v := 0) hx hb dX5_run_38 (by decide) ?_
      refine lv_istore_n (lv' := [(3, .int 0), (0, .ref (ad 0)), (1, .int x1), (2, .int x2)]) hx hb dX5_run_39 rfl hl (by decide) rfl (fun ls hl => ?_)
      exact J40 FU x1 x2 0 u_8 _ _ _ hf C (lv_sub hl [1, 2, 3, 0] rfl)
    · replace hf := (if_neg c_2).symm.trans hf
      refine lv_iconst (v := 0) hx hb dX5_run_28 (by decide) ?_
      exact cx_iret C hx hb hr hlocks hf dX5_run_29
  have hl := lv_entry ([.ref (ad 0), .int a1, .int a2]) (n := 4) (Nat.le_of_ble_eq_true rfl)
  rw [lg_entry_eq]
  generalize (lg_sl ([.ref (ad 0), .int a1, .int a2]) ++ List.replicate (4 - (lg_sl ([.ref (ad 0), .int a1, .int a2])).length) Slot.unset).toArray = ls at hl ⊢
  have hl : lv_has ls 4 [(0, .ref (ad 0)), (1, .int a1), (2, .int a2)] := hl
  unfold fX5_run at hf
  refine lv_aload_n hx hb dX5_run_0 rfl (lv_at hl 0 rfl) ?_
  refine lv_iload_n hx hb dX5_run_1 rfl (lv_at hl 1 rfl) ?_
  refine lv_i2l hx hb dX5_run_2 rfl ?_
  refine lv_lconst (v := 0) hx hb dX5_run_3 (by decide) ?_
  refine lv_ldc2 (v := 7) hx hb hown (hts (.constantLong RX5 179 (7)) (by decide +kernel)) dX5_run_4 ?_
  obtain ⟨r_2, u_3, h_1, hf⟩ := bnd_some hf
  refine cx_calli C (va_runS (As := [.long (a1.toInt64), .long 0, .long 7]) (rest := [.ref (ad 0)]) ⟨hx, hb, hml, hown, hts⟩ (k_X5_within l ad ck D tt h_1 _) (va_cwS 3 hts gX5_run_X5_within rfl rfl rfl (by decide +kernel) ⟨Nat.le_of_ble_eq_true rfl, Nat.le_of_ble_eq_true rfl⟩) (cx_preS C) rfl rfl hl.1 rfl (lv_room (Nat.le_of_ble_eq_true rfl)) dX5_run_7 ⟨Nat.zero_le _, Nat.zero_le _⟩) (fun H locs C => ?_)
  refine lv_if_eq (tgt := 17) hx hb dX5_run_10 (by decide) (fun c_4 => ?_) (fun c_4 => ?_)
  · replace hf := (if_pos c_4).symm.trans hf
    refine lv_iconst (v := 1) hx hb dX5_run_17 (by decide) ?_
    exact J18 a1 a2 1 u_3 _ _ _ hf C (lv_sub hl [0, 1, 2] rfl)
  · replace hf := (if_neg c_4).symm.trans hf
    refine lv_iconst (v := 0) hx hb dX5_run_13 (by decide) ?_
    refine lv_goto (tgt := 18) hx hb dX5_run_14 (by decide) ?_
    exact J18 a1 a2 0 u_3 _ _ _ hf C (lv_sub hl [0, 1, 2] rfl)
/-! ===== X5_isGroup ===== -/
def fX5_isGroup_18  (y1 : Int32) (w : St) : Option (Int32 × St) := lt_ (sS w 0 y1) (fun u_1 => (if (u_1.1 0) = 0 then some (1, u_1) else some (0, u_1)))
def fX5_isGroup (u : St) (a1 : Int32) : Option (Int32 × St) := (if a1 < 0 then fX5_isGroup_18 1 u else (if (u.1 6) ≤ a1 then fX5_isGroup_18 1 u else fX5_isGroup_18 0 u))
abbrev rmX5_isGroup : Room := { frames := 0, cells := 0, slots := 0, locals := 0 }
set_option maxHeartbeats 4000000 in
set_option maxRecDepth 100000 in
theorem k_X5_isGroup (l : Launch) (ad : Nat → Nat) (ck : Nat → ClassId) (D : va_G) (tt : Nat) {u : St} {a1 : Int32} {r : Int32} {u' : St} (hf : fX5_isGroup u a1 = some (r, u')) : MI l yX5_isGroup wsX5_isGroup rmX5_isGroup (wM ad ck) ck D tt [.ref (ad 0), .int a1] u r u' := by
  intro sz
  refine Met.ofW (cc := cX5_isGroup) (maxL := 2) (ret := (some .boolean)) (by decide) rfl ?_
  intro p e s m args below meth c s₁ B hml hv
  obtain ⟨rfl, hsz, C⟩ := cx_entry hv
  have hx := B.exec
  have hb := B.bytes
  have hr := B.returns
  have hts := atoms_spec (ws := wsX5_isGroup) B.pre
  have hown : s.vm.findClass RX5 = some m.cls := findClass_of_methodNamed B.named
  have hlocks := B.notSynchronized
  have J18 : ∀ (y1 : Int32) (w : St) (H : Heap) (locs : List Loc) (ls : Array Slot), fX5_isGroup_18 y1 w = some (r, u') → CX (wM ad ck) ck D tt (va_A (wM ad ck u) sz) s w H locs → lv_has ls 2 [(0, .ref (ad 0))] → W p l e (headSpec wsX5_isGroup rmX5_isGroup).room s m ([.ref (ad 0), .int a1] : List Value).toArray below meth c H locs 0 0 (MQ below (QI (wM ad ck) D u sz r u') ([.ref (ad 0), .int a1] : List Value).toArray s 0 0 (va_A (wM ad ck u) sz)) (F0 m 18 ls [.int y1, .ref (ad 0)]) := by
    intro y1 w H locs ls hf C hl
    unfold fX5_isGroup_18 at hf
    refine cx_puti C hx hb (T := TX5) (N := 28) hts (by decide +kernel) tyX5 tyX5_ok nmX5 hown 0 rfl rfl 0 (by decide) (hts (.fieldLink RX5 72 "AggregateRowsModel" "fault" "I") (by decide +kernel)) (fun _ h9 => h9) rfl (by decide +kernel) (Nat.le_of_ble_eq_true rfl) (u1 := sS w 0 y1) rfl dX5_isGroup_18 (fun u_1 H locs eu_1 C => ?_)
    replace hf := lt_at hf eu_1
    refine lv_aload_n hx hb dX5_isGroup_21 rfl (lv_at hl 0 rfl) ?_
    refine cx_get C hx hb (T := TX5) (N := 28) hts (by decide +kernel) hown 0 rfl rfl 0 (by decide) (hts (.fieldLink RX5 72 "AggregateRowsModel" "fault" "I") (by decide +kernel)) (fun _ h9 => h9) (v := .int (u_1.1 0)) rfl dX5_isGroup_22 ?_
    refine lv_if_ne (tgt := 32) hx hb dX5_isGroup_25 (by decide) (fun c_2 => ?_) (fun c_2 => ?_)
    · replace hf := (if_neg c_2).symm.trans hf
      refine lv_iconst (v := 0) hx hb dX5_isGroup_32 (by decide) ?_
      exact cx_zret C hx hb hr (by decide) hlocks hf dX5_isGroup_33
    · replace hf := (if_pos c_2).symm.trans hf
      refine lv_iconst (v := 1) hx hb dX5_isGroup_28 (by decide) ?_
      refine lv_goto (tgt := 33) hx hb dX5_isGroup_29 (by decide) ?_
      exact cx_zret C hx hb hr (by decide) hlocks hf dX5_isGroup_33
  have hl := lv_entry ([.ref (ad 0), .int a1]) (n := 2) (Nat.le_of_ble_eq_true rfl)
  rw [lg_entry_eq]
  generalize (lg_sl ([.ref (ad 0), .int a1]) ++ List.replicate (2 - (lg_sl ([.ref (ad 0), .int a1])).length) Slot.unset).toArray = ls at hl ⊢
  have hl : lv_has ls 2 [(0, .ref (ad 0)), (1, .int a1)] := hl
  unfold fX5_isGroup at hf
  refine lv_aload_n hx hb dX5_isGroup_0 rfl (lv_at hl 0 rfl) ?_
  refine lv_iload_n hx hb dX5_isGroup_1 rfl (lv_at hl 1 rfl) ?_
  refine lv_if_lt (tgt := 17) hx hb dX5_isGroup_2 (by decide) (fun c_1 => ?_) (fun c_1 => ?_)
  · replace hf := (if_pos c_1).symm.trans hf
    refine lv_iconst (v := 1) hx hb dX5_isGroup_17 (by decide) ?_
    exact J18 1 u _ _ _ hf C (lv_sub hl [0] rfl)
  · replace hf := (if_neg c_1).symm.trans hf
    refine lv_iload_n hx hb dX5_isGroup_5 rfl (lv_at hl 1 rfl) ?_
    refine lv_aload_n hx hb dX5_isGroup_6 rfl (lv_at hl 0 rfl) ?_
    refine cx_get C hx hb (T := TX5) (N := 28) hts (by decide +kernel) hown 0 rfl rfl 14 (by decide) (hts (.fieldLink RX5 127 "AggregateRowsModel" "groups" "I") (by decide +kernel)) (fun _ h9 => h9) (v := .int (u.1 6)) rfl dX5_isGroup_7 ?_
    refine lv_icmp_ge (tgt := 17) hx hb dX5_isGroup_10 (by decide) (fun c_2 => ?_) (fun c_2 => ?_)
    · replace hf := (if_pos c_2).symm.trans hf
      refine lv_iconst (v := 1) hx hb dX5_isGroup_17 (by decide) ?_
      exact J18 1 u _ _ _ hf C (lv_sub hl [0] rfl)
    · replace hf := (if_neg c_2).symm.trans hf
      refine lv_iconst (v := 0) hx hb dX5_isGroup_13 (by decide) ?_
      refine lv_goto (tgt := 18) hx hb dX5_isGroup_14 (by decide) ?_
      exact J18 0 u _ _ _ hf C (lv_sub hl [0] rfl)
/-! ===== X5_key ===== -/
def fX5_key (u : St) (a1 : Int32) : Option (Int32 × St) := bnd (fX5_isGroup u a1) (fun r_2 u_3 => (if r_2 = 0 then some (0, u_3) else gd (okI a1 60) (some ((u_3.2.1 8 a1.toNatClampNeg), u_3))))
abbrev rmX5_key : Room := { frames := 1, cells := 0, slots := 0, locals := 21 }
set_option maxHeartbeats 4000000 in
set_option maxRecDepth 100000 in
theorem k_X5_key (l : Launch) (ad : Nat → Nat) (ck : Nat → ClassId) (D : va_G) (tt : Nat) {u : St} {a1 : Int32} {r : Int32} {u' : St} (hf : fX5_key u a1 = some (r, u')) : MI l yX5_key wsX5_key rmX5_key (wM ad ck) ck D tt [.ref (ad 0), .int a1] u r u' := by
  intro sz
  refine Met.ofW (cc := cX5_key) (maxL := 2) (ret := (some .int)) (by decide) rfl ?_
  intro p e s m args below meth c s₁ B hml hv
  obtain ⟨rfl, hsz, C⟩ := cx_entry hv
  have hx := B.exec
  have hb := B.bytes
  have hr := B.returns
  have hts := atoms_spec (ws := wsX5_key) B.pre
  have hown : s.vm.findClass RX5 = some m.cls := findClass_of_methodNamed B.named
  have hlocks := B.notSynchronized
  have hl := lv_entry ([.ref (ad 0), .int a1]) (n := 2) (Nat.le_of_ble_eq_true rfl)
  rw [lg_entry_eq]
  generalize (lg_sl ([.ref (ad 0), .int a1]) ++ List.replicate (2 - (lg_sl ([.ref (ad 0), .int a1])).length) Slot.unset).toArray = ls at hl ⊢
  have hl : lv_has ls 2 [(0, .ref (ad 0)), (1, .int a1)] := hl
  unfold fX5_key at hf
  refine lv_aload_n hx hb dX5_key_0 rfl (lv_at hl 0 rfl) ?_
  refine lv_iload_n hx hb dX5_key_1 rfl (lv_at hl 1 rfl) ?_
  obtain ⟨r_2, u_3, h_1, hf⟩ := bnd_some hf
  refine cx_calli C (va_runV (As := [.int a1]) (rest := []) ⟨hx, hb, hml, hown, hts⟩ (k_X5_isGroup l ad ck D tt h_1 _) (cwV 1 hts gX5_key_X5_isGroup rfl rfl rfl (by decide +kernel) ⟨Nat.le_of_ble_eq_true rfl, Nat.le_of_ble_eq_true rfl⟩) (cx_preV C (q0 := 0) (ci := 5) rfl rfl) rfl rfl hl.1 rfl (lv_room (Nat.le_of_ble_eq_true rfl)) dX5_key_2 ⟨Nat.zero_le _, Nat.zero_le _⟩) (fun H locs C => ?_)
  refine lv_if_eq (tgt := 17) hx hb dX5_key_5 (by decide) (fun c_4 => ?_) (fun c_4 => ?_)
  · replace hf := (if_pos c_4).symm.trans hf
    refine lv_iconst (v := 0) hx hb dX5_key_17 (by decide) ?_
    exact cx_iret C hx hb hr hlocks hf dX5_key_18
  · replace hf := (if_neg c_4).symm.trans hf
    refine lv_aload_n hx hb dX5_key_8 rfl (lv_at hl 0 rfl) ?_
    refine cx_get C hx hb (T := TX5) (N := 28) hts (by decide +kernel) hown 0 rfl rfl 15 (by decide) (hts (.fieldLink RX5 35 "AggregateRowsModel" "groupKey" "[I") (by decide +kernel)) (fun _ h9 => h9) (v := .ref (ad 9)) rfl dX5_key_9 ?_
    refine lv_iload_n hx hb dX5_key_12 rfl (lv_at hl 1 rfl) ?_
    obtain ⟨g_5, hf⟩ := gd_some hf
    refine cx_iald C hx hb 9 rfl g_5 dX5_key_13 ?_
    refine lv_goto (tgt := 18) hx hb dX5_key_14 (by decide) ?_
    exact cx_iret C hx hb hr hlocks hf dX5_key_18
/-! ===== X5_rows ===== -/
def fX5_rows (u : St) (a1 : Int32) : Option (Int32 × St) := bnd (fX5_isGroup u a1) (fun r_2 u_3 => (if r_2 = 0 then some (0, u_3) else gd (okI a1 60) (some ((u_3.2.1 9 a1.toNatClampNeg), u_3))))
abbrev rmX5_rows : Room := { frames := 1, cells := 0, slots := 0, locals := 21 }
set_option maxHeartbeats 4000000 in
set_option maxRecDepth 100000 in
theorem k_X5_rows (l : Launch) (ad : Nat → Nat) (ck : Nat → ClassId) (D : va_G) (tt : Nat) {u : St} {a1 : Int32} {r : Int32} {u' : St} (hf : fX5_rows u a1 = some (r, u')) : MI l yX5_rows wsX5_rows rmX5_rows (wM ad ck) ck D tt [.ref (ad 0), .int a1] u r u' := by
  intro sz
  refine Met.ofW (cc := cX5_rows) (maxL := 2) (ret := (some .int)) (by decide) rfl ?_
  intro p e s m args below meth c s₁ B hml hv
  obtain ⟨rfl, hsz, C⟩ := cx_entry hv
  have hx := B.exec
  have hb := B.bytes
  have hr := B.returns
  have hts := atoms_spec (ws := wsX5_rows) B.pre
  have hown : s.vm.findClass RX5 = some m.cls := findClass_of_methodNamed B.named
  have hlocks := B.notSynchronized
  have hl := lv_entry ([.ref (ad 0), .int a1]) (n := 2) (Nat.le_of_ble_eq_true rfl)
  rw [lg_entry_eq]
  generalize (lg_sl ([.ref (ad 0), .int a1]) ++ List.replicate (2 - (lg_sl ([.ref (ad 0), .int a1])).length) Slot.unset).toArray = ls at hl ⊢
  have hl : lv_has ls 2 [(0, .ref (ad 0)), (1, .int a1)] := hl
  unfold fX5_rows at hf
  refine lv_aload_n hx hb dX5_rows_0 rfl (lv_at hl 0 rfl) ?_
  refine lv_iload_n hx hb dX5_rows_1 rfl (lv_at hl 1 rfl) ?_
  obtain ⟨r_2, u_3, h_1, hf⟩ := bnd_some hf
  refine cx_calli C (va_runV (As := [.int a1]) (rest := []) ⟨hx, hb, hml, hown, hts⟩ (k_X5_isGroup l ad ck D tt h_1 _) (cwV 1 hts gX5_rows_X5_isGroup rfl rfl rfl (by decide +kernel) ⟨Nat.le_of_ble_eq_true rfl, Nat.le_of_ble_eq_true rfl⟩) (cx_preV C (q0 := 0) (ci := 5) rfl rfl) rfl rfl hl.1 rfl (lv_room (Nat.le_of_ble_eq_true rfl)) dX5_rows_2 ⟨Nat.zero_le _, Nat.zero_le _⟩) (fun H locs C => ?_)
  refine lv_if_eq (tgt := 17) hx hb dX5_rows_5 (by decide) (fun c_4 => ?_) (fun c_4 => ?_)
  · replace hf := (if_pos c_4).symm.trans hf
    refine lv_iconst (v := 0) hx hb dX5_rows_17 (by decide) ?_
    exact cx_iret C hx hb hr hlocks hf dX5_rows_18
  · replace hf := (if_neg c_4).symm.trans hf
    refine lv_aload_n hx hb dX5_rows_8 rfl (lv_at hl 0 rfl) ?_
    refine cx_get C hx hb (T := TX5) (N := 28) hts (by decide +kernel) hown 0 rfl rfl 16 (by decide) (hts (.fieldLink RX5 38 "AggregateRowsModel" "groupRows" "[I") (by decide +kernel)) (fun _ h9 => h9) (v := .ref (ad 10)) rfl dX5_rows_9 ?_
    refine lv_iload_n hx hb dX5_rows_12 rfl (lv_at hl 1 rfl) ?_
    obtain ⟨g_5, hf⟩ := gd_some hf
    refine cx_iald C hx hb 10 rfl g_5 dX5_rows_13 ?_
    refine lv_goto (tgt := 18) hx hb dX5_rows_14 (by decide) ?_
    exact cx_iret C hx hb hr hlocks hf dX5_rows_18
/-! ===== X5_sort ===== -/
def fX5_sort (u : St) (a1 : Int32) : Option (Int32 × St) := bnd (fX5_isGroup u a1) (fun r_2 u_3 => (if r_2 = 0 then some (0, u_3) else gd (okI a1 60) (some ((u_3.2.1 10 a1.toNatClampNeg), u_3))))
abbrev rmX5_sort : Room := { frames := 1, cells := 0, slots := 0, locals := 21 }
set_option maxHeartbeats 4000000 in
set_option maxRecDepth 100000 in
theorem k_X5_sort (l : Launch) (ad : Nat → Nat) (ck : Nat → ClassId) (D : va_G) (tt : Nat) {u : St} {a1 : Int32} {r : Int32} {u' : St} (hf : fX5_sort u a1 = some (r, u')) : MI l yX5_sort wsX5_sort rmX5_sort (wM ad ck) ck D tt [.ref (ad 0), .int a1] u r u' := by
  intro sz
  refine Met.ofW (cc := cX5_sort) (maxL := 2) (ret := (some .int)) (by decide) rfl ?_
  intro p e s m args below meth c s₁ B hml hv
  obtain ⟨rfl, hsz, C⟩ := cx_entry hv
  have hx := B.exec
  have hb := B.bytes
  have hr := B.returns
  have hts := atoms_spec (ws := wsX5_sort) B.pre
  have hown : s.vm.findClass RX5 = some m.cls := findClass_of_methodNamed B.named
  have hlocks := B.notSynchronized
  have hl := lv_entry ([.ref (ad 0), .int a1]) (n := 2) (Nat.le_of_ble_eq_true rfl)
  rw [lg_entry_eq]
  generalize (lg_sl ([.ref (ad 0), .int a1]) ++ List.replicate (2 - (lg_sl ([.ref (ad 0), .int a1])).length) Slot.unset).toArray = ls at hl ⊢
  have hl : lv_has ls 2 [(0, .ref (ad 0)), (1, .int a1)] := hl
  unfold fX5_sort at hf
  refine lv_aload_n hx hb dX5_sort_0 rfl (lv_at hl 0 rfl) ?_
  refine lv_iload_n hx hb dX5_sort_1 rfl (lv_at hl 1 rfl) ?_
  obtain ⟨r_2, u_3, h_1, hf⟩ := bnd_some hf
  refine cx_calli C (va_runV (As := [.int a1]) (rest := []) ⟨hx, hb, hml, hown, hts⟩ (k_X5_isGroup l ad ck D tt h_1 _) (cwV 1 hts gX5_sort_X5_isGroup rfl rfl rfl (by decide +kernel) ⟨Nat.le_of_ble_eq_true rfl, Nat.le_of_ble_eq_true rfl⟩) (cx_preV C (q0 := 0) (ci := 5) rfl rfl) rfl rfl hl.1 rfl (lv_room (Nat.le_of_ble_eq_true rfl)) dX5_sort_2 ⟨Nat.zero_le _, Nat.zero_le _⟩) (fun H locs C => ?_)
  refine lv_if_eq (tgt := 17) hx hb dX5_sort_5 (by decide) (fun c_4 => ?_) (fun c_4 => ?_)
  · replace hf := (if_pos c_4).symm.trans hf
    refine lv_iconst (v := 0) hx hb dX5_sort_17 (by decide) ?_
    exact cx_iret C hx hb hr hlocks hf dX5_sort_18
  · replace hf := (if_neg c_4).symm.trans hf
    refine lv_aload_n hx hb dX5_sort_8 rfl (lv_at hl 0 rfl) ?_
    refine cx_get C hx hb (T := TX5) (N := 28) hts (by decide +kernel) hown 0 rfl rfl 17 (by decide) (hts (.fieldLink RX5 41 "AggregateRowsModel" "groupSort" "[I") (by decide +kernel)) (fun _ h9 => h9) (v := .ref (ad 11)) rfl dX5_sort_9 ?_
    refine lv_iload_n hx hb dX5_sort_12 rfl (lv_at hl 1 rfl) ?_
    obtain ⟨g_5, hf⟩ := gd_some hf
    refine cx_iald C hx hb 11 rfl g_5 dX5_sort_13 ?_
    refine lv_goto (tgt := 18) hx hb dX5_sort_14 (by decide) ?_
    exact cx_iret C hx hb hr hlocks hf dX5_sort_18
/-! ===== X5_why ===== -/
def fX5_why (u : St) (a1 : Int32) : Option (Int32 × St) := bnd (fX5_isGroup u a1) (fun r_2 u_3 => (if r_2 = 0 then some (0, u_3) else gd (okI a1 60) (some ((u_3.2.1 11 a1.toNatClampNeg), u_3))))
abbrev rmX5_why : Room := { frames := 1, cells := 0, slots := 0, locals := 21 }
set_option maxHeartbeats 4000000 in
set_option maxRecDepth 100000 in
theorem k_X5_why (l : Launch) (ad : Nat → Nat) (ck : Nat → ClassId) (D : va_G) (tt : Nat) {u : St} {a1 : Int32} {r : Int32} {u' : St} (hf : fX5_why u a1 = some (r, u')) : MI l yX5_why wsX5_why rmX5_why (wM ad ck) ck D tt [.ref (ad 0), .int a1] u r u' := by
  intro sz
  refine Met.ofW (cc := cX5_why) (maxL := 2) (ret := (some .int)) (by decide) rfl ?_
  intro p e s m args below meth c s₁ B hml hv
  obtain ⟨rfl, hsz, C⟩ := cx_entry hv
  have hx := B.exec
  have hb := B.bytes
  have hr := B.returns
  have hts := atoms_spec (ws := wsX5_why) B.pre
  have hown : s.vm.findClass RX5 = some m.cls := findClass_of_methodNamed B.named
  have hlocks := B.notSynchronized
  have hl := lv_entry ([.ref (ad 0), .int a1]) (n := 2) (Nat.le_of_ble_eq_true rfl)
  rw [lg_entry_eq]
  generalize (lg_sl ([.ref (ad 0), .int a1]) ++ List.replicate (2 - (lg_sl ([.ref (ad 0), .int a1])).length) Slot.unset).toArray = ls at hl ⊢
  have hl : lv_has ls 2 [(0, .ref (ad 0)), (1, .int a1)] := hl
  unfold fX5_why at hf
  refine lv_aload_n hx hb dX5_why_0 rfl (lv_at hl 0 rfl) ?_
  refine lv_iload_n hx hb dX5_why_1 rfl (lv_at hl 1 rfl) ?_
  obtain ⟨r_2, u_3, h_1, hf⟩ := bnd_some hf
  refine cx_calli C (va_runV (As := [.int a1]) (rest := []) ⟨hx, hb, hml, hown, hts⟩ (k_X5_isGroup l ad ck D tt h_1 _) (cwV 1 hts gX5_why_X5_isGroup rfl rfl rfl (by decide +kernel) ⟨Nat.le_of_ble_eq_true rfl, Nat.le_of_ble_eq_true rfl⟩) (cx_preV C (q0 := 0) (ci := 5) rfl rfl) rfl rfl hl.1 rfl (lv_room (Nat.le_of_ble_eq_true rfl)) dX5_why_2 ⟨Nat.zero_le _, Nat.zero_le _⟩) (fun H locs C => ?_)
  refine lv_if_eq (tgt := 17) hx hb dX5_why_5 (by decide) (fun c_4 => ?_) (fun c_4 => ?_)
  · replace hf := (if_pos c_4).symm.trans hf
    refine lv_iconst (v := 0) hx hb dX5_why_17 (by decide) ?_
    exact cx_iret C hx hb hr hlocks hf dX5_why_18
  · replace hf := (if_neg c_4).symm.trans hf
    refine lv_aload_n hx hb dX5_why_8 rfl (lv_at hl 0 rfl) ?_
    refine cx_get C hx hb (T := TX5) (N := 28) hts (by decide +kernel) hown 0 rfl rfl 18 (by decide) (hts (.fieldLink RX5 44 "AggregateRowsModel" "groupWhy" "[I") (by decide +kernel)) (fun _ h9 => h9) (v := .ref (ad 12)) rfl dX5_why_9 ?_
    refine lv_iload_n hx hb dX5_why_12 rfl (lv_at hl 1 rfl) ?_
    obtain ⟨g_5, hf⟩ := gd_some hf
    refine cx_iald C hx hb 12 rfl g_5 dX5_why_13 ?_
    refine lv_goto (tgt := 18) hx hb dX5_why_14 (by decide) ?_
    exact cx_iret C hx hb hr hlocks hf dX5_why_18
/-! ===== X5_value ===== -/
def fX5_value_26  (x1 : Int32) (x2 : Int32) (y1 : Int32) (w : St) : Option (Int64 × St) := lt_ (sS w 0 y1) (fun u_1 => (if (u_1.1 0) ≤ 0 then (if x2 = 0 then gd (okI x1 60) (some ((u_1.2.2 0 x1.toNatClampNeg), u_1)) else gd (okI x1 60) (some ((u_1.2.2 1 x1.toNatClampNeg), u_1))) else some (0, u_1)))
def fX5_value (u : St) (a1 : Int32) (a2 : Int32) : Option (Int64 × St) := bnd (fX5_isGroup u a1) (fun r_2 u_3 => (if r_2 = 0 then some (0, u_3) else bnd (fX5_within u_3 (a2.toInt64) 0 1) (fun r_6 u_7 => (if r_6 = 0 then fX5_value_26 a1 a2 2 u_7 else fX5_value_26 a1 a2 0 u_7))))
abbrev rmX5_value : Room := { frames := 1, cells := 0, slots := 0, locals := 25 }
set_option maxHeartbeats 4000000 in
set_option maxRecDepth 100000 in
theorem k_X5_value (l : Launch) (ad : Nat → Nat) (ck : Nat → ClassId) (D : va_G) (tt : Nat) {u : St} {a1 : Int32} {a2 : Int32} {r : Int64} {u' : St} (hf : fX5_value u a1 a2 = some (r, u')) : ML l yX5_value wsX5_value rmX5_value (wM ad ck) ck D tt [.ref (ad 0), .int a1, .int a2] u r u' := by
  intro sz
  refine Met.ofW (cc := cX5_value) (maxL := 3) (ret := (some .long)) (by decide) rfl ?_
  intro p e s m args below meth c s₁ B hml hv
  obtain ⟨rfl, hsz, C⟩ := cx_entry hv
  have hx := B.exec
  have hb := B.bytes
  have hr := B.returns
  have hts := atoms_spec (ws := wsX5_value) B.pre
  have hown : s.vm.findClass RX5 = some m.cls := findClass_of_methodNamed B.named
  have hlocks := B.notSynchronized
  have J26 : ∀ (x1 : Int32) (x2 : Int32) (y1 : Int32) (w : St) (H : Heap) (locs : List Loc) (ls : Array Slot), fX5_value_26 x1 x2 y1 w = some (r, u') → CX (wM ad ck) ck D tt (va_A (wM ad ck u) sz) s w H locs → lv_has ls 3 [(0, .ref (ad 0)), (1, .int x1), (2, .int x2)] → W p l e (headSpec wsX5_value rmX5_value).room s m ([.ref (ad 0), .int a1, .int a2] : List Value).toArray below meth c H locs 0 0 (MQ below (QL (wM ad ck) D u sz r u') ([.ref (ad 0), .int a1, .int a2] : List Value).toArray s 0 0 (va_A (wM ad ck u) sz)) (F0 m 26 ls [.int y1, .ref (ad 0)]) := by
    intro x1 x2 y1 w H locs ls hf C hl
    unfold fX5_value_26 at hf
    refine cx_puti C hx hb (T := TX5) (N := 28) hts (by decide +kernel) tyX5 tyX5_ok nmX5 hown 0 rfl rfl 0 (by decide) (hts (.fieldLink RX5 72 "AggregateRowsModel" "fault" "I") (by decide +kernel)) (fun _ h9 => h9) rfl (by decide +kernel) (Nat.le_of_ble_eq_true rfl) (u1 := sS w 0 y1) rfl dX5_value_26 (fun u_1 H locs eu_1 C => ?_)
    replace hf := lt_at hf eu_1
    refine lv_aload_n hx hb dX5_value_29 rfl (lv_at hl 0 rfl) ?_
    refine cx_get C hx hb (T := TX5) (N := 28) hts (by decide +kernel) hown 0 rfl rfl 0 (by decide) (hts (.fieldLink RX5 72 "AggregateRowsModel" "fault" "I") (by decide +kernel)) (fun _ h9 => h9) (v := .int (u_1.1 0)) rfl dX5_value_30 ?_
    refine lv_if_le (tgt := 40) hx hb dX5_value_33 (by decide) (fun c_2 => ?_) (fun c_2 => ?_)
    · replace hf := (if_pos c_2).symm.trans hf
      refine lv_iload_n hx hb dX5_value_40 rfl (lv_at hl 2 rfl) ?_
      refine lv_if_ne (tgt := 53) hx hb dX5_value_41 (by decide) (fun c_3 => ?_) (fun c_3 => ?_)
      · replace hf := (if_neg c_3).symm.trans hf
        refine lv_aload_n hx hb dX5_value_53 rfl (lv_at hl 0 rfl) ?_
        refine cx_get C hx hb (T := TX5) (N := 28) hts (by decide +kernel) hown 0 rfl rfl 20 (by decide) (hts (.fieldLink RX5 51 "AggregateRowsModel" "groupLower" "[J") (by decide +kernel)) (fun _ h9 => h9) (v := .ref (ad 14)) rfl dX5_value_54 ?_
        refine lv_iload_n hx hb dX5_value_57 rfl (lv_at hl 1 rfl) ?_
        obtain ⟨g_4, hf⟩ := gd_some hf
        refine cx_lald C hx hb 14 rfl g_4 dX5_value_58 ?_
        exact cx_lret C hx hb hr hlocks hf dX5_value_59
      · replace hf := (if_pos c_3).symm.trans hf
        refine lv_aload_n hx hb dX5_value_44 rfl (lv_at hl 0 rfl) ?_
        refine cx_get C hx hb (T := TX5) (N := 28) hts (by decide +kernel) hown 0 rfl rfl 19 (by decide) (hts (.fieldLink RX5 47 "AggregateRowsModel" "groupUpper" "[J") (by decide +kernel)) (fun _ h9 => h9) (v := .ref (ad 13)) rfl dX5_value_45 ?_
        refine lv_iload_n hx hb dX5_value_48 rfl (lv_at hl 1 rfl) ?_
        obtain ⟨g_5, hf⟩ := gd_some hf
        refine cx_lald C hx hb 13 rfl g_5 dX5_value_49 ?_
        refine lv_goto (tgt := 59) hx hb dX5_value_50 (by decide) ?_
        exact cx_lret C hx hb hr hlocks hf dX5_value_59
    · replace hf := (if_neg c_2).symm.trans hf
      refine lv_lconst (v := 0) hx hb dX5_value_36 (by decide) ?_
      refine lv_goto (tgt := 59) hx hb dX5_value_37 (by decide) ?_
      exact cx_lret C hx hb hr hlocks hf dX5_value_59
  have hl := lv_entry ([.ref (ad 0), .int a1, .int a2]) (n := 3) (Nat.le_of_ble_eq_true rfl)
  rw [lg_entry_eq]
  generalize (lg_sl ([.ref (ad 0), .int a1, .int a2]) ++ List.replicate (3 - (lg_sl ([.ref (ad 0), .int a1, .int a2])).length) Slot.unset).toArray = ls at hl ⊢
  have hl : lv_has ls 3 [(0, .ref (ad 0)), (1, .int a1), (2, .int a2)] := hl
  unfold fX5_value at hf
  refine lv_aload_n hx hb dX5_value_0 rfl (lv_at hl 0 rfl) ?_
  refine lv_iload_n hx hb dX5_value_1 rfl (lv_at hl 1 rfl) ?_
  obtain ⟨r_2, u_3, h_1, hf⟩ := bnd_some hf
  refine cx_calli C (va_runV (As := [.int a1]) (rest := []) ⟨hx, hb, hml, hown, hts⟩ (k_X5_isGroup l ad ck D tt h_1 _) (cwV 1 hts gX5_value_X5_isGroup rfl rfl rfl (by decide +kernel) ⟨Nat.le_of_ble_eq_true rfl, Nat.le_of_ble_eq_true rfl⟩) (cx_preV C (q0 := 0) (ci := 5) rfl rfl) rfl rfl hl.1 rfl (lv_room (Nat.le_of_ble_eq_true rfl)) dX5_value_2 ⟨Nat.zero_le _, Nat.zero_le _⟩) (fun H locs C => ?_)
  refine lv_if_ne (tgt := 10) hx hb dX5_value_5 (by decide) (fun c_4 => ?_) (fun c_4 => ?_)
  · replace hf := (if_neg c_4).symm.trans hf
    refine lv_aload_n hx hb dX5_value_10 rfl (lv_at hl 0 rfl) ?_
    refine lv_iload_n hx hb dX5_value_11 rfl (lv_at hl 2 rfl) ?_
    refine lv_i2l hx hb dX5_value_12 rfl ?_
    refine lv_lconst (v := 0) hx hb dX5_value_13 (by decide) ?_
    refine lv_lconst (v := 1) hx hb dX5_value_14 (by decide) ?_
    obtain ⟨r_6, u_7, h_5, hf⟩ := bnd_some hf
    refine cx_calli C (va_runS (As := [.long (a2.toInt64), .long 0, .long 1]) (rest := [.ref (ad 0)]) ⟨hx, hb, hml, hown, hts⟩ (k_X5_within l ad ck D tt h_5 _) (va_cwS 3 hts gX5_value_X5_within rfl rfl rfl (by decide +kernel) ⟨Nat.le_of_ble_eq_true rfl, Nat.le_of_ble_eq_true rfl⟩) (cx_preS C) rfl rfl hl.1 rfl (lv_room (Nat.le_of_ble_eq_true rfl)) dX5_value_15 ⟨Nat.zero_le _, Nat.zero_le _⟩) (fun H locs C => ?_)
    refine lv_if_eq (tgt := 25) hx hb dX5_value_18 (by decide) (fun c_8 => ?_) (fun c_8 => ?_)
    · replace hf := (if_pos c_8).symm.trans hf
      refine lv_iconst (v := 2) hx hb dX5_value_25 (by decide) ?_
      exact J26 a1 a2 2 u_7 _ _ _ hf C (lv_sub hl [0, 1, 2] rfl)
    · replace hf := (if_neg c_8).symm.trans hf
      refine lv_iconst (v := 0) hx hb dX5_value_21 (by decide) ?_
      refine lv_goto (tgt := 26) hx hb dX5_value_22 (by decide) ?_
      exact J26 a1 a2 0 u_7 _ _ _ hf C (lv_sub hl [0, 1, 2] rfl)
  · replace hf := (if_pos c_4).symm.trans hf
    refine lv_lconst (v := 0) hx hb dX5_value_8 (by decide) ?_
    exact cx_lret C hx hb hr hlocks hf dX5_value_9
/-! ===== X5_term ===== -/
def fX5_term (u : St) (a1 : Int32) : Option (Int32 × St) := bnd (fX5_isGroup u a1) (fun r_2 u_3 => (if r_2 = 0 then some (0, u_3) else gd (okI a1 60) (some ((u_3.2.1 12 a1.toNatClampNeg), u_3))))
abbrev rmX5_term : Room := { frames := 1, cells := 0, slots := 0, locals := 21 }
set_option maxHeartbeats 4000000 in
set_option maxRecDepth 100000 in
theorem k_X5_term (l : Launch) (ad : Nat → Nat) (ck : Nat → ClassId) (D : va_G) (tt : Nat) {u : St} {a1 : Int32} {r : Int32} {u' : St} (hf : fX5_term u a1 = some (r, u')) : MI l yX5_term wsX5_term rmX5_term (wM ad ck) ck D tt [.ref (ad 0), .int a1] u r u' := by
  intro sz
  refine Met.ofW (cc := cX5_term) (maxL := 2) (ret := (some .int)) (by decide) rfl ?_
  intro p e s m args below meth c s₁ B hml hv
  obtain ⟨rfl, hsz, C⟩ := cx_entry hv
  have hx := B.exec
  have hb := B.bytes
  have hr := B.returns
  have hts := atoms_spec (ws := wsX5_term) B.pre
  have hown : s.vm.findClass RX5 = some m.cls := findClass_of_methodNamed B.named
  have hlocks := B.notSynchronized
  have hl := lv_entry ([.ref (ad 0), .int a1]) (n := 2) (Nat.le_of_ble_eq_true rfl)
  rw [lg_entry_eq]
  generalize (lg_sl ([.ref (ad 0), .int a1]) ++ List.replicate (2 - (lg_sl ([.ref (ad 0), .int a1])).length) Slot.unset).toArray = ls at hl ⊢
  have hl : lv_has ls 2 [(0, .ref (ad 0)), (1, .int a1)] := hl
  unfold fX5_term at hf
  refine lv_aload_n hx hb dX5_term_0 rfl (lv_at hl 0 rfl) ?_
  refine lv_iload_n hx hb dX5_term_1 rfl (lv_at hl 1 rfl) ?_
  obtain ⟨r_2, u_3, h_1, hf⟩ := bnd_some hf
  refine cx_calli C (va_runV (As := [.int a1]) (rest := []) ⟨hx, hb, hml, hown, hts⟩ (k_X5_isGroup l ad ck D tt h_1 _) (cwV 1 hts gX5_term_X5_isGroup rfl rfl rfl (by decide +kernel) ⟨Nat.le_of_ble_eq_true rfl, Nat.le_of_ble_eq_true rfl⟩) (cx_preV C (q0 := 0) (ci := 5) rfl rfl) rfl rfl hl.1 rfl (lv_room (Nat.le_of_ble_eq_true rfl)) dX5_term_2 ⟨Nat.zero_le _, Nat.zero_le _⟩) (fun H locs C => ?_)
  refine lv_if_eq (tgt := 17) hx hb dX5_term_5 (by decide) (fun c_4 => ?_) (fun c_4 => ?_)
  · replace hf := (if_pos c_4).symm.trans hf
    refine lv_iconst (v := 0) hx hb dX5_term_17 (by decide) ?_
    exact cx_iret C hx hb hr hlocks hf dX5_term_18
  · replace hf := (if_neg c_4).symm.trans hf
    refine lv_aload_n hx hb dX5_term_8 rfl (lv_at hl 0 rfl) ?_
    refine cx_get C hx hb (T := TX5) (N := 28) hts (by decide +kernel) hown 0 rfl rfl 21 (by decide) (hts (.fieldLink RX5 54 "AggregateRowsModel" "groupTerm" "[I") (by decide +kernel)) (fun _ h9 => h9) (v := .ref (ad 15)) rfl dX5_term_9 ?_
    refine lv_iload_n hx hb dX5_term_12 rfl (lv_at hl 1 rfl) ?_
    obtain ⟨g_5, hf⟩ := gd_some hf
    refine cx_iald C hx hb 15 rfl g_5 dX5_term_13 ?_
    refine lv_goto (tgt := 18) hx hb dX5_term_14 (by decide) ?_
    exact cx_iret C hx hb hr hlocks hf dX5_term_18
/-! ===== X5_length ===== -/
def fX5_length (u : St) (a1 : Int32) : Option (Int32 × St) := bnd (fX5_isGroup u a1) (fun r_2 u_3 => (if r_2 = 0 then some (0, u_3) else gd (okI a1 60) (some ((u_3.2.1 13 a1.toNatClampNeg), u_3))))
abbrev rmX5_length : Room := { frames := 1, cells := 0, slots := 0, locals := 21 }
set_option maxHeartbeats 4000000 in
set_option maxRecDepth 100000 in
theorem k_X5_length (l : Launch) (ad : Nat → Nat) (ck : Nat → ClassId) (D : va_G) (tt : Nat) {u : St} {a1 : Int32} {r : Int32} {u' : St} (hf : fX5_length u a1 = some (r, u')) : MI l yX5_length wsX5_length rmX5_length (wM ad ck) ck D tt [.ref (ad 0), .int a1] u r u' := by
  intro sz
  refine Met.ofW (cc := cX5_length) (maxL := 2) (ret := (some .int)) (by decide) rfl ?_
  intro p e s m args below meth c s₁ B hml hv
  obtain ⟨rfl, hsz, C⟩ := cx_entry hv
  have hx := B.exec
  have hb := B.bytes
  have hr := B.returns
  have hts := atoms_spec (ws := wsX5_length) B.pre
  have hown : s.vm.findClass RX5 = some m.cls := findClass_of_methodNamed B.named
  have hlocks := B.notSynchronized
  have hl := lv_entry ([.ref (ad 0), .int a1]) (n := 2) (Nat.le_of_ble_eq_true rfl)
  rw [lg_entry_eq]
  generalize (lg_sl ([.ref (ad 0), .int a1]) ++ List.replicate (2 - (lg_sl ([.ref (ad 0), .int a1])).length) Slot.unset).toArray = ls at hl ⊢
  have hl : lv_has ls 2 [(0, .ref (ad 0)), (1, .int a1)] := hl
  unfold fX5_length at hf
  refine lv_aload_n hx hb dX5_length_0 rfl (lv_at hl 0 rfl) ?_
  refine lv_iload_n hx hb dX5_length_1 rfl (lv_at hl 1 rfl) ?_
  obtain ⟨r_2, u_3, h_1, hf⟩ := bnd_some hf
  refine cx_calli C (va_runV (As := [.int a1]) (rest := []) ⟨hx, hb, hml, hown, hts⟩ (k_X5_isGroup l ad ck D tt h_1 _) (cwV 1 hts gX5_length_X5_isGroup rfl rfl rfl (by decide +kernel) ⟨Nat.le_of_ble_eq_true rfl, Nat.le_of_ble_eq_true rfl⟩) (cx_preV C (q0 := 0) (ci := 5) rfl rfl) rfl rfl hl.1 rfl (lv_room (Nat.le_of_ble_eq_true rfl)) dX5_length_2 ⟨Nat.zero_le _, Nat.zero_le _⟩) (fun H locs C => ?_)
  refine lv_if_eq (tgt := 17) hx hb dX5_length_5 (by decide) (fun c_4 => ?_) (fun c_4 => ?_)
  · replace hf := (if_pos c_4).symm.trans hf
    refine lv_iconst (v := 0) hx hb dX5_length_17 (by decide) ?_
    exact cx_iret C hx hb hr hlocks hf dX5_length_18
  · replace hf := (if_neg c_4).symm.trans hf
    refine lv_aload_n hx hb dX5_length_8 rfl (lv_at hl 0 rfl) ?_
    refine cx_get C hx hb (T := TX5) (N := 28) hts (by decide +kernel) hown 0 rfl rfl 22 (by decide) (hts (.fieldLink RX5 57 "AggregateRowsModel" "groupSize" "[I") (by decide +kernel)) (fun _ h9 => h9) (v := .ref (ad 16)) rfl dX5_length_9 ?_
    refine lv_iload_n hx hb dX5_length_12 rfl (lv_at hl 1 rfl) ?_
    obtain ⟨g_5, hf⟩ := gd_some hf
    refine cx_iald C hx hb 16 rfl g_5 dX5_length_13 ?_
    refine lv_goto (tgt := 18) hx hb dX5_length_14 (by decide) ?_
    exact cx_iret C hx hb hr hlocks hf dX5_length_18
/-! ===== X5_charAt ===== -/
def fX5_charAt_30  (x1 : Int32) (x2 : Int32) (y1 : Int32) (w : St) : Option (Int32 × St) := lt_ (sS w 0 y1) (fun u_1 => (if (u_1.1 0) ≤ 0 then gd (okI ((80 * x1) + x2) 4800) (some ((u_1.2.1 14 ((80 * x1) + x2).toNatClampNeg), u_1)) else some (0, u_1)))
def fX5_charAt (u : St) (a1 : Int32) (a2 : Int32) : Option (Int32 × St) := bnd (fX5_isGroup u a1) (fun r_2 u_3 => (if r_2 = 0 then some (0, u_3) else (if a2 < 0 then fX5_charAt_30 a1 a2 1 u_3 else gd (okI a1 60) ((if (u_3.2.1 13 a1.toNatClampNeg) ≤ a2 then fX5_charAt_30 a1 a2 1 u_3 else fX5_charAt_30 a1 a2 0 u_3)))))
abbrev rmX5_charAt : Room := { frames := 1, cells := 0, slots := 0, locals := 21 }
set_option maxHeartbeats 4000000 in
set_option maxRecDepth 100000 in
theorem k_X5_charAt (l : Launch) (ad : Nat → Nat) (ck : Nat → ClassId) (D : va_G) (tt : Nat) {u : St} {a1 : Int32} {a2 : Int32} {r : Int32} {u' : St} (hf : fX5_charAt u a1 a2 = some (r, u')) : MI l yX5_charAt wsX5_charAt rmX5_charAt (wM ad ck) ck D tt [.ref (ad 0), .int a1, .int a2] u r u' := by
  intro sz
  refine Met.ofW (cc := cX5_charAt) (maxL := 3) (ret := (some .int)) (by decide) rfl ?_
  intro p e s m args below meth c s₁ B hml hv
  obtain ⟨rfl, hsz, C⟩ := cx_entry hv
  have hx := B.exec
  have hb := B.bytes
  have hr := B.returns
  have hts := atoms_spec (ws := wsX5_charAt) B.pre
  have hown : s.vm.findClass RX5 = some m.cls := findClass_of_methodNamed B.named
  have hlocks := B.notSynchronized
  have J30 : ∀ (x1 : Int32) (x2 : Int32) (y1 : Int32) (w : St) (H : Heap) (locs : List Loc) (ls : Array Slot), fX5_charAt_30 x1 x2 y1 w = some (r, u') → CX (wM ad ck) ck D tt (va_A (wM ad ck u) sz) s w H locs → lv_has ls 3 [(0, .ref (ad 0)), (1, .int x1), (2, .int x2)] → W p l e (headSpec wsX5_charAt rmX5_charAt).room s m ([.ref (ad 0), .int a1, .int a2] : List Value).toArray below meth c H locs 0 0 (MQ below (QI (wM ad ck) D u sz r u') ([.ref (ad 0), .int a1, .int a2] : List Value).toArray s 0 0 (va_A (wM ad ck u) sz)) (F0 m 30 ls [.int y1, .ref (ad 0)]) := by
    intro x1 x2 y1 w H locs ls hf C hl
    unfold fX5_charAt_30 at hf
    refine cx_puti C hx hb (T := TX5) (N := 28) hts (by decide +kernel) tyX5 tyX5_ok nmX5 hown 0 rfl rfl 0 (by decide) (hts (.fieldLink RX5 72 "AggregateRowsModel" "fault" "I") (by decide +kernel)) (fun _ h9 => h9) rfl (by decide +kernel) (Nat.le_of_ble_eq_true rfl) (u1 := sS w 0 y1) rfl dX5_charAt_30 (fun u_1 H locs eu_1 C => ?_)
    replace hf := lt_at hf eu_1
    refine lv_aload_n hx hb dX5_charAt_33 rfl (lv_at hl 0 rfl) ?_
    refine cx_get C hx hb (T := TX5) (N := 28) hts (by decide +kernel) hown 0 rfl rfl 0 (by decide) (hts (.fieldLink RX5 72 "AggregateRowsModel" "fault" "I") (by decide +kernel)) (fun _ h9 => h9) (v := .int (u_1.1 0)) rfl dX5_charAt_34 ?_
    refine lv_if_le (tgt := 44) hx hb dX5_charAt_37 (by decide) (fun c_2 => ?_) (fun c_2 => ?_)
    · replace hf := (if_pos c_2).symm.trans hf
      refine lv_aload_n hx hb dX5_charAt_44 rfl (lv_at hl 0 rfl) ?_
      refine cx_get C hx hb (T := TX5) (N := 28) hts (by decide +kernel) hown 0 rfl rfl 23 (by decide) (hts (.fieldLink RX5 60 "AggregateRowsModel" "groupText" "[I") (by decide +kernel)) (fun _ h9 => h9) (v := .ref (ad 17)) rfl dX5_charAt_45 ?_
      refine lv_bipush (v := 80) hx hb dX5_charAt_48 (by decide) ?_
      refine lv_iload_n hx hb dX5_charAt_50 rfl (lv_at hl 1 rfl) ?_
      refine lv_imul hx hb dX5_charAt_51 ?_
      refine lv_iload_n hx hb dX5_charAt_52 rfl (lv_at hl 2 rfl) ?_
      refine lv_iadd hx hb dX5_charAt_53 ?_
      obtain ⟨g_3, hf⟩ := gd_some hf
      refine cx_iald C hx hb 17 rfl g_3 dX5_charAt_54 ?_
      exact cx_iret C hx hb hr hlocks hf dX5_charAt_55
    · replace hf := (if_neg c_2).symm.trans hf
      refine lv_iconst (v := 0) hx hb dX5_charAt_40 (by decide) ?_
      refine lv_goto (tgt := 55) hx hb dX5_charAt_41 (by decide) ?_
      exact cx_iret C hx hb hr hlocks hf dX5_charAt_55
  have hl := lv_entry ([.ref (ad 0), .int a1, .int a2]) (n := 3) (Nat.le_of_ble_eq_true rfl)
  rw [lg_entry_eq]
  generalize (lg_sl ([.ref (ad 0), .int a1, .int a2]) ++ List.replicate (3 - (lg_sl ([.ref (ad 0), .int a1, .int a2])).length) Slot.unset).toArray = ls at hl ⊢
  have hl : lv_has ls 3 [(0, .ref (ad 0)), (1, .int a1), (2, .int a2)] := hl
  unfold fX5_charAt at hf
  refine lv_aload_n hx hb dX5_charAt_0 rfl (lv_at hl 0 rfl) ?_
  refine lv_iload_n hx hb dX5_charAt_1 rfl (lv_at hl 1 rfl) ?_
  obtain ⟨r_2, u_3, h_1, hf⟩ := bnd_some hf
  refine cx_calli C (va_runV (As := [.int a1]) (rest := []) ⟨hx, hb, hml, hown, hts⟩ (k_X5_isGroup l ad ck D tt h_1 _) (cwV 1 hts gX5_charAt_X5_isGroup rfl rfl rfl (by decide +kernel) ⟨Nat.le_of_ble_eq_true rfl, Nat.le_of_ble_eq_true rfl⟩) (cx_preV C (q0 := 0) (ci := 5) rfl rfl) rfl rfl hl.1 rfl (lv_room (Nat.le_of_ble_eq_true rfl)) dX5_charAt_2 ⟨Nat.zero_le _, Nat.zero_le _⟩) (fun H locs C => ?_)
  refine lv_if_ne (tgt := 10) hx hb dX5_charAt_5 (by decide) (fun c_4 => ?_) (fun c_4 => ?_)
  · replace hf := (if_neg c_4).symm.trans hf
    refine lv_aload_n hx hb dX5_charAt_10 rfl (lv_at hl 0 rfl) ?_
    refine lv_iload_n hx hb dX5_charAt_11 rfl (lv_at hl 2 rfl) ?_
    refine lv_if_lt (tgt := 29) hx hb dX5_charAt_12 (by decide) (fun c_5 => ?_) (fun c_5 => ?_)
    · replace hf := (if_pos c_5).symm.trans hf
      refine lv_iconst (v := 1) hx hb dX5_charAt_29 (by decide) ?_
      exact J30 a1 a2 1 u_3 _ _ _ hf C (lv_sub hl [0, 1, 2] rfl)
    · replace hf := (if_neg c_5).symm.trans hf
      refine lv_iload_n hx hb dX5_charAt_15 rfl (lv_at hl 2 rfl) ?_
      refine lv_aload_n hx hb dX5_charAt_16 rfl (lv_at hl 0 rfl) ?_
      refine cx_get C hx hb (T := TX5) (N := 28) hts (by decide +kernel) hown 0 rfl rfl 22 (by decide) (hts (.fieldLink RX5 57 "AggregateRowsModel" "groupSize" "[I") (by decide +kernel)) (fun _ h9 => h9) (v := .ref (ad 16)) rfl dX5_charAt_17 ?_
      refine lv_iload_n hx hb dX5_charAt_20 rfl (lv_at hl 1 rfl) ?_
      obtain ⟨g_6, hf⟩ := gd_some hf
      refine cx_iald C hx hb 16 rfl g_6 dX5_charAt_21 ?_
      refine lv_icmp_ge (tgt := 29) hx hb dX5_charAt_22 (by decide) (fun c_7 => ?_) (fun c_7 => ?_)
      · replace hf := (if_pos c_7).symm.trans hf
        refine lv_iconst (v := 1) hx hb dX5_charAt_29 (by decide) ?_
        exact J30 a1 a2 1 u_3 _ _ _ hf C (lv_sub hl [0, 1, 2] rfl)
      · replace hf := (if_neg c_7).symm.trans hf
        refine lv_iconst (v := 0) hx hb dX5_charAt_25 (by decide) ?_
        refine lv_goto (tgt := 30) hx hb dX5_charAt_26 (by decide) ?_
        exact J30 a1 a2 0 u_3 _ _ _ hf C (lv_sub hl [0, 1, 2] rfl)
  · replace hf := (if_pos c_4).symm.trans hf
    refine lv_iconst (v := 0) hx hb dX5_charAt_8 (by decide) ?_
    exact cx_iret C hx hb hr hlocks hf dX5_charAt_9
/-! ===== X5_having ===== -/
def fX5_having_53  (x1 : Int32) (x2 : Int32) (x3 : Int64) (x5 : Int64) (y1 : Int32) (w : St) : Option (Int32 × St) := lt_ (sS w 0 y1) (fun u_1 => (if 0 < (u_1.1 0) then some (0, u_1) else gd (okI x1 60) ((if (u_1.2.1 10 x1.toNatClampNeg) = 0 then gd (okI x1 60) (lt_ ((u_1.2.2 0 x1.toNatClampNeg) * x5) (fun x7_6 => gd (okI x1 60) (lt_ (x3 * (u_1.2.2 1 x1.toNatClampNeg)) (fun x9_8 => (if x2 = 0 then (if x9_8 ≤ x7_6 then some (0, u_1) else some (1, u_1)) else (if x2 = 1 then (if x7_6 = x9_8 then some (1, u_1) else some (0, u_1)) else (if x7_6 ≤ x9_8 then some (0, u_1) else some (1, u_1)))))))) else some (0, u_1)))))
def fX5_having (u : St) (a1 : Int32) (a2 : Int32) (a3 : Int64) (a5 : Int64) : Option (Int32 × St) := bnd (fX5_isGroup u a1) (fun r_2 u_3 => (if r_2 = 0 then some (0, u_3) else bnd (fX5_within u_3 (a2.toInt64) 0 2) (fun r_6 u_7 => (if r_6 = 0 then fX5_having_53 a1 a2 a3 a5 2 u_7 else bnd (fX5_within u_7 a3 (-1000000000) 1000000000) (fun r_10 u_11 => (if r_10 = 0 then fX5_having_53 a1 a2 a3 a5 2 u_11 else bnd (fX5_within u_11 a5 1 1000000) (fun r_14 u_15 => (if r_14 = 0 then fX5_having_53 a1 a2 a3 a5 2 u_15 else fX5_having_53 a1 a2 a3 a5 0 u_15))))))))
abbrev rmX5_having : Room := { frames := 1, cells := 0, slots := 0, locals := 25 }
set_option maxHeartbeats 4000000 in
set_option maxRecDepth 100000 in
theorem k_X5_having (l : Launch) (ad : Nat → Nat) (ck : Nat → ClassId) (D : va_G) (tt : Nat) {u : St} {a1 : Int32} {a2 : Int32} {a3 : Int64} {a5 : Int64} {r : Int32} {u' : St} (hf : fX5_having u a1 a2 a3 a5 = some (r, u')) : MI l yX5_having wsX5_having rmX5_having (wM ad ck) ck D tt [.ref (ad 0), .int a1, .int a2, .long a3, .long a5] u r u' := by
  intro sz
  refine Met.ofW (cc := cX5_having) (maxL := 11) (ret := (some .boolean)) (by decide) rfl ?_
  intro p e s m args below meth c s₁ B hml hv
  obtain ⟨rfl, hsz, C⟩ := cx_entry hv
  have hx := B.exec
  have hb := B.bytes
  have hr := B.returns
  have hts := atoms_spec (ws := wsX5_having) B.pre
  have hown : s.vm.findClass RX5 = some m.cls := findClass_of_methodNamed B.named
  have hlocks := B.notSynchronized
  have J53 : ∀ (x1 : Int32) (x2 : Int32) (x3 : Int64) (x5 : Int64) (y1 : Int32) (w : St) (H : Heap) (locs : List Loc) (ls : Array Slot), fX5_having_53 x1 x2 x3 x5 y1 w = some (r, u') → CX (wM ad ck) ck D tt (va_A (wM ad ck u) sz) s w H locs → lv_has ls 11 [(0, .ref (ad 0)), (1, .int x1), (2, .int x2), (3, .long x3), (5, .long x5)] → W p l e (headSpec wsX5_having rmX5_having).room s m ([.ref (ad 0), .int a1, .int a2, .long a3, .long a5] : List Value).toArray below meth c H locs 0 0 (MQ below (QI (wM ad ck) D u sz r u') ([.ref (ad 0), .int a1, .int a2, .long a3, .long a5] : List Value).toArray s 0 0 (va_A (wM ad ck u) sz)) (F0 m 53 ls [.int y1, .ref (ad 0)]) := by
    intro x1 x2 x3 x5 y1 w H locs ls hf C hl
    unfold fX5_having_53 at hf
    refine cx_puti C hx hb (T := TX5) (N := 28) hts (by decide +kernel) tyX5 tyX5_ok nmX5 hown 0 rfl rfl 0 (by decide) (hts (.fieldLink RX5 72 "AggregateRowsModel" "fault" "I") (by decide +kernel)) (fun _ h9 => h9) rfl (by decide +kernel) (Nat.le_of_ble_eq_true rfl) (u1 := sS w 0 y1) rfl dX5_having_53 (fun u_1 H locs eu_1 C => ?_)
    replace hf := lt_at hf eu_1
    refine lv_aload_n hx hb dX5_having_56 rfl (lv_at hl 0 rfl) ?_
    refine cx_get C hx hb (T := TX5) (N := 28) hts (by decide +kernel) hown 0 rfl rfl 0 (by decide) (hts (.fieldLink RX5 72 "AggregateRowsModel" "fault" "I") (by decide +kernel)) (fun _ h9 => h9) (v := .int (u_1.1 0)) rfl dX5_having_57 ?_
    refine lv_if_gt (tgt := 72) hx hb dX5_having_60 (by decide) (fun c_2 => ?_) (fun c_2 => ?_)
    · replace hf := (if_pos c_2).symm.trans hf
      refine lv_iconst (v := 0) hx hb dX5_having_72 (by decide) ?_
      exact cx_zret C hx hb hr (by decide) hlocks hf dX5_having_73
    · replace hf := (if_neg c_2).symm.trans hf
      refine lv_aload_n hx hb dX5_having_63 rfl (lv_at hl 0 rfl) ?_
      refine cx_get C hx hb (T := TX5) (N := 28) hts (by decide +kernel) hown 0 rfl rfl 17 (by decide) (hts (.fieldLink RX5 41 "AggregateRowsModel" "groupSort" "[I") (by decide +kernel)) (fun _ h9 => h9) (v := .ref (ad 11)) rfl dX5_having_64 ?_
      refine lv_iload_n hx hb dX5_having_67 rfl (lv_at hl 1 rfl) ?_
      obtain ⟨g_3, hf⟩ := gd_some hf
      refine cx_iald C hx hb 11 rfl g_3 dX5_having_68 ?_
      refine lv_if_eq (tgt := 74) hx hb dX5_having_69 (by decide) (fun c_4 => ?_) (fun c_4 => ?_)
      · replace hf := (if_pos c_4).symm.trans hf
        refine lv_aload_n hx hb dX5_having_74 rfl (lv_at hl 0 rfl) ?_
        refine cx_get C hx hb (T := TX5) (N := 28) hts (by decide +kernel) hown 0 rfl rfl 19 (by decide) (hts (.fieldLink RX5 47 "AggregateRowsModel" "groupUpper" "[J") (by decide +kernel)) (fun _ h9 => h9) (v := .ref (ad 13)) rfl dX5_having_75 ?_
        refine lv_iload_n hx hb dX5_having_78 rfl (lv_at hl 1 rfl) ?_
        obtain ⟨g_5, hf⟩ := gd_some hf
        refine cx_lald C hx hb 13 rfl g_5 dX5_having_79 ?_
        refine lv_lload hx hb dX5_having_80 (lv_at hl 4 rfl) ?_
        refine lv_lmul hx hb dX5_having_82 ?_
        refine lv_topl (fun x7_6 ex7_6 => ?_)
        replace hf := lt_at hf ex7_6
        refine lv_lstore (lv' := [(7, .long x7_6), (0, .ref (ad 0)), (1, .int x1), (2, .int x2), (3, .long x3), (5, .long x5)]) hx hb dX5_having_83 hl (by decide) rfl (fun ls hl => ?_)
        refine lv_lload_n hx hb dX5_having_85 rfl (lv_at hl 4 rfl) ?_
        refine lv_aload_n hx hb dX5_having_86 rfl (lv_at hl 1 rfl) ?_
        refine cx_get C hx hb (T := TX5) (N := 28) hts (by decide +kernel) hown 0 rfl rfl 20 (by decide) (hts (.fieldLink RX5 51 "AggregateRowsModel" "groupLower" "[J") (by decide +kernel)) (fun _ h9 => h9) (v := .ref (ad 14)) rfl dX5_having_87 ?_
        refine lv_iload_n hx hb dX5_having_90 rfl (lv_at hl 2 rfl) ?_
        obtain ⟨g_7, hf⟩ := gd_some hf
        refine cx_lald C hx hb 14 rfl g_7 dX5_having_91 ?_
        refine lv_lmul hx hb dX5_having_92 ?_
        refine lv_topl (fun x9_8 ex9_8 => ?_)
        replace hf := lt_at hf ex9_8
        refine lv_lstore (lv' := [(9, .long x9_8), (7, .long x7_6), (0, .ref (ad 0)), (1, .int x1), (2, .int x2), (3, .long x3), (5, .long x5)]) hx hb dX5_having_93 hl (by decide) rfl (fun ls hl => ?_)
        refine lv_iload_n hx hb dX5_having_95 rfl (lv_at hl 4 rfl) ?_
        refine lv_if_ne (tgt := 115) hx hb dX5_having_96 (by decide) (fun c_9 => ?_) (fun c_9 => ?_)
        · replace hf := (if_neg c_9).symm.trans hf
          refine lv_iload_n hx hb dX5_having_115 rfl (lv_at hl 4 rfl) ?_
          refine lv_iconst (v := 1) hx hb dX5_having_116 (by decide) ?_
          refine lv_icmp_ne (tgt := 136) hx hb dX5_having_117 (by decide) (fun c_10 => ?_) (fun c_10 => ?_)
          · replace hf := (if_neg c_10).symm.trans hf
            refine lv_lload hx hb dX5_having_136 (lv_at hl 1 rfl) ?_
            refine lv_lload hx hb dX5_having_138 (lv_at hl 0 rfl) ?_
            refine W.lcmp hx hb dX5_having_140 ?_
            refine lv_if_le (tgt := 148) hx hb dX5_having_141 (by decide) (fun c_11 => ?_) (fun c_11 => ?_)
            · replace hf := (if_pos ((lg_cmp_le _ _).mp c_11)).symm.trans hf
              refine lv_iconst (v := 0) hx hb dX5_having_148 (by decide) ?_
              exact cx_zret C hx hb hr (by decide) hlocks hf dX5_having_149
            · replace hf := (if_neg (fun q => c_11 ((lg_cmp_le _ _).mpr q))).symm.trans hf
              refine lv_iconst (v := 1) hx hb dX5_having_144 (by decide) ?_
              refine lv_goto (tgt := 149) hx hb dX5_having_145 (by decide) ?_
              exact cx_zret C hx hb hr (by decide) hlocks hf dX5_having_149
          · replace hf := (if_pos c_10).symm.trans hf
            refine lv_lload hx hb dX5_having_120 (lv_at hl 1 rfl) ?_
            refine lv_lload hx hb dX5_having_122 (lv_at hl 0 rfl) ?_
            refine W.lcmp hx hb dX5_having_124 ?_
            refine lv_if_ne (tgt := 132) hx hb dX5_having_125 (by decide) (fun c_12 => ?_) (fun c_12 => ?_)
            · replace hf := (if_neg (fun q => c_12 ((lg_cmp_eq _ _).mpr q))).symm.trans hf
              refine lv_iconst (v := 0) hx hb dX5_having_132 (by decide) ?_
              refine lv_goto (tgt := 149) hx hb dX5_having_133 (by decide) ?_
              exact cx_zret C hx hb hr (by decide) hlocks hf dX5_having_149
            · replace hf := (if_pos ((lg_cmp_eq _ _).mp c_12)).symm.trans hf
              refine lv_iconst (v := 1) hx hb dX5_having_128 (by decide) ?_
              refine lv_goto (tgt := 149) hx hb dX5_having_129 (by decide) ?_
              exact cx_zret C hx hb hr (by decide) hlocks hf dX5_having_149
        · replace hf := (if_pos c_9).symm.trans hf
          refine lv_lload hx hb dX5_having_99 (lv_at hl 1 rfl) ?_
          refine lv_lload hx hb dX5_having_101 (lv_at hl 0 rfl) ?_
          refine W.lcmp hx hb dX5_having_103 ?_
          refine lv_if_ge (tgt := 111) hx hb dX5_having_104 (by decide) (fun c_13 => ?_) (fun c_13 => ?_)
          · replace hf := (if_pos ((lg_cmp_ge _ _).mp c_13)).symm.trans hf
            refine lv_iconst (v := 0) hx hb dX5_having_111 (by decide) ?_
            refine lv_goto (tgt := 149) hx hb dX5_having_112 (by decide) ?_
            exact cx_zret C hx hb hr (by decide) hlocks hf dX5_having_149
          · replace hf := (if_neg (fun q => c_13 ((lg_cmp_ge _ _).mpr q))).symm.trans hf
            refine lv_iconst (v := 1) hx hb dX5_having_107 (by decide) ?_
            refine lv_goto (tgt := 149) hx hb dX5_having_108 (by decide) ?_
            exact cx_zret C hx hb hr (by decide) hlocks hf dX5_having_149
      · replace hf := (if_neg c_4).symm.trans hf
        refine lv_iconst (v := 0) hx hb dX5_having_72 (by decide) ?_
        exact cx_zret C hx hb hr (by decide) hlocks hf dX5_having_73
  have hl := lv_entry ([.ref (ad 0), .int a1, .int a2, .long a3, .long a5]) (n := 11) (Nat.le_of_ble_eq_true rfl)
  rw [lg_entry_eq]
  generalize (lg_sl ([.ref (ad 0), .int a1, .int a2, .long a3, .long a5]) ++ List.replicate (11 - (lg_sl ([.ref (ad 0), .int a1, .int a2, .long a3, .long a5])).length) Slot.unset).toArray = ls at hl ⊢
  have hl : lv_has ls 11 [(0, .ref (ad 0)), (1, .int a1), (2, .int a2), (3, .long a3), (5, .long a5)] := hl
  unfold fX5_having at hf
  refine lv_aload_n hx hb dX5_having_0 rfl (lv_at hl 0 rfl) ?_
  refine lv_iload_n hx hb dX5_having_1 rfl (lv_at hl 1 rfl) ?_
  obtain ⟨r_2, u_3, h_1, hf⟩ := bnd_some hf
  refine cx_calli C (va_runV (As := [.int a1]) (rest := []) ⟨hx, hb, hml, hown, hts⟩ (k_X5_isGroup l ad ck D tt h_1 _) (cwV 1 hts gX5_having_X5_isGroup rfl rfl rfl (by decide +kernel) ⟨Nat.le_of_ble_eq_true rfl, Nat.le_of_ble_eq_true rfl⟩) (cx_preV C (q0 := 0) (ci := 5) rfl rfl) rfl rfl hl.1 rfl (lv_room (Nat.le_of_ble_eq_true rfl)) dX5_having_2 ⟨Nat.zero_le _, Nat.zero_le _⟩) (fun H locs C => ?_)
  refine lv_if_ne (tgt := 10) hx hb dX5_having_5 (by decide) (fun c_4 => ?_) (fun c_4 => ?_)
  · replace hf := (if_neg c_4).symm.trans hf
    refine lv_aload_n hx hb dX5_having_10 rfl (lv_at hl 0 rfl) ?_
    refine lv_iload_n hx hb dX5_having_11 rfl (lv_at hl 2 rfl) ?_
    refine lv_i2l hx hb dX5_having_12 rfl ?_
    refine lv_lconst (v := 0) hx hb dX5_having_13 (by decide) ?_
    refine lv_ldc2 (v := 2) hx hb hown (hts (.constantLong RX5 101 (2)) (by decide +kernel)) dX5_having_14 ?_
    obtain ⟨r_6, u_7, h_5, hf⟩ := bnd_some hf
    refine cx_calli C (va_runS (As := [.long (a2.toInt64), .long 0, .long 2]) (rest := [.ref (ad 0)]) ⟨hx, hb, hml, hown, hts⟩ (k_X5_within l ad ck D tt h_5 _) (va_cwS 3 hts gX5_having_X5_within rfl rfl rfl (by decide +kernel) ⟨Nat.le_of_ble_eq_true rfl, Nat.le_of_ble_eq_true rfl⟩) (cx_preS C) rfl rfl hl.1 rfl (lv_room (Nat.le_of_ble_eq_true rfl)) dX5_having_17 ⟨Nat.zero_le _, Nat.zero_le _⟩) (fun H locs C => ?_)
    refine lv_if_eq (tgt := 52) hx hb dX5_having_20 (by decide) (fun c_8 => ?_) (fun c_8 => ?_)
    · replace hf := (if_pos c_8).symm.trans hf
      refine lv_iconst (v := 2) hx hb dX5_having_52 (by decide) ?_
      exact J53 a1 a2 a3 a5 2 u_7 _ _ _ hf C (lv_sub hl [0, 1, 2, 3, 4] rfl)
    · replace hf := (if_neg c_8).symm.trans hf
      refine lv_lload_n hx hb dX5_having_23 rfl (lv_at hl 3 rfl) ?_
      refine lv_ldc2 (v := (-1000000000)) hx hb hown (hts (.constantLong RX5 197 (-1000000000)) (by decide +kernel)) dX5_having_24 ?_
      refine lv_ldc2 (v := 1000000000) hx hb hown (hts (.constantLong RX5 199 (1000000000)) (by decide +kernel)) dX5_having_27 ?_
      obtain ⟨r_10, u_11, h_9, hf⟩ := bnd_some hf
      refine cx_calli C (va_runS (As := [.long a3, .long (-1000000000), .long 1000000000]) (rest := [.ref (ad 0)]) ⟨hx, hb, hml, hown, hts⟩ (k_X5_within l ad ck D tt h_9 _) (va_cwS 3 hts gX5_having_X5_within rfl rfl rfl (by decide +kernel) ⟨Nat.le_of_ble_eq_true rfl, Nat.le_of_ble_eq_true rfl⟩) (cx_preS C) rfl rfl hl.1 rfl (lv_room (Nat.le_of_ble_eq_true rfl)) dX5_having_30 ⟨Nat.zero_le _, Nat.zero_le _⟩) (fun H locs C => ?_)
      refine lv_if_eq (tgt := 52) hx hb dX5_having_33 (by decide) (fun c_12 => ?_) (fun c_12 => ?_)
      · replace hf := (if_pos c_12).symm.trans hf
        refine lv_iconst (v := 2) hx hb dX5_having_52 (by decide) ?_
        exact J53 a1 a2 a3 a5 2 u_11 _ _ _ hf C (lv_sub hl [0, 1, 2, 3, 4] rfl)
      · replace hf := (if_neg c_12).symm.trans hf
        refine lv_lload hx hb dX5_having_36 (lv_at hl 4 rfl) ?_
        refine lv_lconst (v := 1) hx hb dX5_having_38 (by decide) ?_
        refine lv_ldc2 (v := 1000000) hx hb hown (hts (.constantLong RX5 78 (1000000)) (by decide +kernel)) dX5_having_39 ?_
        obtain ⟨r_14, u_15, h_13, hf⟩ := bnd_some hf
        refine cx_calli C (va_runS (As := [.long a5, .long 1, .long 1000000]) (rest := [.ref (ad 0)]) ⟨hx, hb, hml, hown, hts⟩ (k_X5_within l ad ck D tt h_13 _) (va_cwS 3 hts gX5_having_X5_within rfl rfl rfl (by decide +kernel) ⟨Nat.le_of_ble_eq_true rfl, Nat.le_of_ble_eq_true rfl⟩) (cx_preS C) rfl rfl hl.1 rfl (lv_room (Nat.le_of_ble_eq_true rfl)) dX5_having_42 ⟨Nat.zero_le _, Nat.zero_le _⟩) (fun H locs C => ?_)
        refine lv_if_eq (tgt := 52) hx hb dX5_having_45 (by decide) (fun c_16 => ?_) (fun c_16 => ?_)
        · replace hf := (if_pos c_16).symm.trans hf
          refine lv_iconst (v := 2) hx hb dX5_having_52 (by decide) ?_
          exact J53 a1 a2 a3 a5 2 u_15 _ _ _ hf C (lv_sub hl [0, 1, 2, 3, 4] rfl)
        · replace hf := (if_neg c_16).symm.trans hf
          refine lv_iconst (v := 0) hx hb dX5_having_48 (by decide) ?_
          refine lv_goto (tgt := 53) hx hb dX5_having_49 (by decide) ?_
          exact J53 a1 a2 a3 a5 0 u_15 _ _ _ hf C (lv_sub hl [0, 1, 2, 3, 4] rfl)
  · replace hf := (if_pos c_4).symm.trans hf
    refine lv_iconst (v := 0) hx hb dX5_having_8 (by decide) ?_
    exact cx_zret C hx hb hr (by decide) hlocks hf dX5_having_9
/-! ===== X5_told ===== -/
def fX5_told_18  (x1 : Int32) (y1 : Int32) (w : St) : Option (Int32 × St) := lt_ (sS w 0 y1) (fun u_1 => (if (u_1.1 0) ≤ 0 then (if x1 = 0 then some ((u_1.1 1), u_1) else (if x1 = 1 then some ((u_1.1 2), u_1) else some ((u_1.1 6), u_1))) else some (0, u_1)))
def fX5_told (u : St) (a1 : Int32) : Option (Int32 × St) := bnd (fX5_within u (a1.toInt64) 0 2) (fun r_2 u_3 => (if r_2 = 0 then fX5_told_18 a1 1 u_3 else fX5_told_18 a1 0 u_3))
abbrev rmX5_told : Room := { frames := 1, cells := 0, slots := 0, locals := 25 }
set_option maxHeartbeats 4000000 in
set_option maxRecDepth 100000 in
theorem k_X5_told (l : Launch) (ad : Nat → Nat) (ck : Nat → ClassId) (D : va_G) (tt : Nat) {u : St} {a1 : Int32} {r : Int32} {u' : St} (hf : fX5_told u a1 = some (r, u')) : MI l yX5_told wsX5_told rmX5_told (wM ad ck) ck D tt [.ref (ad 0), .int a1] u r u' := by
  intro sz
  refine Met.ofW (cc := cX5_told) (maxL := 2) (ret := (some .int)) (by decide) rfl ?_
  intro p e s m args below meth c s₁ B hml hv
  obtain ⟨rfl, hsz, C⟩ := cx_entry hv
  have hx := B.exec
  have hb := B.bytes
  have hr := B.returns
  have hts := atoms_spec (ws := wsX5_told) B.pre
  have hown : s.vm.findClass RX5 = some m.cls := findClass_of_methodNamed B.named
  have hlocks := B.notSynchronized
  have J18 : ∀ (x1 : Int32) (y1 : Int32) (w : St) (H : Heap) (locs : List Loc) (ls : Array Slot), fX5_told_18 x1 y1 w = some (r, u') → CX (wM ad ck) ck D tt (va_A (wM ad ck u) sz) s w H locs → lv_has ls 2 [(0, .ref (ad 0)), (1, .int x1)] → W p l e (headSpec wsX5_told rmX5_told).room s m ([.ref (ad 0), .int a1] : List Value).toArray below meth c H locs 0 0 (MQ below (QI (wM ad ck) D u sz r u') ([.ref (ad 0), .int a1] : List Value).toArray s 0 0 (va_A (wM ad ck u) sz)) (F0 m 18 ls [.int y1, .ref (ad 0)]) := by
    intro x1 y1 w H locs ls hf C hl
    unfold fX5_told_18 at hf
    refine cx_puti C hx hb (T := TX5) (N := 28) hts (by decide +kernel) tyX5 tyX5_ok nmX5 hown 0 rfl rfl 0 (by decide) (hts (.fieldLink RX5 72 "AggregateRowsModel" "fault" "I") (by decide +kernel)) (fun _ h9 => h9) rfl (by decide +kernel) (Nat.le_of_ble_eq_true rfl) (u1 := sS w 0 y1) rfl dX5_told_18 (fun u_1 H locs eu_1 C => ?_)
    replace hf := lt_at hf eu_1
    refine lv_aload_n hx hb dX5_told_21 rfl (lv_at hl 0 rfl) ?_
    refine cx_get C hx hb (T := TX5) (N := 28) hts (by decide +kernel) hown 0 rfl rfl 0 (by decide) (hts (.fieldLink RX5 72 "AggregateRowsModel" "fault" "I") (by decide +kernel)) (fun _ h9 => h9) (v := .int (u_1.1 0)) rfl dX5_told_22 ?_
    refine lv_if_le (tgt := 32) hx hb dX5_told_25 (by decide) (fun c_2 => ?_) (fun c_2 => ?_)
    · replace hf := (if_pos c_2).symm.trans hf
      refine lv_iload_n hx hb dX5_told_32 rfl (lv_at hl 1 rfl) ?_
      refine lv_if_ne (tgt := 43) hx hb dX5_told_33 (by decide) (fun c_3 => ?_) (fun c_3 => ?_)
      · replace hf := (if_neg c_3).symm.trans hf
        refine lv_iload_n hx hb dX5_told_43 rfl (lv_at hl 1 rfl) ?_
        refine lv_iconst (v := 1) hx hb dX5_told_44 (by decide) ?_
        refine lv_icmp_ne (tgt := 55) hx hb dX5_told_45 (by decide) (fun c_4 => ?_) (fun c_4 => ?_)
        · replace hf := (if_neg c_4).symm.trans hf
          refine lv_aload_n hx hb dX5_told_55 rfl (lv_at hl 0 rfl) ?_
          refine cx_get C hx hb (T := TX5) (N := 28) hts (by decide +kernel) hown 0 rfl rfl 14 (by decide) (hts (.fieldLink RX5 127 "AggregateRowsModel" "groups" "I") (by decide +kernel)) (fun _ h9 => h9) (v := .int (u_1.1 6)) rfl dX5_told_56 ?_
          exact cx_iret C hx hb hr hlocks hf dX5_told_59
        · replace hf := (if_pos c_4).symm.trans hf
          refine lv_aload_n hx hb dX5_told_48 rfl (lv_at hl 0 rfl) ?_
          refine cx_get C hx hb (T := TX5) (N := 28) hts (by decide +kernel) hown 0 rfl rfl 7 (by decide) (hts (.fieldLink RX5 107 "AggregateRowsModel" "all" "I") (by decide +kernel)) (fun _ h9 => h9) (v := .int (u_1.1 2)) rfl dX5_told_49 ?_
          refine lv_goto (tgt := 59) hx hb dX5_told_52 (by decide) ?_
          exact cx_iret C hx hb hr hlocks hf dX5_told_59
      · replace hf := (if_pos c_3).symm.trans hf
        refine lv_aload_n hx hb dX5_told_36 rfl (lv_at hl 0 rfl) ?_
        refine cx_get C hx hb (T := TX5) (N := 28) hts (by decide +kernel) hown 0 rfl rfl 1 (by decide) (hts (.fieldLink RX5 86 "AggregateRowsModel" "terms" "I") (by decide +kernel)) (fun _ h9 => h9) (v := .int (u_1.1 1)) rfl dX5_told_37 ?_
        refine lv_goto (tgt := 59) hx hb dX5_told_40 (by decide) ?_
        exact cx_iret C hx hb hr hlocks hf dX5_told_59
    · replace hf := (if_neg c_2).symm.trans hf
      refine lv_iconst (v := 0) hx hb dX5_told_28 (by decide) ?_
      refine lv_goto (tgt := 59) hx hb dX5_told_29 (by decide) ?_
      exact cx_iret C hx hb hr hlocks hf dX5_told_59
  have hl := lv_entry ([.ref (ad 0), .int a1]) (n := 2) (Nat.le_of_ble_eq_true rfl)
  rw [lg_entry_eq]
  generalize (lg_sl ([.ref (ad 0), .int a1]) ++ List.replicate (2 - (lg_sl ([.ref (ad 0), .int a1])).length) Slot.unset).toArray = ls at hl ⊢
  have hl : lv_has ls 2 [(0, .ref (ad 0)), (1, .int a1)] := hl
  unfold fX5_told at hf
  refine lv_aload_n hx hb dX5_told_0 rfl (lv_at hl 0 rfl) ?_
  refine lv_iload_n hx hb dX5_told_1 rfl (lv_at hl 1 rfl) ?_
  refine lv_i2l hx hb dX5_told_2 rfl ?_
  refine lv_lconst (v := 0) hx hb dX5_told_3 (by decide) ?_
  refine lv_ldc2 (v := 2) hx hb hown (hts (.constantLong RX5 101 (2)) (by decide +kernel)) dX5_told_4 ?_
  obtain ⟨r_2, u_3, h_1, hf⟩ := bnd_some hf
  refine cx_calli C (va_runS (As := [.long (a1.toInt64), .long 0, .long 2]) (rest := [.ref (ad 0)]) ⟨hx, hb, hml, hown, hts⟩ (k_X5_within l ad ck D tt h_1 _) (va_cwS 3 hts gX5_told_X5_within rfl rfl rfl (by decide +kernel) ⟨Nat.le_of_ble_eq_true rfl, Nat.le_of_ble_eq_true rfl⟩) (cx_preS C) rfl rfl hl.1 rfl (lv_room (Nat.le_of_ble_eq_true rfl)) dX5_told_7 ⟨Nat.zero_le _, Nat.zero_le _⟩) (fun H locs C => ?_)
  refine lv_if_eq (tgt := 17) hx hb dX5_told_10 (by decide) (fun c_4 => ?_) (fun c_4 => ?_)
  · replace hf := (if_pos c_4).symm.trans hf
    refine lv_iconst (v := 1) hx hb dX5_told_17 (by decide) ?_
    exact J18 a1 1 u_3 _ _ _ hf C (lv_sub hl [0, 1] rfl)
  · replace hf := (if_neg c_4).symm.trans hf
    refine lv_iconst (v := 0) hx hb dX5_told_13 (by decide) ?_
    refine lv_goto (tgt := 18) hx hb dX5_told_14 (by decide) ?_
    exact J18 a1 0 u_3 _ _ _ hf C (lv_sub hl [0, 1] rfl)
