/-! ===== X2_writeLetters ===== -/
def fX2_writeLetters_3  : Nat → Int64 → Int32 → St → Option (Unit × St)
  | 0, _, _, _ => none
  | n3 + 1, x0, x3, w => (if x3 < 0 then some ((), w) else lt_ ((lushr_ x0 x3) &&& 255) (fun x4_2 => (if x4_2 = 0 then lt_ (x3 + (-8)) (fun x3_4 => fX2_writeLetters_3 n3 x0 x3_4 w) else bnd (fX0_put w (i2c_ (x4_2.toInt32))) (fun _ u_7 => lt_ (x3 + (-8)) (fun x3_8 => fX2_writeLetters_3 n3 x0 x3_8 u_7)))))
def fX2_writeLetters (u : St) (a0 : Int64) : Option (Unit × St) := fX2_writeLetters_3 FU a0 56 u
abbrev rmX2_writeLetters : Room := { frames := 1, cells := 0, slots := 0, locals := 21 }
set_option maxHeartbeats 4000000 in
set_option maxRecDepth 100000 in
theorem k_X2_writeLetters (l : Launch) (ad : Nat → Nat) (ck : Nat → ClassId) (D : va_G) (tt : Nat) {u : St} {a0 : Int64} {u' : St} (hf : fX2_writeLetters u a0 = some ((), u')) : MV l yX2_writeLetters wsX2_writeLetters rmX2_writeLetters (wA ad ck) ck D tt [.long a0, .ref (ad 9)] u u' := by
  intro sz
  refine Met.ofW (cc := cX2_writeLetters) (maxL := 6) (ret := none) (by decide) rfl ?_
  intro p e s m args below meth c s₁ B hml hv
  obtain ⟨rfl, hsz, C⟩ := cx_entry hv
  have hx := B.exec
  have hb := B.bytes
  have hr := B.returns
  have hts := atoms_spec (ws := wsX2_writeLetters) B.pre
  have hown : s.vm.findClass RX2 = some m.cls := findClass_of_methodNamed B.named
  have hlocks := B.notSynchronized
  have J3 : ∀ (n3 : Nat) (x0 : Int64) (x3 : Int32) (w : St) (H : Heap) (locs : List Loc) (ls : Array Slot), fX2_writeLetters_3 n3 x0 x3 w = some ((), u') → CX (wA ad ck) ck D tt (va_A (wA ad ck u) sz) s w H locs → lv_has ls 6 [(0, .long x0), (2, .ref (ad 9)), (3, .int x3)] → W p l e (headSpec wsX2_writeLetters rmX2_writeLetters).room s m ([.long a0, .ref (ad 9)] : List Value).toArray below meth c H locs 0 0 (MQ below (QV (wA ad ck) D u sz u') ([.long a0, .ref (ad 9)] : List Value).toArray s 0 0 (va_A (wA ad ck u) sz)) (F0 m 3 ls []) := by
    intro n3
    induction n3 with
    | zero =>
      intro x0 x3 w H locs ls hf
      have hf : (none : Option (Unit × St)) = some ((), u') := hf
      cases hf
    | succ n3 ih3 =>
      intro x0 x3 w H locs ls hf C hl
      rw [fX2_writeLetters_3] at hf
      refine lv_iload_n hx hb dX2_writeLetters_3 rfl (lv_at hl 2 rfl) ?_
      refine lv_if_lt (tgt := 37) hx hb dX2_writeLetters_4 (by decide) (fun c_1 => ?_) (fun c_1 => ?_)
      · replace hf := (if_pos c_1).symm.trans hf
        exact cx_vret C hx hb hr hlocks hf dX2_writeLetters_37
      · replace hf := (if_neg c_1).symm.trans hf
        refine lv_lload_n hx hb dX2_writeLetters_7 rfl (lv_at hl 0 rfl) ?_
        refine lv_iload_n hx hb dX2_writeLetters_8 rfl (lv_at hl 2 rfl) ?_
        refine lv_lushr (v := (lushr_ x0 x3)) hx hb dX2_writeLetters_9 rfl ?_
        refine lv_ldc2 (v := 255) hx hb hown (hts (.constantLong RX2 26 (255)) (by decide +kernel)) dX2_writeLetters_10 ?_
        refine lv_land hx hb dX2_writeLetters_13 ?_
        refine lv_topl (fun x4_2 ex4_2 => ?_)
        replace hf := lt_at hf ex4_2
        refine lv_lstore (lv' := [(4, .long x4_2), (0, .long x0), (2, .ref (ad 9)), (3, .int x3)]) hx hb dX2_writeLetters_14 hl (by decide) rfl (fun ls hl => ?_)
        refine lv_lload hx hb dX2_writeLetters_16 (lv_at hl 0 rfl) ?_
        refine lv_lconst (v := 0) hx hb dX2_writeLetters_18 (by decide) ?_
        refine W.lcmp hx hb dX2_writeLetters_19 ?_
        refine lv_if_eq (tgt := 31) hx hb dX2_writeLetters_20 (by decide) (fun c_3 => ?_) (fun c_3 => ?_)
        · replace hf := (if_pos ((lg_cmp_eq _ _).mp c_3)).symm.trans hf
          obtain ⟨x3_4, ex3_4⟩ : ∃ y : Int32, y = x3 + (-8) := ⟨_, rfl⟩
          replace hf := lt_at hf ex3_4
          refine lv_iinc (v := x3_4) (lv' := [(3, .int x3_4), (4, .long x4_2), (0, .long x0), (2, .ref (ad 9))]) hx hb dX2_writeLetters_31 hl (k := 3) rfl (by rw [ex3_4]; rfl) (by decide) rfl (fun ls hl => ?_)
          refine lv_goto (tgt := 3) hx hb dX2_writeLetters_34 (by decide) ?_
          exact ih3 x0 x3_4 w _ _ _ hf C (lv_sub hl [2, 3, 0] rfl)
        · replace hf := (if_neg (fun q => c_3 ((lg_cmp_eq _ _).mpr q))).symm.trans hf
          refine lv_aload_n hx hb dX2_writeLetters_23 rfl (lv_at hl 2 rfl) ?_
          refine lv_lload hx hb dX2_writeLetters_24 (lv_at hl 0 rfl) ?_
          refine lv_l2i hx hb dX2_writeLetters_26 rfl ?_
          refine lv_i2c (v := i2c_ (x4_2.toInt32)) hx hb dX2_writeLetters_27 rfl ?_
          obtain ⟨_, u_7, h_5, hf⟩ := bnd_some hf
          refine cx_callv C (va_runV (As := [.int (i2c_ (x4_2.toInt32))]) (rest := []) ⟨hx, hb, hml, hown, hts⟩ (k_X0_put l ad ck D tt h_5 _) (cwV 1 hts gX2_writeLetters_X0_put rfl rfl rfl (by decide +kernel) ⟨Nat.le_of_ble_eq_true rfl, Nat.le_of_ble_eq_true rfl⟩) (cx_preV C (q0 := 9) (ci := 0) rfl rfl) rfl rfl hl.1 rfl (lv_room (Nat.le_of_ble_eq_true rfl)) dX2_writeLetters_28 ⟨Nat.zero_le _, Nat.zero_le _⟩) (fun H locs C => ?_)
          obtain ⟨x3_8, ex3_8⟩ : ∃ y : Int32, y = x3 + (-8) := ⟨_, rfl⟩
          replace hf := lt_at hf ex3_8
          refine lv_iinc (v := x3_8) (lv' := [(3, .int x3_8), (4, .long x4_2), (0, .long x0), (2, .ref (ad 9))]) hx hb dX2_writeLetters_31 hl (k := 3) rfl (by rw [ex3_8]; rfl) (by decide) rfl (fun ls hl => ?_)
          refine lv_goto (tgt := 3) hx hb dX2_writeLetters_34 (by decide) ?_
          exact ih3 x0 x3_8 u_7 _ _ _ hf C (lv_sub hl [2, 3, 0] rfl)
  have hl := lv_entry ([.long a0, .ref (ad 9)]) (n := 6) (Nat.le_of_ble_eq_true rfl)
  rw [lg_entry_eq]
  generalize (lg_sl ([.long a0, .ref (ad 9)]) ++ List.replicate (6 - (lg_sl ([.long a0, .ref (ad 9)])).length) Slot.unset).toArray = ls at hl ⊢
  have hl : lv_has ls 6 [(0, .long a0), (2, .ref (ad 9))] := hl
  unfold fX2_writeLetters at hf
  refine lv_bipush (v := 56) hx hb dX2_writeLetters_0 (by decide) ?_
  refine lv_istore_n (lv' := [(3, .int 56), (0, .long a0), (2, .ref (ad 9))]) hx hb dX2_writeLetters_2 rfl hl (by decide) rfl (fun ls hl => ?_)
  exact J3 FU a0 56 u _ _ _ hf C (lv_sub hl [1, 2, 0] rfl)
/-! ===== X2_writeNumber ===== -/
def fX2_writeNumber_82 (k26 : Int32 → Int32 → Int32 → Int32 → St → Option (Unit × St)) (x1 : Int32) (x3 : Int32) (x4 : Int32) (x5 : Int32) (w : St) : Option (Unit × St) := (if x5 = x1 then (if x1 ≤ 0 then lt_ (x5 + (-1)) (fun x5_4 => k26 x1 x3 x4 x5_4 w) else bnd (fX0_put w 46) (fun _ u_7 => lt_ (x5 + (-1)) (fun x5_8 => k26 x1 x3 x4 x5_8 u_7))) else lt_ (x5 + (-1)) (fun x5_2 => k26 x1 x3 x4 x5_2 w))
def fX2_writeNumber_65 (k26 : Int32 → Int32 → Int32 → Int32 → St → Option (Unit × St)) (x1 : Int32) (x3 : Int32) (x5 : Int32) (x6 : Int32) (y0 : Int32) (w : St) : Option (Unit × St) := (if y0 = 0 then fX2_writeNumber_82 (k26) x1 x3 y0 x5 w else bnd (fX0_put w (i2c_ (48 + x6))) (fun _ u_4 => fX2_writeNumber_82 (k26) x1 x3 y0 x5 u_4))
def fX2_writeNumber_26  : Nat → Int32 → Int32 → Int32 → Int32 → St → Option (Unit × St)
  | 0, _, _, _, _, _ => none
  | n26 + 1, x1, x3, x4, x5, w => (if x5 < 0 then some ((), w) else gd (okI x5 7) (gd (decide (¬ (tens x5.toNatClampNeg) = 0)) (lt_ ((x3 / (tens x5.toNatClampNeg)) - (x3 / (tens x5.toNatClampNeg)) / 10 * 10) (fun x6_4 => (if x4 = 0 then (if x6_4 = 0 then (if x5 = x1 then fX2_writeNumber_65 (fX2_writeNumber_26 n26) x1 x3 x5 x6_4 1 w else fX2_writeNumber_65 (fX2_writeNumber_26 n26) x1 x3 x5 x6_4 0 w) else fX2_writeNumber_65 (fX2_writeNumber_26 n26) x1 x3 x5 x6_4 1 w) else fX2_writeNumber_65 (fX2_writeNumber_26 n26) x1 x3 x5 x6_4 1 w)))))
def fX2_writeNumber_10  (x0 : Int32) (x1 : Int32) (w : St) : Option (Unit × St) := lt_ (if 0 ≤ x0 then x0 else 0 - x0) (fun z_1 => lt_ (7 - 1) (fun x5_2 => fX2_writeNumber_26 FU x1 z_1 0 x5_2 w))
def fX2_writeNumber (u : St) (a0 : Int32) (a1 : Int32) : Option (Unit × St) := (if 0 ≤ a0 then fX2_writeNumber_10 a0 a1 u else bnd (fX0_put u 45) (fun _ u_4 => fX2_writeNumber_10 a0 a1 u_4))
abbrev rmX2_writeNumber : Room := { frames := 1, cells := 0, slots := 0, locals := 23 }
set_option maxHeartbeats 4000000 in
set_option maxRecDepth 100000 in
theorem k_X2_writeNumber (l : Launch) (ad : Nat → Nat) (ck : Nat → ClassId) (D : va_G) (tt : Nat) {u : St} {a0 : Int32} {a1 : Int32} {u' : St} (hf : fX2_writeNumber u a0 a1 = some ((), u')) : MV l yX2_writeNumber wsX2_writeNumber rmX2_writeNumber (wA ad ck) ck D tt [.int a0, .int a1, .ref (ad 9)] u u' := by
  intro sz
  refine Met.ofW (cc := cX2_writeNumber) (maxL := 7) (ret := none) (by decide) rfl ?_
  intro p e s m args below meth c s₁ B hml hv
  obtain ⟨rfl, hsz, C⟩ := cx_entry hv
  have hx := B.exec
  have hb := B.bytes
  have hr := B.returns
  have hts := atoms_spec (ws := wsX2_writeNumber) B.pre
  have hown : s.vm.findClass RX2 = some m.cls := findClass_of_methodNamed B.named
  have hlocks := B.notSynchronized
  have J26 : ∀ (n26 : Nat) (x1 : Int32) (x3 : Int32) (x4 : Int32) (x5 : Int32) (w : St) (H : Heap) (locs : List Loc) (ls : Array Slot), fX2_writeNumber_26 n26 x1 x3 x4 x5 w = some ((), u') → CX (wA ad ck) ck D tt (va_A (wA ad ck u) sz) s w H locs → lv_has ls 7 [(1, .int x1), (2, .ref (ad 9)), (3, .int x3), (4, .int x4), (5, .int x5)] → W p l e (headSpec wsX2_writeNumber rmX2_writeNumber).room s m ([.int a0, .int a1, .ref (ad 9)] : List Value).toArray below meth c H locs 0 0 (MQ below (QV (wA ad ck) D u sz u') ([.int a0, .int a1, .ref (ad 9)] : List Value).toArray s 0 0 (va_A (wA ad ck u) sz)) (F0 m 26 ls []) := by
    intro n26
    induction n26 with
    | zero =>
      intro x1 x3 x4 x5 w H locs ls hf
      have hf : (none : Option (Unit × St)) = some ((), u') := hf
      cases hf
    | succ n26 ih26 =>
      intro x1 x3 x4 x5 w H locs ls hf C hl
      rw [fX2_writeNumber_26] at hf
      have J82 : ∀ (x1 : Int32) (x3 : Int32) (x4 : Int32) (x5 : Int32) (w : St) (H : Heap) (locs : List Loc) (ls : Array Slot), fX2_writeNumber_82 (fX2_writeNumber_26 n26) x1 x3 x4 x5 w = some ((), u') → CX (wA ad ck) ck D tt (va_A (wA ad ck u) sz) s w H locs → lv_has ls 7 [(1, .int x1), (2, .ref (ad 9)), (3, .int x3), (4, .int x4), (5, .int x5)] → W p l e (headSpec wsX2_writeNumber rmX2_writeNumber).room s m ([.int a0, .int a1, .ref (ad 9)] : List Value).toArray below meth c H locs 0 0 (MQ below (QV (wA ad ck) D u sz u') ([.int a0, .int a1, .ref (ad 9)] : List Value).toArray s 0 0 (va_A (wA ad ck u) sz)) (F0 m 82 ls []) := by
        intro x1 x3 x4 x5 w H locs ls hf C hl
        unfold fX2_writeNumber_82 at hf
        refine lv_iload hx hb dX2_writeNumber_82 (lv_at hl 4 rfl) ?_
        refine lv_iload_n hx hb dX2_writeNumber_84 rfl (lv_at hl 0 rfl) ?_
        refine lv_icmp_ne (tgt := 98) hx hb dX2_writeNumber_85 (by decide) (fun c_1 => ?_) (fun c_1 => ?_)
        · replace hf := (if_neg c_1).symm.trans hf
          obtain ⟨x5_2, ex5_2⟩ : ∃ y : Int32, y = x5 + (-1) := ⟨_, rfl⟩
          replace hf := lt_at hf ex5_2
          refine lv_iinc (v := x5_2) (lv' := [(5, .int x5_2), (1, .int x1), (2, .ref (ad 9)), (3, .int x3), (4, .int x4)]) hx hb dX2_writeNumber_98 hl (k := 4) rfl (by rw [ex5_2]; rfl) (by decide) rfl (fun ls hl => ?_)
          refine lv_goto (tgt := 26) hx hb dX2_writeNumber_101 (by decide) ?_
          exact ih26 x1 x3 x4 x5_2 w _ _ _ hf C (lv_sub hl [1, 2, 3, 4, 0] rfl)
        · replace hf := (if_pos c_1).symm.trans hf
          refine lv_iload_n hx hb dX2_writeNumber_88 rfl (lv_at hl 0 rfl) ?_
          refine lv_if_le (tgt := 98) hx hb dX2_writeNumber_89 (by decide) (fun c_3 => ?_) (fun c_3 => ?_)
          · replace hf := (if_pos c_3).symm.trans hf
            obtain ⟨x5_4, ex5_4⟩ : ∃ y : Int32, y = x5 + (-1) := ⟨_, rfl⟩
            replace hf := lt_at hf ex5_4
            refine lv_iinc (v := x5_4) (lv' := [(5, .int x5_4), (1, .int x1), (2, .ref (ad 9)), (3, .int x3), (4, .int x4)]) hx hb dX2_writeNumber_98 hl (k := 4) rfl (by rw [ex5_4]; rfl) (by decide) rfl (fun ls hl => ?_)
            refine lv_goto (tgt := 26) hx hb dX2_writeNumber_101 (by decide) ?_
            exact ih26 x1 x3 x4 x5_4 w _ _ _ hf C (lv_sub hl [1, 2, 3, 4, 0] rfl)
          · replace hf := (if_neg c_3).symm.trans hf
            refine lv_aload_n hx hb dX2_writeNumber_92 rfl (lv_at hl 1 rfl) ?_
            refine lv_bipush (v := 46) hx hb dX2_writeNumber_93 (by decide) ?_
            obtain ⟨_, u_7, h_5, hf⟩ := bnd_some hf
            refine cx_callv C (va_runV (As := [.int 46]) (rest := []) ⟨hx, hb, hml, hown, hts⟩ (k_X0_put l ad ck D tt h_5 _) (cwV 1 hts gX2_writeNumber_X0_put rfl rfl rfl (by decide +kernel) ⟨Nat.le_of_ble_eq_true rfl, Nat.le_of_ble_eq_true rfl⟩) (cx_preV C (q0 := 9) (ci := 0) rfl rfl) rfl rfl hl.1 rfl (lv_room (Nat.le_of_ble_eq_true rfl)) dX2_writeNumber_95 ⟨Nat.zero_le _, Nat.zero_le _⟩) (fun H locs C => ?_)
            obtain ⟨x5_8, ex5_8⟩ : ∃ y : Int32, y = x5 + (-1) := ⟨_, rfl⟩
            replace hf := lt_at hf ex5_8
            refine lv_iinc (v := x5_8) (lv' := [(5, .int x5_8), (1, .int x1), (2, .ref (ad 9)), (3, .int x3), (4, .int x4)]) hx hb dX2_writeNumber_98 hl (k := 4) rfl (by rw [ex5_8]; rfl) (by decide) rfl (fun ls hl => ?_)
            refine lv_goto (tgt := 26) hx hb dX2_writeNumber_101 (by decide) ?_
            exact ih26 x1 x3 x4 x5_8 u_7 _ _ _ hf C (lv_sub hl [1, 2, 3, 4, 0] rfl)
      have J65 : ∀ (x1 : Int32) (x3 : Int32) (x5 : Int32) (x6 : Int32) (y0 : Int32) (w : St) (H : Heap) (locs : List Loc) (ls : Array Slot), fX2_writeNumber_65 (fX2_writeNumber_26 n26) x1 x3 x5 x6 y0 w = some ((), u') → CX (wA ad ck) ck D tt (va_A (wA ad ck u) sz) s w H locs → lv_has ls 7 [(1, .int x1), (2, .ref (ad 9)), (3, .int x3), (5, .int x5), (6, .int x6)] → W p l e (headSpec wsX2_writeNumber rmX2_writeNumber).room s m ([.int a0, .int a1, .ref (ad 9)] : List Value).toArray below meth c H locs 0 0 (MQ below (QV (wA ad ck) D u sz u') ([.int a0, .int a1, .ref (ad 9)] : List Value).toArray s 0 0 (va_A (wA ad ck u) sz)) (F0 m 65 ls [.int y0]) := by
        intro x1 x3 x5 x6 y0 w H locs ls hf C hl
        unfold fX2_writeNumber_65 at hf
        refine lv_istore (lv' := [(4, .int y0), (1, .int x1), (2, .ref (ad 9)), (3, .int x3), (5, .int x5), (6, .int x6)]) hx hb dX2_writeNumber_65 hl (by decide) rfl (fun ls hl => ?_)
        refine lv_iload hx hb dX2_writeNumber_67 (lv_at hl 0 rfl) ?_
        refine lv_if_eq (tgt := 82) hx hb dX2_writeNumber_69 (by decide) (fun c_1 => ?_) (fun c_1 => ?_)
        · replace hf := (if_pos c_1).symm.trans hf
          exact J82 x1 x3 y0 x5 w _ _ _ hf C (lv_sub hl [1, 2, 3, 0, 4] rfl)
        · replace hf := (if_neg c_1).symm.trans hf
          refine lv_aload_n hx hb dX2_writeNumber_72 rfl (lv_at hl 2 rfl) ?_
          refine lv_bipush (v := 48) hx hb dX2_writeNumber_73 (by decide) ?_
          refine lv_iload hx hb dX2_writeNumber_75 (lv_at hl 5 rfl) ?_
          refine lv_iadd hx hb dX2_writeNumber_77 ?_
          refine lv_i2c (v := i2c_ (48 + x6)) hx hb dX2_writeNumber_78 rfl ?_
          obtain ⟨_, u_4, h_2, hf⟩ := bnd_some hf
          refine cx_callv C (va_runV (As := [.int (i2c_ (48 + x6))]) (rest := []) ⟨hx, hb, hml, hown, hts⟩ (k_X0_put l ad ck D tt h_2 _) (cwV 1 hts gX2_writeNumber_X0_put rfl rfl rfl (by decide +kernel) ⟨Nat.le_of_ble_eq_true rfl, Nat.le_of_ble_eq_true rfl⟩) (cx_preV C (q0 := 9) (ci := 0) rfl rfl) rfl rfl hl.1 rfl (lv_room (Nat.le_of_ble_eq_true rfl)) dX2_writeNumber_79 ⟨Nat.zero_le _, Nat.zero_le _⟩) (fun H locs C => ?_)
          exact J82 x1 x3 y0 x5 u_4 _ _ _ hf C (lv_sub hl [1, 2, 3, 0, 4] rfl)
      refine lv_iload hx hb dX2_writeNumber_26 (lv_at hl 4 rfl) ?_
      refine lv_if_lt (tgt := 104) hx hb dX2_writeNumber_28 (by decide) (fun c_5 => ?_) (fun c_5 => ?_)
      · replace hf := (if_pos c_5).symm.trans hf
        exact cx_vret C hx hb hr hlocks hf dX2_writeNumber_104
      · replace hf := (if_neg c_5).symm.trans hf
        refine lv_iload_n hx hb dX2_writeNumber_31 rfl (lv_at hl 2 rfl) ?_
        refine cx_tens C hx hb hown (hts (.fieldLink RX2 32 "AggregateRows$Terms" "TENS" "[I") (by decide +kernel)) dX2_writeNumber_32 ?_
        refine lv_iload hx hb dX2_writeNumber_35 (lv_at hl 4 rfl) ?_
        obtain ⟨g_6, hf⟩ := gd_some hf
        refine cx_tald C hx hb g_6 dX2_writeNumber_37 ?_
        obtain ⟨g_7, hf⟩ := gd_some hf
        refine lv_idiv hx hb dX2_writeNumber_38 (of_decide_eq_true g_7) ?_
        refine lv_bipush (v := 10) hx hb dX2_writeNumber_39 (by decide) ?_
        refine lv_irem hx hb dX2_writeNumber_41 (by decide) ?_
        refine lv_topi (fun x6_8 ex6_8 => ?_)
        replace hf := lt_at hf ex6_8
        refine lv_istore (lv' := [(6, .int x6_8), (1, .int x1), (2, .ref (ad 9)), (3, .int x3), (4, .int x4), (5, .int x5)]) hx hb dX2_writeNumber_42 hl (by decide) rfl (fun ls hl => ?_)
        refine lv_iload hx hb dX2_writeNumber_44 (lv_at hl 4 rfl) ?_
        refine lv_if_ne (tgt := 60) hx hb dX2_writeNumber_46 (by decide) (fun c_9 => ?_) (fun c_9 => ?_)
        · replace hf := (if_neg c_9).symm.trans hf
          refine lv_iconst (v := 1) hx hb dX2_writeNumber_60 (by decide) ?_
          refine lv_goto (tgt := 65) hx hb dX2_writeNumber_61 (by decide) ?_
          exact J65 x1 x3 x5 x6_8 1 w _ _ _ hf C (lv_sub hl [1, 2, 3, 5, 0] rfl)
        · replace hf := (if_pos c_9).symm.trans hf
          refine lv_iload hx hb dX2_writeNumber_49 (lv_at hl 0 rfl) ?_
          refine lv_if_ne (tgt := 60) hx hb dX2_writeNumber_51 (by decide) (fun c_10 => ?_) (fun c_10 => ?_)
          · replace hf := (if_neg c_10).symm.trans hf
            refine lv_iconst (v := 1) hx hb dX2_writeNumber_60 (by decide) ?_
            refine lv_goto (tgt := 65) hx hb dX2_writeNumber_61 (by decide) ?_
            exact J65 x1 x3 x5 x6_8 1 w _ _ _ hf C (lv_sub hl [1, 2, 3, 5, 0] rfl)
          · replace hf := (if_pos c_10).symm.trans hf
            refine lv_iload hx hb dX2_writeNumber_54 (lv_at hl 5 rfl) ?_
            refine lv_iload_n hx hb dX2_writeNumber_56 rfl (lv_at hl 1 rfl) ?_
            refine lv_icmp_ne (tgt := 64) hx hb dX2_writeNumber_57 (by decide) (fun c_11 => ?_) (fun c_11 => ?_)
            · replace hf := (if_neg c_11).symm.trans hf
              refine lv_iconst (v := 0) hx hb dX2_writeNumber_64 (by decide) ?_
              exact J65 x1 x3 x5 x6_8 0 w _ _ _ hf C (lv_sub hl [1, 2, 3, 5, 0] rfl)
            · replace hf := (if_pos c_11).symm.trans hf
              refine lv_iconst (v := 1) hx hb dX2_writeNumber_60 (by decide) ?_
              refine lv_goto (tgt := 65) hx hb dX2_writeNumber_61 (by decide) ?_
              exact J65 x1 x3 x5 x6_8 1 w _ _ _ hf C (lv_sub hl [1, 2, 3, 5, 0] rfl)
  have J10 : ∀ (x0 : Int32) (x1 : Int32) (w : St) (H : Heap) (locs : List Loc) (ls : Array Slot), fX2_writeNumber_10 x0 x1 w = some ((), u') → CX (wA ad ck) ck D tt (va_A (wA ad ck u) sz) s w H locs → lv_has ls 7 [(0, .int x0), (1, .int x1), (2, .ref (ad 9))] → W p l e (headSpec wsX2_writeNumber rmX2_writeNumber).room s m ([.int a0, .int a1, .ref (ad 9)] : List Value).toArray below meth c H locs 0 0 (MQ below (QV (wA ad ck) D u sz u') ([.int a0, .int a1, .ref (ad 9)] : List Value).toArray s 0 0 (va_A (wA ad ck u) sz)) (F0 m 10 ls []) := by
    intro x0 x1 w H locs ls hf C hl
    unfold fX2_writeNumber_10 at hf
    refine lv_iload_n hx hb dX2_writeNumber_10 rfl (lv_at hl 0 rfl) ?_
    refine va_mabs hx hb (hml.trans hl.1.symm) hown (hts (.methodLink RX2 63 Lib.Math.abs.name) (by decide +kernel)) (hts (.static Lib.Math.abs.name) (by decide +kernel)) (hts (.initialized "java/lang/Math") (by decide +kernel)) (hts (.code Lib.Math.abs.name Lib.Math.abs.code 1 (some .int)) (by decide +kernel)) (Nat.le_of_ble_eq_true rfl) (Nat.le_of_ble_eq_true rfl) (Nat.zero_le _) (Nat.zero_le _) dX2_writeNumber_11 ?_
    refine lv_topi (fun z_1 ez_1 => ?_)
    replace hf := lt_at hf ez_1
    refine lv_istore_n (lv' := [(3, .int z_1), (0, .int x0), (1, .int x1), (2, .ref (ad 9))]) hx hb dX2_writeNumber_14 rfl hl (by decide) rfl (fun ls hl => ?_)
    refine lv_iconst (v := 0) hx hb dX2_writeNumber_15 (by decide) ?_
    refine lv_istore (lv' := [(4, .int 0), (3, .int z_1), (0, .int x0), (1, .int x1), (2, .ref (ad 9))]) hx hb dX2_writeNumber_16 hl (by decide) rfl (fun ls hl => ?_)
    refine cx_tens C hx hb hown (hts (.fieldLink RX2 32 "AggregateRows$Terms" "TENS" "[I") (by decide +kernel)) dX2_writeNumber_18 ?_
    refine cx_tlen C hx hb dX2_writeNumber_21 ?_
    refine lv_iconst (v := 1) hx hb dX2_writeNumber_22 (by decide) ?_
    refine lv_isub hx hb dX2_writeNumber_23 ?_
    refine lv_topi (fun x5_2 ex5_2 => ?_)
    replace hf := lt_at hf ex5_2
    refine lv_istore (lv' := [(5, .int x5_2), (4, .int 0), (3, .int z_1), (0, .int x0), (1, .int x1), (2, .ref (ad 9))]) hx hb dX2_writeNumber_24 hl (by decide) rfl (fun ls hl => ?_)
    exact J26 FU x1 z_1 0 x5_2 w _ _ _ hf C (lv_sub hl [4, 5, 2, 1, 0] rfl)
  have hl := lv_entry ([.int a0, .int a1, .ref (ad 9)]) (n := 7) (Nat.le_of_ble_eq_true rfl)
  rw [lg_entry_eq]
  generalize (lg_sl ([.int a0, .int a1, .ref (ad 9)]) ++ List.replicate (7 - (lg_sl ([.int a0, .int a1, .ref (ad 9)])).length) Slot.unset).toArray = ls at hl ⊢
  have hl : lv_has ls 7 [(0, .int a0), (1, .int a1), (2, .ref (ad 9))] := hl
  unfold fX2_writeNumber at hf
  refine lv_iload_n hx hb dX2_writeNumber_0 rfl (lv_at hl 0 rfl) ?_
  refine lv_if_ge (tgt := 10) hx hb dX2_writeNumber_1 (by decide) (fun c_1 => ?_) (fun c_1 => ?_)
  · replace hf := (if_pos c_1).symm.trans hf
    exact J10 a0 a1 u _ _ _ hf C (lv_sub hl [0, 1, 2] rfl)
  · replace hf := (if_neg c_1).symm.trans hf
    refine lv_aload_n hx hb dX2_writeNumber_4 rfl (lv_at hl 2 rfl) ?_
    refine lv_bipush (v := 45) hx hb dX2_writeNumber_5 (by decide) ?_
    obtain ⟨_, u_4, h_2, hf⟩ := bnd_some hf
    refine cx_callv C (va_runV (As := [.int 45]) (rest := []) ⟨hx, hb, hml, hown, hts⟩ (k_X0_put l ad ck D tt h_2 _) (cwV 1 hts gX2_writeNumber_X0_put rfl rfl rfl (by decide +kernel) ⟨Nat.le_of_ble_eq_true rfl, Nat.le_of_ble_eq_true rfl⟩) (cx_preV C (q0 := 9) (ci := 0) rfl rfl) rfl rfl hl.1 rfl (lv_room (Nat.le_of_ble_eq_true rfl)) dX2_writeNumber_7 ⟨Nat.zero_le _, Nat.zero_le _⟩) (fun H locs C => ?_)
    exact J10 a0 a1 u_4 _ _ _ hf C (lv_sub hl [0, 1, 2] rfl)
/-! ===== X2_write ===== -/
def fX2_write (u : St) (a1 : Int32) : Option (Unit × St) := bnd (fX2_isText u a1) (fun r_2 u_3 => (if r_2 = 0 then gd (okI a1 60) (gd (okI a1 60) (bnd (fX2_writeNumber u_3 (u_3.2.1 0 a1.toNatClampNeg) (u_3.2.1 1 a1.toNatClampNeg)) (fun _ u_9 => some ((), u_9)))) else gd (okI a1 60) (bnd (fX2_writeLetters u_3 (u_3.2.2 0 a1.toNatClampNeg)) (fun _ u_13 => some ((), u_13)))))
abbrev rmX2_write : Room := { frames := 2, cells := 0, slots := 0, locals := 49 }
set_option maxHeartbeats 4000000 in
set_option maxRecDepth 100000 in
theorem k_X2_write (l : Launch) (ad : Nat → Nat) (ck : Nat → ClassId) (D : va_G) (tt : Nat) {u : St} {a1 : Int32} {u' : St} (hf : fX2_write u a1 = some ((), u')) : MV l yX2_write wsX2_write rmX2_write (wA ad ck) ck D tt [.ref (ad 1), .int a1, .ref (ad 9)] u u' := by
  intro sz
  refine Met.ofW (cc := cX2_write) (maxL := 3) (ret := none) (by decide) rfl ?_
  intro p e s m args below meth c s₁ B hml hv
  obtain ⟨rfl, hsz, C⟩ := cx_entry hv
  have hx := B.exec
  have hb := B.bytes
  have hr := B.returns
  have hts := atoms_spec (ws := wsX2_write) B.pre
  have hown : s.vm.findClass RX2 = some m.cls := findClass_of_methodNamed B.named
  have hlocks := B.notSynchronized
  have hl := lv_entry ([.ref (ad 1), .int a1, .ref (ad 9)]) (n := 3) (Nat.le_of_ble_eq_true rfl)
  rw [lg_entry_eq]
  generalize (lg_sl ([.ref (ad 1), .int a1, .ref (ad 9)]) ++ List.replicate (3 - (lg_sl ([.ref (ad 1), .int a1, .ref (ad 9)])).length) Slot.unset).toArray = ls at hl ⊢
  have hl : lv_has ls 3 [(0, .ref (ad 1)), (1, .int a1), (2, .ref (ad 9))] := hl
  unfold fX2_write at hf
  refine lv_aload_n hx hb dX2_write_0 rfl (lv_at hl 0 rfl) ?_
  refine lv_iload_n hx hb dX2_write_1 rfl (lv_at hl 1 rfl) ?_
  obtain ⟨r_2, u_3, h_1, hf⟩ := bnd_some hf
  refine cx_calli C (va_runV (As := [.int a1]) (rest := []) ⟨hx, hb, hml, hown, hts⟩ (k_X2_isText l ad ck D tt h_1 _) (cwV 1 hts gX2_write_X2_isText rfl rfl rfl (by decide +kernel) ⟨Nat.le_of_ble_eq_true rfl, Nat.le_of_ble_eq_true rfl⟩) (cx_preV C (q0 := 1) (ci := 2) rfl rfl) rfl rfl hl.1 rfl (lv_room (Nat.le_of_ble_eq_true rfl)) dX2_write_2 ⟨Nat.zero_le _, Nat.zero_le _⟩) (fun H locs C => ?_)
  refine lv_if_eq (tgt := 21) hx hb dX2_write_5 (by decide) (fun c_4 => ?_) (fun c_4 => ?_)
  · replace hf := (if_pos c_4).symm.trans hf
    refine lv_aload_n hx hb dX2_write_21 rfl (lv_at hl 0 rfl) ?_
    refine cx_get C hx hb (T := TX2) (N := 4) hts (by decide +kernel) hown 1 rfl rfl 1 (by decide) (hts (.fieldLink RX2 15 "AggregateRows$Terms" "units" "[I") (by decide +kernel)) (fun _ h9 => h9) (v := .ref (ad 3)) rfl dX2_write_22 ?_
    refine lv_iload_n hx hb dX2_write_25 rfl (lv_at hl 1 rfl) ?_
    obtain ⟨g_5, hf⟩ := gd_some hf
    refine cx_iald C hx hb 3 rfl g_5 dX2_write_26 ?_
    refine lv_aload_n hx hb dX2_write_27 rfl (lv_at hl 0 rfl) ?_
    refine cx_get C hx hb (T := TX2) (N := 4) hts (by decide +kernel) hown 1 rfl rfl 2 (by decide) (hts (.fieldLink RX2 19 "AggregateRows$Terms" "scales" "[I") (by decide +kernel)) (fun _ h9 => h9) (v := .ref (ad 4)) rfl dX2_write_28 ?_
    refine lv_iload_n hx hb dX2_write_31 rfl (lv_at hl 1 rfl) ?_
    obtain ⟨g_6, hf⟩ := gd_some hf
    refine cx_iald C hx hb 4 rfl g_6 dX2_write_32 ?_
    refine lv_aload_n hx hb dX2_write_33 rfl (lv_at hl 2 rfl) ?_
    obtain ⟨_, u_9, h_7, hf⟩ := bnd_some hf
    refine cx_callv C (va_runS (As := [.int (u_3.2.1 0 a1.toNatClampNeg), .int (u_3.2.1 1 a1.toNatClampNeg), .ref (ad 9)]) (rest := []) ⟨hx, hb, hml, hown, hts⟩ (k_X2_writeNumber l ad ck D tt h_7 _) (va_cwS 3 hts gX2_write_X2_writeNumber rfl rfl rfl (by decide +kernel) ⟨Nat.le_of_ble_eq_true rfl, Nat.le_of_ble_eq_true rfl⟩) (cx_preS C) rfl rfl hl.1 rfl (lv_room (Nat.le_of_ble_eq_true rfl)) dX2_write_34 ⟨Nat.zero_le _, Nat.zero_le _⟩) (fun H locs C => ?_)
    exact cx_vret C hx hb hr hlocks hf dX2_write_37
  · replace hf := (if_neg c_4).symm.trans hf
    refine lv_aload_n hx hb dX2_write_8 rfl (lv_at hl 0 rfl) ?_
    refine cx_get C hx hb (T := TX2) (N := 4) hts (by decide +kernel) hown 1 rfl rfl 0 (by decide) (hts (.fieldLink RX2 9 "AggregateRows$Terms" "letters" "[J") (by decide +kernel)) (fun _ h9 => h9) (v := .ref (ad 2)) rfl dX2_write_9 ?_
    refine lv_iload_n hx hb dX2_write_12 rfl (lv_at hl 1 rfl) ?_
    obtain ⟨g_10, hf⟩ := gd_some hf
    refine cx_lald C hx hb 2 rfl g_10 dX2_write_13 ?_
    refine lv_aload_n hx hb dX2_write_14 rfl (lv_at hl 2 rfl) ?_
    obtain ⟨_, u_13, h_11, hf⟩ := bnd_some hf
    refine cx_callv C (va_runS (As := [.long (u_3.2.2 0 a1.toNatClampNeg), .ref (ad 9)]) (rest := []) ⟨hx, hb, hml, hown, hts⟩ (k_X2_writeLetters l ad ck D tt h_11 _) (va_cwS 2 hts gX2_write_X2_writeLetters rfl rfl rfl (by decide +kernel) ⟨Nat.le_of_ble_eq_true rfl, Nat.le_of_ble_eq_true rfl⟩) (cx_preS C) rfl rfl hl.1 rfl (lv_room (Nat.le_of_ble_eq_true rfl)) dX2_write_15 ⟨Nat.zero_le _, Nat.zero_le _⟩) (fun H locs C => ?_)
    refine lv_goto (tgt := 37) hx hb dX2_write_18 (by decide) ?_
    exact cx_vret C hx hb hr hlocks hf dX2_write_37
