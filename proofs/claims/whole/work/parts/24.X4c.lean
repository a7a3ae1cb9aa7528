/-! ===== X4_termOf ===== -/
def fX4_termOf (u : St) (a1 : Int64) (a3 : Int32) (a4 : Int32) : Option ((Nat ⊕ Int32) × St) := bnd (fX2_find u a1 a3 a4) (fun r_2 u_3 => (if r_2 = (-1) then bnd (fX2_isFull u_3) (fun r_6 u_7 => (if r_6 = 0 then bnd (fX2_add u_7 a1 a3 a4) (fun r_10 u_11 => some (.inr r_10, u_11)) else some (.inl 2, u_7))) else some (.inr r_2, u_3)))
theorem xi_X4_termOf_S : ∀ w ∈ (vx_atS RX4 84 xS xns).filter goodWord, w ∈ wsX4_termOf := by decide +kernel
abbrev rmX4_termOf : Room := { frames := 6, cells := 0, slots := 0, locals := 92 }
set_option maxHeartbeats 4000000 in
set_option maxRecDepth 100000 in
theorem k_X4_termOf (l : Launch) (ad : Nat → Nat) (ck : Nat → ClassId) (D : va_G) (tt : Nat) {u : St} {a1 : Int64} {a3 : Int32} {a4 : Int32} {r : Int32} {u' : St} (hf : fX4_termOf u a1 a3 a4 = some (.inr r, u')) : MI l yX4_termOf wsX4_termOf rmX4_termOf (wA ad ck) ck D tt [.ref (ad 0), .long a1, .int a3, .int a4] u r u' := by
  intro sz
  refine Met.ofW (cc := cX4_termOf) (maxL := 6) (ret := (some .int)) (by decide) rfl ?_
  intro p e s m args below meth c s₁ B hml hv
  obtain ⟨rfl, hsz, C⟩ := cx_entry hv
  have hx := B.exec
  have hb := B.bytes
  have hr := B.returns
  have hts := atoms_spec (ws := wsX4_termOf) B.pre
  have hown : s.vm.findClass RX4 = some m.cls := findClass_of_methodNamed B.named
  have hlocks := B.notSynchronized
  have hl := lv_entry ([.ref (ad 0), .long a1, .int a3, .int a4]) (n := 6) (Nat.le_of_ble_eq_true rfl)
  rw [lg_entry_eq]
  generalize (lg_sl ([.ref (ad 0), .long a1, .int a3, .int a4]) ++ List.replicate (6 - (lg_sl ([.ref (ad 0), .long a1, .int a3, .int a4])).length) Slot.unset).toArray = ls at hl ⊢
  have hl : lv_has ls 6 [(0, .ref (ad 0)), (1, .long a1), (3, .int a3), (4, .int a4)] := hl
  unfold fX4_termOf at hf
  refine lv_aload_n hx hb dX4_termOf_0 rfl (lv_at hl 0 rfl) ?_
  refine cx_get C hx hb (T := TX4) (N := 8) hts (by decide +kernel) hown 0 rfl rfl 0 (by decide) (hts (.fieldLink RX4 10 "AggregateRows" "terms" "LAggregateRows$Terms;") (by decide +kernel)) (fun _ h9 => h9) (v := .ref (ad 1)) rfl dX4_termOf_1 ?_
  refine lv_lload_n hx hb dX4_termOf_4 rfl (lv_at hl 1 rfl) ?_
  refine lv_iload_n hx hb dX4_termOf_5 rfl (lv_at hl 2 rfl) ?_
  refine lv_iload hx hb dX4_termOf_6 (lv_at hl 3 rfl) ?_
  obtain ⟨r_2, u_3, h_1, hf⟩ := bnd_some hf
  refine cx_calli C (va_runV (As := [.long a1, .int a3, .int a4]) (rest := []) ⟨hx, hb, hml, hown, hts⟩ (k_X2_find l ad ck D tt h_1 _) (cwV 3 hts gX4_termOf_X2_find rfl rfl rfl (by decide +kernel) ⟨Nat.le_of_ble_eq_true rfl, Nat.le_of_ble_eq_true rfl⟩) (cx_preV C (q0 := 1) (ci := 2) rfl rfl) rfl rfl hl.1 rfl (lv_room (Nat.le_of_ble_eq_true rfl)) dX4_termOf_8 ⟨Nat.zero_le _, Nat.zero_le _⟩) (fun H locs C => ?_)
  refine lv_istore (lv' := [(5, .int r_2), (0, .ref (ad 0)), (1, .long a1), (3, .int a3), (4, .int a4)]) hx hb dX4_termOf_11 hl (by decide) rfl (fun ls hl => ?_)
  refine lv_iload hx hb dX4_termOf_13 (lv_at hl 0 rfl) ?_
  refine lv_iconst (v := (-1)) hx hb dX4_termOf_15 (by decide) ?_
  refine lv_icmp_eq (tgt := 22) hx hb dX4_termOf_16 (by decide) (fun c_4 => ?_) (fun c_4 => ?_)
  · replace hf := (if_pos c_4).symm.trans hf
    refine lv_aload_n hx hb dX4_termOf_22 rfl (lv_at hl 1 rfl) ?_
    refine cx_get C hx hb (T := TX4) (N := 8) hts (by decide +kernel) hown 0 rfl rfl 0 (by decide) (hts (.fieldLink RX4 10 "AggregateRows" "terms" "LAggregateRows$Terms;") (by decide +kernel)) (fun _ h9 => h9) (v := .ref (ad 1)) rfl dX4_termOf_23 ?_
    obtain ⟨r_6, u_7, h_5, hf⟩ := bnd_some hf
    refine cx_calli C (va_runV (As := []) (rest := []) ⟨hx, hb, hml, hown, hts⟩ (k_X2_isFull l ad ck D tt h_5 _) (cwV 0 hts gX4_termOf_X2_isFull rfl rfl rfl (by decide +kernel) ⟨Nat.le_of_ble_eq_true rfl, Nat.le_of_ble_eq_true rfl⟩) (cx_preV C (q0 := 1) (ci := 2) rfl rfl) rfl rfl hl.1 rfl (lv_room (Nat.le_of_ble_eq_true rfl)) dX4_termOf_26 ⟨Nat.zero_le _, Nat.zero_le _⟩) (fun H locs C => ?_)
    refine lv_if_eq (tgt := 42) hx hb dX4_termOf_29 (by decide) (fun c_8 => ?_) (fun c_8 => ?_)
    · replace hf := (if_pos c_8).symm.trans hf
      refine lv_aload_n hx hb dX4_termOf_42 rfl (lv_at hl 1 rfl) ?_
      refine cx_get C hx hb (T := TX4) (N := 8) hts (by decide +kernel) hown 0 rfl rfl 0 (by decide) (hts (.fieldLink RX4 10 "AggregateRows" "terms" "LAggregateRows$Terms;") (by decide +kernel)) (fun _ h9 => h9) (v := .ref (ad 1)) rfl dX4_termOf_43 ?_
      refine lv_lload_n hx hb dX4_termOf_46 rfl (lv_at hl 2 rfl) ?_
      refine lv_iload_n hx hb dX4_termOf_47 rfl (lv_at hl 3 rfl) ?_
      refine lv_iload hx hb dX4_termOf_48 (lv_at hl 4 rfl) ?_
      obtain ⟨r_10, u_11, h_9, hf⟩ := bnd_some hf
      refine cx_calli C (va_runV (As := [.long a1, .int a3, .int a4]) (rest := []) ⟨hx, hb, hml, hown, hts⟩ (k_X2_add l ad ck D tt h_9 _) (cwV 3 hts gX4_termOf_X2_add rfl rfl rfl (by decide +kernel) ⟨Nat.le_of_ble_eq_true rfl, Nat.le_of_ble_eq_true rfl⟩) (cx_preV C (q0 := 1) (ci := 2) rfl rfl) rfl rfl hl.1 rfl (lv_room (Nat.le_of_ble_eq_true rfl)) dX4_termOf_50 ⟨Nat.zero_le _, Nat.zero_le _⟩) (fun H locs C => ?_)
      exact cx_iretT C hx hb hr hlocks hf dX4_termOf_53
    · replace hf := (if_neg c_8).symm.trans hf
      cases hf
  · replace hf := (if_neg c_4).symm.trans hf
    refine lv_iload hx hb dX4_termOf_19 (lv_at hl 0 rfl) ?_
    exact cx_iretT C hx hb hr hlocks hf dX4_termOf_21
abbrev rmTX4_termOf : Room := { frames := 6, cells := 1, slots := 6, locals := 92 }
set_option maxHeartbeats 4000000 in
set_option maxRecDepth 100000 in
theorem t_X4_termOf (l : Launch) (ad : Nat → Nat) (ck : Nat → ClassId) (D : va_G) (tt : Nat) (hst : l.stackTraces = false) {u : St} {a1 : Int64} {a3 : Int32} {a4 : Int32} {k : Nat} {u' : St} (hf : fX4_termOf u a1 a3 a4 = some (.inl k, u')) : MT l yX4_termOf wsX4_termOf rmTX4_termOf (wA ad ck) ck D tt [.ref (ad 0), .long a1, .int a3, .int a4] u k u' := by
  intro sz
  refine vx_ofW (cc := cX4_termOf) (maxL := 6) (ret := (some .int)) (by decide) rfl ?_
  intro p e s m args below meth c s₁ B hml ht hv
  obtain ⟨rfl, hsz, C⟩ := cx_entry hv
  have hx := B.exec
  have hb := B.bytes
  have hr := B.returns
  have hts := atoms_spec (ws := wsX4_termOf) B.pre
  have hown : s.vm.findClass RX4 = some m.cls := findClass_of_methodNamed B.named
  have hlocks := B.notSynchronized
  have hl := lv_entry ([.ref (ad 0), .long a1, .int a3, .int a4]) (n := 6) (Nat.le_of_ble_eq_true rfl)
  rw [lg_entry_eq]
  generalize (lg_sl ([.ref (ad 0), .long a1, .int a3, .int a4]) ++ List.replicate (6 - (lg_sl ([.ref (ad 0), .long a1, .int a3, .int a4])).length) Slot.unset).toArray = ls at hl ⊢
  have hl : lv_has ls 6 [(0, .ref (ad 0)), (1, .long a1), (3, .int a3), (4, .int a4)] := hl
  unfold fX4_termOf at hf
  refine lv_aload_n hx hb dX4_termOf_0 rfl (lv_at hl 0 rfl) ?_
  refine cx_get C hx hb (T := TX4) (N := 8) hts (by decide +kernel) hown 0 rfl rfl 0 (by decide) (hts (.fieldLink RX4 10 "AggregateRows" "terms" "LAggregateRows$Terms;") (by decide +kernel)) (fun _ h9 => h9) (v := .ref (ad 1)) rfl dX4_termOf_1 ?_
  refine lv_lload_n hx hb dX4_termOf_4 rfl (lv_at hl 1 rfl) ?_
  refine lv_iload_n hx hb dX4_termOf_5 rfl (lv_at hl 2 rfl) ?_
  refine lv_iload hx hb dX4_termOf_6 (lv_at hl 3 rfl) ?_
  obtain ⟨r_2, u_3, h_1, hf⟩ := bnd_some hf
  refine cx_calli C (va_runV (As := [.long a1, .int a3, .int a4]) (rest := []) ⟨hx, hb, hml, hown, hts⟩ (k_X2_find l ad ck D tt h_1 _) (cwV 3 hts gX4_termOf_X2_find rfl rfl rfl (by decide +kernel) ⟨Nat.le_of_ble_eq_true rfl, Nat.le_of_ble_eq_true rfl⟩) (cx_preV C (q0 := 1) (ci := 2) rfl rfl) rfl rfl hl.1 rfl (lv_room (Nat.le_of_ble_eq_true rfl)) dX4_termOf_8 ⟨Nat.zero_le _, Nat.zero_le _⟩) (fun H locs C => ?_)
  refine lv_istore (lv' := [(5, .int r_2), (0, .ref (ad 0)), (1, .long a1), (3, .int a3), (4, .int a4)]) hx hb dX4_termOf_11 hl (by decide) rfl (fun ls hl => ?_)
  refine lv_iload hx hb dX4_termOf_13 (lv_at hl 0 rfl) ?_
  refine lv_iconst (v := (-1)) hx hb dX4_termOf_15 (by decide) ?_
  refine lv_icmp_eq (tgt := 22) hx hb dX4_termOf_16 (by decide) (fun c_4 => ?_) (fun c_4 => ?_)
  · replace hf := (if_pos c_4).symm.trans hf
    refine lv_aload_n hx hb dX4_termOf_22 rfl (lv_at hl 1 rfl) ?_
    refine cx_get C hx hb (T := TX4) (N := 8) hts (by decide +kernel) hown 0 rfl rfl 0 (by decide) (hts (.fieldLink RX4 10 "AggregateRows" "terms" "LAggregateRows$Terms;") (by decide +kernel)) (fun _ h9 => h9) (v := .ref (ad 1)) rfl dX4_termOf_23 ?_
    obtain ⟨r_6, u_7, h_5, hf⟩ := bnd_some hf
    refine cx_calli C (va_runV (As := []) (rest := []) ⟨hx, hb, hml, hown, hts⟩ (k_X2_isFull l ad ck D tt h_5 _) (cwV 0 hts gX4_termOf_X2_isFull rfl rfl rfl (by decide +kernel) ⟨Nat.le_of_ble_eq_true rfl, Nat.le_of_ble_eq_true rfl⟩) (cx_preV C (q0 := 1) (ci := 2) rfl rfl) rfl rfl hl.1 rfl (lv_room (Nat.le_of_ble_eq_true rfl)) dX4_termOf_26 ⟨Nat.zero_le _, Nat.zero_le _⟩) (fun H locs C => ?_)
    refine lv_if_eq (tgt := 42) hx hb dX4_termOf_29 (by decide) (fun c_8 => ?_) (fun c_8 => ?_)
    · replace hf := (if_pos c_8).symm.trans hf
      refine lv_aload_n hx hb dX4_termOf_42 rfl (lv_at hl 1 rfl) ?_
      refine cx_get C hx hb (T := TX4) (N := 8) hts (by decide +kernel) hown 0 rfl rfl 0 (by decide) (hts (.fieldLink RX4 10 "AggregateRows" "terms" "LAggregateRows$Terms;") (by decide +kernel)) (fun _ h9 => h9) (v := .ref (ad 1)) rfl dX4_termOf_43 ?_
      refine lv_lload_n hx hb dX4_termOf_46 rfl (lv_at hl 2 rfl) ?_
      refine lv_iload_n hx hb dX4_termOf_47 rfl (lv_at hl 3 rfl) ?_
      refine lv_iload hx hb dX4_termOf_48 (lv_at hl 4 rfl) ?_
      obtain ⟨r_10, u_11, h_9, hf⟩ := bnd_some hf
      refine cx_calli C (va_runV (As := [.long a1, .int a3, .int a4]) (rest := []) ⟨hx, hb, hml, hown, hts⟩ (k_X2_add l ad ck D tt h_9 _) (cwV 3 hts gX4_termOf_X2_add rfl rfl rfl (by decide +kernel) ⟨Nat.le_of_ble_eq_true rfl, Nat.le_of_ble_eq_true rfl⟩) (cx_preV C (q0 := 1) (ci := 2) rfl rfl) rfl rfl hl.1 rfl (lv_room (Nat.le_of_ble_eq_true rfl)) dX4_termOf_50 ⟨Nat.zero_le _, Nat.zero_le _⟩) (fun H locs C => ?_)
      cases hf
    · replace hf := (if_neg c_8).symm.trans hf
      exact cx_throw (k0 := 2) C hx hb hst hown (cls := xS) (text := "too many terms") (ik := 80) (is := 169) (ic := 84) rfl (by decide +kernel) (hts (.classLink RX4 80 xS) (by decide +kernel)) (hts (.initialized xS) (by decide +kernel)) (by decide) (fun w h => hts w (xi_X4_termOf_S w h)) xb_S C.2.2.2.2.2.2.2.2.2.2.2.1 xg_S (hl.1.trans hml.symm) dX4_termOf_32 dX4_termOf_35 dX4_termOf_36 dX4_termOf_38 dX4_termOf_41 ht (Nat.le_of_ble_eq_true rfl) (Nat.le_of_ble_eq_true rfl) (Nat.le_of_ble_eq_true rfl) (Nat.le_of_ble_eq_true rfl) hlocks (Nat.le_refl _) (Nat.le_refl _) hf
  · replace hf := (if_neg c_4).symm.trans hf
    refine lv_iload hx hb dX4_termOf_19 (lv_at hl 0 rfl) ?_
    cases hf
/-! ===== X4_needGroup ===== -/
def fX4_needGroup (u : St) (a1 : Int32) : Option ((Nat ⊕ Unit) × St) := (if a1 < 0 then some (.inl 3, u) else bnd (fX0_count u) (fun r_3 u_4 => (if a1 < r_3 then some (.inr (), u_4) else some (.inl 3, u_4))))
theorem xi_X4_needGroup_I : ∀ w ∈ (vx_atS RX4 149 xI xns).filter goodWord, w ∈ wsX4_needGroup := by decide +kernel
abbrev rmX4_needGroup : Room := { frames := 6, cells := 0, slots := 0, locals := 92 }
set_option maxHeartbeats 4000000 in
set_option maxRecDepth 100000 in
theorem k_X4_needGroup (l : Launch) (ad : Nat → Nat) (ck : Nat → ClassId) (D : va_G) (tt : Nat) {u : St} {a1 : Int32} {u' : St} (hf : fX4_needGroup u a1 = some (.inr (), u')) : MV l yX4_needGroup wsX4_needGroup rmX4_needGroup (wA ad ck) ck D tt [.ref (ad 0), .int a1] u u' := by
  intro sz
  refine Met.ofW (cc := cX4_needGroup) (maxL := 2) (ret := none) (by decide) rfl ?_
  intro p e s m args below meth c s₁ B hml hv
  obtain ⟨rfl, hsz, C⟩ := cx_entry hv
  have hx := B.exec
  have hb := B.bytes
  have hr := B.returns
  have hts := atoms_spec (ws := wsX4_needGroup) B.pre
  have hown : s.vm.findClass RX4 = some m.cls := findClass_of_methodNamed B.named
  have hlocks := B.notSynchronized
  have hl := lv_entry ([.ref (ad 0), .int a1]) (n := 2) (Nat.le_of_ble_eq_true rfl)
  rw [lg_entry_eq]
  generalize (lg_sl ([.ref (ad 0), .int a1]) ++ List.replicate (2 - (lg_sl ([.ref (ad 0), .int a1])).length) Slot.unset).toArray = ls at hl ⊢
  have hl : lv_has ls 2 [(0, .ref (ad 0)), (1, .int a1)] := hl
  unfold fX4_needGroup at hf
  refine lv_iload_n hx hb dX4_needGroup_0 rfl (lv_at hl 1 rfl) ?_
  refine lv_if_lt (tgt := 15) hx hb dX4_needGroup_1 (by decide) (fun c_1 => ?_) (fun c_1 => ?_)
  · replace hf := (if_pos c_1).symm.trans hf
    cases hf
  · replace hf := (if_neg c_1).symm.trans hf
    refine lv_iload_n hx hb dX4_needGroup_4 rfl (lv_at hl 1 rfl) ?_
    refine lv_aload_n hx hb dX4_needGroup_5 rfl (lv_at hl 0 rfl) ?_
    refine cx_get C hx hb (T := TX4) (N := 8) hts (by decide +kernel) hown 0 rfl rfl 2 (by decide) (hts (.fieldLink RX4 26 "AggregateRows" "results" "LAggregateRows$Results;") (by decide +kernel)) (fun _ h9 => h9) (v := .ref (ad 9)) rfl dX4_needGroup_6 ?_
    obtain ⟨r_3, u_4, h_2, hf⟩ := bnd_some hf
    refine cx_calli C (va_runV (As := []) (rest := [.int a1]) ⟨hx, hb, hml, hown, hts⟩ (k_X0_count l ad ck D tt h_2 _) (cwV 0 hts gX4_needGroup_X0_count rfl rfl rfl (by decide +kernel) ⟨Nat.le_of_ble_eq_true rfl, Nat.le_of_ble_eq_true rfl⟩) (cx_preV C (q0 := 9) (ci := 0) rfl rfl) rfl rfl hl.1 rfl (lv_room (Nat.le_of_ble_eq_true rfl)) dX4_needGroup_9 ⟨Nat.zero_le _, Nat.zero_le _⟩) (fun H locs C => ?_)
    refine lv_icmp_lt (tgt := 25) hx hb dX4_needGroup_12 (by decide) (fun c_5 => ?_) (fun c_5 => ?_)
    · replace hf := (if_pos c_5).symm.trans hf
      exact cx_vretT C hx hb hr hlocks hf dX4_needGroup_25
    · replace hf := (if_neg c_5).symm.trans hf
      cases hf
abbrev rmTX4_needGroup : Room := { frames := 6, cells := 1, slots := 6, locals := 92 }
set_option maxHeartbeats 4000000 in
set_option maxRecDepth 100000 in
theorem t_X4_needGroup (l : Launch) (ad : Nat → Nat) (ck : Nat → ClassId) (D : va_G) (tt : Nat) (hst : l.stackTraces = false) {u : St} {a1 : Int32} {k : Nat} {u' : St} (hf : fX4_needGroup u a1 = some (.inl k, u')) : MT l yX4_needGroup wsX4_needGroup rmTX4_needGroup (wA ad ck) ck D tt [.ref (ad 0), .int a1] u k u' := by
  intro sz
  refine vx_ofW (cc := cX4_needGroup) (maxL := 2) (ret := none) (by decide) rfl ?_
  intro p e s m args below meth c s₁ B hml ht hv
  obtain ⟨rfl, hsz, C⟩ := cx_entry hv
  have hx := B.exec
  have hb := B.bytes
  have hr := B.returns
  have hts := atoms_spec (ws := wsX4_needGroup) B.pre
  have hown : s.vm.findClass RX4 = some m.cls := findClass_of_methodNamed B.named
  have hlocks := B.notSynchronized
  have hl := lv_entry ([.ref (ad 0), .int a1]) (n := 2) (Nat.le_of_ble_eq_true rfl)
  rw [lg_entry_eq]
  generalize (lg_sl ([.ref (ad 0), .int a1]) ++ List.replicate (2 - (lg_sl ([.ref (ad 0), .int a1])).length) Slot.unset).toArray = ls at hl ⊢
  have hl : lv_has ls 2 [(0, .ref (ad 0)), (1, .int a1)] := hl
  unfold fX4_needGroup at hf
  refine lv_iload_n hx hb dX4_needGroup_0 rfl (lv_at hl 1 rfl) ?_
  refine lv_if_lt (tgt := 15) hx hb dX4_needGroup_1 (by decide) (fun c_1 => ?_) (fun c_1 => ?_)
  · replace hf := (if_pos c_1).symm.trans hf
    exact cx_throw (k0 := 3) C hx hb hst hown (cls := xI) (text := "no such group") (ik := 145) (is := 173) (ic := 149) rfl (by decide +kernel) (hts (.classLink RX4 145 xI) (by decide +kernel)) (hts (.initialized xI) (by decide +kernel)) (by decide) (fun w h => hts w (xi_X4_needGroup_I w h)) xb_I C.2.2.2.2.2.2.2.2.2.2.2.2.1 xg_I (hl.1.trans hml.symm) dX4_needGroup_15 dX4_needGroup_18 dX4_needGroup_19 dX4_needGroup_21 dX4_needGroup_24 ht (Nat.le_of_ble_eq_true rfl) (Nat.le_of_ble_eq_true rfl) (Nat.le_of_ble_eq_true rfl) (Nat.le_of_ble_eq_true rfl) hlocks (Nat.le_refl _) (Nat.le_refl _) hf
  · replace hf := (if_neg c_1).symm.trans hf
    refine lv_iload_n hx hb dX4_needGroup_4 rfl (lv_at hl 1 rfl) ?_
    refine lv_aload_n hx hb dX4_needGroup_5 rfl (lv_at hl 0 rfl) ?_
    refine cx_get C hx hb (T := TX4) (N := 8) hts (by decide +kernel) hown 0 rfl rfl 2 (by decide) (hts (.fieldLink RX4 26 "AggregateRows" "results" "LAggregateRows$Results;") (by decide +kernel)) (fun _ h9 => h9) (v := .ref (ad 9)) rfl dX4_needGroup_6 ?_
    obtain ⟨r_3, u_4, h_2, hf⟩ := bnd_some hf
    refine cx_calli C (va_runV (As := []) (rest := [.int a1]) ⟨hx, hb, hml, hown, hts⟩ (k_X0_count l ad ck D tt h_2 _) (cwV 0 hts gX4_needGroup_X0_count rfl rfl rfl (by decide +kernel) ⟨Nat.le_of_ble_eq_true rfl, Nat.le_of_ble_eq_true rfl⟩) (cx_preV C (q0 := 9) (ci := 0) rfl rfl) rfl rfl hl.1 rfl (lv_room (Nat.le_of_ble_eq_true rfl)) dX4_needGroup_9 ⟨Nat.zero_le _, Nat.zero_le _⟩) (fun H locs C => ?_)
    refine lv_icmp_lt (tgt := 25) hx hb dX4_needGroup_12 (by decide) (fun c_5 => ?_) (fun c_5 => ?_)
    · replace hf := (if_pos c_5).symm.trans hf
      cases hf
    · replace hf := (if_neg c_5).symm.trans hf
      exact cx_throw (k0 := 3) C hx hb hst hown (cls := xI) (text := "no such group") (ik := 145) (is := 173) (ic := 149) rfl (by decide +kernel) (hts (.classLink RX4 145 xI) (by decide +kernel)) (hts (.initialized xI) (by decide +kernel)) (by decide) (fun w h => hts w (xi_X4_needGroup_I w h)) xb_I C.2.2.2.2.2.2.2.2.2.2.2.2.1 xg_I (hl.1.trans hml.symm) dX4_needGroup_15 dX4_needGroup_18 dX4_needGroup_19 dX4_needGroup_21 dX4_needGroup_24 ht (Nat.le_of_ble_eq_true rfl) (Nat.le_of_ble_eq_true rfl) (Nat.le_of_ble_eq_true rfl) (Nat.le_of_ble_eq_true rfl) hlocks (Nat.le_refl _) (Nat.le_refl _) hf
/-! ===== X4_by ===== -/
def fX4_by (u : St) (a1 : Int32) : Option ((Nat ⊕ Int32) × St) := (if a1 < 0 then some (.inl 1, u) else (if a1 ≤ 2 then lt_ (u.1 0) (fun x2_3 => lt_ (sS u 0 a1) (fun u_4 => some (.inr x2_3, u_4))) else some (.inl 1, u)))
theorem xi_X4_by_A : ∀ w ∈ (vx_atS RX4 57 xA xns).filter goodWord, w ∈ wsX4_by := by decide +kernel
abbrev rmX4_by : Room := { frames := 6, cells := 0, slots := 0, locals := 92 }
set_option maxHeartbeats 4000000 in
set_option maxRecDepth 100000 in
theorem k_X4_by (l : Launch) (ad : Nat → Nat) (ck : Nat → ClassId) (D : va_G) (tt : Nat) {u : St} {a1 : Int32} {r : Int32} {u' : St} (hf : fX4_by u a1 = some (.inr r, u')) : MI l yX4_by wsX4_by rmX4_by (wA ad ck) ck D tt [.ref (ad 0), .int a1] u r u' := by
  intro sz
  refine Met.ofW (cc := cX4_by) (maxL := 3) (ret := (some .int)) (by decide) rfl ?_
  intro p e s m args below meth c s₁ B hml hv
  obtain ⟨rfl, hsz, C⟩ := cx_entry hv
  have hx := B.exec
  have hb := B.bytes
  have hr := B.returns
  have hts := atoms_spec (ws := wsX4_by) B.pre
  have hown : s.vm.findClass RX4 = some m.cls := findClass_of_methodNamed B.named
  have hlocks := B.notSynchronized
  have hl := lv_entry ([.ref (ad 0), .int a1]) (n := 3) (Nat.le_of_ble_eq_true rfl)
  rw [lg_entry_eq]
  generalize (lg_sl ([.ref (ad 0), .int a1]) ++ List.replicate (3 - (lg_sl ([.ref (ad 0), .int a1])).length) Slot.unset).toArray = ls at hl ⊢
  have hl : lv_has ls 3 [(0, .ref (ad 0)), (1, .int a1)] := hl
  unfold fX4_by at hf
  refine lv_iload_n hx hb dX4_by_0 rfl (lv_at hl 1 rfl) ?_
  refine lv_if_lt (tgt := 9) hx hb dX4_by_1 (by decide) (fun c_1 => ?_) (fun c_1 => ?_)
  · replace hf := (if_pos c_1).symm.trans hf
    cases hf
  · replace hf := (if_neg c_1).symm.trans hf
    refine lv_iload_n hx hb dX4_by_4 rfl (lv_at hl 1 rfl) ?_
    refine lv_iconst (v := 2) hx hb dX4_by_5 (by decide) ?_
    refine lv_icmp_le (tgt := 19) hx hb dX4_by_6 (by decide) (fun c_2 => ?_) (fun c_2 => ?_)
    · replace hf := (if_pos c_2).symm.trans hf
      refine lv_aload_n hx hb dX4_by_19 rfl (lv_at hl 0 rfl) ?_
      refine cx_get C hx hb (T := TX4) (N := 8) hts (by decide +kernel) hown 0 rfl rfl 5 (by decide) (hts (.fieldLink RX4 41 "AggregateRows" "grouping" "I") (by decide +kernel)) (fun _ h9 => h9) (v := .int (u.1 0)) rfl dX4_by_20 ?_
      refine lv_topi (fun x2_3 ex2_3 => ?_)
      replace hf := lt_at hf ex2_3
      refine lv_istore_n (lv' := [(2, .int x2_3), (0, .ref (ad 0)), (1, .int a1)]) hx hb dX4_by_23 rfl hl (by decide) rfl (fun ls hl => ?_)
      refine lv_aload_n hx hb dX4_by_24 rfl (lv_at hl 1 rfl) ?_
      refine lv_iload_n hx hb dX4_by_25 rfl (lv_at hl 2 rfl) ?_
      refine cx_puti C hx hb (T := TX4) (N := 8) hts (by decide +kernel) tyX4 tyX4_ok nmX4 hown 0 rfl rfl 5 (by decide) (hts (.fieldLink RX4 41 "AggregateRows" "grouping" "I") (by decide +kernel)) (fun _ h9 => h9) rfl (by decide +kernel) (Nat.le_of_ble_eq_true rfl) (u1 := sS u 0 a1) rfl dX4_by_26 (fun u_4 H locs eu_4 C => ?_)
      replace hf := lt_at hf eu_4
      refine lv_iload_n hx hb dX4_by_29 rfl (lv_at hl 0 rfl) ?_
      exact cx_iretT C hx hb hr hlocks hf dX4_by_30
    · replace hf := (if_neg c_2).symm.trans hf
      cases hf
abbrev rmTX4_by : Room := { frames := 6, cells := 1, slots := 6, locals := 92 }
set_option maxHeartbeats 4000000 in
set_option maxRecDepth 100000 in
theorem t_X4_by (l : Launch) (ad : Nat → Nat) (ck : Nat → ClassId) (D : va_G) (tt : Nat) (hst : l.stackTraces = false) {u : St} {a1 : Int32} {k : Nat} {u' : St} (hf : fX4_by u a1 = some (.inl k, u')) : MT l yX4_by wsX4_by rmTX4_by (wA ad ck) ck D tt [.ref (ad 0), .int a1] u k u' := by
  intro sz
  refine vx_ofW (cc := cX4_by) (maxL := 3) (ret := (some .int)) (by decide) rfl ?_
  intro p e s m args below meth c s₁ B hml ht hv
  obtain ⟨rfl, hsz, C⟩ := cx_entry hv
  have hx := B.exec
  have hb := B.bytes
  have hr := B.returns
  have hts := atoms_spec (ws := wsX4_by) B.pre
  have hown : s.vm.findClass RX4 = some m.cls := findClass_of_methodNamed B.named
  have hlocks := B.notSynchronized
  have hl := lv_entry ([.ref (ad 0), .int a1]) (n := 3) (Nat.le_of_ble_eq_true rfl)
  rw [lg_entry_eq]
  generalize (lg_sl ([.ref (ad 0), .int a1]) ++ List.replicate (3 - (lg_sl ([.ref (ad 0), .int a1])).length) Slot.unset).toArray = ls at hl ⊢
  have hl : lv_has ls 3 [(0, .ref (ad 0)), (1, .int a1)] := hl
  unfold fX4_by at hf
  refine lv_iload_n hx hb dX4_by_0 rfl (lv_at hl 1 rfl) ?_
  refine lv_if_lt (tgt := 9) hx hb dX4_by_1 (by decide) (fun c_1 => ?_) (fun c_1 => ?_)
  · replace hf := (if_pos c_1).symm.trans hf
    exact cx_throw (k0 := 1) C hx hb hst hown (cls := xA) (text := "no such grouping") (ik := 53) (is := 93) (ic := 57) rfl (by decide +kernel) (hts (.classLink RX4 53 xA) (by decide +kernel)) (hts (.initialized xA) (by decide +kernel)) (by decide) (fun w h => hts w (xi_X4_by_A w h)) xb_A C.2.2.2.2.2.2.2.2.2.2.1 xg_A (hl.1.trans hml.symm) dX4_by_9 dX4_by_12 dX4_by_13 dX4_by_15 dX4_by_18 ht (Nat.le_of_ble_eq_true rfl) (Nat.le_of_ble_eq_true rfl) (Nat.le_of_ble_eq_true rfl) (Nat.le_of_ble_eq_true rfl) hlocks (Nat.le_refl _) (Nat.le_refl _) hf
  · replace hf := (if_neg c_1).symm.trans hf
    refine lv_iload_n hx hb dX4_by_4 rfl (lv_at hl 1 rfl) ?_
    refine lv_iconst (v := 2) hx hb dX4_by_5 (by decide) ?_
    refine lv_icmp_le (tgt := 19) hx hb dX4_by_6 (by decide) (fun c_2 => ?_) (fun c_2 => ?_)
    · replace hf := (if_pos c_2).symm.trans hf
      refine lv_aload_n hx hb dX4_by_19 rfl (lv_at hl 0 rfl) ?_
      refine cx_get C hx hb (T := TX4) (N := 8) hts (by decide +kernel) hown 0 rfl rfl 5 (by decide) (hts (.fieldLink RX4 41 "AggregateRows" "grouping" "I") (by decide +kernel)) (fun _ h9 => h9) (v := .int (u.1 0)) rfl dX4_by_20 ?_
      refine lv_topi (fun x2_3 ex2_3 => ?_)
      replace hf := lt_at hf ex2_3
      refine lv_istore_n (lv' := [(2, .int x2_3), (0, .ref (ad 0)), (1, .int a1)]) hx hb dX4_by_23 rfl hl (by decide) rfl (fun ls hl => ?_)
      refine lv_aload_n hx hb dX4_by_24 rfl (lv_at hl 1 rfl) ?_
      refine lv_iload_n hx hb dX4_by_25 rfl (lv_at hl 2 rfl) ?_
      refine cx_puti C hx hb (T := TX4) (N := 8) hts (by decide +kernel) tyX4 tyX4_ok nmX4 hown 0 rfl rfl 5 (by decide) (hts (.fieldLink RX4 41 "AggregateRows" "grouping" "I") (by decide +kernel)) (fun _ h9 => h9) rfl (by decide +kernel) (Nat.le_of_ble_eq_true rfl) (u1 := sS u 0 a1) rfl dX4_by_26 (fun u_4 H locs eu_4 C => ?_)
      replace hf := lt_at hf eu_4
      refine lv_iload_n hx hb dX4_by_29 rfl (lv_at hl 0 rfl) ?_
      cases hf
    · replace hf := (if_neg c_2).symm.trans hf
      exact cx_throw (k0 := 1) C hx hb hst hown (cls := xA) (text := "no such grouping") (ik := 53) (is := 93) (ic := 57) rfl (by decide +kernel) (hts (.classLink RX4 53 xA) (by decide +kernel)) (hts (.initialized xA) (by decide +kernel)) (by decide) (fun w h => hts w (xi_X4_by_A w h)) xb_A C.2.2.2.2.2.2.2.2.2.2.1 xg_A (hl.1.trans hml.symm) dX4_by_9 dX4_by_12 dX4_by_13 dX4_by_15 dX4_by_18 ht (Nat.le_of_ble_eq_true rfl) (Nat.le_of_ble_eq_true rfl) (Nat.le_of_ble_eq_true rfl) (Nat.le_of_ble_eq_true rfl) hlocks (Nat.le_refl _) (Nat.le_refl _) hf
/-! ===== X4_separator ===== -/
def fX4_separator_26  (x1 : Int32) (w : St) : Option ((Nat ⊕ Int32) × St) := lt_ (w.1 1) (fun x2_1 => lt_ (sS w 1 x1) (fun u_2 => some (.inr x2_1, u_2)))
def fX4_separator (u : St) (a1 : Int32) : Option ((Nat ⊕ Int32) × St) := (if a1 = 0 then fX4_separator_26 a1 u else (if a1 < 32 then some (.inl 1, u) else (if a1 ≤ 126 then fX4_separator_26 a1 u else some (.inl 1, u))))
theorem xi_X4_separator_A : ∀ w ∈ (vx_atS RX4 57 xA xns).filter goodWord, w ∈ wsX4_separator := by decide +kernel
abbrev rmX4_separator : Room := { frames := 6, cells := 0, slots := 0, locals := 92 }
set_option maxHeartbeats 4000000 in
set_option maxRecDepth 100000 in
theorem k_X4_separator (l : Launch) (ad : Nat → Nat) (ck : Nat → ClassId) (D : va_G) (tt : Nat) {u : St} {a1 : Int32} {r : Int32} {u' : St} (hf : fX4_separator u a1 = some (.inr r, u')) : MI l yX4_separator wsX4_separator rmX4_separator (wA ad ck) ck D tt [.ref (ad 0), .int a1] u r u' := by
  intro sz
  refine Met.ofW (cc := cX4_separator) (maxL := 3) (ret := (some .int)) (by decide) rfl ?_
  intro p e s m args below meth c s₁ B hml hv
  obtain ⟨rfl, hsz, C⟩ := cx_entry hv
  have hx := B.exec
  have hb := B.bytes
  have hr := B.returns
  have hts := atoms_spec (ws := wsX4_separator) B.pre
  have hown : s.vm.findClass RX4 = some m.cls := findClass_of_methodNamed B.named
  have hlocks := B.notSynchronized
  have J26 : ∀ (x1 : Int32) (w : St) (H : Heap) (locs : List Loc) (ls : Array Slot), fX4_separator_26 x1 w = some (.inr r, u') → CX (wA ad ck) ck D tt (va_A (wA ad ck u) sz) s w H locs → lv_has ls 3 [(0, .ref (ad 0)), (1, .int x1)] → W p l e (headSpec wsX4_separator rmX4_separator).room s m ([.ref (ad 0), .int a1] : List Value).toArray below meth c H locs 0 0 (MQ below (QI (wA ad ck) D u sz r u') ([.ref (ad 0), .int a1] : List Value).toArray s 0 0 (va_A (wA ad ck u) sz)) (F0 m 26 ls []) := by
    intro x1 w H locs ls hf C hl
    unfold fX4_separator_26 at hf
    refine lv_aload_n hx hb dX4_separator_26 rfl (lv_at hl 0 rfl) ?_
    refine cx_get C hx hb (T := TX4) (N := 8) hts (by decide +kernel) hown 0 rfl rfl 6 (by decide) (hts (.fieldLink RX4 45 "AggregateRows" "between" "I") (by decide +kernel)) (fun _ h9 => h9) (v := .int (w.1 1)) rfl dX4_separator_27 ?_
    refine lv_topi (fun x2_1 ex2_1 => ?_)
    replace hf := lt_at hf ex2_1
    refine lv_istore_n (lv' := [(2, .int x2_1), (0, .ref (ad 0)), (1, .int x1)]) hx hb dX4_separator_30 rfl hl (by decide) rfl (fun ls hl => ?_)
    refine lv_aload_n hx hb dX4_separator_31 rfl (lv_at hl 1 rfl) ?_
    refine lv_iload_n hx hb dX4_separator_32 rfl (lv_at hl 2 rfl) ?_
    refine cx_puti C hx hb (T := TX4) (N := 8) hts (by decide +kernel) tyX4 tyX4_ok nmX4 hown 0 rfl rfl 6 (by decide) (hts (.fieldLink RX4 45 "AggregateRows" "between" "I") (by decide +kernel)) (fun _ h9 => h9) rfl (by decide +kernel) (Nat.le_of_ble_eq_true rfl) (u1 := sS w 1 x1) rfl dX4_separator_33 (fun u_2 H locs eu_2 C => ?_)
    replace hf := lt_at hf eu_2
    refine lv_iload_n hx hb dX4_separator_36 rfl (lv_at hl 0 rfl) ?_
    exact cx_iretT C hx hb hr hlocks hf dX4_separator_37
  have hl := lv_entry ([.ref (ad 0), .int a1]) (n := 3) (Nat.le_of_ble_eq_true rfl)
  rw [lg_entry_eq]
  generalize (lg_sl ([.ref (ad 0), .int a1]) ++ List.replicate (3 - (lg_sl ([.ref (ad 0), .int a1])).length) Slot.unset).toArray = ls at hl ⊢
  have hl : lv_has ls 3 [(0, .ref (ad 0)), (1, .int a1)] := hl
  unfold fX4_separator at hf
  refine lv_iload_n hx hb dX4_separator_0 rfl (lv_at hl 1 rfl) ?_
  refine lv_if_eq (tgt := 26) hx hb dX4_separator_1 (by decide) (fun c_1 => ?_) (fun c_1 => ?_)
  · replace hf := (if_pos c_1).symm.trans hf
    exact J26 a1 u _ _ _ hf C (lv_sub hl [0, 1] rfl)
  · replace hf := (if_neg c_1).symm.trans hf
    refine lv_iload_n hx hb dX4_separator_4 rfl (lv_at hl 1 rfl) ?_
    refine lv_bipush (v := 32) hx hb dX4_separator_5 (by decide) ?_
    refine lv_icmp_lt (tgt := 16) hx hb dX4_separator_7 (by decide) (fun c_2 => ?_) (fun c_2 => ?_)
    · replace hf := (if_pos c_2).symm.trans hf
      cases hf
    · replace hf := (if_neg c_2).symm.trans hf
      refine lv_iload_n hx hb dX4_separator_10 rfl (lv_at hl 1 rfl) ?_
      refine lv_bipush (v := 126) hx hb dX4_separator_11 (by decide) ?_
      refine lv_icmp_le (tgt := 26) hx hb dX4_separator_13 (by decide) (fun c_3 => ?_) (fun c_3 => ?_)
      · replace hf := (if_pos c_3).symm.trans hf
        exact J26 a1 u _ _ _ hf C (lv_sub hl [0, 1] rfl)
      · replace hf := (if_neg c_3).symm.trans hf
        cases hf
abbrev rmTX4_separator : Room := { frames := 6, cells := 1, slots := 6, locals := 92 }
set_option maxHeartbeats 4000000 in
set_option maxRecDepth 100000 in
theorem t_X4_separator (l : Launch) (ad : Nat → Nat) (ck : Nat → ClassId) (D : va_G) (tt : Nat) (hst : l.stackTraces = false) {u : St} {a1 : Int32} {k : Nat} {u' : St} (hf : fX4_separator u a1 = some (.inl k, u')) : MT l yX4_separator wsX4_separator rmTX4_separator (wA ad ck) ck D tt [.ref (ad 0), .int a1] u k u' := by
  intro sz
  refine vx_ofW (cc := cX4_separator) (maxL := 3) (ret := (some .int)) (by decide) rfl ?_
  intro p e s m args below meth c s₁ B hml ht hv
  obtain ⟨rfl, hsz, C⟩ := cx_entry hv
  have hx := B.exec
  have hb := B.bytes
  have hr := B.returns
  have hts := atoms_spec (ws := wsX4_separator) B.pre
  have hown : s.vm.findClass RX4 = some m.cls := findClass_of_methodNamed B.named
  have hlocks := B.notSynchronized
  have J26 : ∀ (x1 : Int32) (w : St) (H : Heap) (locs : List Loc) (ls : Array Slot), fX4_separator_26 x1 w = some (.inl k, u') → CX (wA ad ck) ck D tt (va_A (wA ad ck u) sz) s w H locs → lv_has ls 3 [(0, .ref (ad 0)), (1, .int x1)] → W p l e (headSpec wsX4_separator rmTX4_separator).room s m ([.ref (ad 0), .int a1] : List Value).toArray below meth c H locs 0 0 (vx_MQ below QN (XT (wA ad ck) D u sz k u') ([.ref (ad 0), .int a1] : List Value).toArray s 1 6 (va_A (wA ad ck u) sz)) (F0 m 26 ls []) := by
    intro x1 w H locs ls hf C hl
    unfold fX4_separator_26 at hf
    refine lv_aload_n hx hb dX4_separator_26 rfl (lv_at hl 0 rfl) ?_
    refine cx_get C hx hb (T := TX4) (N := 8) hts (by decide +kernel) hown 0 rfl rfl 6 (by decide) (hts (.fieldLink RX4 45 "AggregateRows" "between" "I") (by decide +kernel)) (fun _ h9 => h9) (v := .int (w.1 1)) rfl dX4_separator_27 ?_
    refine lv_topi (fun x2_1 ex2_1 => ?_)
    replace hf := lt_at hf ex2_1
    refine lv_istore_n (lv' := [(2, .int x2_1), (0, .ref (ad 0)), (1, .int x1)]) hx hb dX4_separator_30 rfl hl (by decide) rfl (fun ls hl => ?_)
    refine lv_aload_n hx hb dX4_separator_31 rfl (lv_at hl 1 rfl) ?_
    refine lv_iload_n hx hb dX4_separator_32 rfl (lv_at hl 2 rfl) ?_
    refine cx_puti C hx hb (T := TX4) (N := 8) hts (by decide +kernel) tyX4 tyX4_ok nmX4 hown 0 rfl rfl 6 (by decide) (hts (.fieldLink RX4 45 "AggregateRows" "between" "I") (by decide +kernel)) (fun _ h9 => h9) rfl (by decide +kernel) (Nat.le_of_ble_eq_true rfl) (u1 := sS w 1 x1) rfl dX4_separator_33 (fun u_2 H locs eu_2 C => ?_)
    replace hf := lt_at hf eu_2
    refine lv_iload_n hx hb dX4_separator_36 rfl (lv_at hl 0 rfl) ?_
    cases hf
  have hl := lv_entry ([.ref (ad 0), .int a1]) (n := 3) (Nat.le_of_ble_eq_true rfl)
  rw [lg_entry_eq]
  generalize (lg_sl ([.ref (ad 0), .int a1]) ++ List.replicate (3 - (lg_sl ([.ref (ad 0), .int a1])).length) Slot.unset).toArray = ls at hl ⊢
  have hl : lv_has ls 3 [(0, .ref (ad 0)), (1, .int a1)] := hl
  unfold fX4_separator at hf
  refine lv_iload_n hx hb dX4_separator_0 rfl (lv_at hl 1 rfl) ?_
  refine lv_if_eq (tgt := 26) hx hb dX4_separator_1 (by decide) (fun c_1 => ?_) (fun c_1 => ?_)
  · replace hf := (if_pos c_1).symm.trans hf
    exact J26 a1 u _ _ _ hf C (lv_sub hl [0, 1] rfl)
  · replace hf := (if_neg c_1).symm.trans hf
    refine lv_iload_n hx hb dX4_separator_4 rfl (lv_at hl 1 rfl) ?_
    refine lv_bipush (v := 32) hx hb dX4_separator_5 (by decide) ?_
    refine lv_icmp_lt (tgt := 16) hx hb dX4_separator_7 (by decide) (fun c_2 => ?_) (fun c_2 => ?_)
    · replace hf := (if_pos c_2).symm.trans hf
      exact cx_throw (k0 := 1) C hx hb hst hown (cls := xA) (text := "no such separator") (ik := 53) (is := 95) (ic := 57) rfl (by decide +kernel) (hts (.classLink RX4 53 xA) (by decide +kernel)) (hts (.initialized xA) (by decide +kernel)) (by decide) (fun w h => hts w (xi_X4_separator_A w h)) xb_A C.2.2.2.2.2.2.2.2.2.2.1 xg_A (hl.1.trans hml.symm) dX4_separator_16 dX4_separator_19 dX4_separator_20 dX4_separator_22 dX4_separator_25 ht (Nat.le_of_ble_eq_true rfl) (Nat.le_of_ble_eq_true rfl) (Nat.le_of_ble_eq_true rfl) (Nat.le_of_ble_eq_true rfl) hlocks (Nat.le_refl _) (Nat.le_refl _) hf
    · replace hf := (if_neg c_2).symm.trans hf
      refine lv_iload_n hx hb dX4_separator_10 rfl (lv_at hl 1 rfl) ?_
      refine lv_bipush (v := 126) hx hb dX4_separator_11 (by decide) ?_
      refine lv_icmp_le (tgt := 26) hx hb dX4_separator_13 (by decide) (fun c_3 => ?_) (fun c_3 => ?_)
      · replace hf := (if_pos c_3).symm.trans hf
        exact J26 a1 u _ _ _ hf C (lv_sub hl [0, 1] rfl)
      · replace hf := (if_neg c_3).symm.trans hf
        exact cx_throw (k0 := 1) C hx hb hst hown (cls := xA) (text := "no such separator") (ik := 53) (is := 95) (ic := 57) rfl (by decide +kernel) (hts (.classLink RX4 53 xA) (by decide +kernel)) (hts (.initialized xA) (by decide +kernel)) (by decide) (fun w h => hts w (xi_X4_separator_A w h)) xb_A C.2.2.2.2.2.2.2.2.2.2.1 xg_A (hl.1.trans hml.symm) dX4_separator_16 dX4_separator_19 dX4_separator_20 dX4_separator_22 dX4_separator_25 ht (Nat.le_of_ble_eq_true rfl) (Nat.le_of_ble_eq_true rfl) (Nat.le_of_ble_eq_true rfl) (Nat.le_of_ble_eq_true rfl) hlocks (Nat.le_refl _) (Nat.le_refl _) hf
/-! ===== X4_own ===== -/
def fX4_own (u : St) (a1 : Int32) : Option ((Nat ⊕ Int32) × St) := (if a1 < 0 then some (.inl 1, u) else (if a1 ≤ 2 then lt_ (u.1 2) (fun x2_3 => lt_ (sS u 2 a1) (fun u_4 => some (.inr x2_3, u_4))) else some (.inl 1, u)))
theorem xi_X4_own_A : ∀ w ∈ (vx_atS RX4 57 xA xns).filter goodWord, w ∈ wsX4_own := by decide +kernel
abbrev rmX4_own : Room := { frames := 6, cells := 0, slots := 0, locals := 92 }
set_option maxHeartbeats 4000000 in
set_option maxRecDepth 100000 in
theorem k_X4_own (l : Launch) (ad : Nat → Nat) (ck : Nat → ClassId) (D : va_G) (tt : Nat) {u : St} {a1 : Int32} {r : Int32} {u' : St} (hf : fX4_own u a1 = some (.inr r, u')) : MI l yX4_own wsX4_own rmX4_own (wA ad ck) ck D tt [.ref (ad 0), .int a1] u r u' := by
  intro sz
  refine Met.ofW (cc := cX4_own) (maxL := 3) (ret := (some .int)) (by decide) rfl ?_
  intro p e s m args below meth c s₁ B hml hv
  obtain ⟨rfl, hsz, C⟩ := cx_entry hv
  have hx := B.exec
  have hb := B.bytes
  have hr := B.returns
  have hts := atoms_spec (ws := wsX4_own) B.pre
  have hown : s.vm.findClass RX4 = some m.cls := findClass_of_methodNamed B.named
  have hlocks := B.notSynchronized
  have hl := lv_entry ([.ref (ad 0), .int a1]) (n := 3) (Nat.le_of_ble_eq_true rfl)
  rw [lg_entry_eq]
  generalize (lg_sl ([.ref (ad 0), .int a1]) ++ List.replicate (3 - (lg_sl ([.ref (ad 0), .int a1])).length) Slot.unset).toArray = ls at hl ⊢
  have hl : lv_has ls 3 [(0, .ref (ad 0)), (1, .int a1)] := hl
  unfold fX4_own at hf
  refine lv_iload_n hx hb dX4_own_0 rfl (lv_at hl 1 rfl) ?_
  refine lv_if_lt (tgt := 9) hx hb dX4_own_1 (by decide) (fun c_1 => ?_) (fun c_1 => ?_)
  · replace hf := (if_pos c_1).symm.trans hf
    cases hf
  · replace hf := (if_neg c_1).symm.trans hf
    refine lv_iload_n hx hb dX4_own_4 rfl (lv_at hl 1 rfl) ?_
    refine lv_iconst (v := 2) hx hb dX4_own_5 (by decide) ?_
    refine lv_icmp_le (tgt := 19) hx hb dX4_own_6 (by decide) (fun c_2 => ?_) (fun c_2 => ?_)
    · replace hf := (if_pos c_2).symm.trans hf
      refine lv_aload_n hx hb dX4_own_19 rfl (lv_at hl 0 rfl) ?_
      refine cx_get C hx hb (T := TX4) (N := 8) hts (by decide +kernel) hown 0 rfl rfl 7 (by decide) (hts (.fieldLink RX4 48 "AggregateRows" "ownType" "I") (by decide +kernel)) (fun _ h9 => h9) (v := .int (u.1 2)) rfl dX4_own_20 ?_
      refine lv_topi (fun x2_3 ex2_3 => ?_)
      replace hf := lt_at hf ex2_3
      refine lv_istore_n (lv' := [(2, .int x2_3), (0, .ref (ad 0)), (1, .int a1)]) hx hb dX4_own_23 rfl hl (by decide) rfl (fun ls hl => ?_)
      refine lv_aload_n hx hb dX4_own_24 rfl (lv_at hl 1 rfl) ?_
      refine lv_iload_n hx hb dX4_own_25 rfl (lv_at hl 2 rfl) ?_
      refine cx_puti C hx hb (T := TX4) (N := 8) hts (by decide +kernel) tyX4 tyX4_ok nmX4 hown 0 rfl rfl 7 (by decide) (hts (.fieldLink RX4 48 "AggregateRows" "ownType" "I") (by decide +kernel)) (fun _ h9 => h9) rfl (by decide +kernel) (Nat.le_of_ble_eq_true rfl) (u1 := sS u 2 a1) rfl dX4_own_26 (fun u_4 H locs eu_4 C => ?_)
      replace hf := lt_at hf eu_4
      refine lv_iload_n hx hb dX4_own_29 rfl (lv_at hl 0 rfl) ?_
      exact cx_iretT C hx hb hr hlocks hf dX4_own_30
    · replace hf := (if_neg c_2).symm.trans hf
      cases hf
abbrev rmTX4_own : Room := { frames := 6, cells := 1, slots := 6, locals := 92 }
set_option maxHeartbeats 4000000 in
set_option maxRecDepth 100000 in
theorem t_X4_own (l : Launch) (ad : Nat → Nat) (ck : Nat → ClassId) (D : va_G) (tt : Nat) (hst : l.stackTraces = false) {u : St} {a1 : Int32} {k : Nat} {u' : St} (hf : fX4_own u a1 = some (.inl k, u')) : MT l yX4_own wsX4_own rmTX4_own (wA ad ck) ck D tt [.ref (ad 0), .int a1] u k u' := by
  intro sz
  refine vx_ofW (cc := cX4_own) (maxL := 3) (ret := (some .int)) (by decide) rfl ?_
  intro p e s m args below meth c s₁ B hml ht hv
  obtain ⟨rfl, hsz, C⟩ := cx_entry hv
  have hx := B.exec
  have hb := B.bytes
  have hr := B.returns
  have hts := atoms_spec (ws := wsX4_own) B.pre
  have hown : s.vm.findClass RX4 = some m.cls := findClass_of_methodNamed B.named
  have hlocks := B.notSynchronized
  have hl := lv_entry ([.ref (ad 0), .int a1]) (n := 3) (Nat.le_of_ble_eq_true rfl)
  rw [lg_entry_eq]
  generalize (lg_sl ([.ref (ad 0), .int a1]) ++ List.replicate (3 - (lg_sl ([.ref (ad 0), .int a1])).length) Slot.unset).toArray = ls at hl ⊢
  have hl : lv_has ls 3 [(0, .ref (ad 0)), (1, .int a1)] := hl
  unfold fX4_own at hf
  refine lv_iload_n hx hb dX4_own_0 rfl (lv_at hl 1 rfl) ?_
  refine lv_if_lt (tgt := 9) hx hb dX4_own_1 (by decide) (fun c_1 => ?_) (fun c_1 => ?_)
  · replace hf := (if_pos c_1).symm.trans hf
    exact cx_throw (k0 := 1) C hx hb hst hown (cls := xA) (text := "no such type") (ik := 53) (is := 97) (ic := 57) rfl (by decide +kernel) (hts (.classLink RX4 53 xA) (by decide +kernel)) (hts (.initialized xA) (by decide +kernel)) (by decide) (fun w h => hts w (xi_X4_own_A w h)) xb_A C.2.2.2.2.2.2.2.2.2.2.1 xg_A (hl.1.trans hml.symm) dX4_own_9 dX4_own_12 dX4_own_13 dX4_own_15 dX4_own_18 ht (Nat.le_of_ble_eq_true rfl) (Nat.le_of_ble_eq_true rfl) (Nat.le_of_ble_eq_true rfl) (Nat.le_of_ble_eq_true rfl) hlocks (Nat.le_refl _) (Nat.le_refl _) hf
  · replace hf := (if_neg c_1).symm.trans hf
    refine lv_iload_n hx hb dX4_own_4 rfl (lv_at hl 1 rfl) ?_
    refine lv_iconst (v := 2) hx hb dX4_own_5 (by decide) ?_
    refine lv_icmp_le (tgt := 19) hx hb dX4_own_6 (by decide) (fun c_2 => ?_) (fun c_2 => ?_)
    · replace hf := (if_pos c_2).symm.trans hf
      refine lv_aload_n hx hb dX4_own_19 rfl (lv_at hl 0 rfl) ?_
      refine cx_get C hx hb (T := TX4) (N := 8) hts (by decide +kernel) hown 0 rfl rfl 7 (by decide) (hts (.fieldLink RX4 48 "AggregateRows" "ownType" "I") (by decide +kernel)) (fun _ h9 => h9) (v := .int (u.1 2)) rfl dX4_own_20 ?_
      refine lv_topi (fun x2_3 ex2_3 => ?_)
      replace hf := lt_at hf ex2_3
      refine lv_istore_n (lv' := [(2, .int x2_3), (0, .ref (ad 0)), (1, .int a1)]) hx hb dX4_own_23 rfl hl (by decide) rfl (fun ls hl => ?_)
      refine lv_aload_n hx hb dX4_own_24 rfl (lv_at hl 1 rfl) ?_
      refine lv_iload_n hx hb dX4_own_25 rfl (lv_at hl 2 rfl) ?_
      refine cx_puti C hx hb (T := TX4) (N := 8) hts (by decide +kernel) tyX4 tyX4_ok nmX4 hown 0 rfl rfl 7 (by decide) (hts (.fieldLink RX4 48 "AggregateRows" "ownType" "I") (by decide +kernel)) (fun _ h9 => h9) rfl (by decide +kernel) (Nat.le_of_ble_eq_true rfl) (u1 := sS u 2 a1) rfl dX4_own_26 (fun u_4 H locs eu_4 C => ?_)
      replace hf := lt_at hf eu_4
      refine lv_iload_n hx hb dX4_own_29 rfl (lv_at hl 0 rfl) ?_
      cases hf
    · replace hf := (if_neg c_2).symm.trans hf
      exact cx_throw (k0 := 1) C hx hb hst hown (cls := xA) (text := "no such type") (ik := 53) (is := 97) (ic := 57) rfl (by decide +kernel) (hts (.classLink RX4 53 xA) (by decide +kernel)) (hts (.initialized xA) (by decide +kernel)) (by decide) (fun w h => hts w (xi_X4_own_A w h)) xb_A C.2.2.2.2.2.2.2.2.2.2.1 xg_A (hl.1.trans hml.symm) dX4_own_9 dX4_own_12 dX4_own_13 dX4_own_15 dX4_own_18 ht (Nat.le_of_ble_eq_true rfl) (Nat.le_of_ble_eq_true rfl) (Nat.le_of_ble_eq_true rfl) (Nat.le_of_ble_eq_true rfl) hlocks (Nat.le_refl _) (Nat.le_refl _) hf
/-! ===== X4_number ===== -/
def fX4_number (u : St) (a1 : Int32) (a2 : Int32) : Option ((Nat ⊕ Int32) × St) := (if a1 < (-1000000) then some (.inl 1, u) else (if 1000000 < a1 then some (.inl 1, u) else (if a2 < 0 then some (.inl 1, u) else (if a2 ≤ 3 then bndT (fX4_termOf u 0 a1 a2) (fun r_6 u_7 => some (.inr r_6, u_7)) else some (.inl 1, u)))))
theorem xi_X4_number_A : ∀ w ∈ (vx_atS RX4 57 xA xns).filter goodWord, w ∈ wsX4_number := by decide +kernel
abbrev rmX4_number : Room := { frames := 7, cells := 0, slots := 0, locals := 117 }
set_option maxHeartbeats 4000000 in
set_option maxRecDepth 100000 in
theorem k_X4_number (l : Launch) (ad : Nat → Nat) (ck : Nat → ClassId) (D : va_G) (tt : Nat) {u : St} {a1 : Int32} {a2 : Int32} {r : Int32} {u' : St} (hf : fX4_number u a1 a2 = some (.inr r, u')) : MI l yX4_number wsX4_number rmX4_number (wA ad ck) ck D tt [.ref (ad 0), .int a1, .int a2] u r u' := by
  intro sz
  refine Met.ofW (cc := cX4_number) (maxL := 3) (ret := (some .int)) (by decide) rfl ?_
  intro p e s m args below meth c s₁ B hml hv
  obtain ⟨rfl, hsz, C⟩ := cx_entry hv
  have hx := B.exec
  have hb := B.bytes
  have hr := B.returns
  have hts := atoms_spec (ws := wsX4_number) B.pre
  have hown : s.vm.findClass RX4 = some m.cls := findClass_of_methodNamed B.named
  have hlocks := B.notSynchronized
  have hl := lv_entry ([.ref (ad 0), .int a1, .int a2]) (n := 3) (Nat.le_of_ble_eq_true rfl)
  rw [lg_entry_eq]
  generalize (lg_sl ([.ref (ad 0), .int a1, .int a2]) ++ List.replicate (3 - (lg_sl ([.ref (ad 0), .int a1, .int a2])).length) Slot.unset).toArray = ls at hl ⊢
  have hl : lv_has ls 3 [(0, .ref (ad 0)), (1, .int a1), (2, .int a2)] := hl
  unfold fX4_number at hf
  refine lv_iload_n hx hb dX4_number_0 rfl (lv_at hl 1 rfl) ?_
  refine lv_ldc (v := (-1000000)) hx hb hown (hts (.constant RX4 51 (-1000000)) (by decide +kernel)) dX4_number_1 ?_
  refine lv_icmp_lt (tgt := 21) hx hb dX4_number_3 (by decide) (fun c_1 => ?_) (fun c_1 => ?_)
  · replace hf := (if_pos c_1).symm.trans hf
    cases hf
  · replace hf := (if_neg c_1).symm.trans hf
    refine lv_iload_n hx hb dX4_number_6 rfl (lv_at hl 1 rfl) ?_
    refine lv_ldc (v := 1000000) hx hb hown (hts (.constant RX4 52 (1000000)) (by decide +kernel)) dX4_number_7 ?_
    refine lv_icmp_gt (tgt := 21) hx hb dX4_number_9 (by decide) (fun c_2 => ?_) (fun c_2 => ?_)
    · replace hf := (if_pos c_2).symm.trans hf
      cases hf
    · replace hf := (if_neg c_2).symm.trans hf
      refine lv_iload_n hx hb dX4_number_12 rfl (lv_at hl 2 rfl) ?_
      refine lv_if_lt (tgt := 21) hx hb dX4_number_13 (by decide) (fun c_3 => ?_) (fun c_3 => ?_)
      · replace hf := (if_pos c_3).symm.trans hf
        cases hf
      · replace hf := (if_neg c_3).symm.trans hf
        refine lv_iload_n hx hb dX4_number_16 rfl (lv_at hl 2 rfl) ?_
        refine lv_iconst (v := 3) hx hb dX4_number_17 (by decide) ?_
        refine lv_icmp_le (tgt := 31) hx hb dX4_number_18 (by decide) (fun c_4 => ?_) (fun c_4 => ?_)
        · replace hf := (if_pos c_4).symm.trans hf
          refine lv_aload_n hx hb dX4_number_31 rfl (lv_at hl 0 rfl) ?_
          refine lv_lconst (v := 0) hx hb dX4_number_32 (by decide) ?_
          refine lv_iload_n hx hb dX4_number_33 rfl (lv_at hl 1 rfl) ?_
          refine lv_iload_n hx hb dX4_number_34 rfl (lv_at hl 2 rfl) ?_
          obtain ⟨r_6, u_7, h_5, hf⟩ := bndT_inr hf
          refine cx_calli C (va_runV (As := [.long 0, .int a1, .int a2]) (rest := []) ⟨hx, hb, hml, hown, hts⟩ (k_X4_termOf l ad ck D tt h_5 _) (cwV 3 hts gX4_number_X4_termOf rfl rfl rfl (by decide +kernel) ⟨Nat.le_of_ble_eq_true rfl, Nat.le_of_ble_eq_true rfl⟩) (cx_preV C (q0 := 0) (ci := 4) rfl rfl) rfl rfl hl.1 rfl (lv_room (Nat.le_of_ble_eq_true rfl)) dX4_number_35 ⟨Nat.zero_le _, Nat.zero_le _⟩) (fun H locs C => ?_)
          exact cx_iretT C hx hb hr hlocks hf dX4_number_38
        · replace hf := (if_neg c_4).symm.trans hf
          cases hf
abbrev rmTX4_number : Room := { frames := 7, cells := 1, slots := 6, locals := 117 }
set_option maxHeartbeats 4000000 in
set_option maxRecDepth 100000 in
theorem t_X4_number (l : Launch) (ad : Nat → Nat) (ck : Nat → ClassId) (D : va_G) (tt : Nat) (hst : l.stackTraces = false) {u : St} {a1 : Int32} {a2 : Int32} {k : Nat} {u' : St} (hf : fX4_number u a1 a2 = some (.inl k, u')) : MT l yX4_number wsX4_number rmTX4_number (wA ad ck) ck D tt [.ref (ad 0), .int a1, .int a2] u k u' := by
  intro sz
  refine vx_ofW (cc := cX4_number) (maxL := 3) (ret := (some .int)) (by decide) rfl ?_
  intro p e s m args below meth c s₁ B hml ht hv
  obtain ⟨rfl, hsz, C⟩ := cx_entry hv
  have hx := B.exec
  have hb := B.bytes
  have hr := B.returns
  have hts := atoms_spec (ws := wsX4_number) B.pre
  have hown : s.vm.findClass RX4 = some m.cls := findClass_of_methodNamed B.named
  have hlocks := B.notSynchronized
  have hl := lv_entry ([.ref (ad 0), .int a1, .int a2]) (n := 3) (Nat.le_of_ble_eq_true rfl)
  rw [lg_entry_eq]
  generalize (lg_sl ([.ref (ad 0), .int a1, .int a2]) ++ List.replicate (3 - (lg_sl ([.ref (ad 0), .int a1, .int a2])).length) Slot.unset).toArray = ls at hl ⊢
  have hl : lv_has ls 3 [(0, .ref (ad 0)), (1, .int a1), (2, .int a2)] := hl
  unfold fX4_number at hf
  refine lv_iload_n hx hb dX4_number_0 rfl (lv_at hl 1 rfl) ?_
  refine lv_ldc (v := (-1000000)) hx hb hown (hts (.constant RX4 51 (-1000000)) (by decide +kernel)) dX4_number_1 ?_
  refine lv_icmp_lt (tgt := 21) hx hb dX4_number_3 (by decide) (fun c_1 => ?_) (fun c_1 => ?_)
  · replace hf := (if_pos c_1).symm.trans hf
    exact cx_throw (k0 := 1) C hx hb hst hown (cls := xA) (text := "no such number") (ik := 53) (is := 55) (ic := 57) rfl (by decide +kernel) (hts (.classLink RX4 53 xA) (by decide +kernel)) (hts (.initialized xA) (by decide +kernel)) (by decide) (fun w h => hts w (xi_X4_number_A w h)) xb_A C.2.2.2.2.2.2.2.2.2.2.1 xg_A (hl.1.trans hml.symm) dX4_number_21 dX4_number_24 dX4_number_25 dX4_number_27 dX4_number_30 ht (Nat.le_of_ble_eq_true rfl) (Nat.le_of_ble_eq_true rfl) (Nat.le_of_ble_eq_true rfl) (Nat.le_of_ble_eq_true rfl) hlocks (Nat.le_refl _) (Nat.le_refl _) hf
  · replace hf := (if_neg c_1).symm.trans hf
    refine lv_iload_n hx hb dX4_number_6 rfl (lv_at hl 1 rfl) ?_
    refine lv_ldc (v := 1000000) hx hb hown (hts (.constant RX4 52 (1000000)) (by decide +kernel)) dX4_number_7 ?_
    refine lv_icmp_gt (tgt := 21) hx hb dX4_number_9 (by decide) (fun c_2 => ?_) (fun c_2 => ?_)
    · replace hf := (if_pos c_2).symm.trans hf
      exact cx_throw (k0 := 1) C hx hb hst hown (cls := xA) (text := "no such number") (ik := 53) (is := 55) (ic := 57) rfl (by decide +kernel) (hts (.classLink RX4 53 xA) (by decide +kernel)) (hts (.initialized xA) (by decide +kernel)) (by decide) (fun w h => hts w (xi_X4_number_A w h)) xb_A C.2.2.2.2.2.2.2.2.2.2.1 xg_A (hl.1.trans hml.symm) dX4_number_21 dX4_number_24 dX4_number_25 dX4_number_27 dX4_number_30 ht (Nat.le_of_ble_eq_true rfl) (Nat.le_of_ble_eq_true rfl) (Nat.le_of_ble_eq_true rfl) (Nat.le_of_ble_eq_true rfl) hlocks (Nat.le_refl _) (Nat.le_refl _) hf
    · replace hf := (if_neg c_2).symm.trans hf
      refine lv_iload_n hx hb dX4_number_12 rfl (lv_at hl 2 rfl) ?_
      refine lv_if_lt (tgt := 21) hx hb dX4_number_13 (by decide) (fun c_3 => ?_) (fun c_3 => ?_)
      · replace hf := (if_pos c_3).symm.trans hf
        exact cx_throw (k0 := 1) C hx hb hst hown (cls := xA) (text := "no such number") (ik := 53) (is := 55) (ic := 57) rfl (by decide +kernel) (hts (.classLink RX4 53 xA) (by decide +kernel)) (hts (.initialized xA) (by decide +kernel)) (by decide) (fun w h => hts w (xi_X4_number_A w h)) xb_A C.2.2.2.2.2.2.2.2.2.2.1 xg_A (hl.1.trans hml.symm) dX4_number_21 dX4_number_24 dX4_number_25 dX4_number_27 dX4_number_30 ht (Nat.le_of_ble_eq_true rfl) (Nat.le_of_ble_eq_true rfl) (Nat.le_of_ble_eq_true rfl) (Nat.le_of_ble_eq_true rfl) hlocks (Nat.le_refl _) (Nat.le_refl _) hf
      · replace hf := (if_neg c_3).symm.trans hf
        refine lv_iload_n hx hb dX4_number_16 rfl (lv_at hl 2 rfl) ?_
        refine lv_iconst (v := 3) hx hb dX4_number_17 (by decide) ?_
        refine lv_icmp_le (tgt := 31) hx hb dX4_number_18 (by decide) (fun c_4 => ?_) (fun c_4 => ?_)
        · replace hf := (if_pos c_4).symm.trans hf
          refine lv_aload_n hx hb dX4_number_31 rfl (lv_at hl 0 rfl) ?_
          refine lv_lconst (v := 0) hx hb dX4_number_32 (by decide) ?_
          refine lv_iload_n hx hb dX4_number_33 rfl (lv_at hl 1 rfl) ?_
          refine lv_iload_n hx hb dX4_number_34 rfl (lv_at hl 2 rfl) ?_
          rcases bndT_inl hf with h_5 | ⟨r_6, u_7, h_5, hf⟩
          · exact cx_passv C ht hlocks (vx_runV (As := [.long 0, .int a1, .int a2]) (rest := []) ⟨hx, hb, hml, hown, hts⟩ (t_X4_termOf l ad ck D tt hst h_5 _) (cwV 3 hts gX4_number_X4_termOf rfl rfl rfl (by decide +kernel) ⟨Nat.le_of_ble_eq_true rfl, Nat.le_of_ble_eq_true rfl⟩) (cx_preV C (q0 := 0) (ci := 4) rfl rfl) rfl rfl hl.1 rfl (lv_room (Nat.le_of_ble_eq_true rfl)) dX4_number_35 ⟨Nat.le_of_ble_eq_true rfl, Nat.le_of_ble_eq_true rfl⟩) (Nat.le_refl _) (Nat.le_refl _)
          · refine cx_calli C (va_runV (As := [.long 0, .int a1, .int a2]) (rest := []) ⟨hx, hb, hml, hown, hts⟩ (k_X4_termOf l ad ck D tt h_5 _) (cwV 3 hts gX4_number_X4_termOf rfl rfl rfl (by decide +kernel) ⟨Nat.le_of_ble_eq_true rfl, Nat.le_of_ble_eq_true rfl⟩) (cx_preV C (q0 := 0) (ci := 4) rfl rfl) rfl rfl hl.1 rfl (lv_room (Nat.le_of_ble_eq_true rfl)) dX4_number_35 ⟨Nat.zero_le _, Nat.zero_le _⟩) (fun H locs C => ?_)
            cases hf
        · replace hf := (if_neg c_4).symm.trans hf
          exact cx_throw (k0 := 1) C hx hb hst hown (cls := xA) (text := "no such number") (ik := 53) (is := 55) (ic := 57) rfl (by decide +kernel) (hts (.classLink RX4 53 xA) (by decide +kernel)) (hts (.initialized xA) (by decide +kernel)) (by decide) (fun w h => hts w (xi_X4_number_A w h)) xb_A C.2.2.2.2.2.2.2.2.2.2.1 xg_A (hl.1.trans hml.symm) dX4_number_21 dX4_number_24 dX4_number_25 dX4_number_27 dX4_number_30 ht (Nat.le_of_ble_eq_true rfl) (Nat.le_of_ble_eq_true rfl) (Nat.le_of_ble_eq_true rfl) (Nat.le_of_ble_eq_true rfl) hlocks (Nat.le_refl _) (Nat.le_refl _) hf
/-! ===== X4_text ===== -/
def fX4_text (u : St) (a1 : Int64) : Option ((Nat ⊕ Int32) × St) := bnd (fX2_aligned u a1) (fun r_2 u_3 => (if r_2 = 0 then some (.inl 1, u_3) else bndT (fX4_termOf u_3 r_2 0 0) (fun r_6 u_7 => some (.inr r_6, u_7))))
theorem xi_X4_text_A : ∀ w ∈ (vx_atS RX4 57 xA xns).filter goodWord, w ∈ wsX4_text := by decide +kernel
abbrev rmX4_text : Room := { frames := 7, cells := 0, slots := 0, locals := 117 }
set_option maxHeartbeats 4000000 in
set_option maxRecDepth 100000 in
theorem k_X4_text (l : Launch) (ad : Nat → Nat) (ck : Nat → ClassId) (D : va_G) (tt : Nat) {u : St} {a1 : Int64} {r : Int32} {u' : St} (hf : fX4_text u a1 = some (.inr r, u')) : MI l yX4_text wsX4_text rmX4_text (wA ad ck) ck D tt [.ref (ad 0), .long a1] u r u' := by
  intro sz
  refine Met.ofW (cc := cX4_text) (maxL := 5) (ret := (some .int)) (by decide) rfl ?_
  intro p e s m args below meth c s₁ B hml hv
  obtain ⟨rfl, hsz, C⟩ := cx_entry hv
  have hx := B.exec
  have hb := B.bytes
  have hr := B.returns
  have hts := atoms_spec (ws := wsX4_text) B.pre
  have hown : s.vm.findClass RX4 = some m.cls := findClass_of_methodNamed B.named
  have hlocks := B.notSynchronized
  have hl := lv_entry ([.ref (ad 0), .long a1]) (n := 5) (Nat.le_of_ble_eq_true rfl)
  rw [lg_entry_eq]
  generalize (lg_sl ([.ref (ad 0), .long a1]) ++ List.replicate (5 - (lg_sl ([.ref (ad 0), .long a1])).length) Slot.unset).toArray = ls at hl ⊢
  have hl : lv_has ls 5 [(0, .ref (ad 0)), (1, .long a1)] := hl
  unfold fX4_text at hf
  refine lv_lload_n hx hb dX4_text_0 rfl (lv_at hl 1 rfl) ?_
  obtain ⟨r_2, u_3, h_1, hf⟩ := bnd_some hf
  refine cx_calll C (va_runS (As := [.long a1]) (rest := []) ⟨hx, hb, hml, hown, hts⟩ (k_X2_aligned l ad ck D tt h_1 _) (va_cwS 1 hts gX4_text_X2_aligned rfl rfl rfl (by decide +kernel) ⟨Nat.le_of_ble_eq_true rfl, Nat.le_of_ble_eq_true rfl⟩) (cx_preS C) rfl rfl hl.1 rfl (lv_room (Nat.le_of_ble_eq_true rfl)) dX4_text_1 ⟨Nat.zero_le _, Nat.zero_le _⟩) (fun H locs C => ?_)
  refine lv_lstore_n (lv' := [(3, .long r_2), (0, .ref (ad 0)), (1, .long a1)]) hx hb dX4_text_4 rfl hl (by decide) rfl (fun ls hl => ?_)
  refine lv_lload_n hx hb dX4_text_5 rfl (lv_at hl 0 rfl) ?_
  refine lv_lconst (v := 0) hx hb dX4_text_6 (by decide) ?_
  refine W.lcmp hx hb dX4_text_7 ?_
  refine lv_if_ne (tgt := 21) hx hb dX4_text_8 (by decide) (fun c_4 => ?_) (fun c_4 => ?_)
  · replace hf := (if_neg (fun q => c_4 ((lg_cmp_eq _ _).mpr q))).symm.trans hf
    refine lv_aload_n hx hb dX4_text_21 rfl (lv_at hl 1 rfl) ?_
    refine lv_lload_n hx hb dX4_text_22 rfl (lv_at hl 0 rfl) ?_
    refine lv_iconst (v := 0) hx hb dX4_text_23 (by decide) ?_
    refine lv_iconst (v := 0) hx hb dX4_text_24 (by decide) ?_
    obtain ⟨r_6, u_7, h_5, hf⟩ := bndT_inr hf
    refine cx_calli C (va_runV (As := [.long r_2, .int 0, .int 0]) (rest := []) ⟨hx, hb, hml, hown, hts⟩ (k_X4_termOf l ad ck D tt h_5 _) (cwV 3 hts gX4_text_X4_termOf rfl rfl rfl (by decide +kernel) ⟨Nat.le_of_ble_eq_true rfl, Nat.le_of_ble_eq_true rfl⟩) (cx_preV C (q0 := 0) (ci := 4) rfl rfl) rfl rfl hl.1 rfl (lv_room (Nat.le_of_ble_eq_true rfl)) dX4_text_25 ⟨Nat.zero_le _, Nat.zero_le _⟩) (fun H locs C => ?_)
    exact cx_iretT C hx hb hr hlocks hf dX4_text_28
  · replace hf := (if_pos ((lg_cmp_eq _ _).mp c_4)).symm.trans hf
    cases hf
abbrev rmTX4_text : Room := { frames := 7, cells := 1, slots := 6, locals := 117 }
set_option maxHeartbeats 4000000 in
set_option maxRecDepth 100000 in
theorem t_X4_text (l : Launch) (ad : Nat → Nat) (ck : Nat → ClassId) (D : va_G) (tt : Nat) (hst : l.stackTraces = false) {u : St} {a1 : Int64} {k : Nat} {u' : St} (hf : fX4_text u a1 = some (.inl k, u')) : MT l yX4_text wsX4_text rmTX4_text (wA ad ck) ck D tt [.ref (ad 0), .long a1] u k u' := by
  intro sz
  refine vx_ofW (cc := cX4_text) (maxL := 5) (ret := (some .int)) (by decide) rfl ?_
  intro p e s m args below meth c s₁ B hml ht hv
  obtain ⟨rfl, hsz, C⟩ := cx_entry hv
  have hx := B.exec
  have hb := B.bytes
  have hr := B.returns
  have hts := atoms_spec (ws := wsX4_text) B.pre
  have hown : s.vm.findClass RX4 = some m.cls := findClass_of_methodNamed B.named
  have hlocks := B.notSynchronized
  have hl := lv_entry ([.ref (ad 0), .long a1]) (n := 5) (Nat.le_of_ble_eq_true rfl)
  rw [lg_entry_eq]
  generalize (lg_sl ([.ref (ad 0), .long a1]) ++ List.replicate (5 - (lg_sl ([.ref (ad 0), .long a1])).length) Slot.unset).toArray = ls at hl ⊢
  have hl : lv_has ls 5 [(0, .ref (ad 0)), (1, .long a1)] := hl
  unfold fX4_text at hf
  refine lv_lload_n hx hb dX4_text_0 rfl (lv_at hl 1 rfl) ?_
  obtain ⟨r_2, u_3, h_1, hf⟩ := bnd_some hf
  refine cx_calll C (va_runS (As := [.long a1]) (rest := []) ⟨hx, hb, hml, hown, hts⟩ (k_X2_aligned l ad ck D tt h_1 _) (va_cwS 1 hts gX4_text_X2_aligned rfl rfl rfl (by decide +kernel) ⟨Nat.le_of_ble_eq_true rfl, Nat.le_of_ble_eq_true rfl⟩) (cx_preS C) rfl rfl hl.1 rfl (lv_room (Nat.le_of_ble_eq_true rfl)) dX4_text_1 ⟨Nat.zero_le _, Nat.zero_le _⟩) (fun H locs C => ?_)
  refine lv_lstore_n (lv' := [(3, .long r_2), (0, .ref (ad 0)), (1, .long a1)]) hx hb dX4_text_4 rfl hl (by decide) rfl (fun ls hl => ?_)
  refine lv_lload_n hx hb dX4_text_5 rfl (lv_at hl 0 rfl) ?_
  refine lv_lconst (v := 0) hx hb dX4_text_6 (by decide) ?_
  refine W.lcmp hx hb dX4_text_7 ?_
  refine lv_if_ne (tgt := 21) hx hb dX4_text_8 (by decide) (fun c_4 => ?_) (fun c_4 => ?_)
  · replace hf := (if_neg (fun q => c_4 ((lg_cmp_eq _ _).mpr q))).symm.trans hf
    refine lv_aload_n hx hb dX4_text_21 rfl (lv_at hl 1 rfl) ?_
    refine lv_lload_n hx hb dX4_text_22 rfl (lv_at hl 0 rfl) ?_
    refine lv_iconst (v := 0) hx hb dX4_text_23 (by decide) ?_
    refine lv_iconst (v := 0) hx hb dX4_text_24 (by decide) ?_
    rcases bndT_inl hf with h_5 | ⟨r_6, u_7, h_5, hf⟩
    · exact cx_passv C ht hlocks (vx_runV (As := [.long r_2, .int 0, .int 0]) (rest := []) ⟨hx, hb, hml, hown, hts⟩ (t_X4_termOf l ad ck D tt hst h_5 _) (cwV 3 hts gX4_text_X4_termOf rfl rfl rfl (by decide +kernel) ⟨Nat.le_of_ble_eq_true rfl, Nat.le_of_ble_eq_true rfl⟩) (cx_preV C (q0 := 0) (ci := 4) rfl rfl) rfl rfl hl.1 rfl (lv_room (Nat.le_of_ble_eq_true rfl)) dX4_text_25 ⟨Nat.le_of_ble_eq_true rfl, Nat.le_of_ble_eq_true rfl⟩) (Nat.le_refl _) (Nat.le_refl _)
    · refine cx_calli C (va_runV (As := [.long r_2, .int 0, .int 0]) (rest := []) ⟨hx, hb, hml, hown, hts⟩ (k_X4_termOf l ad ck D tt h_5 _) (cwV 3 hts gX4_text_X4_termOf rfl rfl rfl (by decide +kernel) ⟨Nat.le_of_ble_eq_true rfl, Nat.le_of_ble_eq_true rfl⟩) (cx_preV C (q0 := 0) (ci := 4) rfl rfl) rfl rfl hl.1 rfl (lv_room (Nat.le_of_ble_eq_true rfl)) dX4_text_25 ⟨Nat.zero_le _, Nat.zero_le _⟩) (fun H locs C => ?_)
      cases hf
  · replace hf := (if_pos ((lg_cmp_eq _ _).mp c_4)).symm.trans hf
    exact cx_throw (k0 := 1) C hx hb hst hown (cls := xA) (text := "no small letters") (ik := 53) (is := 68) (ic := 57) rfl (by decide +kernel) (hts (.classLink RX4 53 xA) (by decide +kernel)) (hts (.initialized xA) (by decide +kernel)) (by decide) (fun w h => hts w (xi_X4_text_A w h)) xb_A C.2.2.2.2.2.2.2.2.2.2.1 xg_A (hl.1.trans hml.symm) dX4_text_11 dX4_text_14 dX4_text_15 dX4_text_17 dX4_text_20 ht (Nat.le_of_ble_eq_true rfl) (Nat.le_of_ble_eq_true rfl) (Nat.le_of_ble_eq_true rfl) (Nat.le_of_ble_eq_true rfl) hlocks (Nat.le_refl _) (Nat.le_refl _) hf
/-! ===== X4_row ===== -/
def fX4_row_37  (x1 : Int32) (x2 : Int32) (x3 : Int32) (x4 : Int32) (y0 : Int32) (w : St) : Option ((Nat ⊕ Int32) × St) := (if x4 = 0 then some (.inl 1, w) else bnd (fX2_has w x2) (fun r_3 u_4 => (if r_3 = 0 then some (.inl 1, u_4) else (if y0 = 0 then some (.inl 1, u_4) else bnd (fX1_isFull u_4) (fun r_8 u_9 => (if r_8 = 0 then bnd (fX1_add u_9 x1 x2 x3) (fun _ u_13 => bnd (fX1_count u_13) (fun r_15 u_16 => some (.inr r_15, u_16))) else some (.inl 2, u_9)))))))
def fX4_row_14  (x1 : Int32) (x2 : Int32) (x3 : Int32) (y0 : Int32) (w : St) : Option ((Nat ⊕ Int32) × St) := (if x3 = (-1) then fX4_row_37 x1 x2 x3 y0 1 w else bnd (fX2_has w x3) (fun r_3 u_4 => (if r_3 = 0 then fX4_row_37 x1 x2 x3 y0 0 u_4 else fX4_row_37 x1 x2 x3 y0 1 u_4)))
def fX4_row (u : St) (a1 : Int32) (a2 : Int32) (a3 : Int32) : Option ((Nat ⊕ Int32) × St) := (if a1 < 0 then fX4_row_14 a1 a2 a3 0 u else (if 2 < a1 then fX4_row_14 a1 a2 a3 0 u else fX4_row_14 a1 a2 a3 1 u))
theorem xi_X4_row_A : ∀ w ∈ (vx_atS RX4 57 xA xns).filter goodWord, w ∈ wsX4_row := by decide +kernel
theorem xi_X4_row_S : ∀ w ∈ (vx_atS RX4 84 xS xns).filter goodWord, w ∈ wsX4_row := by decide +kernel
abbrev rmX4_row : Room := { frames := 6, cells := 0, slots := 0, locals := 92 }
set_option maxHeartbeats 4000000 in
set_option maxRecDepth 100000 in
theorem k_X4_row (l : Launch) (ad : Nat → Nat) (ck : Nat → ClassId) (D : va_G) (tt : Nat) {u : St} {a1 : Int32} {a2 : Int32} {a3 : Int32} {r : Int32} {u' : St} (hf : fX4_row u a1 a2 a3 = some (.inr r, u')) : MI l yX4_row wsX4_row rmX4_row (wA ad ck) ck D tt [.ref (ad 0), .int a1, .int a2, .int a3] u r u' := by
  intro sz
  refine Met.ofW (cc := cX4_row) (maxL := 6) (ret := (some .int)) (by decide) rfl ?_
  intro p e s m args below meth c s₁ B hml hv
  obtain ⟨rfl, hsz, C⟩ := cx_entry hv
  have hx := B.exec
  have hb := B.bytes
  have hr := B.returns
  have hts := atoms_spec (ws := wsX4_row) B.pre
  have hown : s.vm.findClass RX4 = some m.cls := findClass_of_methodNamed B.named
  have hlocks := B.notSynchronized
  have J37 : ∀ (x1 : Int32) (x2 : Int32) (x3 : Int32) (x4 : Int32) (y0 : Int32) (w : St) (H : Heap) (locs : List Loc) (ls : Array Slot), fX4_row_37 x1 x2 x3 x4 y0 w = some (.inr r, u') → CX (wA ad ck) ck D tt (va_A (wA ad ck u) sz) s w H locs → lv_has ls 6 [(0, .ref (ad 0)), (1, .int x1), (2, .int x2), (3, .int x3), (4, .int x4)] → W p l e (headSpec wsX4_row rmX4_row).room s m ([.ref (ad 0), .int a1, .int a2, .int a3] : List Value).toArray below meth c H locs 0 0 (MQ below (QI (wA ad ck) D u sz r u') ([.ref (ad 0), .int a1, .int a2, .int a3] : List Value).toArray s 0 0 (va_A (wA ad ck u) sz)) (F0 m 37 ls [.int y0]) := by
    intro x1 x2 x3 x4 y0 w H locs ls hf C hl
    unfold fX4_row_37 at hf
    refine lv_istore (lv' := [(5, .int y0), (0, .ref (ad 0)), (1, .int x1), (2, .int x2), (3, .int x3), (4, .int x4)]) hx hb dX4_row_37 hl (by decide) rfl (fun ls hl => ?_)
    refine lv_iload hx hb dX4_row_39 (lv_at hl 5 rfl) ?_
    refine lv_if_eq (tgt := 60) hx hb dX4_row_41 (by decide) (fun c_1 => ?_) (fun c_1 => ?_)
    · replace hf := (if_pos c_1).symm.trans hf
      cases hf
    · replace hf := (if_neg c_1).symm.trans hf
      refine lv_aload_n hx hb dX4_row_44 rfl (lv_at hl 1 rfl) ?_
      refine cx_get C hx hb (T := TX4) (N := 8) hts (by decide +kernel) hown 0 rfl rfl 0 (by decide) (hts (.fieldLink RX4 10 "AggregateRows" "terms" "LAggregateRows$Terms;") (by decide +kernel)) (fun _ h9 => h9) (v := .ref (ad 1)) rfl dX4_row_45 ?_
      refine lv_iload_n hx hb dX4_row_48 rfl (lv_at hl 3 rfl) ?_
      obtain ⟨r_3, u_4, h_2, hf⟩ := bnd_some hf
      refine cx_calli C (va_runV (As := [.int x2]) (rest := []) ⟨hx, hb, hml, hown, hts⟩ (k_X2_has l ad ck D tt h_2 _) (cwV 1 hts gX4_row_X2_has rfl rfl rfl (by decide +kernel) ⟨Nat.le_of_ble_eq_true rfl, Nat.le_of_ble_eq_true rfl⟩) (cx_preV C (q0 := 1) (ci := 2) rfl rfl) rfl rfl hl.1 rfl (lv_room (Nat.le_of_ble_eq_true rfl)) dX4_row_49 ⟨Nat.zero_le _, Nat.zero_le _⟩) (fun H locs C => ?_)
      refine lv_if_eq (tgt := 60) hx hb dX4_row_52 (by decide) (fun c_5 => ?_) (fun c_5 => ?_)
      · replace hf := (if_pos c_5).symm.trans hf
        cases hf
      · replace hf := (if_neg c_5).symm.trans hf
        refine lv_iload hx hb dX4_row_55 (lv_at hl 0 rfl) ?_
        refine lv_if_ne (tgt := 70) hx hb dX4_row_57 (by decide) (fun c_6 => ?_) (fun c_6 => ?_)
        · replace hf := (if_neg c_6).symm.trans hf
          refine lv_aload_n hx hb dX4_row_70 rfl (lv_at hl 1 rfl) ?_
          refine cx_get C hx hb (T := TX4) (N := 8) hts (by decide +kernel) hown 0 rfl rfl 1 (by decide) (hts (.fieldLink RX4 19 "AggregateRows" "table" "LAggregateRows$RowTable;") (by decide +kernel)) (fun _ h9 => h9) (v := .ref (ad 5)) rfl dX4_row_71 ?_
          obtain ⟨r_8, u_9, h_7, hf⟩ := bnd_some hf
          refine cx_calli C (va_runV (As := []) (rest := []) ⟨hx, hb, hml, hown, hts⟩ (k_X1_isFull l ad ck D tt h_7 _) (cwV 0 hts gX4_row_X1_isFull rfl rfl rfl (by decide +kernel) ⟨Nat.le_of_ble_eq_true rfl, Nat.le_of_ble_eq_true rfl⟩) (cx_preV C (q0 := 5) (ci := 1) rfl rfl) rfl rfl hl.1 rfl (lv_room (Nat.le_of_ble_eq_true rfl)) dX4_row_74 ⟨Nat.zero_le _, Nat.zero_le _⟩) (fun H locs C => ?_)
          refine lv_if_eq (tgt := 90) hx hb dX4_row_77 (by decide) (fun c_10 => ?_) (fun c_10 => ?_)
          · replace hf := (if_pos c_10).symm.trans hf
            refine lv_aload_n hx hb dX4_row_90 rfl (lv_at hl 1 rfl) ?_
            refine cx_get C hx hb (T := TX4) (N := 8) hts (by decide +kernel) hown 0 rfl rfl 1 (by decide) (hts (.fieldLink RX4 19 "AggregateRows" "table" "LAggregateRows$RowTable;") (by decide +kernel)) (fun _ h9 => h9) (v := .ref (ad 5)) rfl dX4_row_91 ?_
            refine lv_iload_n hx hb dX4_row_94 rfl (lv_at hl 2 rfl) ?_
            refine lv_iload_n hx hb dX4_row_95 rfl (lv_at hl 3 rfl) ?_
            refine lv_iload_n hx hb dX4_row_96 rfl (lv_at hl 4 rfl) ?_
            obtain ⟨_, u_13, h_11, hf⟩ := bnd_some hf
            refine cx_callv C (va_runV (As := [.int x1, .int x2, .int x3]) (rest := []) ⟨hx, hb, hml, hown, hts⟩ (k_X1_add l ad ck D tt h_11 _) (cwV 3 hts gX4_row_X1_add rfl rfl rfl (by decide +kernel) ⟨Nat.le_of_ble_eq_true rfl, Nat.le_of_ble_eq_true rfl⟩) (cx_preV C (q0 := 5) (ci := 1) rfl rfl) rfl rfl hl.1 rfl (lv_room (Nat.le_of_ble_eq_true rfl)) dX4_row_97 ⟨Nat.zero_le _, Nat.zero_le _⟩) (fun H locs C => ?_)
            refine lv_aload_n hx hb dX4_row_100 rfl (lv_at hl 1 rfl) ?_
            refine cx_get C hx hb (T := TX4) (N := 8) hts (by decide +kernel) hown 0 rfl rfl 1 (by decide) (hts (.fieldLink RX4 19 "AggregateRows" "table" "LAggregateRows$RowTable;") (by decide +kernel)) (fun _ h9 => h9) (v := .ref (ad 5)) rfl dX4_row_101 ?_
            obtain ⟨r_15, u_16, h_14, hf⟩ := bnd_some hf
            refine cx_calli C (va_runV (As := []) (rest := []) ⟨hx, hb, hml, hown, hts⟩ (k_X1_count l ad ck D tt h_14 _) (cwV 0 hts gX4_row_X1_count rfl rfl rfl (by decide +kernel) ⟨Nat.le_of_ble_eq_true rfl, Nat.le_of_ble_eq_true rfl⟩) (cx_preV C (q0 := 5) (ci := 1) rfl rfl) rfl rfl hl.1 rfl (lv_room (Nat.le_of_ble_eq_true rfl)) dX4_row_104 ⟨Nat.zero_le _, Nat.zero_le _⟩) (fun H locs C => ?_)
            exact cx_iretT C hx hb hr hlocks hf dX4_row_107
          · replace hf := (if_neg c_10).symm.trans hf
            cases hf
        · replace hf := (if_pos c_6).symm.trans hf
          cases hf
  have J14 : ∀ (x1 : Int32) (x2 : Int32) (x3 : Int32) (y0 : Int32) (w : St) (H : Heap) (locs : List Loc) (ls : Array Slot), fX4_row_14 x1 x2 x3 y0 w = some (.inr r, u') → CX (wA ad ck) ck D tt (va_A (wA ad ck u) sz) s w H locs → lv_has ls 6 [(0, .ref (ad 0)), (1, .int x1), (2, .int x2), (3, .int x3)] → W p l e (headSpec wsX4_row rmX4_row).room s m ([.ref (ad 0), .int a1, .int a2, .int a3] : List Value).toArray below meth c H locs 0 0 (MQ below (QI (wA ad ck) D u sz r u') ([.ref (ad 0), .int a1, .int a2, .int a3] : List Value).toArray s 0 0 (va_A (wA ad ck u) sz)) (F0 m 14 ls [.int y0]) := by
    intro x1 x2 x3 y0 w H locs ls hf C hl
    unfold fX4_row_14 at hf
    refine lv_istore (lv' := [(4, .int y0), (0, .ref (ad 0)), (1, .int x1), (2, .int x2), (3, .int x3)]) hx hb dX4_row_14 hl (by decide) rfl (fun ls hl => ?_)
    refine lv_iload_n hx hb dX4_row_16 rfl (lv_at hl 4 rfl) ?_
    refine lv_iconst (v := (-1)) hx hb dX4_row_17 (by decide) ?_
    refine lv_icmp_eq (tgt := 32) hx hb dX4_row_18 (by decide) (fun c_1 => ?_) (fun c_1 => ?_)
    · replace hf := (if_pos c_1).symm.trans hf
      refine lv_iconst (v := 1) hx hb dX4_row_32 (by decide) ?_
      refine lv_goto (tgt := 37) hx hb dX4_row_33 (by decide) ?_
      exact J37 x1 x2 x3 y0 1 w _ _ _ hf C (lv_sub hl [1, 2, 3, 4, 0] rfl)
    · replace hf := (if_neg c_1).symm.trans hf
      refine lv_aload_n hx hb dX4_row_21 rfl (lv_at hl 1 rfl) ?_
      refine cx_get C hx hb (T := TX4) (N := 8) hts (by decide +kernel) hown 0 rfl rfl 0 (by decide) (hts (.fieldLink RX4 10 "AggregateRows" "terms" "LAggregateRows$Terms;") (by decide +kernel)) (fun _ h9 => h9) (v := .ref (ad 1)) rfl dX4_row_22 ?_
      refine lv_iload_n hx hb dX4_row_25 rfl (lv_at hl 4 rfl) ?_
      obtain ⟨r_3, u_4, h_2, hf⟩ := bnd_some hf
      refine cx_calli C (va_runV (As := [.int x3]) (rest := []) ⟨hx, hb, hml, hown, hts⟩ (k_X2_has l ad ck D tt h_2 _) (cwV 1 hts gX4_row_X2_has rfl rfl rfl (by decide +kernel) ⟨Nat.le_of_ble_eq_true rfl, Nat.le_of_ble_eq_true rfl⟩) (cx_preV C (q0 := 1) (ci := 2) rfl rfl) rfl rfl hl.1 rfl (lv_room (Nat.le_of_ble_eq_true rfl)) dX4_row_26 ⟨Nat.zero_le _, Nat.zero_le _⟩) (fun H locs C => ?_)
      refine lv_if_eq (tgt := 36) hx hb dX4_row_29 (by decide) (fun c_5 => ?_) (fun c_5 => ?_)
      · replace hf := (if_pos c_5).symm.trans hf
        refine lv_iconst (v := 0) hx hb dX4_row_36 (by decide) ?_
        exact J37 x1 x2 x3 y0 0 u_4 _ _ _ hf C (lv_sub hl [1, 2, 3, 4, 0] rfl)
      · replace hf := (if_neg c_5).symm.trans hf
        refine lv_iconst (v := 1) hx hb dX4_row_32 (by decide) ?_
        refine lv_goto (tgt := 37) hx hb dX4_row_33 (by decide) ?_
        exact J37 x1 x2 x3 y0 1 u_4 _ _ _ hf C (lv_sub hl [1, 2, 3, 4, 0] rfl)
  have hl := lv_entry ([.ref (ad 0), .int a1, .int a2, .int a3]) (n := 6) (Nat.le_of_ble_eq_true rfl)
  rw [lg_entry_eq]
  generalize (lg_sl ([.ref (ad 0), .int a1, .int a2, .int a3]) ++ List.replicate (6 - (lg_sl ([.ref (ad 0), .int a1, .int a2, .int a3])).length) Slot.unset).toArray = ls at hl ⊢
  have hl : lv_has ls 6 [(0, .ref (ad 0)), (1, .int a1), (2, .int a2), (3, .int a3)] := hl
  unfold fX4_row at hf
  refine lv_iload_n hx hb dX4_row_0 rfl (lv_at hl 1 rfl) ?_
  refine lv_if_lt (tgt := 13) hx hb dX4_row_1 (by decide) (fun c_1 => ?_) (fun c_1 => ?_)
  · replace hf := (if_pos c_1).symm.trans hf
    refine lv_iconst (v := 0) hx hb dX4_row_13 (by decide) ?_
    exact J14 a1 a2 a3 0 u _ _ _ hf C (lv_sub hl [0, 1, 2, 3] rfl)
  · replace hf := (if_neg c_1).symm.trans hf
    refine lv_iload_n hx hb dX4_row_4 rfl (lv_at hl 1 rfl) ?_
    refine lv_iconst (v := 2) hx hb dX4_row_5 (by decide) ?_
    refine lv_icmp_gt (tgt := 13) hx hb dX4_row_6 (by decide) (fun c_2 => ?_) (fun c_2 => ?_)
    · replace hf := (if_pos c_2).symm.trans hf
      refine lv_iconst (v := 0) hx hb dX4_row_13 (by decide) ?_
      exact J14 a1 a2 a3 0 u _ _ _ hf C (lv_sub hl [0, 1, 2, 3] rfl)
    · replace hf := (if_neg c_2).symm.trans hf
      refine lv_iconst (v := 1) hx hb dX4_row_9 (by decide) ?_
      refine lv_goto (tgt := 14) hx hb dX4_row_10 (by decide) ?_
      exact J14 a1 a2 a3 1 u _ _ _ hf C (lv_sub hl [0, 1, 2, 3] rfl)
abbrev rmTX4_row : Room := { frames := 6, cells := 1, slots := 6, locals := 92 }
set_option maxHeartbeats 4000000 in
set_option maxRecDepth 100000 in
theorem t_X4_row (l : Launch) (ad : Nat → Nat) (ck : Nat → ClassId) (D : va_G) (tt : Nat) (hst : l.stackTraces = false) {u : St} {a1 : Int32} {a2 : Int32} {a3 : Int32} {k : Nat} {u' : St} (hf : fX4_row u a1 a2 a3 = some (.inl k, u')) : MT l yX4_row wsX4_row rmTX4_row (wA ad ck) ck D tt [.ref (ad 0), .int a1, .int a2, .int a3] u k u' := by
  intro sz
  refine vx_ofW (cc := cX4_row) (maxL := 6) (ret := (some .int)) (by decide) rfl ?_
  intro p e s m args below meth c s₁ B hml ht hv
  obtain ⟨rfl, hsz, C⟩ := cx_entry hv
  have hx := B.exec
  have hb := B.bytes
  have hr := B.returns
  have hts := atoms_spec (ws := wsX4_row) B.pre
  have hown : s.vm.findClass RX4 = some m.cls := findClass_of_methodNamed B.named
  have hlocks := B.notSynchronized
  have J37 : ∀ (x1 : Int32) (x2 : Int32) (x3 : Int32) (x4 : Int32) (y0 : Int32) (w : St) (H : Heap) (locs : List Loc) (ls : Array Slot), fX4_row_37 x1 x2 x3 x4 y0 w = some (.inl k, u') → CX (wA ad ck) ck D tt (va_A (wA ad ck u) sz) s w H locs → lv_has ls 6 [(0, .ref (ad 0)), (1, .int x1), (2, .int x2), (3, .int x3), (4, .int x4)] → W p l e (headSpec wsX4_row rmTX4_row).room s m ([.ref (ad 0), .int a1, .int a2, .int a3] : List Value).toArray below meth c H locs 0 0 (vx_MQ below QN (XT (wA ad ck) D u sz k u') ([.ref (ad 0), .int a1, .int a2, .int a3] : List Value).toArray s 1 6 (va_A (wA ad ck u) sz)) (F0 m 37 ls [.int y0]) := by
    intro x1 x2 x3 x4 y0 w H locs ls hf C hl
    unfold fX4_row_37 at hf
    refine lv_istore (lv' := [(5, .int y0), (0, .ref (ad 0)), (1, .int x1), (2, .int x2), (3, .int x3), (4, .int x4)]) hx hb dX4_row_37 hl (by decide) rfl (fun ls hl => ?_)
    refine lv_iload hx hb dX4_row_39 (lv_at hl 5 rfl) ?_
    refine lv_if_eq (tgt := 60) hx hb dX4_row_41 (by decide) (fun c_1 => ?_) (fun c_1 => ?_)
    · replace hf := (if_pos c_1).symm.trans hf
      exact cx_throw (k0 := 1) C hx hb hst hown (cls := xA) (text := "no such part or term") (ik := 53) (is := 74) (ic := 57) rfl (by decide +kernel) (hts (.classLink RX4 53 xA) (by decide +kernel)) (hts (.initialized xA) (by decide +kernel)) (by decide) (fun w h => hts w (xi_X4_row_A w h)) xb_A C.2.2.2.2.2.2.2.2.2.2.1 xg_A (hl.1.trans hml.symm) dX4_row_60 dX4_row_63 dX4_row_64 dX4_row_66 dX4_row_69 ht (Nat.le_of_ble_eq_true rfl) (Nat.le_of_ble_eq_true rfl) (Nat.le_of_ble_eq_true rfl) (Nat.le_of_ble_eq_true rfl) hlocks (Nat.le_refl _) (Nat.le_refl _) hf
    · replace hf := (if_neg c_1).symm.trans hf
      refine lv_aload_n hx hb dX4_row_44 rfl (lv_at hl 1 rfl) ?_
      refine cx_get C hx hb (T := TX4) (N := 8) hts (by decide +kernel) hown 0 rfl rfl 0 (by decide) (hts (.fieldLink RX4 10 "AggregateRows" "terms" "LAggregateRows$Terms;") (by decide +kernel)) (fun _ h9 => h9) (v := .ref (ad 1)) rfl dX4_row_45 ?_
      refine lv_iload_n hx hb dX4_row_48 rfl (lv_at hl 3 rfl) ?_
      obtain ⟨r_3, u_4, h_2, hf⟩ := bnd_some hf
      refine cx_calli C (va_runV (As := [.int x2]) (rest := []) ⟨hx, hb, hml, hown, hts⟩ (k_X2_has l ad ck D tt h_2 _) (cwV 1 hts gX4_row_X2_has rfl rfl rfl (by decide +kernel) ⟨Nat.le_of_ble_eq_true rfl, Nat.le_of_ble_eq_true rfl⟩) (cx_preV C (q0 := 1) (ci := 2) rfl rfl) rfl rfl hl.1 rfl (lv_room (Nat.le_of_ble_eq_true rfl)) dX4_row_49 ⟨Nat.zero_le _, Nat.zero_le _⟩) (fun H locs C => ?_)
      refine lv_if_eq (tgt := 60) hx hb dX4_row_52 (by decide) (fun c_5 => ?_) (fun c_5 => ?_)
      · replace hf := (if_pos c_5).symm.trans hf
        exact cx_throw (k0 := 1) C hx hb hst hown (cls := xA) (text := "no such part or term") (ik := 53) (is := 74) (ic := 57) rfl (by decide +kernel) (hts (.classLink RX4 53 xA) (by decide +kernel)) (hts (.initialized xA) (by decide +kernel)) (by decide) (fun w h => hts w (xi_X4_row_A w h)) xb_A C.2.2.2.2.2.2.2.2.2.2.1 xg_A (hl.1.trans hml.symm) dX4_row_60 dX4_row_63 dX4_row_64 dX4_row_66 dX4_row_69 ht (Nat.le_of_ble_eq_true rfl) (Nat.le_of_ble_eq_true rfl) (Nat.le_of_ble_eq_true rfl) (Nat.le_of_ble_eq_true rfl) hlocks (Nat.le_refl _) (Nat.le_refl _) hf
      · replace hf := (if_neg c_5).symm.trans hf
        refine lv_iload hx hb dX4_row_55 (lv_at hl 0 rfl) ?_
        refine lv_if_ne (tgt := 70) hx hb dX4_row_57 (by decide) (fun c_6 => ?_) (fun c_6 => ?_)
        · replace hf := (if_neg c_6).symm.trans hf
          refine lv_aload_n hx hb dX4_row_70 rfl (lv_at hl 1 rfl) ?_
          refine cx_get C hx hb (T := TX4) (N := 8) hts (by decide +kernel) hown 0 rfl rfl 1 (by decide) (hts (.fieldLink RX4 19 "AggregateRows" "table" "LAggregateRows$RowTable;") (by decide +kernel)) (fun _ h9 => h9) (v := .ref (ad 5)) rfl dX4_row_71 ?_
          obtain ⟨r_8, u_9, h_7, hf⟩ := bnd_some hf
          refine cx_calli C (va_runV (As := []) (rest := []) ⟨hx, hb, hml, hown, hts⟩ (k_X1_isFull l ad ck D tt h_7 _) (cwV 0 hts gX4_row_X1_isFull rfl rfl rfl (by decide +kernel) ⟨Nat.le_of_ble_eq_true rfl, Nat.le_of_ble_eq_true rfl⟩) (cx_preV C (q0 := 5) (ci := 1) rfl rfl) rfl rfl hl.1 rfl (lv_room (Nat.le_of_ble_eq_true rfl)) dX4_row_74 ⟨Nat.zero_le _, Nat.zero_le _⟩) (fun H locs C => ?_)
          refine lv_if_eq (tgt := 90) hx hb dX4_row_77 (by decide) (fun c_10 => ?_) (fun c_10 => ?_)
          · replace hf := (if_pos c_10).symm.trans hf
            refine lv_aload_n hx hb dX4_row_90 rfl (lv_at hl 1 rfl) ?_
            refine cx_get C hx hb (T := TX4) (N := 8) hts (by decide +kernel) hown 0 rfl rfl 1 (by decide) (hts (.fieldLink RX4 19 "AggregateRows" "table" "LAggregateRows$RowTable;") (by decide +kernel)) (fun _ h9 => h9) (v := .ref (ad 5)) rfl dX4_row_91 ?_
            refine lv_iload_n hx hb dX4_row_94 rfl (lv_at hl 2 rfl) ?_
            refine lv_iload_n hx hb dX4_row_95 rfl (lv_at hl 3 rfl) ?_
            refine lv_iload_n hx hb dX4_row_96 rfl (lv_at hl 4 rfl) ?_
            obtain ⟨_, u_13, h_11, hf⟩ := bnd_some hf
            refine cx_callv C (va_runV (As := [.int x1, .int x2, .int x3]) (rest := []) ⟨hx, hb, hml, hown, hts⟩ (k_X1_add l ad ck D tt h_11 _) (cwV 3 hts gX4_row_X1_add rfl rfl rfl (by decide +kernel) ⟨Nat.le_of_ble_eq_true rfl, Nat.le_of_ble_eq_true rfl⟩) (cx_preV C (q0 := 5) (ci := 1) rfl rfl) rfl rfl hl.1 rfl (lv_room (Nat.le_of_ble_eq_true rfl)) dX4_row_97 ⟨Nat.zero_le _, Nat.zero_le _⟩) (fun H locs C => ?_)
            refine lv_aload_n hx hb dX4_row_100 rfl (lv_at hl 1 rfl) ?_
            refine cx_get C hx hb (T := TX4) (N := 8) hts (by decide +kernel) hown 0 rfl rfl 1 (by decide) (hts (.fieldLink RX4 19 "AggregateRows" "table" "LAggregateRows$RowTable;") (by decide +kernel)) (fun _ h9 => h9) (v := .ref (ad 5)) rfl dX4_row_101 ?_
            obtain ⟨r_15, u_16, h_14, hf⟩ := bnd_some hf
            refine cx_calli C (va_runV (As := []) (rest := []) ⟨hx, hb, hml, hown, hts⟩ (k_X1_count l ad ck D tt h_14 _) (cwV 0 hts gX4_row_X1_count rfl rfl rfl (by decide +kernel) ⟨Nat.le_of_ble_eq_true rfl, Nat.le_of_ble_eq_true rfl⟩) (cx_preV C (q0 := 5) (ci := 1) rfl rfl) rfl rfl hl.1 rfl (lv_room (Nat.le_of_ble_eq_true rfl)) dX4_row_104 ⟨Nat.zero_le _, Nat.zero_le _⟩) (fun H locs C => ?_)
            cases hf
          · replace hf := (if_neg c_10).symm.trans hf
            exact cx_throw (k0 := 2) C hx hb hst hown (cls := xS) (text := "too many rows") (ik := 80) (is := 82) (ic := 84) rfl (by decide +kernel) (hts (.classLink RX4 80 xS) (by decide +kernel)) (hts (.initialized xS) (by decide +kernel)) (by decide) (fun w h => hts w (xi_X4_row_S w h)) xb_S C.2.2.2.2.2.2.2.2.2.2.2.1 xg_S (hl.1.trans hml.symm) dX4_row_80 dX4_row_83 dX4_row_84 dX4_row_86 dX4_row_89 ht (Nat.le_of_ble_eq_true rfl) (Nat.le_of_ble_eq_true rfl) (Nat.le_of_ble_eq_true rfl) (Nat.le_of_ble_eq_true rfl) hlocks (Nat.le_refl _) (Nat.le_refl _) hf
        · replace hf := (if_pos c_6).symm.trans hf
          exact cx_throw (k0 := 1) C hx hb hst hown (cls := xA) (text := "no such part or term") (ik := 53) (is := 74) (ic := 57) rfl (by decide +kernel) (hts (.classLink RX4 53 xA) (by decide +kernel)) (hts (.initialized xA) (by decide +kernel)) (by decide) (fun w h => hts w (xi_X4_row_A w h)) xb_A C.2.2.2.2.2.2.2.2.2.2.1 xg_A (hl.1.trans hml.symm) dX4_row_60 dX4_row_63 dX4_row_64 dX4_row_66 dX4_row_69 ht (Nat.le_of_ble_eq_true rfl) (Nat.le_of_ble_eq_true rfl) (Nat.le_of_ble_eq_true rfl) (Nat.le_of_ble_eq_true rfl) hlocks (Nat.le_refl _) (Nat.le_refl _) hf
  have J14 : ∀ (x1 : Int32) (x2 : Int32) (x3 : Int32) (y0 : Int32) (w : St) (H : Heap) (locs : List Loc) (ls : Array Slot), fX4_row_14 x1 x2 x3 y0 w = some (.inl k, u') → CX (wA ad ck) ck D tt (va_A (wA ad ck u) sz) s w H locs → lv_has ls 6 [(0, .ref (ad 0)), (1, .int x1), (2, .int x2), (3, .int x3)] → W p l e (headSpec wsX4_row rmTX4_row).room s m ([.ref (ad 0), .int a1, .int a2, .int a3] : List Value).toArray below meth c H locs 0 0 (vx_MQ below QN (XT (wA ad ck) D u sz k u') ([.ref (ad 0), .int a1, .int a2, .int a3] : List Value).toArray s 1 6 (va_A (wA ad ck u) sz)) (F0 m 14 ls [.int y0]) := by
    intro x1 x2 x3 y0 w H locs ls hf C hl
    unfold fX4_row_14 at hf
    refine lv_istore (lv' := [(4, .int y0), (0, .ref (ad 0)), (1, .int x1), (2, .int x2), (3, .int x3)]) hx hb dX4_row_14 hl (by decide) rfl (fun ls hl => ?_)
    refine lv_iload_n hx hb dX4_row_16 rfl (lv_at hl 4 rfl) ?_
    refine lv_iconst (v := (-1)) hx hb dX4_row_17 (by decide) ?_
    refine lv_icmp_eq (tgt := 32) hx hb dX4_row_18 (by decide) (fun c_1 => ?_) (fun c_1 => ?_)
    · replace hf := (if_pos c_1).symm.trans hf
      refine lv_iconst (v := 1) hx hb dX4_row_32 (by decide) ?_
      refine lv_goto (tgt := 37) hx hb dX4_row_33 (by decide) ?_
      exact J37 x1 x2 x3 y0 1 w _ _ _ hf C (lv_sub hl [1, 2, 3, 4, 0] rfl)
    · replace hf := (if_neg c_1).symm.trans hf
      refine lv_aload_n hx hb dX4_row_21 rfl (lv_at hl 1 rfl) ?_
      refine cx_get C hx hb (T := TX4) (N := 8) hts (by decide +kernel) hown 0 rfl rfl 0 (by decide) (hts (.fieldLink RX4 10 "AggregateRows" "terms" "LAggregateRows$Terms;") (by decide +kernel)) (fun _ h9 => h9) (v := .ref (ad 1)) rfl dX4_row_22 ?_
      refine lv_iload_n hx hb dX4_row_25 rfl (lv_at hl 4 rfl) ?_
      obtain ⟨r_3, u_4, h_2, hf⟩ := bnd_some hf
      refine cx_calli C (va_runV (As := [.int x3]) (rest := []) ⟨hx, hb, hml, hown, hts⟩ (k_X2_has l ad ck D tt h_2 _) (cwV 1 hts gX4_row_X2_has rfl rfl rfl (by decide +kernel) ⟨Nat.le_of_ble_eq_true rfl, Nat.le_of_ble_eq_true rfl⟩) (cx_preV C (q0 := 1) (ci := 2) rfl rfl) rfl rfl hl.1 rfl (lv_room (Nat.le_of_ble_eq_true rfl)) dX4_row_26 ⟨Nat.zero_le _, Nat.zero_le _⟩) (fun H locs C => ?_)
      refine lv_if_eq (tgt := 36) hx hb dX4_row_29 (by decide) (fun c_5 => ?_) (fun c_5 => ?_)
      · replace hf := (if_pos c_5).symm.trans hf
        refine lv_iconst (v := 0) hx hb dX4_row_36 (by decide) ?_
        exact J37 x1 x2 x3 y0 0 u_4 _ _ _ hf C (lv_sub hl [1, 2, 3, 4, 0] rfl)
      · replace hf := (if_neg c_5).symm.trans hf
        refine lv_iconst (v := 1) hx hb dX4_row_32 (by decide) ?_
        refine lv_goto (tgt := 37) hx hb dX4_row_33 (by decide) ?_
        exact J37 x1 x2 x3 y0 1 u_4 _ _ _ hf C (lv_sub hl [1, 2, 3, 4, 0] rfl)
  have hl := lv_entry ([.ref (ad 0), .int a1, .int a2, .int a3]) (n := 6) (Nat.le_of_ble_eq_true rfl)
  rw [lg_entry_eq]
  generalize (lg_sl ([.ref (ad 0), .int a1, .int a2, .int a3]) ++ List.replicate (6 - (lg_sl ([.ref (ad 0), .int a1, .int a2, .int a3])).length) Slot.unset).toArray = ls at hl ⊢
  have hl : lv_has ls 6 [(0, .ref (ad 0)), (1, .int a1), (2, .int a2), (3, .int a3)] := hl
  unfold fX4_row at hf
  refine lv_iload_n hx hb dX4_row_0 rfl (lv_at hl 1 rfl) ?_
  refine lv_if_lt (tgt := 13) hx hb dX4_row_1 (by decide) (fun c_1 => ?_) (fun c_1 => ?_)
  · replace hf := (if_pos c_1).symm.trans hf
    refine lv_iconst (v := 0) hx hb dX4_row_13 (by decide) ?_
    exact J14 a1 a2 a3 0 u _ _ _ hf C (lv_sub hl [0, 1, 2, 3] rfl)
  · replace hf := (if_neg c_1).symm.trans hf
    refine lv_iload_n hx hb dX4_row_4 rfl (lv_at hl 1 rfl) ?_
    refine lv_iconst (v := 2) hx hb dX4_row_5 (by decide) ?_
    refine lv_icmp_gt (tgt := 13) hx hb dX4_row_6 (by decide) (fun c_2 => ?_) (fun c_2 => ?_)
    · replace hf := (if_pos c_2).symm.trans hf
      refine lv_iconst (v := 0) hx hb dX4_row_13 (by decide) ?_
      exact J14 a1 a2 a3 0 u _ _ _ hf C (lv_sub hl [0, 1, 2, 3] rfl)
    · replace hf := (if_neg c_2).symm.trans hf
      refine lv_iconst (v := 1) hx hb dX4_row_9 (by decide) ?_
      refine lv_goto (tgt := 14) hx hb dX4_row_10 (by decide) ?_
      exact J14 a1 a2 a3 1 u _ _ _ hf C (lv_sub hl [0, 1, 2, 3] rfl)
