/-! ===== X4_key ===== -/
def fX4_key (u : St) (a1 : Int32) : Option ((Nat ⊕ Int32) × St) := bndT (fX4_needGroup u a1) (fun _ u_3 => bnd (fX0_firstKey u_3 a1) (fun r_5 u_6 => some (.inr r_5, u_6)))
abbrev rmX4_key : Room := { frames := 7, cells := 0, slots := 0, locals := 113 }
set_option maxHeartbeats 4000000 in
set_option maxRecDepth 100000 in
theorem k_X4_key (l : Launch) (ad : Nat → Nat) (ck : Nat → ClassId) (D : va_G) (tt : Nat) {u : St} {a1 : Int32} {r : Int32} {u' : St} (hf : fX4_key u a1 = some (.inr r, u')) : MI l yX4_key wsX4_key rmX4_key (wA ad ck) ck D tt [.ref (ad 0), .int a1] u r u' := by
  intro sz
  refine Met.ofW (cc := cX4_key) (maxL := 2) (ret := (some .int)) (by decide) rfl ?_
  intro p e s m args below meth c s₁ B hml hv
  obtain ⟨rfl, hsz, C⟩ := cx_entry hv
  have hx := B.exec
  have hb := B.bytes
  have hr := B.returns
  have hts := atoms_spec (ws := wsX4_key) B.pre
  have hown : s.vm.findClass RX4 = some m.cls := findClass_of_methodNamed B.named
  have hlocks := B.notSynchronized
  have hl := lv_entry ([.ref (ad 0), .int a1]) (n := 2) (Nat.le_of_ble_eq_true rfl)
  rw [lg_entry_eq]
  generalize (lg_sl ([.ref (ad 0), .int a1]) ++ List.replicate (2 - (lg_sl ([.ref (ad 0), .int a1])).length) Slot.unset).toArray = ls at hl ⊢
  have hl : lv_has ls 2 [(0, .ref (ad 0)), (1, .int a1)] := hl
  unfold fX4_key at hf
  refine lv_aload_n hx hb dX4_key_0 rfl (lv_at hl 0 rfl) ?_
  refine lv_iload_n hx hb dX4_key_1 rfl (lv_at hl 1 rfl) ?_
  obtain ⟨_, u_3, h_1, hf⟩ := bndT_inr hf
  refine cx_callv C (va_runV (As := [.int a1]) (rest := []) ⟨hx, hb, hml, hown, hts⟩ (k_X4_needGroup l ad ck D tt h_1 _) (cwV 1 hts gX4_key_X4_needGroup rfl rfl rfl (by decide +kernel) ⟨Nat.le_of_ble_eq_true rfl, Nat.le_of_ble_eq_true rfl⟩) (cx_preV C (q0 := 0) (ci := 4) rfl rfl) rfl rfl hl.1 rfl (lv_room (Nat.le_of_ble_eq_true rfl)) dX4_key_2 ⟨Nat.zero_le _, Nat.zero_le _⟩) (fun H locs C => ?_)
  refine lv_aload_n hx hb dX4_key_5 rfl (lv_at hl 0 rfl) ?_
  refine cx_get C hx hb (T := TX4) (N := 8) hts (by decide +kernel) hown 0 rfl rfl 2 (by decide) (hts (.fieldLink RX4 26 "AggregateRows" "results" "LAggregateRows$Results;") (by decide +kernel)) (fun _ h9 => h9) (v := .ref (ad 9)) rfl dX4_key_6 ?_
  refine lv_iload_n hx hb dX4_key_9 rfl (lv_at hl 1 rfl) ?_
  obtain ⟨r_5, u_6, h_4, hf⟩ := bnd_some hf
  refine cx_calli C (va_runV (As := [.int a1]) (rest := []) ⟨hx, hb, hml, hown, hts⟩ (k_X0_firstKey l ad ck D tt h_4 _) (cwV 1 hts gX4_key_X0_firstKey rfl rfl rfl (by decide +kernel) ⟨Nat.le_of_ble_eq_true rfl, Nat.le_of_ble_eq_true rfl⟩) (cx_preV C (q0 := 9) (ci := 0) rfl rfl) rfl rfl hl.1 rfl (lv_room (Nat.le_of_ble_eq_true rfl)) dX4_key_10 ⟨Nat.zero_le _, Nat.zero_le _⟩) (fun H locs C => ?_)
  exact cx_iretT C hx hb hr hlocks hf dX4_key_13
abbrev rmTX4_key : Room := { frames := 7, cells := 1, slots := 6, locals := 113 }
set_option maxHeartbeats 4000000 in
set_option maxRecDepth 100000 in
theorem t_X4_key (l : Launch) (ad : Nat → Nat) (ck : Nat → ClassId) (D : va_G) (tt : Nat) (hst : l.stackTraces = false) {u : St} {a1 : Int32} {k : Nat} {u' : St} (hf : fX4_key u a1 = some (.inl k, u')) : MT l yX4_key wsX4_key rmTX4_key (wA ad ck) ck D tt [.ref (ad 0), .int a1] u k u' := by
  intro sz
  refine vx_ofW (cc := cX4_key) (maxL := 2) (ret := (some .int)) (by decide) rfl ?_
  intro p e s m args below meth c s₁ B hml ht hv
  obtain ⟨rfl, hsz, C⟩ := cx_entry hv
  have hx := B.exec
  have hb := B.bytes
  have hr := B.returns
  have hts := atoms_spec (ws := wsX4_key) B.pre
  have hown : s.vm.findClass RX4 = some m.cls := findClass_of_methodNamed B.named
  have hlocks := B.notSynchronized
  have hl := lv_entry ([.ref (ad 0), .int a1]) (n := 2) (Nat.le_of_ble_eq_true rfl)
  rw [lg_entry_eq]
  generalize (lg_sl ([.ref (ad 0), .int a1]) ++ List.replicate (2 - (lg_sl ([.ref (ad 0), .int a1])).length) Slot.unset).toArray = ls at hl ⊢
  have hl : lv_has ls 2 [(0, .ref (ad 0)), (1, .int a1)] := hl
  unfold fX4_key at hf
  refine lv_aload_n hx hb dX4_key_0 rfl (lv_at hl 0 rfl) ?_
  refine lv_iload_n hx hb dX4_key_1 rfl (lv_at hl 1 rfl) ?_
  rcases bndT_inl hf with h_1 | ⟨_, u_3, h_1, hf⟩
  · exact cx_passv C ht hlocks (vx_runV (As := [.int a1]) (rest := []) ⟨hx, hb, hml, hown, hts⟩ (t_X4_needGroup l ad ck D tt hst h_1 _) (cwV 1 hts gX4_key_X4_needGroup rfl rfl rfl (by decide +kernel) ⟨Nat.le_of_ble_eq_true rfl, Nat.le_of_ble_eq_true rfl⟩) (cx_preV C (q0 := 0) (ci := 4) rfl rfl) rfl rfl hl.1 rfl (lv_room (Nat.le_of_ble_eq_true rfl)) dX4_key_2 ⟨Nat.le_of_ble_eq_true rfl, Nat.le_of_ble_eq_true rfl⟩) (Nat.le_refl _) (Nat.le_refl _)
  · refine cx_callv C (va_runV (As := [.int a1]) (rest := []) ⟨hx, hb, hml, hown, hts⟩ (k_X4_needGroup l ad ck D tt h_1 _) (cwV 1 hts gX4_key_X4_needGroup rfl rfl rfl (by decide +kernel) ⟨Nat.le_of_ble_eq_true rfl, Nat.le_of_ble_eq_true rfl⟩) (cx_preV C (q0 := 0) (ci := 4) rfl rfl) rfl rfl hl.1 rfl (lv_room (Nat.le_of_ble_eq_true rfl)) dX4_key_2 ⟨Nat.zero_le _, Nat.zero_le _⟩) (fun H locs C => ?_)
    refine lv_aload_n hx hb dX4_key_5 rfl (lv_at hl 0 rfl) ?_
    refine cx_get C hx hb (T := TX4) (N := 8) hts (by decide +kernel) hown 0 rfl rfl 2 (by decide) (hts (.fieldLink RX4 26 "AggregateRows" "results" "LAggregateRows$Results;") (by decide +kernel)) (fun _ h9 => h9) (v := .ref (ad 9)) rfl dX4_key_6 ?_
    refine lv_iload_n hx hb dX4_key_9 rfl (lv_at hl 1 rfl) ?_
    obtain ⟨r_5, u_6, h_4, hf⟩ := bnd_some hf
    refine cx_calli C (va_runV (As := [.int a1]) (rest := []) ⟨hx, hb, hml, hown, hts⟩ (k_X0_firstKey l ad ck D tt h_4 _) (cwV 1 hts gX4_key_X0_firstKey rfl rfl rfl (by decide +kernel) ⟨Nat.le_of_ble_eq_true rfl, Nat.le_of_ble_eq_true rfl⟩) (cx_preV C (q0 := 9) (ci := 0) rfl rfl) rfl rfl hl.1 rfl (lv_room (Nat.le_of_ble_eq_true rfl)) dX4_key_10 ⟨Nat.zero_le _, Nat.zero_le _⟩) (fun H locs C => ?_)
    cases hf
/-! ===== X4_rows ===== -/
def fX4_rows (u : St) (a1 : Int32) : Option ((Nat ⊕ Int32) × St) := bndT (fX4_needGroup u a1) (fun _ u_3 => bnd (fX0_rowCount u_3 a1) (fun r_5 u_6 => some (.inr r_5, u_6)))
abbrev rmX4_rows : Room := { frames := 7, cells := 0, slots := 0, locals := 113 }
set_option maxHeartbeats 4000000 in
set_option maxRecDepth 100000 in
theorem k_X4_rows (l : Launch) (ad : Nat → Nat) (ck : Nat → ClassId) (D : va_G) (tt : Nat) {u : St} {a1 : Int32} {r : Int32} {u' : St} (hf : fX4_rows u a1 = some (.inr r, u')) : MI l yX4_rows wsX4_rows rmX4_rows (wA ad ck) ck D tt [.ref (ad 0), .int a1] u r u' := by
  intro sz
  refine Met.ofW (cc := cX4_rows) (maxL := 2) (ret := (some .int)) (by decide) rfl ?_
  intro p e s m args below meth c s₁ B hml hv
  obtain ⟨rfl, hsz, C⟩ := cx_entry hv
  have hx := B.exec
  have hb := B.bytes
  have hr := B.returns
  have hts := atoms_spec (ws := wsX4_rows) B.pre
  have hown : s.vm.findClass RX4 = some m.cls := findClass_of_methodNamed B.named
  have hlocks := B.notSynchronized
  have hl := lv_entry ([.ref (ad 0), .int a1]) (n := 2) (Nat.le_of_ble_eq_true rfl)
  rw [lg_entry_eq]
  generalize (lg_sl ([.ref (ad 0), .int a1]) ++ List.replicate (2 - (lg_sl ([.ref (ad 0), .int a1])).length) Slot.unset).toArray = ls at hl ⊢
  have hl : lv_has ls 2 [(0, .ref (ad 0)), (1, .int a1)] := hl
  unfold fX4_rows at hf
  refine lv_aload_n hx hb dX4_rows_0 rfl (lv_at hl 0 rfl) ?_
  refine lv_iload_n hx hb dX4_rows_1 rfl (lv_at hl 1 rfl) ?_
  obtain ⟨_, u_3, h_1, hf⟩ := bndT_inr hf
  refine cx_callv C (va_runV (As := [.int a1]) (rest := []) ⟨hx, hb, hml, hown, hts⟩ (k_X4_needGroup l ad ck D tt h_1 _) (cwV 1 hts gX4_rows_X4_needGroup rfl rfl rfl (by decide +kernel) ⟨Nat.le_of_ble_eq_true rfl, Nat.le_of_ble_eq_true rfl⟩) (cx_preV C (q0 := 0) (ci := 4) rfl rfl) rfl rfl hl.1 rfl (lv_room (Nat.le_of_ble_eq_true rfl)) dX4_rows_2 ⟨Nat.zero_le _, Nat.zero_le _⟩) (fun H locs C => ?_)
  refine lv_aload_n hx hb dX4_rows_5 rfl (lv_at hl 0 rfl) ?_
  refine cx_get C hx hb (T := TX4) (N := 8) hts (by decide +kernel) hown 0 rfl rfl 2 (by decide) (hts (.fieldLink RX4 26 "AggregateRows" "results" "LAggregateRows$Results;") (by decide +kernel)) (fun _ h9 => h9) (v := .ref (ad 9)) rfl dX4_rows_6 ?_
  refine lv_iload_n hx hb dX4_rows_9 rfl (lv_at hl 1 rfl) ?_
  obtain ⟨r_5, u_6, h_4, hf⟩ := bnd_some hf
  refine cx_calli C (va_runV (As := [.int a1]) (rest := []) ⟨hx, hb, hml, hown, hts⟩ (k_X0_rowCount l ad ck D tt h_4 _) (cwV 1 hts gX4_rows_X0_rowCount rfl rfl rfl (by decide +kernel) ⟨Nat.le_of_ble_eq_true rfl, Nat.le_of_ble_eq_true rfl⟩) (cx_preV C (q0 := 9) (ci := 0) rfl rfl) rfl rfl hl.1 rfl (lv_room (Nat.le_of_ble_eq_true rfl)) dX4_rows_10 ⟨Nat.zero_le _, Nat.zero_le _⟩) (fun H locs C => ?_)
  exact cx_iretT C hx hb hr hlocks hf dX4_rows_13
abbrev rmTX4_rows : Room := { frames := 7, cells := 1, slots := 6, locals := 113 }
set_option maxHeartbeats 4000000 in
set_option maxRecDepth 100000 in
theorem t_X4_rows (l : Launch) (ad : Nat → Nat) (ck : Nat → ClassId) (D : va_G) (tt : Nat) (hst : l.stackTraces = false) {u : St} {a1 : Int32} {k : Nat} {u' : St} (hf : fX4_rows u a1 = some (.inl k, u')) : MT l yX4_rows wsX4_rows rmTX4_rows (wA ad ck) ck D tt [.ref (ad 0), .int a1] u k u' := by
  intro sz
  refine vx_ofW (cc := cX4_rows) (maxL := 2) (ret := (some .int)) (by decide) rfl ?_
  intro p e s m args below meth c s₁ B hml ht hv
  obtain ⟨rfl, hsz, C⟩ := cx_entry hv
  have hx := B.exec
  have hb := B.bytes
  have hr := B.returns
  have hts := atoms_spec (ws := wsX4_rows) B.pre
  have hown : s.vm.findClass RX4 = some m.cls := findClass_of_methodNamed B.named
  have hlocks := B.notSynchronized
  have hl := lv_entry ([.ref (ad 0), .int a1]) (n := 2) (Nat.le_of_ble_eq_true rfl)
  rw [lg_entry_eq]
  generalize (lg_sl ([.ref (ad 0), .int a1]) ++ List.replicate (2 - (lg_sl ([.ref (ad 0), .int a1])).length) Slot.unset).toArray = ls at hl ⊢
  have hl : lv_has ls 2 [(0, .ref (ad 0)), (1, .int a1)] := hl
  unfold fX4_rows at hf
  refine lv_aload_n hx hb dX4_rows_0 rfl (lv_at hl 0 rfl) ?_
  refine lv_iload_n hx hb dX4_rows_1 rfl (lv_at hl 1 rfl) ?_
  rcases bndT_inl hf with h_1 | ⟨_, u_3, h_1, hf⟩
  · exact cx_passv C ht hlocks (vx_runV (As := [.int a1]) (rest := []) ⟨hx, hb, hml, hown, hts⟩ (t_X4_needGroup l ad ck D tt hst h_1 _) (cwV 1 hts gX4_rows_X4_needGroup rfl rfl rfl (by decide +kernel) ⟨Nat.le_of_ble_eq_true rfl, Nat.le_of_ble_eq_true rfl⟩) (cx_preV C (q0 := 0) (ci := 4) rfl rfl) rfl rfl hl.1 rfl (lv_room (Nat.le_of_ble_eq_true rfl)) dX4_rows_2 ⟨Nat.le_of_ble_eq_true rfl, Nat.le_of_ble_eq_true rfl⟩) (Nat.le_refl _) (Nat.le_refl _)
  · refine cx_callv C (va_runV (As := [.int a1]) (rest := []) ⟨hx, hb, hml, hown, hts⟩ (k_X4_needGroup l ad ck D tt h_1 _) (cwV 1 hts gX4_rows_X4_needGroup rfl rfl rfl (by decide +kernel) ⟨Nat.le_of_ble_eq_true rfl, Nat.le_of_ble_eq_true rfl⟩) (cx_preV C (q0 := 0) (ci := 4) rfl rfl) rfl rfl hl.1 rfl (lv_room (Nat.le_of_ble_eq_true rfl)) dX4_rows_2 ⟨Nat.zero_le _, Nat.zero_le _⟩) (fun H locs C => ?_)
    refine lv_aload_n hx hb dX4_rows_5 rfl (lv_at hl 0 rfl) ?_
    refine cx_get C hx hb (T := TX4) (N := 8) hts (by decide +kernel) hown 0 rfl rfl 2 (by decide) (hts (.fieldLink RX4 26 "AggregateRows" "results" "LAggregateRows$Results;") (by decide +kernel)) (fun _ h9 => h9) (v := .ref (ad 9)) rfl dX4_rows_6 ?_
    refine lv_iload_n hx hb dX4_rows_9 rfl (lv_at hl 1 rfl) ?_
    obtain ⟨r_5, u_6, h_4, hf⟩ := bnd_some hf
    refine cx_calli C (va_runV (As := [.int a1]) (rest := []) ⟨hx, hb, hml, hown, hts⟩ (k_X0_rowCount l ad ck D tt h_4 _) (cwV 1 hts gX4_rows_X0_rowCount rfl rfl rfl (by decide +kernel) ⟨Nat.le_of_ble_eq_true rfl, Nat.le_of_ble_eq_true rfl⟩) (cx_preV C (q0 := 9) (ci := 0) rfl rfl) rfl rfl hl.1 rfl (lv_room (Nat.le_of_ble_eq_true rfl)) dX4_rows_10 ⟨Nat.zero_le _, Nat.zero_le _⟩) (fun H locs C => ?_)
    cases hf
/-! ===== X4_sort ===== -/
def fX4_sort (u : St) (a1 : Int32) : Option ((Nat ⊕ Int32) × St) := bndT (fX4_needGroup u a1) (fun _ u_3 => bnd (fX0_sortOf u_3 a1) (fun r_5 u_6 => some (.inr r_5, u_6)))
abbrev rmX4_sort : Room := { frames := 7, cells := 0, slots := 0, locals := 113 }
set_option maxHeartbeats 4000000 in
set_option maxRecDepth 100000 in
theorem k_X4_sort (l : Launch) (ad : Nat → Nat) (ck : Nat → ClassId) (D : va_G) (tt : Nat) {u : St} {a1 : Int32} {r : Int32} {u' : St} (hf : fX4_sort u a1 = some (.inr r, u')) : MI l yX4_sort wsX4_sort rmX4_sort (wA ad ck) ck D tt [.ref (ad 0), .int a1] u r u' := by
  intro sz
  refine Met.ofW (cc := cX4_sort) (maxL := 2) (ret := (some .int)) (by decide) rfl ?_
  intro p e s m args below meth c s₁ B hml hv
  obtain ⟨rfl, hsz, C⟩ := cx_entry hv
  have hx := B.exec
  have hb := B.bytes
  have hr := B.returns
  have hts := atoms_spec (ws := wsX4_sort) B.pre
  have hown : s.vm.findClass RX4 = some m.cls := findClass_of_methodNamed B.named
  have hlocks := B.notSynchronized
  have hl := lv_entry ([.ref (ad 0), .int a1]) (n := 2) (Nat.le_of_ble_eq_true rfl)
  rw [lg_entry_eq]
  generalize (lg_sl ([.ref (ad 0), .int a1]) ++ List.replicate (2 - (lg_sl ([.ref (ad 0), .int a1])).length) Slot.unset).toArray = ls at hl ⊢
  have hl : lv_has ls 2 [(0, .ref (ad 0)), (1, .int a1)] := hl
  unfold fX4_sort at hf
  refine lv_aload_n hx hb dX4_sort_0 rfl (lv_at hl 0 rfl) ?_
  refine lv_iload_n hx hb dX4_sort_1 rfl (lv_at hl 1 rfl) ?_
  obtain ⟨_, u_3, h_1, hf⟩ := bndT_inr hf
  refine cx_callv C (va_runV (As := [.int a1]) (rest := []) ⟨hx, hb, hml, hown, hts⟩ (k_X4_needGroup l ad ck D tt h_1 _) (cwV 1 hts gX4_sort_X4_needGroup rfl rfl rfl (by decide +kernel) ⟨Nat.le_of_ble_eq_true rfl, Nat.le_of_ble_eq_true rfl⟩) (cx_preV C (q0 := 0) (ci := 4) rfl rfl) rfl rfl hl.1 rfl (lv_room (Nat.le_of_ble_eq_true rfl)) dX4_sort_2 ⟨Nat.zero_le _, Nat.zero_le _⟩) (fun H locs C => ?_)
  refine lv_aload_n hx hb dX4_sort_5 rfl (lv_at hl 0 rfl) ?_
  refine cx_get C hx hb (T := TX4) (N := 8) hts (by decide +kernel) hown 0 rfl rfl 2 (by decide) (hts (.fieldLink RX4 26 "AggregateRows" "results" "LAggregateRows$Results;") (by decide +kernel)) (fun _ h9 => h9) (v := .ref (ad 9)) rfl dX4_sort_6 ?_
  refine lv_iload_n hx hb dX4_sort_9 rfl (lv_at hl 1 rfl) ?_
  obtain ⟨r_5, u_6, h_4, hf⟩ := bnd_some hf
  refine cx_calli C (va_runV (As := [.int a1]) (rest := []) ⟨hx, hb, hml, hown, hts⟩ (k_X0_sortOf l ad ck D tt h_4 _) (cwV 1 hts gX4_sort_X0_sortOf rfl rfl rfl (by decide +kernel) ⟨Nat.le_of_ble_eq_true rfl, Nat.le_of_ble_eq_true rfl⟩) (cx_preV C (q0 := 9) (ci := 0) rfl rfl) rfl rfl hl.1 rfl (lv_room (Nat.le_of_ble_eq_true rfl)) dX4_sort_10 ⟨Nat.zero_le _, Nat.zero_le _⟩) (fun H locs C => ?_)
  exact cx_iretT C hx hb hr hlocks hf dX4_sort_13
abbrev rmTX4_sort : Room := { frames := 7, cells := 1, slots := 6, locals := 113 }
set_option maxHeartbeats 4000000 in
set_option maxRecDepth 100000 in
theorem t_X4_sort (l : Launch) (ad : Nat → Nat) (ck : Nat → ClassId) (D : va_G) (tt : Nat) (hst : l.stackTraces = false) {u : St} {a1 : Int32} {k : Nat} {u' : St} (hf : fX4_sort u a1 = some (.inl k, u')) : MT l yX4_sort wsX4_sort rmTX4_sort (wA ad ck) ck D tt [.ref (ad 0), .int a1] u k u' := by
  intro sz
  refine vx_ofW (cc := cX4_sort) (maxL := 2) (ret := (some .int)) (by decide) rfl ?_
  intro p e s m args below meth c s₁ B hml ht hv
  obtain ⟨rfl, hsz, C⟩ := cx_entry hv
  have hx := B.exec
  have hb := B.bytes
  have hr := B.returns
  have hts := atoms_spec (ws := wsX4_sort) B.pre
  have hown : s.vm.findClass RX4 = some m.cls := findClass_of_methodNamed B.named
  have hlocks := B.notSynchronized
  have hl := lv_entry ([.ref (ad 0), .int a1]) (n := 2) (Nat.le_of_ble_eq_true rfl)
  rw [lg_entry_eq]
  generalize (lg_sl ([.ref (ad 0), .int a1]) ++ List.replicate (2 - (lg_sl ([.ref (ad 0), .int a1])).length) Slot.unset).toArray = ls at hl ⊢
  have hl : lv_has ls 2 [(0, .ref (ad 0)), (1, .int a1)] := hl
  unfold fX4_sort at hf
  refine lv_aload_n hx hb dX4_sort_0 rfl (lv_at hl 0 rfl) ?_
  refine lv_iload_n hx hb dX4_sort_1 rfl (lv_at hl 1 rfl) ?_
  rcases bndT_inl hf with h_1 | ⟨_, u_3, h_1, hf⟩
  · exact cx_passv C ht hlocks (vx_runV (As := [.int a1]) (rest := []) ⟨hx, hb, hml, hown, hts⟩ (t_X4_needGroup l ad ck D tt hst h_1 _) (cwV 1 hts gX4_sort_X4_needGroup rfl rfl rfl (by decide +kernel) ⟨Nat.le_of_ble_eq_true rfl, Nat.le_of_ble_eq_true rfl⟩) (cx_preV C (q0 := 0) (ci := 4) rfl rfl) rfl rfl hl.1 rfl (lv_room (Nat.le_of_ble_eq_true rfl)) dX4_sort_2 ⟨Nat.le_of_ble_eq_true rfl, Nat.le_of_ble_eq_true rfl⟩) (Nat.le_refl _) (Nat.le_refl _)
  · refine cx_callv C (va_runV (As := [.int a1]) (rest := []) ⟨hx, hb, hml, hown, hts⟩ (k_X4_needGroup l ad ck D tt h_1 _) (cwV 1 hts gX4_sort_X4_needGroup rfl rfl rfl (by decide +kernel) ⟨Nat.le_of_ble_eq_true rfl, Nat.le_of_ble_eq_true rfl⟩) (cx_preV C (q0 := 0) (ci := 4) rfl rfl) rfl rfl hl.1 rfl (lv_room (Nat.le_of_ble_eq_true rfl)) dX4_sort_2 ⟨Nat.zero_le _, Nat.zero_le _⟩) (fun H locs C => ?_)
    refine lv_aload_n hx hb dX4_sort_5 rfl (lv_at hl 0 rfl) ?_
    refine cx_get C hx hb (T := TX4) (N := 8) hts (by decide +kernel) hown 0 rfl rfl 2 (by decide) (hts (.fieldLink RX4 26 "AggregateRows" "results" "LAggregateRows$Results;") (by decide +kernel)) (fun _ h9 => h9) (v := .ref (ad 9)) rfl dX4_sort_6 ?_
    refine lv_iload_n hx hb dX4_sort_9 rfl (lv_at hl 1 rfl) ?_
    obtain ⟨r_5, u_6, h_4, hf⟩ := bnd_some hf
    refine cx_calli C (va_runV (As := [.int a1]) (rest := []) ⟨hx, hb, hml, hown, hts⟩ (k_X0_sortOf l ad ck D tt h_4 _) (cwV 1 hts gX4_sort_X0_sortOf rfl rfl rfl (by decide +kernel) ⟨Nat.le_of_ble_eq_true rfl, Nat.le_of_ble_eq_true rfl⟩) (cx_preV C (q0 := 9) (ci := 0) rfl rfl) rfl rfl hl.1 rfl (lv_room (Nat.le_of_ble_eq_true rfl)) dX4_sort_10 ⟨Nat.zero_le _, Nat.zero_le _⟩) (fun H locs C => ?_)
    cases hf
/-! ===== X4_why ===== -/
def fX4_why (u : St) (a1 : Int32) : Option ((Nat ⊕ Int32) × St) := bndT (fX4_needGroup u a1) (fun _ u_3 => bnd (fX0_reason u_3 a1) (fun r_5 u_6 => some (.inr r_5, u_6)))
abbrev rmX4_why : Room := { frames := 7, cells := 0, slots := 0, locals := 113 }
set_option maxHeartbeats 4000000 in
set_option maxRecDepth 100000 in
theorem k_X4_why (l : Launch) (ad : Nat → Nat) (ck : Nat → ClassId) (D : va_G) (tt : Nat) {u : St} {a1 : Int32} {r : Int32} {u' : St} (hf : fX4_why u a1 = some (.inr r, u')) : MI l yX4_why wsX4_why rmX4_why (wA ad ck) ck D tt [.ref (ad 0), .int a1] u r u' := by
  intro sz
  refine Met.ofW (cc := cX4_why) (maxL := 2) (ret := (some .int)) (by decide) rfl ?_
  intro p e s m args below meth c s₁ B hml hv
  obtain ⟨rfl, hsz, C⟩ := cx_entry hv
  have hx := B.exec
  have hb := B.bytes
  have hr := B.returns
  have hts := atoms_spec (ws := wsX4_why) B.pre
  have hown : s.vm.findClass RX4 = some m.cls := findClass_of_methodNamed B.named
  have hlocks := B.notSynchronized
  have hl := lv_entry ([.ref (ad 0), .int a1]) (n := 2) (Nat.le_of_ble_eq_true rfl)
  rw [lg_entry_eq]
  generalize (lg_sl ([.ref (ad 0), .int a1]) ++ List.replicate (2 - (lg_sl ([.ref (ad 0), .int a1])).length) Slot.unset).toArray = ls at hl ⊢
  have hl : lv_has ls 2 [(0, .ref (ad 0)), (1, .int a1)] := hl
  unfold fX4_why at hf
  refine lv_aload_n hx hb dX4_why_0 rfl (lv_at hl 0 rfl) ?_
  refine lv_iload_n hx hb dX4_why_1 rfl (lv_at hl 1 rfl) ?_
  obtain ⟨_, u_3, h_1, hf⟩ := bndT_inr hf
  refine cx_callv C (va_runV (As := [.int a1]) (rest := []) ⟨hx, hb, hml, hown, hts⟩ (k_X4_needGroup l ad ck D tt h_1 _) (cwV 1 hts gX4_why_X4_needGroup rfl rfl rfl (by decide +kernel) ⟨Nat.le_of_ble_eq_true rfl, Nat.le_of_ble_eq_true rfl⟩) (cx_preV C (q0 := 0) (ci := 4) rfl rfl) rfl rfl hl.1 rfl (lv_room (Nat.le_of_ble_eq_true rfl)) dX4_why_2 ⟨Nat.zero_le _, Nat.zero_le _⟩) (fun H locs C => ?_)
  refine lv_aload_n hx hb dX4_why_5 rfl (lv_at hl 0 rfl) ?_
  refine cx_get C hx hb (T := TX4) (N := 8) hts (by decide +kernel) hown 0 rfl rfl 2 (by decide) (hts (.fieldLink RX4 26 "AggregateRows" "results" "LAggregateRows$Results;") (by decide +kernel)) (fun _ h9 => h9) (v := .ref (ad 9)) rfl dX4_why_6 ?_
  refine lv_iload_n hx hb dX4_why_9 rfl (lv_at hl 1 rfl) ?_
  obtain ⟨r_5, u_6, h_4, hf⟩ := bnd_some hf
  refine cx_calli C (va_runV (As := [.int a1]) (rest := []) ⟨hx, hb, hml, hown, hts⟩ (k_X0_reason l ad ck D tt h_4 _) (cwV 1 hts gX4_why_X0_reason rfl rfl rfl (by decide +kernel) ⟨Nat.le_of_ble_eq_true rfl, Nat.le_of_ble_eq_true rfl⟩) (cx_preV C (q0 := 9) (ci := 0) rfl rfl) rfl rfl hl.1 rfl (lv_room (Nat.le_of_ble_eq_true rfl)) dX4_why_10 ⟨Nat.zero_le _, Nat.zero_le _⟩) (fun H locs C => ?_)
  exact cx_iretT C hx hb hr hlocks hf dX4_why_13
abbrev rmTX4_why : Room := { frames := 7, cells := 1, slots := 6, locals := 113 }
set_option maxHeartbeats 4000000 in
set_option maxRecDepth 100000 in
theorem t_X4_why (l : Launch) (ad : Nat → Nat) (ck : Nat → ClassId) (D : va_G) (tt : Nat) (hst : l.stackTraces = false) {u : St} {a1 : Int32} {k : Nat} {u' : St} (hf : fX4_why u a1 = some (.inl k, u')) : MT l yX4_why wsX4_why rmTX4_why (wA ad ck) ck D tt [.ref (ad 0), .int a1] u k u' := by
  intro sz
  refine vx_ofW (cc := cX4_why) (maxL := 2) (ret := (some .int)) (by decide) rfl ?_
  intro p e s m args below meth c s₁ B hml ht hv
  obtain ⟨rfl, hsz, C⟩ := cx_entry hv
  have hx := B.exec
  have hb := B.bytes
  have hr := B.returns
  have hts := atoms_spec (ws := wsX4_why) B.pre
  have hown : s.vm.findClass RX4 = some m.cls := findClass_of_methodNamed B.named
  have hlocks := B.notSynchronized
  have hl := lv_entry ([.ref (ad 0), .int a1]) (n := 2) (Nat.le_of_ble_eq_true rfl)
  rw [lg_entry_eq]
  generalize (lg_sl ([.ref (ad 0), .int a1]) ++ List.replicate (2 - (lg_sl ([.ref (ad 0), .int a1])).length) Slot.unset).toArray = ls at hl ⊢
  have hl : lv_has ls 2 [(0, .ref (ad 0)), (1, .int a1)] := hl
  unfold fX4_why at hf
  refine lv_aload_n hx hb dX4_why_0 rfl (lv_at hl 0 rfl) ?_
  refine lv_iload_n hx hb dX4_why_1 rfl (lv_at hl 1 rfl) ?_
  rcases bndT_inl hf with h_1 | ⟨_, u_3, h_1, hf⟩
  · exact cx_passv C ht hlocks (vx_runV (As := [.int a1]) (rest := []) ⟨hx, hb, hml, hown, hts⟩ (t_X4_needGroup l ad ck D tt hst h_1 _) (cwV 1 hts gX4_why_X4_needGroup rfl rfl rfl (by decide +kernel) ⟨Nat.le_of_ble_eq_true rfl, Nat.le_of_ble_eq_true rfl⟩) (cx_preV C (q0 := 0) (ci := 4) rfl rfl) rfl rfl hl.1 rfl (lv_room (Nat.le_of_ble_eq_true rfl)) dX4_why_2 ⟨Nat.le_of_ble_eq_true rfl, Nat.le_of_ble_eq_true rfl⟩) (Nat.le_refl _) (Nat.le_refl _)
  · refine cx_callv C (va_runV (As := [.int a1]) (rest := []) ⟨hx, hb, hml, hown, hts⟩ (k_X4_needGroup l ad ck D tt h_1 _) (cwV 1 hts gX4_why_X4_needGroup rfl rfl rfl (by decide +kernel) ⟨Nat.le_of_ble_eq_true rfl, Nat.le_of_ble_eq_true rfl⟩) (cx_preV C (q0 := 0) (ci := 4) rfl rfl) rfl rfl hl.1 rfl (lv_room (Nat.le_of_ble_eq_true rfl)) dX4_why_2 ⟨Nat.zero_le _, Nat.zero_le _⟩) (fun H locs C => ?_)
    refine lv_aload_n hx hb dX4_why_5 rfl (lv_at hl 0 rfl) ?_
    refine cx_get C hx hb (T := TX4) (N := 8) hts (by decide +kernel) hown 0 rfl rfl 2 (by decide) (hts (.fieldLink RX4 26 "AggregateRows" "results" "LAggregateRows$Results;") (by decide +kernel)) (fun _ h9 => h9) (v := .ref (ad 9)) rfl dX4_why_6 ?_
    refine lv_iload_n hx hb dX4_why_9 rfl (lv_at hl 1 rfl) ?_
    obtain ⟨r_5, u_6, h_4, hf⟩ := bnd_some hf
    refine cx_calli C (va_runV (As := [.int a1]) (rest := []) ⟨hx, hb, hml, hown, hts⟩ (k_X0_reason l ad ck D tt h_4 _) (cwV 1 hts gX4_why_X0_reason rfl rfl rfl (by decide +kernel) ⟨Nat.le_of_ble_eq_true rfl, Nat.le_of_ble_eq_true rfl⟩) (cx_preV C (q0 := 9) (ci := 0) rfl rfl) rfl rfl hl.1 rfl (lv_room (Nat.le_of_ble_eq_true rfl)) dX4_why_10 ⟨Nat.zero_le _, Nat.zero_le _⟩) (fun H locs C => ?_)
    cases hf
/-! ===== X4_value ===== -/
def fX4_value (u : St) (a1 : Int32) (a2 : Int32) : Option ((Nat ⊕ Int64) × St) := bndT (fX4_needGroup u a1) (fun _ u_3 => (if a2 < 0 then some (.inl 1, u_3) else (if a2 ≤ 1 then (if a2 = 0 then bnd (fX0_upper u_3 a1) (fun r_11 u_12 => some (.inr r_11, u_12)) else bnd (fX0_lower u_3 a1) (fun r_8 u_9 => some (.inr r_8, u_9))) else some (.inl 1, u_3))))
theorem xi_X4_value_A : ∀ w ∈ (vx_atS RX4 57 xA xns).filter goodWord, w ∈ wsX4_value := by decide +kernel
abbrev rmX4_value : Room := { frames := 7, cells := 0, slots := 0, locals := 113 }
set_option maxHeartbeats 4000000 in
set_option maxRecDepth 100000 in
theorem k_X4_value (l : Launch) (ad : Nat → Nat) (ck : Nat → ClassId) (D : va_G) (tt : Nat) {u : St} {a1 : Int32} {a2 : Int32} {r : Int64} {u' : St} (hf : fX4_value u a1 a2 = some (.inr r, u')) : ML l yX4_value wsX4_value rmX4_value (wA ad ck) ck D tt [.ref (ad 0), .int a1, .int a2] u r u' := by
  intro sz
  refine Met.ofW (cc := cX4_value) (maxL := 3) (ret := (some .long)) (by decide) rfl ?_
  intro p e s m args below meth c s₁ B hml hv
  obtain ⟨rfl, hsz, C⟩ := cx_entry hv
  have hx := B.exec
  have hb := B.bytes
  have hr := B.returns
  have hts := atoms_spec (ws := wsX4_value) B.pre
  have hown : s.vm.findClass RX4 = some m.cls := findClass_of_methodNamed B.named
  have hlocks := B.notSynchronized
  have hl := lv_entry ([.ref (ad 0), .int a1, .int a2]) (n := 3) (Nat.le_of_ble_eq_true rfl)
  rw [lg_entry_eq]
  generalize (lg_sl ([.ref (ad 0), .int a1, .int a2]) ++ List.replicate (3 - (lg_sl ([.ref (ad 0), .int a1, .int a2])).length) Slot.unset).toArray = ls at hl ⊢
  have hl : lv_has ls 3 [(0, .ref (ad 0)), (1, .int a1), (2, .int a2)] := hl
  unfold fX4_value at hf
  refine lv_aload_n hx hb dX4_value_0 rfl (lv_at hl 0 rfl) ?_
  refine lv_iload_n hx hb dX4_value_1 rfl (lv_at hl 1 rfl) ?_
  obtain ⟨_, u_3, h_1, hf⟩ := bndT_inr hf
  refine cx_callv C (va_runV (As := [.int a1]) (rest := []) ⟨hx, hb, hml, hown, hts⟩ (k_X4_needGroup l ad ck D tt h_1 _) (cwV 1 hts gX4_value_X4_needGroup rfl rfl rfl (by decide +kernel) ⟨Nat.le_of_ble_eq_true rfl, Nat.le_of_ble_eq_true rfl⟩) (cx_preV C (q0 := 0) (ci := 4) rfl rfl) rfl rfl hl.1 rfl (lv_room (Nat.le_of_ble_eq_true rfl)) dX4_value_2 ⟨Nat.zero_le _, Nat.zero_le _⟩) (fun H locs C => ?_)
  refine lv_iload_n hx hb dX4_value_5 rfl (lv_at hl 2 rfl) ?_
  refine lv_if_lt (tgt := 14) hx hb dX4_value_6 (by decide) (fun c_4 => ?_) (fun c_4 => ?_)
  · replace hf := (if_pos c_4).symm.trans hf
    cases hf
  · replace hf := (if_neg c_4).symm.trans hf
    refine lv_iload_n hx hb dX4_value_9 rfl (lv_at hl 2 rfl) ?_
    refine lv_iconst (v := 1) hx hb dX4_value_10 (by decide) ?_
    refine lv_icmp_le (tgt := 24) hx hb dX4_value_11 (by decide) (fun c_5 => ?_) (fun c_5 => ?_)
    · replace hf := (if_pos c_5).symm.trans hf
      refine lv_iload_n hx hb dX4_value_24 rfl (lv_at hl 2 rfl) ?_
      refine lv_if_ne (tgt := 39) hx hb dX4_value_25 (by decide) (fun c_6 => ?_) (fun c_6 => ?_)
      · replace hf := (if_neg c_6).symm.trans hf
        refine lv_aload_n hx hb dX4_value_39 rfl (lv_at hl 0 rfl) ?_
        refine cx_get C hx hb (T := TX4) (N := 8) hts (by decide +kernel) hown 0 rfl rfl 2 (by decide) (hts (.fieldLink RX4 26 "AggregateRows" "results" "LAggregateRows$Results;") (by decide +kernel)) (fun _ h9 => h9) (v := .ref (ad 9)) rfl dX4_value_40 ?_
        refine lv_iload_n hx hb dX4_value_43 rfl (lv_at hl 1 rfl) ?_
        obtain ⟨r_8, u_9, h_7, hf⟩ := bnd_some hf
        refine cx_calll C (va_runV (As := [.int a1]) (rest := []) ⟨hx, hb, hml, hown, hts⟩ (k_X0_lower l ad ck D tt h_7 _) (cwV 1 hts gX4_value_X0_lower rfl rfl rfl (by decide +kernel) ⟨Nat.le_of_ble_eq_true rfl, Nat.le_of_ble_eq_true rfl⟩) (cx_preV C (q0 := 9) (ci := 0) rfl rfl) rfl rfl hl.1 rfl (lv_room (Nat.le_of_ble_eq_true rfl)) dX4_value_44 ⟨Nat.zero_le _, Nat.zero_le _⟩) (fun H locs C => ?_)
        exact cx_lretT C hx hb hr hlocks hf dX4_value_47
      · replace hf := (if_pos c_6).symm.trans hf
        refine lv_aload_n hx hb dX4_value_28 rfl (lv_at hl 0 rfl) ?_
        refine cx_get C hx hb (T := TX4) (N := 8) hts (by decide +kernel) hown 0 rfl rfl 2 (by decide) (hts (.fieldLink RX4 26 "AggregateRows" "results" "LAggregateRows$Results;") (by decide +kernel)) (fun _ h9 => h9) (v := .ref (ad 9)) rfl dX4_value_29 ?_
        refine lv_iload_n hx hb dX4_value_32 rfl (lv_at hl 1 rfl) ?_
        obtain ⟨r_11, u_12, h_10, hf⟩ := bnd_some hf
        refine cx_calll C (va_runV (As := [.int a1]) (rest := []) ⟨hx, hb, hml, hown, hts⟩ (k_X0_upper l ad ck D tt h_10 _) (cwV 1 hts gX4_value_X0_upper rfl rfl rfl (by decide +kernel) ⟨Nat.le_of_ble_eq_true rfl, Nat.le_of_ble_eq_true rfl⟩) (cx_preV C (q0 := 9) (ci := 0) rfl rfl) rfl rfl hl.1 rfl (lv_room (Nat.le_of_ble_eq_true rfl)) dX4_value_33 ⟨Nat.zero_le _, Nat.zero_le _⟩) (fun H locs C => ?_)
        refine lv_goto (tgt := 47) hx hb dX4_value_36 (by decide) ?_
        exact cx_lretT C hx hb hr hlocks hf dX4_value_47
    · replace hf := (if_neg c_5).symm.trans hf
      cases hf
abbrev rmTX4_value : Room := { frames := 7, cells := 1, slots := 6, locals := 113 }
set_option maxHeartbeats 4000000 in
set_option maxRecDepth 100000 in
theorem t_X4_value (l : Launch) (ad : Nat → Nat) (ck : Nat → ClassId) (D : va_G) (tt : Nat) (hst : l.stackTraces = false) {u : St} {a1 : Int32} {a2 : Int32} {k : Nat} {u' : St} (hf : fX4_value u a1 a2 = some (.inl k, u')) : MT l yX4_value wsX4_value rmTX4_value (wA ad ck) ck D tt [.ref (ad 0), .int a1, .int a2] u k u' := by
  intro sz
  refine vx_ofW (cc := cX4_value) (maxL := 3) (ret := (some .long)) (by decide) rfl ?_
  intro p e s m args below meth c s₁ B hml ht hv
  obtain ⟨rfl, hsz, C⟩ := cx_entry hv
  have hx := B.exec
  have hb := B.bytes
  have hr := B.returns
  have hts := atoms_spec (ws := wsX4_value) B.pre
  have hown : s.vm.findClass RX4 = some m.cls := findClass_of_methodNamed B.named
  have hlocks := B.notSynchronized
  have hl := lv_entry ([.ref (ad 0), .int a1, .int a2]) (n := 3) (Nat.le_of_ble_eq_true rfl)
  rw [lg_entry_eq]
  generalize (lg_sl ([.ref (ad 0), .int a1, .int a2]) ++ List.replicate (3 - (lg_sl ([.ref (ad 0), .int a1, .int a2])).length) Slot.unset).toArray = ls at hl ⊢
  have hl : lv_has ls 3 [(0, .ref (ad 0)), (1, .int a1), (2, .int a2)] := hl
  unfold fX4_value at hf
  refine lv_aload_n hx hb dX4_value_0 rfl (lv_at hl 0 rfl) ?_
  refine lv_iload_n hx hb dX4_value_1 rfl (lv_at hl 1 rfl) ?_
  rcases bndT_inl hf with h_1 | ⟨_, u_3, h_1, hf⟩
  · exact cx_passv C ht hlocks (vx_runV (As := [.int a1]) (rest := []) ⟨hx, hb, hml, hown, hts⟩ (t_X4_needGroup l ad ck D tt hst h_1 _) (cwV 1 hts gX4_value_X4_needGroup rfl rfl rfl (by decide +kernel) ⟨Nat.le_of_ble_eq_true rfl, Nat.le_of_ble_eq_true rfl⟩) (cx_preV C (q0 := 0) (ci := 4) rfl rfl) rfl rfl hl.1 rfl (lv_room (Nat.le_of_ble_eq_true rfl)) dX4_value_2 ⟨Nat.le_of_ble_eq_true rfl, Nat.le_of_ble_eq_true rfl⟩) (Nat.le_refl _) (Nat.le_refl _)
  · refine cx_callv C (va_runV (As := [.int a1]) (rest := []) ⟨hx, hb, hml, hown, hts⟩ (k_X4_needGroup l ad ck D tt h_1 _) (cwV 1 hts gX4_value_X4_needGroup rfl rfl rfl (by decide +kernel) ⟨Nat.le_of_ble_eq_true rfl, Nat.le_of_ble_eq_true rfl⟩) (cx_preV C (q0 := 0) (ci := 4) rfl rfl) rfl rfl hl.1 rfl (lv_room (Nat.le_of_ble_eq_true rfl)) dX4_value_2 ⟨Nat.zero_le _, Nat.zero_le _⟩) (fun H locs C => ?_)
    refine lv_iload_n hx hb dX4_value_5 rfl (lv_at hl 2 rfl) ?_
    refine lv_if_lt (tgt := 14) hx hb dX4_value_6 (by decide) (fun c_4 => ?_) (fun c_4 => ?_)
    · replace hf := (if_pos c_4).symm.trans hf
      exact cx_throw (k0 := 1) C hx hb hst hown (cls := xA) (text := "no such part of a value") (ik := 53) (is := 130) (ic := 57) rfl (by decide +kernel) (hts (.classLink RX4 53 xA) (by decide +kernel)) (hts (.initialized xA) (by decide +kernel)) (by decide) (fun w h => hts w (xi_X4_value_A w h)) xb_A C.2.2.2.2.2.2.2.2.2.2.1 xg_A (hl.1.trans hml.symm) dX4_value_14 dX4_value_17 dX4_value_18 dX4_value_20 dX4_value_23 ht (Nat.le_of_ble_eq_true rfl) (Nat.le_of_ble_eq_true rfl) (Nat.le_of_ble_eq_true rfl) (Nat.le_of_ble_eq_true rfl) hlocks (Nat.le_refl _) (Nat.le_refl _) hf
    · replace hf := (if_neg c_4).symm.trans hf
      refine lv_iload_n hx hb dX4_value_9 rfl (lv_at hl 2 rfl) ?_
      refine lv_iconst (v := 1) hx hb dX4_value_10 (by decide) ?_
      refine lv_icmp_le (tgt := 24) hx hb dX4_value_11 (by decide) (fun c_5 => ?_) (fun c_5 => ?_)
      · replace hf := (if_pos c_5).symm.trans hf
        refine lv_iload_n hx hb dX4_value_24 rfl (lv_at hl 2 rfl) ?_
        refine lv_if_ne (tgt := 39) hx hb dX4_value_25 (by decide) (fun c_6 => ?_) (fun c_6 => ?_)
        · replace hf := (if_neg c_6).symm.trans hf
          refine lv_aload_n hx hb dX4_value_39 rfl (lv_at hl 0 rfl) ?_
          refine cx_get C hx hb (T := TX4) (N := 8) hts (by decide +kernel) hown 0 rfl rfl 2 (by decide) (hts (.fieldLink RX4 26 "AggregateRows" "results" "LAggregateRows$Results;") (by decide +kernel)) (fun _ h9 => h9) (v := .ref (ad 9)) rfl dX4_value_40 ?_
          refine lv_iload_n hx hb dX4_value_43 rfl (lv_at hl 1 rfl) ?_
          obtain ⟨r_8, u_9, h_7, hf⟩ := bnd_some hf
          refine cx_calll C (va_runV (As := [.int a1]) (rest := []) ⟨hx, hb, hml, hown, hts⟩ (k_X0_lower l ad ck D tt h_7 _) (cwV 1 hts gX4_value_X0_lower rfl rfl rfl (by decide +kernel) ⟨Nat.le_of_ble_eq_true rfl, Nat.le_of_ble_eq_true rfl⟩) (cx_preV C (q0 := 9) (ci := 0) rfl rfl) rfl rfl hl.1 rfl (lv_room (Nat.le_of_ble_eq_true rfl)) dX4_value_44 ⟨Nat.zero_le _, Nat.zero_le _⟩) (fun H locs C => ?_)
          cases hf
        · replace hf := (if_pos c_6).symm.trans hf
          refine lv_aload_n hx hb dX4_value_28 rfl (lv_at hl 0 rfl) ?_
          refine cx_get C hx hb (T := TX4) (N := 8) hts (by decide +kernel) hown 0 rfl rfl 2 (by decide) (hts (.fieldLink RX4 26 "AggregateRows" "results" "LAggregateRows$Results;") (by decide +kernel)) (fun _ h9 => h9) (v := .ref (ad 9)) rfl dX4_value_29 ?_
          refine lv_iload_n hx hb dX4_value_32 rfl (lv_at hl 1 rfl) ?_
          obtain ⟨r_11, u_12, h_10, hf⟩ := bnd_some hf
          refine cx_calll C (va_runV (As := [.int a1]) (rest := []) ⟨hx, hb, hml, hown, hts⟩ (k_X0_upper l ad ck D tt h_10 _) (cwV 1 hts gX4_value_X0_upper rfl rfl rfl (by decide +kernel) ⟨Nat.le_of_ble_eq_true rfl, Nat.le_of_ble_eq_true rfl⟩) (cx_preV C (q0 := 9) (ci := 0) rfl rfl) rfl rfl hl.1 rfl (lv_room (Nat.le_of_ble_eq_true rfl)) dX4_value_33 ⟨Nat.zero_le _, Nat.zero_le _⟩) (fun H locs C => ?_)
          refine lv_goto (tgt := 47) hx hb dX4_value_36 (by decide) ?_
          cases hf
      · replace hf := (if_neg c_5).symm.trans hf
        exact cx_throw (k0 := 1) C hx hb hst hown (cls := xA) (text := "no such part of a value") (ik := 53) (is := 130) (ic := 57) rfl (by decide +kernel) (hts (.classLink RX4 53 xA) (by decide +kernel)) (hts (.initialized xA) (by decide +kernel)) (by decide) (fun w h => hts w (xi_X4_value_A w h)) xb_A C.2.2.2.2.2.2.2.2.2.2.1 xg_A (hl.1.trans hml.symm) dX4_value_14 dX4_value_17 dX4_value_18 dX4_value_20 dX4_value_23 ht (Nat.le_of_ble_eq_true rfl) (Nat.le_of_ble_eq_true rfl) (Nat.le_of_ble_eq_true rfl) (Nat.le_of_ble_eq_true rfl) hlocks (Nat.le_refl _) (Nat.le_refl _) hf
/-! ===== X4_term ===== -/
def fX4_term (u : St) (a1 : Int32) : Option ((Nat ⊕ Int32) × St) := bndT (fX4_needGroup u a1) (fun _ u_3 => bnd (fX0_termOfResult u_3 a1) (fun r_5 u_6 => some (.inr r_5, u_6)))
abbrev rmX4_term : Room := { frames := 7, cells := 0, slots := 0, locals := 113 }
set_option maxHeartbeats 4000000 in
set_option maxRecDepth 100000 in
theorem k_X4_term (l : Launch) (ad : Nat → Nat) (ck : Nat → ClassId) (D : va_G) (tt : Nat) {u : St} {a1 : Int32} {r : Int32} {u' : St} (hf : fX4_term u a1 = some (.inr r, u')) : MI l yX4_term wsX4_term rmX4_term (wA ad ck) ck D tt [.ref (ad 0), .int a1] u r u' := by
  intro sz
  refine Met.ofW (cc := cX4_term) (maxL := 2) (ret := (some .int)) (by decide) rfl ?_
  intro p e s m args below meth c s₁ B hml hv
  obtain ⟨rfl, hsz, C⟩ := cx_entry hv
  have hx := B.exec
  have hb := B.bytes
  have hr := B.returns
  have hts := atoms_spec (ws := wsX4_term) B.pre
  have hown : s.vm.findClass RX4 = some m.cls := findClass_of_methodNamed B.named
  have hlocks := B.notSynchronized
  have hl := lv_entry ([.ref (ad 0), .int a1]) (n := 2) (Nat.le_of_ble_eq_true rfl)
  rw [lg_entry_eq]
  generalize (lg_sl ([.ref (ad 0), .int a1]) ++ List.replicate (2 - (lg_sl ([.ref (ad 0), .int a1])).length) Slot.unset).toArray = ls at hl ⊢
  have hl : lv_has ls 2 [(0, .ref (ad 0)), (1, .int a1)] := hl
  unfold fX4_term at hf
  refine lv_aload_n hx hb dX4_term_0 rfl (lv_at hl 0 rfl) ?_
  refine lv_iload_n hx hb dX4_term_1 rfl (lv_at hl 1 rfl) ?_
  obtain ⟨_, u_3, h_1, hf⟩ := bndT_inr hf
  refine cx_callv C (va_runV (As := [.int a1]) (rest := []) ⟨hx, hb, hml, hown, hts⟩ (k_X4_needGroup l ad ck D tt h_1 _) (cwV 1 hts gX4_term_X4_needGroup rfl rfl rfl (by decide +kernel) ⟨Nat.le_of_ble_eq_true rfl, Nat.le_of_ble_eq_true rfl⟩) (cx_preV C (q0 := 0) (ci := 4) rfl rfl) rfl rfl hl.1 rfl (lv_room (Nat.le_of_ble_eq_true rfl)) dX4_term_2 ⟨Nat.zero_le _, Nat.zero_le _⟩) (fun H locs C => ?_)
  refine lv_aload_n hx hb dX4_term_5 rfl (lv_at hl 0 rfl) ?_
  refine cx_get C hx hb (T := TX4) (N := 8) hts (by decide +kernel) hown 0 rfl rfl 2 (by decide) (hts (.fieldLink RX4 26 "AggregateRows" "results" "LAggregateRows$Results;") (by decide +kernel)) (fun _ h9 => h9) (v := .ref (ad 9)) rfl dX4_term_6 ?_
  refine lv_iload_n hx hb dX4_term_9 rfl (lv_at hl 1 rfl) ?_
  obtain ⟨r_5, u_6, h_4, hf⟩ := bnd_some hf
  refine cx_calli C (va_runV (As := [.int a1]) (rest := []) ⟨hx, hb, hml, hown, hts⟩ (k_X0_termOfResult l ad ck D tt h_4 _) (cwV 1 hts gX4_term_X0_termOfResult rfl rfl rfl (by decide +kernel) ⟨Nat.le_of_ble_eq_true rfl, Nat.le_of_ble_eq_true rfl⟩) (cx_preV C (q0 := 9) (ci := 0) rfl rfl) rfl rfl hl.1 rfl (lv_room (Nat.le_of_ble_eq_true rfl)) dX4_term_10 ⟨Nat.zero_le _, Nat.zero_le _⟩) (fun H locs C => ?_)
  exact cx_iretT C hx hb hr hlocks hf dX4_term_13
abbrev rmTX4_term : Room := { frames := 7, cells := 1, slots := 6, locals := 113 }
set_option maxHeartbeats 4000000 in
set_option maxRecDepth 100000 in
theorem t_X4_term (l : Launch) (ad : Nat → Nat) (ck : Nat → ClassId) (D : va_G) (tt : Nat) (hst : l.stackTraces = false) {u : St} {a1 : Int32} {k : Nat} {u' : St} (hf : fX4_term u a1 = some (.inl k, u')) : MT l yX4_term wsX4_term rmTX4_term (wA ad ck) ck D tt [.ref (ad 0), .int a1] u k u' := by
  intro sz
  refine vx_ofW (cc := cX4_term) (maxL := 2) (ret := (some .int)) (by decide) rfl ?_
  intro p e s m args below meth c s₁ B hml ht hv
  obtain ⟨rfl, hsz, C⟩ := cx_entry hv
  have hx := B.exec
  have hb := B.bytes
  have hr := B.returns
  have hts := atoms_spec (ws := wsX4_term) B.pre
  have hown : s.vm.findClass RX4 = some m.cls := findClass_of_methodNamed B.named
  have hlocks := B.notSynchronized
  have hl := lv_entry ([.ref (ad 0), .int a1]) (n := 2) (Nat.le_of_ble_eq_true rfl)
  rw [lg_entry_eq]
  generalize (lg_sl ([.ref (ad 0), .int a1]) ++ List.replicate (2 - (lg_sl ([.ref (ad 0), .int a1])).length) Slot.unset).toArray = ls at hl ⊢
  have hl : lv_has ls 2 [(0, .ref (ad 0)), (1, .int a1)] := hl
  unfold fX4_term at hf
  refine lv_aload_n hx hb dX4_term_0 rfl (lv_at hl 0 rfl) ?_
  refine lv_iload_n hx hb dX4_term_1 rfl (lv_at hl 1 rfl) ?_
  rcases bndT_inl hf with h_1 | ⟨_, u_3, h_1, hf⟩
  · exact cx_passv C ht hlocks (vx_runV (As := [.int a1]) (rest := []) ⟨hx, hb, hml, hown, hts⟩ (t_X4_needGroup l ad ck D tt hst h_1 _) (cwV 1 hts gX4_term_X4_needGroup rfl rfl rfl (by decide +kernel) ⟨Nat.le_of_ble_eq_true rfl, Nat.le_of_ble_eq_true rfl⟩) (cx_preV C (q0 := 0) (ci := 4) rfl rfl) rfl rfl hl.1 rfl (lv_room (Nat.le_of_ble_eq_true rfl)) dX4_term_2 ⟨Nat.le_of_ble_eq_true rfl, Nat.le_of_ble_eq_true rfl⟩) (Nat.le_refl _) (Nat.le_refl _)
  · refine cx_callv C (va_runV (As := [.int a1]) (rest := []) ⟨hx, hb, hml, hown, hts⟩ (k_X4_needGroup l ad ck D tt h_1 _) (cwV 1 hts gX4_term_X4_needGroup rfl rfl rfl (by decide +kernel) ⟨Nat.le_of_ble_eq_true rfl, Nat.le_of_ble_eq_true rfl⟩) (cx_preV C (q0 := 0) (ci := 4) rfl rfl) rfl rfl hl.1 rfl (lv_room (Nat.le_of_ble_eq_true rfl)) dX4_term_2 ⟨Nat.zero_le _, Nat.zero_le _⟩) (fun H locs C => ?_)
    refine lv_aload_n hx hb dX4_term_5 rfl (lv_at hl 0 rfl) ?_
    refine cx_get C hx hb (T := TX4) (N := 8) hts (by decide +kernel) hown 0 rfl rfl 2 (by decide) (hts (.fieldLink RX4 26 "AggregateRows" "results" "LAggregateRows$Results;") (by decide +kernel)) (fun _ h9 => h9) (v := .ref (ad 9)) rfl dX4_term_6 ?_
    refine lv_iload_n hx hb dX4_term_9 rfl (lv_at hl 1 rfl) ?_
    obtain ⟨r_5, u_6, h_4, hf⟩ := bnd_some hf
    refine cx_calli C (va_runV (As := [.int a1]) (rest := []) ⟨hx, hb, hml, hown, hts⟩ (k_X0_termOfResult l ad ck D tt h_4 _) (cwV 1 hts gX4_term_X0_termOfResult rfl rfl rfl (by decide +kernel) ⟨Nat.le_of_ble_eq_true rfl, Nat.le_of_ble_eq_true rfl⟩) (cx_preV C (q0 := 9) (ci := 0) rfl rfl) rfl rfl hl.1 rfl (lv_room (Nat.le_of_ble_eq_true rfl)) dX4_term_10 ⟨Nat.zero_le _, Nat.zero_le _⟩) (fun H locs C => ?_)
    cases hf
/-! ===== X4_length ===== -/
def fX4_length (u : St) (a1 : Int32) : Option ((Nat ⊕ Int32) × St) := bndT (fX4_needGroup u a1) (fun _ u_3 => bnd (fX0_textLength u_3 a1) (fun r_5 u_6 => some (.inr r_5, u_6)))
abbrev rmX4_length : Room := { frames := 7, cells := 0, slots := 0, locals := 113 }
set_option maxHeartbeats 4000000 in
set_option maxRecDepth 100000 in
theorem k_X4_length (l : Launch) (ad : Nat → Nat) (ck : Nat → ClassId) (D : va_G) (tt : Nat) {u : St} {a1 : Int32} {r : Int32} {u' : St} (hf : fX4_length u a1 = some (.inr r, u')) : MI l yX4_length wsX4_length rmX4_length (wA ad ck) ck D tt [.ref (ad 0), .int a1] u r u' := by
  intro sz
  refine Met.ofW (cc := cX4_length) (maxL := 2) (ret := (some .int)) (by decide) rfl ?_
  intro p e s m args below meth c s₁ B hml hv
  obtain ⟨rfl, hsz, C⟩ := cx_entry hv
  have hx := B.exec
  have hb := B.bytes
  have hr := B.returns
  have hts := atoms_spec (ws := wsX4_length) B.pre
  have hown : s.vm.findClass RX4 = some m.cls := findClass_of_methodNamed B.named
  have hlocks := B.notSynchronized
  have hl := lv_entry ([.ref (ad 0), .int a1]) (n := 2) (Nat.le_of_ble_eq_true rfl)
  rw [lg_entry_eq]
  generalize (lg_sl ([.ref (ad 0), .int a1]) ++ List.replicate (2 - (lg_sl ([.ref (ad 0), .int a1])).length) Slot.unset).toArray = ls at hl ⊢
  have hl : lv_has ls 2 [(0, .ref (ad 0)), (1, .int a1)] := hl
  unfold fX4_length at hf
  refine lv_aload_n hx hb dX4_length_0 rfl (lv_at hl 0 rfl) ?_
  refine lv_iload_n hx hb dX4_length_1 rfl (lv_at hl 1 rfl) ?_
  obtain ⟨_, u_3, h_1, hf⟩ := bndT_inr hf
  refine cx_callv C (va_runV (As := [.int a1]) (rest := []) ⟨hx, hb, hml, hown, hts⟩ (k_X4_needGroup l ad ck D tt h_1 _) (cwV 1 hts gX4_length_X4_needGroup rfl rfl rfl (by decide +kernel) ⟨Nat.le_of_ble_eq_true rfl, Nat.le_of_ble_eq_true rfl⟩) (cx_preV C (q0 := 0) (ci := 4) rfl rfl) rfl rfl hl.1 rfl (lv_room (Nat.le_of_ble_eq_true rfl)) dX4_length_2 ⟨Nat.zero_le _, Nat.zero_le _⟩) (fun H locs C => ?_)
  refine lv_aload_n hx hb dX4_length_5 rfl (lv_at hl 0 rfl) ?_
  refine cx_get C hx hb (T := TX4) (N := 8) hts (by decide +kernel) hown 0 rfl rfl 2 (by decide) (hts (.fieldLink RX4 26 "AggregateRows" "results" "LAggregateRows$Results;") (by decide +kernel)) (fun _ h9 => h9) (v := .ref (ad 9)) rfl dX4_length_6 ?_
  refine lv_iload_n hx hb dX4_length_9 rfl (lv_at hl 1 rfl) ?_
  obtain ⟨r_5, u_6, h_4, hf⟩ := bnd_some hf
  refine cx_calli C (va_runV (As := [.int a1]) (rest := []) ⟨hx, hb, hml, hown, hts⟩ (k_X0_textLength l ad ck D tt h_4 _) (cwV 1 hts gX4_length_X0_textLength rfl rfl rfl (by decide +kernel) ⟨Nat.le_of_ble_eq_true rfl, Nat.le_of_ble_eq_true rfl⟩) (cx_preV C (q0 := 9) (ci := 0) rfl rfl) rfl rfl hl.1 rfl (lv_room (Nat.le_of_ble_eq_true rfl)) dX4_length_10 ⟨Nat.zero_le _, Nat.zero_le _⟩) (fun H locs C => ?_)
  exact cx_iretT C hx hb hr hlocks hf dX4_length_13
abbrev rmTX4_length : Room := { frames := 7, cells := 1, slots := 6, locals := 113 }
set_option maxHeartbeats 4000000 in
set_option maxRecDepth 100000 in
theorem t_X4_length (l : Launch) (ad : Nat → Nat) (ck : Nat → ClassId) (D : va_G) (tt : Nat) (hst : l.stackTraces = false) {u : St} {a1 : Int32} {k : Nat} {u' : St} (hf : fX4_length u a1 = some (.inl k, u')) : MT l yX4_length wsX4_length rmTX4_length (wA ad ck) ck D tt [.ref (ad 0), .int a1] u k u' := by
  intro sz
  refine vx_ofW (cc := cX4_length) (maxL := 2) (ret := (some .int)) (by decide) rfl ?_
  intro p e s m args below meth c s₁ B hml ht hv
  obtain ⟨rfl, hsz, C⟩ := cx_entry hv
  have hx := B.exec
  have hb := B.bytes
  have hr := B.returns
  have hts := atoms_spec (ws := wsX4_length) B.pre
  have hown : s.vm.findClass RX4 = some m.cls := findClass_of_methodNamed B.named
  have hlocks := B.notSynchronized
  have hl := lv_entry ([.ref (ad 0), .int a1]) (n := 2) (Nat.le_of_ble_eq_true rfl)
  rw [lg_entry_eq]
  generalize (lg_sl ([.ref (ad 0), .int a1]) ++ List.replicate (2 - (lg_sl ([.ref (ad 0), .int a1])).length) Slot.unset).toArray = ls at hl ⊢
  have hl : lv_has ls 2 [(0, .ref (ad 0)), (1, .int a1)] := hl
  unfold fX4_length at hf
  refine lv_aload_n hx hb dX4_length_0 rfl (lv_at hl 0 rfl) ?_
  refine lv_iload_n hx hb dX4_length_1 rfl (lv_at hl 1 rfl) ?_
  rcases bndT_inl hf with h_1 | ⟨_, u_3, h_1, hf⟩
  · exact cx_passv C ht hlocks (vx_runV (As := [.int a1]) (rest := []) ⟨hx, hb, hml, hown, hts⟩ (t_X4_needGroup l ad ck D tt hst h_1 _) (cwV 1 hts gX4_length_X4_needGroup rfl rfl rfl (by decide +kernel) ⟨Nat.le_of_ble_eq_true rfl, Nat.le_of_ble_eq_true rfl⟩) (cx_preV C (q0 := 0) (ci := 4) rfl rfl) rfl rfl hl.1 rfl (lv_room (Nat.le_of_ble_eq_true rfl)) dX4_length_2 ⟨Nat.le_of_ble_eq_true rfl, Nat.le_of_ble_eq_true rfl⟩) (Nat.le_refl _) (Nat.le_refl _)
  · refine cx_callv C (va_runV (As := [.int a1]) (rest := []) ⟨hx, hb, hml, hown, hts⟩ (k_X4_needGroup l ad ck D tt h_1 _) (cwV 1 hts gX4_length_X4_needGroup rfl rfl rfl (by decide +kernel) ⟨Nat.le_of_ble_eq_true rfl, Nat.le_of_ble_eq_true rfl⟩) (cx_preV C (q0 := 0) (ci := 4) rfl rfl) rfl rfl hl.1 rfl (lv_room (Nat.le_of_ble_eq_true rfl)) dX4_length_2 ⟨Nat.zero_le _, Nat.zero_le _⟩) (fun H locs C => ?_)
    refine lv_aload_n hx hb dX4_length_5 rfl (lv_at hl 0 rfl) ?_
    refine cx_get C hx hb (T := TX4) (N := 8) hts (by decide +kernel) hown 0 rfl rfl 2 (by decide) (hts (.fieldLink RX4 26 "AggregateRows" "results" "LAggregateRows$Results;") (by decide +kernel)) (fun _ h9 => h9) (v := .ref (ad 9)) rfl dX4_length_6 ?_
    refine lv_iload_n hx hb dX4_length_9 rfl (lv_at hl 1 rfl) ?_
    obtain ⟨r_5, u_6, h_4, hf⟩ := bnd_some hf
    refine cx_calli C (va_runV (As := [.int a1]) (rest := []) ⟨hx, hb, hml, hown, hts⟩ (k_X0_textLength l ad ck D tt h_4 _) (cwV 1 hts gX4_length_X0_textLength rfl rfl rfl (by decide +kernel) ⟨Nat.le_of_ble_eq_true rfl, Nat.le_of_ble_eq_true rfl⟩) (cx_preV C (q0 := 9) (ci := 0) rfl rfl) rfl rfl hl.1 rfl (lv_room (Nat.le_of_ble_eq_true rfl)) dX4_length_10 ⟨Nat.zero_le _, Nat.zero_le _⟩) (fun H locs C => ?_)
    cases hf
/-! ===== X4_charAt ===== -/
def fX4_charAt (u : St) (a1 : Int32) (a2 : Int32) : Option ((Nat ⊕ Int32) × St) := bndT (fX4_needGroup u a1) (fun _ u_3 => (if a2 < 0 then some (.inl 3, u_3) else bnd (fX0_textLength u_3 a1) (fun r_6 u_7 => (if a2 < r_6 then bnd (fX0_character u_7 a1 a2) (fun r_10 u_11 => some (.inr r_10, u_11)) else some (.inl 3, u_7)))))
theorem xi_X4_charAt_I : ∀ w ∈ (vx_atS RX4 149 xI xns).filter goodWord, w ∈ wsX4_charAt := by decide +kernel
abbrev rmX4_charAt : Room := { frames := 7, cells := 0, slots := 0, locals := 113 }
set_option maxHeartbeats 4000000 in
set_option maxRecDepth 100000 in
theorem k_X4_charAt (l : Launch) (ad : Nat → Nat) (ck : Nat → ClassId) (D : va_G) (tt : Nat) {u : St} {a1 : Int32} {a2 : Int32} {r : Int32} {u' : St} (hf : fX4_charAt u a1 a2 = some (.inr r, u')) : MI l yX4_charAt wsX4_charAt rmX4_charAt (wA ad ck) ck D tt [.ref (ad 0), .int a1, .int a2] u r u' := by
  intro sz
  refine Met.ofW (cc := cX4_charAt) (maxL := 3) (ret := (some .int)) (by decide) rfl ?_
  intro p e s m args below meth c s₁ B hml hv
  obtain ⟨rfl, hsz, C⟩ := cx_entry hv
  have hx := B.exec
  have hb := B.bytes
  have hr := B.returns
  have hts := atoms_spec (ws := wsX4_charAt) B.pre
  have hown : s.vm.findClass RX4 = some m.cls := findClass_of_methodNamed B.named
  have hlocks := B.notSynchronized
  have hl := lv_entry ([.ref (ad 0), .int a1, .int a2]) (n := 3) (Nat.le_of_ble_eq_true rfl)
  rw [lg_entry_eq]
  generalize (lg_sl ([.ref (ad 0), .int a1, .int a2]) ++ List.replicate (3 - (lg_sl ([.ref (ad 0), .int a1, .int a2])).length) Slot.unset).toArray = ls at hl ⊢
  have hl : lv_has ls 3 [(0, .ref (ad 0)), (1, .int a1), (2, .int a2)] := hl
  unfold fX4_charAt at hf
  refine lv_aload_n hx hb dX4_charAt_0 rfl (lv_at hl 0 rfl) ?_
  refine lv_iload_n hx hb dX4_charAt_1 rfl (lv_at hl 1 rfl) ?_
  obtain ⟨_, u_3, h_1, hf⟩ := bndT_inr hf
  refine cx_callv C (va_runV (As := [.int a1]) (rest := []) ⟨hx, hb, hml, hown, hts⟩ (k_X4_needGroup l ad ck D tt h_1 _) (cwV 1 hts gX4_charAt_X4_needGroup rfl rfl rfl (by decide +kernel) ⟨Nat.le_of_ble_eq_true rfl, Nat.le_of_ble_eq_true rfl⟩) (cx_preV C (q0 := 0) (ci := 4) rfl rfl) rfl rfl hl.1 rfl (lv_room (Nat.le_of_ble_eq_true rfl)) dX4_charAt_2 ⟨Nat.zero_le _, Nat.zero_le _⟩) (fun H locs C => ?_)
  refine lv_iload_n hx hb dX4_charAt_5 rfl (lv_at hl 2 rfl) ?_
  refine lv_if_lt (tgt := 21) hx hb dX4_charAt_6 (by decide) (fun c_4 => ?_) (fun c_4 => ?_)
  · replace hf := (if_pos c_4).symm.trans hf
    cases hf
  · replace hf := (if_neg c_4).symm.trans hf
    refine lv_iload_n hx hb dX4_charAt_9 rfl (lv_at hl 2 rfl) ?_
    refine lv_aload_n hx hb dX4_charAt_10 rfl (lv_at hl 0 rfl) ?_
    refine cx_get C hx hb (T := TX4) (N := 8) hts (by decide +kernel) hown 0 rfl rfl 2 (by decide) (hts (.fieldLink RX4 26 "AggregateRows" "results" "LAggregateRows$Results;") (by decide +kernel)) (fun _ h9 => h9) (v := .ref (ad 9)) rfl dX4_charAt_11 ?_
    refine lv_iload_n hx hb dX4_charAt_14 rfl (lv_at hl 1 rfl) ?_
    obtain ⟨r_6, u_7, h_5, hf⟩ := bnd_some hf
    refine cx_calli C (va_runV (As := [.int a1]) (rest := [.int a2]) ⟨hx, hb, hml, hown, hts⟩ (k_X0_textLength l ad ck D tt h_5 _) (cwV 1 hts gX4_charAt_X0_textLength rfl rfl rfl (by decide +kernel) ⟨Nat.le_of_ble_eq_true rfl, Nat.le_of_ble_eq_true rfl⟩) (cx_preV C (q0 := 9) (ci := 0) rfl rfl) rfl rfl hl.1 rfl (lv_room (Nat.le_of_ble_eq_true rfl)) dX4_charAt_15 ⟨Nat.zero_le _, Nat.zero_le _⟩) (fun H locs C => ?_)
    refine lv_icmp_lt (tgt := 31) hx hb dX4_charAt_18 (by decide) (fun c_8 => ?_) (fun c_8 => ?_)
    · replace hf := (if_pos c_8).symm.trans hf
      refine lv_aload_n hx hb dX4_charAt_31 rfl (lv_at hl 0 rfl) ?_
      refine cx_get C hx hb (T := TX4) (N := 8) hts (by decide +kernel) hown 0 rfl rfl 2 (by decide) (hts (.fieldLink RX4 26 "AggregateRows" "results" "LAggregateRows$Results;") (by decide +kernel)) (fun _ h9 => h9) (v := .ref (ad 9)) rfl dX4_charAt_32 ?_
      refine lv_iload_n hx hb dX4_charAt_35 rfl (lv_at hl 1 rfl) ?_
      refine lv_iload_n hx hb dX4_charAt_36 rfl (lv_at hl 2 rfl) ?_
      obtain ⟨r_10, u_11, h_9, hf⟩ := bnd_some hf
      refine cx_calli C (va_runV (As := [.int a1, .int a2]) (rest := []) ⟨hx, hb, hml, hown, hts⟩ (k_X0_character l ad ck D tt h_9 _) (cwV 2 hts gX4_charAt_X0_character rfl rfl rfl (by decide +kernel) ⟨Nat.le_of_ble_eq_true rfl, Nat.le_of_ble_eq_true rfl⟩) (cx_preV C (q0 := 9) (ci := 0) rfl rfl) rfl rfl hl.1 rfl (lv_room (Nat.le_of_ble_eq_true rfl)) dX4_charAt_37 ⟨Nat.zero_le _, Nat.zero_le _⟩) (fun H locs C => ?_)
      exact cx_iretT C hx hb hr hlocks hf dX4_charAt_40
    · replace hf := (if_neg c_8).symm.trans hf
      cases hf
abbrev rmTX4_charAt : Room := { frames := 7, cells := 1, slots := 6, locals := 113 }
set_option maxHeartbeats 4000000 in
set_option maxRecDepth 100000 in
theorem t_X4_charAt (l : Launch) (ad : Nat → Nat) (ck : Nat → ClassId) (D : va_G) (tt : Nat) (hst : l.stackTraces = false) {u : St} {a1 : Int32} {a2 : Int32} {k : Nat} {u' : St} (hf : fX4_charAt u a1 a2 = some (.inl k, u')) : MT l yX4_charAt wsX4_charAt rmTX4_charAt (wA ad ck) ck D tt [.ref (ad 0), .int a1, .int a2] u k u' := by
  intro sz
  refine vx_ofW (cc := cX4_charAt) (maxL := 3) (ret := (some .int)) (by decide) rfl ?_
  intro p e s m args below meth c s₁ B hml ht hv
  obtain ⟨rfl, hsz, C⟩ := cx_entry hv
  have hx := B.exec
  have hb := B.bytes
  have hr := B.returns
  have hts := atoms_spec (ws := wsX4_charAt) B.pre
  have hown : s.vm.findClass RX4 = some m.cls := findClass_of_methodNamed B.named
  have hlocks := B.notSynchronized
  have hl := lv_entry ([.ref (ad 0), .int a1, .int a2]) (n := 3) (Nat.le_of_ble_eq_true rfl)
  rw [lg_entry_eq]
  generalize (lg_sl ([.ref (ad 0), .int a1, .int a2]) ++ List.replicate (3 - (lg_sl ([.ref (ad 0), .int a1, .int a2])).length) Slot.unset).toArray = ls at hl ⊢
  have hl : lv_has ls 3 [(0, .ref (ad 0)), (1, .int a1), (2, .int a2)] := hl
  unfold fX4_charAt at hf
  refine lv_aload_n hx hb dX4_charAt_0 rfl (lv_at hl 0 rfl) ?_
  refine lv_iload_n hx hb dX4_charAt_1 rfl (lv_at hl 1 rfl) ?_
  rcases bndT_inl hf with h_1 | ⟨_, u_3, h_1, hf⟩
  · exact cx_passv C ht hlocks (vx_runV (As := [.int a1]) (rest := []) ⟨hx, hb, hml, hown, hts⟩ (t_X4_needGroup l ad ck D tt hst h_1 _) (cwV 1 hts gX4_charAt_X4_needGroup rfl rfl rfl (by decide +kernel) ⟨Nat.le_of_ble_eq_true rfl, Nat.le_of_ble_eq_true rfl⟩) (cx_preV C (q0 := 0) (ci := 4) rfl rfl) rfl rfl hl.1 rfl (lv_room (Nat.le_of_ble_eq_true rfl)) dX4_charAt_2 ⟨Nat.le_of_ble_eq_true rfl, Nat.le_of_ble_eq_true rfl⟩) (Nat.le_refl _) (Nat.le_refl _)
  · refine cx_callv C (va_runV (As := [.int a1]) (rest := []) ⟨hx, hb, hml, hown, hts⟩ (k_X4_needGroup l ad ck D tt h_1 _) (cwV 1 hts gX4_charAt_X4_needGroup rfl rfl rfl (by decide +kernel) ⟨Nat.le_of_ble_eq_true rfl, Nat.le_of_ble_eq_true rfl⟩) (cx_preV C (q0 := 0) (ci := 4) rfl rfl) rfl rfl hl.1 rfl (lv_room (Nat.le_of_ble_eq_true rfl)) dX4_charAt_2 ⟨Nat.zero_le _, Nat.zero_le _⟩) (fun H locs C => ?_)
    refine lv_iload_n hx hb dX4_charAt_5 rfl (lv_at hl 2 rfl) ?_
    refine lv_if_lt (tgt := 21) hx hb dX4_charAt_6 (by decide) (fun c_4 => ?_) (fun c_4 => ?_)
    · replace hf := (if_pos c_4).symm.trans hf
      exact cx_throw (k0 := 3) C hx hb hst hown (cls := xI) (text := "no such character") (ik := 145) (is := 147) (ic := 149) rfl (by decide +kernel) (hts (.classLink RX4 145 xI) (by decide +kernel)) (hts (.initialized xI) (by decide +kernel)) (by decide) (fun w h => hts w (xi_X4_charAt_I w h)) xb_I C.2.2.2.2.2.2.2.2.2.2.2.2.1 xg_I (hl.1.trans hml.symm) dX4_charAt_21 dX4_charAt_24 dX4_charAt_25 dX4_charAt_27 dX4_charAt_30 ht (Nat.le_of_ble_eq_true rfl) (Nat.le_of_ble_eq_true rfl) (Nat.le_of_ble_eq_true rfl) (Nat.le_of_ble_eq_true rfl) hlocks (Nat.le_refl _) (Nat.le_refl _) hf
    · replace hf := (if_neg c_4).symm.trans hf
      refine lv_iload_n hx hb dX4_charAt_9 rfl (lv_at hl 2 rfl) ?_
      refine lv_aload_n hx hb dX4_charAt_10 rfl (lv_at hl 0 rfl) ?_
      refine cx_get C hx hb (T := TX4) (N := 8) hts (by decide +kernel) hown 0 rfl rfl 2 (by decide) (hts (.fieldLink RX4 26 "AggregateRows" "results" "LAggregateRows$Results;") (by decide +kernel)) (fun _ h9 => h9) (v := .ref (ad 9)) rfl dX4_charAt_11 ?_
      refine lv_iload_n hx hb dX4_charAt_14 rfl (lv_at hl 1 rfl) ?_
      obtain ⟨r_6, u_7, h_5, hf⟩ := bnd_some hf
      refine cx_calli C (va_runV (As := [.int a1]) (rest := [.int a2]) ⟨hx, hb, hml, hown, hts⟩ (k_X0_textLength l ad ck D tt h_5 _) (cwV 1 hts gX4_charAt_X0_textLength rfl rfl rfl (by decide +kernel) ⟨Nat.le_of_ble_eq_true rfl, Nat.le_of_ble_eq_true rfl⟩) (cx_preV C (q0 := 9) (ci := 0) rfl rfl) rfl rfl hl.1 rfl (lv_room (Nat.le_of_ble_eq_true rfl)) dX4_charAt_15 ⟨Nat.zero_le _, Nat.zero_le _⟩) (fun H locs C => ?_)
      refine lv_icmp_lt (tgt := 31) hx hb dX4_charAt_18 (by decide) (fun c_8 => ?_) (fun c_8 => ?_)
      · replace hf := (if_pos c_8).symm.trans hf
        refine lv_aload_n hx hb dX4_charAt_31 rfl (lv_at hl 0 rfl) ?_
        refine cx_get C hx hb (T := TX4) (N := 8) hts (by decide +kernel) hown 0 rfl rfl 2 (by decide) (hts (.fieldLink RX4 26 "AggregateRows" "results" "LAggregateRows$Results;") (by decide +kernel)) (fun _ h9 => h9) (v := .ref (ad 9)) rfl dX4_charAt_32 ?_
        refine lv_iload_n hx hb dX4_charAt_35 rfl (lv_at hl 1 rfl) ?_
        refine lv_iload_n hx hb dX4_charAt_36 rfl (lv_at hl 2 rfl) ?_
        obtain ⟨r_10, u_11, h_9, hf⟩ := bnd_some hf
        refine cx_calli C (va_runV (As := [.int a1, .int a2]) (rest := []) ⟨hx, hb, hml, hown, hts⟩ (k_X0_character l ad ck D tt h_9 _) (cwV 2 hts gX4_charAt_X0_character rfl rfl rfl (by decide +kernel) ⟨Nat.le_of_ble_eq_true rfl, Nat.le_of_ble_eq_true rfl⟩) (cx_preV C (q0 := 9) (ci := 0) rfl rfl) rfl rfl hl.1 rfl (lv_room (Nat.le_of_ble_eq_true rfl)) dX4_charAt_37 ⟨Nat.zero_le _, Nat.zero_le _⟩) (fun H locs C => ?_)
        cases hf
      · replace hf := (if_neg c_8).symm.trans hf
        exact cx_throw (k0 := 3) C hx hb hst hown (cls := xI) (text := "no such character") (ik := 145) (is := 147) (ic := 149) rfl (by decide +kernel) (hts (.classLink RX4 145 xI) (by decide +kernel)) (hts (.initialized xI) (by decide +kernel)) (by decide) (fun w h => hts w (xi_X4_charAt_I w h)) xb_I C.2.2.2.2.2.2.2.2.2.2.2.2.1 xg_I (hl.1.trans hml.symm) dX4_charAt_21 dX4_charAt_24 dX4_charAt_25 dX4_charAt_27 dX4_charAt_30 ht (Nat.le_of_ble_eq_true rfl) (Nat.le_of_ble_eq_true rfl) (Nat.le_of_ble_eq_true rfl) (Nat.le_of_ble_eq_true rfl) hlocks (Nat.le_refl _) (Nat.le_refl _) hf
/-! ===== X4_having ===== -/
def fX4_having_49  (x1 : Int32) (x2 : Int32) (x3 : Int64) (x5 : Int64) (x7 : Int32) (y0 : Int32) (w : St) : Option ((Nat ⊕ Int32) × St) := (if x2 < 0 then some (.inl 1, w) else (if 2 < x2 then some (.inl 1, w) else (if x7 = 0 then some (.inl 1, w) else (if y0 = 0 then some (.inl 1, w) else bnd (fX0_sortOf w x1) (fun r_6 u_7 => (if r_6 = 0 then bnd (fX0_upper u_7 x1) (fun r_10 u_11 => lt_ (r_10 * x5) (fun x9_12 => bnd (fX0_lower u_11 x1) (fun r_14 u_15 => lt_ (x3 * r_14) (fun x11_16 => (if x2 = 0 then (if x11_16 ≤ x9_12 then some (.inr 0, u_15) else some (.inr 1, u_15)) else (if x2 = 1 then (if x9_12 = x11_16 then some (.inr 1, u_15) else some (.inr 0, u_15)) else (if x9_12 ≤ x11_16 then some (.inr 0, u_15) else some (.inr 1, u_15)))))))) else some (.inr 0, u_7)))))))
def fX4_having_26  (x1 : Int32) (x2 : Int32) (x3 : Int64) (x5 : Int64) (y0 : Int32) (w : St) : Option ((Nat ⊕ Int32) × St) := (if x5 < 1 then fX4_having_49 x1 x2 x3 x5 y0 0 w else (if 1000000 < x5 then fX4_having_49 x1 x2 x3 x5 y0 0 w else fX4_having_49 x1 x2 x3 x5 y0 1 w))
def fX4_having (u : St) (a1 : Int32) (a2 : Int32) (a3 : Int64) (a5 : Int64) : Option ((Nat ⊕ Int32) × St) := bndT (fX4_needGroup u a1) (fun _ u_3 => (if a3 < (-1000000000) then fX4_having_26 a1 a2 a3 a5 0 u_3 else (if 1000000000 < a3 then fX4_having_26 a1 a2 a3 a5 0 u_3 else fX4_having_26 a1 a2 a3 a5 1 u_3)))
theorem xi_X4_having_A : ∀ w ∈ (vx_atS RX4 57 xA xns).filter goodWord, w ∈ wsX4_having := by decide +kernel
abbrev rmX4_having : Room := { frames := 7, cells := 0, slots := 0, locals := 113 }
set_option maxHeartbeats 4000000 in
set_option maxRecDepth 100000 in
theorem k_X4_having (l : Launch) (ad : Nat → Nat) (ck : Nat → ClassId) (D : va_G) (tt : Nat) {u : St} {a1 : Int32} {a2 : Int32} {a3 : Int64} {a5 : Int64} {r : Int32} {u' : St} (hf : fX4_having u a1 a2 a3 a5 = some (.inr r, u')) : MI l yX4_having wsX4_having rmX4_having (wA ad ck) ck D tt [.ref (ad 0), .int a1, .int a2, .long a3, .long a5] u r u' := by
  intro sz
  refine Met.ofW (cc := cX4_having) (maxL := 13) (ret := (some .boolean)) (by decide) rfl ?_
  intro p e s m args below meth c s₁ B hml hv
  obtain ⟨rfl, hsz, C⟩ := cx_entry hv
  have hx := B.exec
  have hb := B.bytes
  have hr := B.returns
  have hts := atoms_spec (ws := wsX4_having) B.pre
  have hown : s.vm.findClass RX4 = some m.cls := findClass_of_methodNamed B.named
  have hlocks := B.notSynchronized
  have J49 : ∀ (x1 : Int32) (x2 : Int32) (x3 : Int64) (x5 : Int64) (x7 : Int32) (y0 : Int32) (w : St) (H : Heap) (locs : List Loc) (ls : Array Slot), fX4_having_49 x1 x2 x3 x5 x7 y0 w = some (.inr r, u') → CX (wA ad ck) ck D tt (va_A (wA ad ck u) sz) s w H locs → lv_has ls 13 [(0, .ref (ad 0)), (1, .int x1), (2, .int x2), (3, .long x3), (5, .long x5), (7, .int x7)] → W p l e (headSpec wsX4_having rmX4_having).room s m ([.ref (ad 0), .int a1, .int a2, .long a3, .long a5] : List Value).toArray below meth c H locs 0 0 (MQ below (QI (wA ad ck) D u sz r u') ([.ref (ad 0), .int a1, .int a2, .long a3, .long a5] : List Value).toArray s 0 0 (va_A (wA ad ck u) sz)) (F0 m 49 ls [.int y0]) := by
    intro x1 x2 x3 x5 x7 y0 w H locs ls hf C hl
    unfold fX4_having_49 at hf
    refine lv_istore (lv' := [(8, .int y0), (0, .ref (ad 0)), (1, .int x1), (2, .int x2), (3, .long x3), (5, .long x5), (7, .int x7)]) hx hb dX4_having_49 hl (by decide) rfl (fun ls hl => ?_)
    refine lv_iload_n hx hb dX4_having_51 rfl (lv_at hl 3 rfl) ?_
    refine lv_if_lt (tgt := 70) hx hb dX4_having_52 (by decide) (fun c_1 => ?_) (fun c_1 => ?_)
    · replace hf := (if_pos c_1).symm.trans hf
      cases hf
    · replace hf := (if_neg c_1).symm.trans hf
      refine lv_iload_n hx hb dX4_having_55 rfl (lv_at hl 3 rfl) ?_
      refine lv_iconst (v := 2) hx hb dX4_having_56 (by decide) ?_
      refine lv_icmp_gt (tgt := 70) hx hb dX4_having_57 (by decide) (fun c_2 => ?_) (fun c_2 => ?_)
      · replace hf := (if_pos c_2).symm.trans hf
        cases hf
      · replace hf := (if_neg c_2).symm.trans hf
        refine lv_iload hx hb dX4_having_60 (lv_at hl 6 rfl) ?_
        refine lv_if_eq (tgt := 70) hx hb dX4_having_62 (by decide) (fun c_3 => ?_) (fun c_3 => ?_)
        · replace hf := (if_pos c_3).symm.trans hf
          cases hf
        · replace hf := (if_neg c_3).symm.trans hf
          refine lv_iload hx hb dX4_having_65 (lv_at hl 0 rfl) ?_
          refine lv_if_ne (tgt := 80) hx hb dX4_having_67 (by decide) (fun c_4 => ?_) (fun c_4 => ?_)
          · replace hf := (if_neg c_4).symm.trans hf
            refine lv_aload_n hx hb dX4_having_80 rfl (lv_at hl 1 rfl) ?_
            refine cx_get C hx hb (T := TX4) (N := 8) hts (by decide +kernel) hown 0 rfl rfl 2 (by decide) (hts (.fieldLink RX4 26 "AggregateRows" "results" "LAggregateRows$Results;") (by decide +kernel)) (fun _ h9 => h9) (v := .ref (ad 9)) rfl dX4_having_81 ?_
            refine lv_iload_n hx hb dX4_having_84 rfl (lv_at hl 2 rfl) ?_
            obtain ⟨r_6, u_7, h_5, hf⟩ := bnd_some hf
            refine cx_calli C (va_runV (As := [.int x1]) (rest := []) ⟨hx, hb, hml, hown, hts⟩ (k_X0_sortOf l ad ck D tt h_5 _) (cwV 1 hts gX4_having_X0_sortOf rfl rfl rfl (by decide +kernel) ⟨Nat.le_of_ble_eq_true rfl, Nat.le_of_ble_eq_true rfl⟩) (cx_preV C (q0 := 9) (ci := 0) rfl rfl) rfl rfl hl.1 rfl (lv_room (Nat.le_of_ble_eq_true rfl)) dX4_having_85 ⟨Nat.zero_le _, Nat.zero_le _⟩) (fun H locs C => ?_)
            refine lv_if_eq (tgt := 93) hx hb dX4_having_88 (by decide) (fun c_8 => ?_) (fun c_8 => ?_)
            · replace hf := (if_pos c_8).symm.trans hf
              refine lv_aload_n hx hb dX4_having_93 rfl (lv_at hl 1 rfl) ?_
              refine cx_get C hx hb (T := TX4) (N := 8) hts (by decide +kernel) hown 0 rfl rfl 2 (by decide) (hts (.fieldLink RX4 26 "AggregateRows" "results" "LAggregateRows$Results;") (by decide +kernel)) (fun _ h9 => h9) (v := .ref (ad 9)) rfl dX4_having_94 ?_
              refine lv_iload_n hx hb dX4_having_97 rfl (lv_at hl 2 rfl) ?_
              obtain ⟨r_10, u_11, h_9, hf⟩ := bnd_some hf
              refine cx_calll C (va_runV (As := [.int x1]) (rest := []) ⟨hx, hb, hml, hown, hts⟩ (k_X0_upper l ad ck D tt h_9 _) (cwV 1 hts gX4_having_X0_upper rfl rfl rfl (by decide +kernel) ⟨Nat.le_of_ble_eq_true rfl, Nat.le_of_ble_eq_true rfl⟩) (cx_preV C (q0 := 9) (ci := 0) rfl rfl) rfl rfl hl.1 rfl (lv_room (Nat.le_of_ble_eq_true rfl)) dX4_having_98 ⟨Nat.zero_le _, Nat.zero_le _⟩) (fun H locs C => ?_)
              refine lv_lload hx hb dX4_having_101 (lv_at hl 5 rfl) ?_
              refine lv_lmul hx hb dX4_having_103 ?_
              refine lv_topl (fun x9_12 ex9_12 => ?_)
              replace hf := lt_at hf ex9_12
              refine lv_lstore (lv' := [(9, .long x9_12), (8, .int y0), (0, .ref (ad 0)), (1, .int x1), (2, .int x2), (3, .long x3), (5, .long x5), (7, .int x7)]) hx hb dX4_having_104 hl (by decide) rfl (fun ls hl => ?_)
              refine lv_lload_n hx hb dX4_having_106 rfl (lv_at hl 5 rfl) ?_
              refine lv_aload_n hx hb dX4_having_107 rfl (lv_at hl 2 rfl) ?_
              refine cx_get C hx hb (T := TX4) (N := 8) hts (by decide +kernel) hown 0 rfl rfl 2 (by decide) (hts (.fieldLink RX4 26 "AggregateRows" "results" "LAggregateRows$Results;") (by decide +kernel)) (fun _ h9 => h9) (v := .ref (ad 9)) rfl dX4_having_108 ?_
              refine lv_iload_n hx hb dX4_having_111 rfl (lv_at hl 3 rfl) ?_
              obtain ⟨r_14, u_15, h_13, hf⟩ := bnd_some hf
              refine cx_calll C (va_runV (As := [.int x1]) (rest := [.long x3]) ⟨hx, hb, hml, hown, hts⟩ (k_X0_lower l ad ck D tt h_13 _) (cwV 1 hts gX4_having_X0_lower rfl rfl rfl (by decide +kernel) ⟨Nat.le_of_ble_eq_true rfl, Nat.le_of_ble_eq_true rfl⟩) (cx_preV C (q0 := 9) (ci := 0) rfl rfl) rfl rfl hl.1 rfl (lv_room (Nat.le_of_ble_eq_true rfl)) dX4_having_112 ⟨Nat.zero_le _, Nat.zero_le _⟩) (fun H locs C => ?_)
              refine lv_lmul hx hb dX4_having_115 ?_
              refine lv_topl (fun x11_16 ex11_16 => ?_)
              replace hf := lt_at hf ex11_16
              refine lv_lstore (lv' := [(11, .long x11_16), (9, .long x9_12), (8, .int y0), (0, .ref (ad 0)), (1, .int x1), (2, .int x2), (3, .long x3), (5, .long x5), (7, .int x7)]) hx hb dX4_having_116 hl (by decide) rfl (fun ls hl => ?_)
              refine lv_iload_n hx hb dX4_having_118 rfl (lv_at hl 5 rfl) ?_
              refine lv_if_ne (tgt := 138) hx hb dX4_having_119 (by decide) (fun c_17 => ?_) (fun c_17 => ?_)
              · replace hf := (if_neg c_17).symm.trans hf
                refine lv_iload_n hx hb dX4_having_138 rfl (lv_at hl 5 rfl) ?_
                refine lv_iconst (v := 1) hx hb dX4_having_139 (by decide) ?_
                refine lv_icmp_ne (tgt := 159) hx hb dX4_having_140 (by decide) (fun c_18 => ?_) (fun c_18 => ?_)
                · replace hf := (if_neg c_18).symm.trans hf
                  refine lv_lload hx hb dX4_having_159 (lv_at hl 1 rfl) ?_
                  refine lv_lload hx hb dX4_having_161 (lv_at hl 0 rfl) ?_
                  refine W.lcmp hx hb dX4_having_163 ?_
                  refine lv_if_le (tgt := 171) hx hb dX4_having_164 (by decide) (fun c_19 => ?_) (fun c_19 => ?_)
                  · replace hf := (if_pos ((lg_cmp_le _ _).mp c_19)).symm.trans hf
                    refine lv_iconst (v := 0) hx hb dX4_having_171 (by decide) ?_
                    exact cx_zretT C hx hb hr (by decide) hlocks hf dX4_having_172
                  · replace hf := (if_neg (fun q => c_19 ((lg_cmp_le _ _).mpr q))).symm.trans hf
                    refine lv_iconst (v := 1) hx hb dX4_having_167 (by decide) ?_
                    refine lv_goto (tgt := 172) hx hb dX4_having_168 (by decide) ?_
                    exact cx_zretT C hx hb hr (by decide) hlocks hf dX4_having_172
                · replace hf := (if_pos c_18).symm.trans hf
                  refine lv_lload hx hb dX4_having_143 (lv_at hl 1 rfl) ?_
                  refine lv_lload hx hb dX4_having_145 (lv_at hl 0 rfl) ?_
                  refine W.lcmp hx hb dX4_having_147 ?_
                  refine lv_if_ne (tgt := 155) hx hb dX4_having_148 (by decide) (fun c_20 => ?_) (fun c_20 => ?_)
                  · replace hf := (if_neg (fun q => c_20 ((lg_cmp_eq _ _).mpr q))).symm.trans hf
                    refine lv_iconst (v := 0) hx hb dX4_having_155 (by decide) ?_
                    refine lv_goto (tgt := 172) hx hb dX4_having_156 (by decide) ?_
                    exact cx_zretT C hx hb hr (by decide) hlocks hf dX4_having_172
                  · replace hf := (if_pos ((lg_cmp_eq _ _).mp c_20)).symm.trans hf
                    refine lv_iconst (v := 1) hx hb dX4_having_151 (by decide) ?_
                    refine lv_goto (tgt := 172) hx hb dX4_having_152 (by decide) ?_
                    exact cx_zretT C hx hb hr (by decide) hlocks hf dX4_having_172
              · replace hf := (if_pos c_17).symm.trans hf
                refine lv_lload hx hb dX4_having_122 (lv_at hl 1 rfl) ?_
                refine lv_lload hx hb dX4_having_124 (lv_at hl 0 rfl) ?_
                refine W.lcmp hx hb dX4_having_126 ?_
                refine lv_if_ge (tgt := 134) hx hb dX4_having_127 (by decide) (fun c_21 => ?_) (fun c_21 => ?_)
                · replace hf := (if_pos ((lg_cmp_ge _ _).mp c_21)).symm.trans hf
                  refine lv_iconst (v := 0) hx hb dX4_having_134 (by decide) ?_
                  refine lv_goto (tgt := 172) hx hb dX4_having_135 (by decide) ?_
                  exact cx_zretT C hx hb hr (by decide) hlocks hf dX4_having_172
                · replace hf := (if_neg (fun q => c_21 ((lg_cmp_ge _ _).mpr q))).symm.trans hf
                  refine lv_iconst (v := 1) hx hb dX4_having_130 (by decide) ?_
                  refine lv_goto (tgt := 172) hx hb dX4_having_131 (by decide) ?_
                  exact cx_zretT C hx hb hr (by decide) hlocks hf dX4_having_172
            · replace hf := (if_neg c_8).symm.trans hf
              refine lv_iconst (v := 0) hx hb dX4_having_91 (by decide) ?_
              exact cx_zretT C hx hb hr (by decide) hlocks hf dX4_having_92
          · replace hf := (if_pos c_4).symm.trans hf
            cases hf
  have J26 : ∀ (x1 : Int32) (x2 : Int32) (x3 : Int64) (x5 : Int64) (y0 : Int32) (w : St) (H : Heap) (locs : List Loc) (ls : Array Slot), fX4_having_26 x1 x2 x3 x5 y0 w = some (.inr r, u') → CX (wA ad ck) ck D tt (va_A (wA ad ck u) sz) s w H locs → lv_has ls 13 [(0, .ref (ad 0)), (1, .int x1), (2, .int x2), (3, .long x3), (5, .long x5)] → W p l e (headSpec wsX4_having rmX4_having).room s m ([.ref (ad 0), .int a1, .int a2, .long a3, .long a5] : List Value).toArray below meth c H locs 0 0 (MQ below (QI (wA ad ck) D u sz r u') ([.ref (ad 0), .int a1, .int a2, .long a3, .long a5] : List Value).toArray s 0 0 (va_A (wA ad ck u) sz)) (F0 m 26 ls [.int y0]) := by
    intro x1 x2 x3 x5 y0 w H locs ls hf C hl
    unfold fX4_having_26 at hf
    refine lv_istore (lv' := [(7, .int y0), (0, .ref (ad 0)), (1, .int x1), (2, .int x2), (3, .long x3), (5, .long x5)]) hx hb dX4_having_26 hl (by decide) rfl (fun ls hl => ?_)
    refine lv_lload hx hb dX4_having_28 (lv_at hl 5 rfl) ?_
    refine lv_lconst (v := 1) hx hb dX4_having_30 (by decide) ?_
    refine W.lcmp hx hb dX4_having_31 ?_
    refine lv_if_lt (tgt := 48) hx hb dX4_having_32 (by decide) (fun c_1 => ?_) (fun c_1 => ?_)
    · replace hf := (if_pos ((lg_cmp_lt _ _).mp c_1)).symm.trans hf
      refine lv_iconst (v := 0) hx hb dX4_having_48 (by decide) ?_
      exact J49 x1 x2 x3 x5 y0 0 w _ _ _ hf C (lv_sub hl [1, 2, 3, 4, 5, 0] rfl)
    · replace hf := (if_neg (fun q => c_1 ((lg_cmp_lt _ _).mpr q))).symm.trans hf
      refine lv_lload hx hb dX4_having_35 (lv_at hl 5 rfl) ?_
      refine lv_ldc2 (v := 1000000) hx hb hown (hts (.constantLong RX4 158 (1000000)) (by decide +kernel)) dX4_having_37 ?_
      refine W.lcmp hx hb dX4_having_40 ?_
      refine lv_if_gt (tgt := 48) hx hb dX4_having_41 (by decide) (fun c_2 => ?_) (fun c_2 => ?_)
      · replace hf := (if_pos ((lg_cmp_gt _ _).mp c_2)).symm.trans hf
        refine lv_iconst (v := 0) hx hb dX4_having_48 (by decide) ?_
        exact J49 x1 x2 x3 x5 y0 0 w _ _ _ hf C (lv_sub hl [1, 2, 3, 4, 5, 0] rfl)
      · replace hf := (if_neg (fun q => c_2 ((lg_cmp_gt _ _).mpr q))).symm.trans hf
        refine lv_iconst (v := 1) hx hb dX4_having_44 (by decide) ?_
        refine lv_goto (tgt := 49) hx hb dX4_having_45 (by decide) ?_
        exact J49 x1 x2 x3 x5 y0 1 w _ _ _ hf C (lv_sub hl [1, 2, 3, 4, 5, 0] rfl)
  have hl := lv_entry ([.ref (ad 0), .int a1, .int a2, .long a3, .long a5]) (n := 13) (Nat.le_of_ble_eq_true rfl)
  rw [lg_entry_eq]
  generalize (lg_sl ([.ref (ad 0), .int a1, .int a2, .long a3, .long a5]) ++ List.replicate (13 - (lg_sl ([.ref (ad 0), .int a1, .int a2, .long a3, .long a5])).length) Slot.unset).toArray = ls at hl ⊢
  have hl : lv_has ls 13 [(0, .ref (ad 0)), (1, .int a1), (2, .int a2), (3, .long a3), (5, .long a5)] := hl
  unfold fX4_having at hf
  refine lv_aload_n hx hb dX4_having_0 rfl (lv_at hl 0 rfl) ?_
  refine lv_iload_n hx hb dX4_having_1 rfl (lv_at hl 1 rfl) ?_
  obtain ⟨_, u_3, h_1, hf⟩ := bndT_inr hf
  refine cx_callv C (va_runV (As := [.int a1]) (rest := []) ⟨hx, hb, hml, hown, hts⟩ (k_X4_needGroup l ad ck D tt h_1 _) (cwV 1 hts gX4_having_X4_needGroup rfl rfl rfl (by decide +kernel) ⟨Nat.le_of_ble_eq_true rfl, Nat.le_of_ble_eq_true rfl⟩) (cx_preV C (q0 := 0) (ci := 4) rfl rfl) rfl rfl hl.1 rfl (lv_room (Nat.le_of_ble_eq_true rfl)) dX4_having_2 ⟨Nat.zero_le _, Nat.zero_le _⟩) (fun H locs C => ?_)
  refine lv_lload_n hx hb dX4_having_5 rfl (lv_at hl 3 rfl) ?_
  refine lv_ldc2 (v := (-1000000000)) hx hb hown (hts (.constantLong RX4 154 (-1000000000)) (by decide +kernel)) dX4_having_6 ?_
  refine W.lcmp hx hb dX4_having_9 ?_
  refine lv_if_lt (tgt := 25) hx hb dX4_having_10 (by decide) (fun c_4 => ?_) (fun c_4 => ?_)
  · replace hf := (if_pos ((lg_cmp_lt _ _).mp c_4)).symm.trans hf
    refine lv_iconst (v := 0) hx hb dX4_having_25 (by decide) ?_
    exact J26 a1 a2 a3 a5 0 u_3 _ _ _ hf C (lv_sub hl [0, 1, 2, 3, 4] rfl)
  · replace hf := (if_neg (fun q => c_4 ((lg_cmp_lt _ _).mpr q))).symm.trans hf
    refine lv_lload_n hx hb dX4_having_13 rfl (lv_at hl 3 rfl) ?_
    refine lv_ldc2 (v := 1000000000) hx hb hown (hts (.constantLong RX4 156 (1000000000)) (by decide +kernel)) dX4_having_14 ?_
    refine W.lcmp hx hb dX4_having_17 ?_
    refine lv_if_gt (tgt := 25) hx hb dX4_having_18 (by decide) (fun c_5 => ?_) (fun c_5 => ?_)
    · replace hf := (if_pos ((lg_cmp_gt _ _).mp c_5)).symm.trans hf
      refine lv_iconst (v := 0) hx hb dX4_having_25 (by decide) ?_
      exact J26 a1 a2 a3 a5 0 u_3 _ _ _ hf C (lv_sub hl [0, 1, 2, 3, 4] rfl)
    · replace hf := (if_neg (fun q => c_5 ((lg_cmp_gt _ _).mpr q))).symm.trans hf
      refine lv_iconst (v := 1) hx hb dX4_having_21 (by decide) ?_
      refine lv_goto (tgt := 26) hx hb dX4_having_22 (by decide) ?_
      exact J26 a1 a2 a3 a5 1 u_3 _ _ _ hf C (lv_sub hl [0, 1, 2, 3, 4] rfl)
abbrev rmTX4_having : Room := { frames := 7, cells := 1, slots := 6, locals := 113 }
set_option maxHeartbeats 4000000 in
set_option maxRecDepth 100000 in
theorem t_X4_having (l : Launch) (ad : Nat → Nat) (ck : Nat → ClassId) (D : va_G) (tt : Nat) (hst : l.stackTraces = false) {u : St} {a1 : Int32} {a2 : Int32} {a3 : Int64} {a5 : Int64} {k : Nat} {u' : St} (hf : fX4_having u a1 a2 a3 a5 = some (.inl k, u')) : MT l yX4_having wsX4_having rmTX4_having (wA ad ck) ck D tt [.ref (ad 0), .int a1, .int a2, .long a3, .long a5] u k u' := by
  intro sz
  refine vx_ofW (cc := cX4_having) (maxL := 13) (ret := (some .boolean)) (by decide) rfl ?_
  intro p e s m args below meth c s₁ B hml ht hv
  obtain ⟨rfl, hsz, C⟩ := cx_entry hv
  have hx := B.exec
  have hb := B.bytes
  have hr := B.returns
  have hts := atoms_spec (ws := wsX4_having) B.pre
  have hown : s.vm.findClass RX4 = some m.cls := findClass_of_methodNamed B.named
  have hlocks := B.notSynchronized
  have J49 : ∀ (x1 : Int32) (x2 : Int32) (x3 : Int64) (x5 : Int64) (x7 : Int32) (y0 : Int32) (w : St) (H : Heap) (locs : List Loc) (ls : Array Slot), fX4_having_49 x1 x2 x3 x5 x7 y0 w = some (.inl k, u') → CX (wA ad ck) ck D tt (va_A (wA ad ck u) sz) s w H locs → lv_has ls 13 [(0, .ref (ad 0)), (1, .int x1), (2, .int x2), (3, .long x3), (5, .long x5), (7, .int x7)] → W p l e (headSpec wsX4_having rmTX4_having).room s m ([.ref (ad 0), .int a1, .int a2, .long a3, .long a5] : List Value).toArray below meth c H locs 0 0 (vx_MQ below QN (XT (wA ad ck) D u sz k u') ([.ref (ad 0), .int a1, .int a2, .long a3, .long a5] : List Value).toArray s 1 6 (va_A (wA ad ck u) sz)) (F0 m 49 ls [.int y0]) := by
    intro x1 x2 x3 x5 x7 y0 w H locs ls hf C hl
    unfold fX4_having_49 at hf
    refine lv_istore (lv' := [(8, .int y0), (0, .ref (ad 0)), (1, .int x1), (2, .int x2), (3, .long x3), (5, .long x5), (7, .int x7)]) hx hb dX4_having_49 hl (by decide) rfl (fun ls hl => ?_)
    refine lv_iload_n hx hb dX4_having_51 rfl (lv_at hl 3 rfl) ?_
    refine lv_if_lt (tgt := 70) hx hb dX4_having_52 (by decide) (fun c_1 => ?_) (fun c_1 => ?_)
    · replace hf := (if_pos c_1).symm.trans hf
      exact cx_throw (k0 := 1) C hx hb hst hown (cls := xA) (text := "no such bound") (ik := 53) (is := 160) (ic := 57) rfl (by decide +kernel) (hts (.classLink RX4 53 xA) (by decide +kernel)) (hts (.initialized xA) (by decide +kernel)) (by decide) (fun w h => hts w (xi_X4_having_A w h)) xb_A C.2.2.2.2.2.2.2.2.2.2.1 xg_A (hl.1.trans hml.symm) dX4_having_70 dX4_having_73 dX4_having_74 dX4_having_76 dX4_having_79 ht (Nat.le_of_ble_eq_true rfl) (Nat.le_of_ble_eq_true rfl) (Nat.le_of_ble_eq_true rfl) (Nat.le_of_ble_eq_true rfl) hlocks (Nat.le_refl _) (Nat.le_refl _) hf
    · replace hf := (if_neg c_1).symm.trans hf
      refine lv_iload_n hx hb dX4_having_55 rfl (lv_at hl 3 rfl) ?_
      refine lv_iconst (v := 2) hx hb dX4_having_56 (by decide) ?_
      refine lv_icmp_gt (tgt := 70) hx hb dX4_having_57 (by decide) (fun c_2 => ?_) (fun c_2 => ?_)
      · replace hf := (if_pos c_2).symm.trans hf
        exact cx_throw (k0 := 1) C hx hb hst hown (cls := xA) (text := "no such bound") (ik := 53) (is := 160) (ic := 57) rfl (by decide +kernel) (hts (.classLink RX4 53 xA) (by decide +kernel)) (hts (.initialized xA) (by decide +kernel)) (by decide) (fun w h => hts w (xi_X4_having_A w h)) xb_A C.2.2.2.2.2.2.2.2.2.2.1 xg_A (hl.1.trans hml.symm) dX4_having_70 dX4_having_73 dX4_having_74 dX4_having_76 dX4_having_79 ht (Nat.le_of_ble_eq_true rfl) (Nat.le_of_ble_eq_true rfl) (Nat.le_of_ble_eq_true rfl) (Nat.le_of_ble_eq_true rfl) hlocks (Nat.le_refl _) (Nat.le_refl _) hf
      · replace hf := (if_neg c_2).symm.trans hf
        refine lv_iload hx hb dX4_having_60 (lv_at hl 6 rfl) ?_
        refine lv_if_eq (tgt := 70) hx hb dX4_having_62 (by decide) (fun c_3 => ?_) (fun c_3 => ?_)
        · replace hf := (if_pos c_3).symm.trans hf
          exact cx_throw (k0 := 1) C hx hb hst hown (cls := xA) (text := "no such bound") (ik := 53) (is := 160) (ic := 57) rfl (by decide +kernel) (hts (.classLink RX4 53 xA) (by decide +kernel)) (hts (.initialized xA) (by decide +kernel)) (by decide) (fun w h => hts w (xi_X4_having_A w h)) xb_A C.2.2.2.2.2.2.2.2.2.2.1 xg_A (hl.1.trans hml.symm) dX4_having_70 dX4_having_73 dX4_having_74 dX4_having_76 dX4_having_79 ht (Nat.le_of_ble_eq_true rfl) (Nat.le_of_ble_eq_true rfl) (Nat.le_of_ble_eq_true rfl) (Nat.le_of_ble_eq_true rfl) hlocks (Nat.le_refl _) (Nat.le_refl _) hf
        · replace hf := (if_neg c_3).symm.trans hf
          refine lv_iload hx hb dX4_having_65 (lv_at hl 0 rfl) ?_
          refine lv_if_ne (tgt := 80) hx hb dX4_having_67 (by decide) (fun c_4 => ?_) (fun c_4 => ?_)
          · replace hf := (if_neg c_4).symm.trans hf
            refine lv_aload_n hx hb dX4_having_80 rfl (lv_at hl 1 rfl) ?_
            refine cx_get C hx hb (T := TX4) (N := 8) hts (by decide +kernel) hown 0 rfl rfl 2 (by decide) (hts (.fieldLink RX4 26 "AggregateRows" "results" "LAggregateRows$Results;") (by decide +kernel)) (fun _ h9 => h9) (v := .ref (ad 9)) rfl dX4_having_81 ?_
            refine lv_iload_n hx hb dX4_having_84 rfl (lv_at hl 2 rfl) ?_
            obtain ⟨r_6, u_7, h_5, hf⟩ := bnd_some hf
            refine cx_calli C (va_runV (As := [.int x1]) (rest := []) ⟨hx, hb, hml, hown, hts⟩ (k_X0_sortOf l ad ck D tt h_5 _) (cwV 1 hts gX4_having_X0_sortOf rfl rfl rfl (by decide +kernel) ⟨Nat.le_of_ble_eq_true rfl, Nat.le_of_ble_eq_true rfl⟩) (cx_preV C (q0 := 9) (ci := 0) rfl rfl) rfl rfl hl.1 rfl (lv_room (Nat.le_of_ble_eq_true rfl)) dX4_having_85 ⟨Nat.zero_le _, Nat.zero_le _⟩) (fun H locs C => ?_)
            refine lv_if_eq (tgt := 93) hx hb dX4_having_88 (by decide) (fun c_8 => ?_) (fun c_8 => ?_)
            · replace hf := (if_pos c_8).symm.trans hf
              refine lv_aload_n hx hb dX4_having_93 rfl (lv_at hl 1 rfl) ?_
              refine cx_get C hx hb (T := TX4) (N := 8) hts (by decide +kernel) hown 0 rfl rfl 2 (by decide) (hts (.fieldLink RX4 26 "AggregateRows" "results" "LAggregateRows$Results;") (by decide +kernel)) (fun _ h9 => h9) (v := .ref (ad 9)) rfl dX4_having_94 ?_
              refine lv_iload_n hx hb dX4_having_97 rfl (lv_at hl 2 rfl) ?_
              obtain ⟨r_10, u_11, h_9, hf⟩ := bnd_some hf
              refine cx_calll C (va_runV (As := [.int x1]) (rest := []) ⟨hx, hb, hml, hown, hts⟩ (k_X0_upper l ad ck D tt h_9 _) (cwV 1 hts gX4_having_X0_upper rfl rfl rfl (by decide +kernel) ⟨Nat.le_of_ble_eq_true rfl, Nat.le_of_ble_eq_true rfl⟩) (cx_preV C (q0 := 9) (ci := 0) rfl rfl) rfl rfl hl.1 rfl (lv_room (Nat.le_of_ble_eq_true rfl)) dX4_having_98 ⟨Nat.zero_le _, Nat.zero_le _⟩) (fun H locs C => ?_)
              refine lv_lload hx hb dX4_having_101 (lv_at hl 5 rfl) ?_
              refine lv_lmul hx hb dX4_having_103 ?_
              refine lv_topl (fun x9_12 ex9_12 => ?_)
              replace hf := lt_at hf ex9_12
              refine lv_lstore (lv' := [(9, .long x9_12), (8, .int y0), (0, .ref (ad 0)), (1, .int x1), (2, .int x2), (3, .long x3), (5, .long x5), (7, .int x7)]) hx hb dX4_having_104 hl (by decide) rfl (fun ls hl => ?_)
              refine lv_lload_n hx hb dX4_having_106 rfl (lv_at hl 5 rfl) ?_
              refine lv_aload_n hx hb dX4_having_107 rfl (lv_at hl 2 rfl) ?_
              refine cx_get C hx hb (T := TX4) (N := 8) hts (by decide +kernel) hown 0 rfl rfl 2 (by decide) (hts (.fieldLink RX4 26 "AggregateRows" "results" "LAggregateRows$Results;") (by decide +kernel)) (fun _ h9 => h9) (v := .ref (ad 9)) rfl dX4_having_108 ?_
              refine lv_iload_n hx hb dX4_having_111 rfl (lv_at hl 3 rfl) ?_
              obtain ⟨r_14, u_15, h_13, hf⟩ := bnd_some hf
              refine cx_calll C (va_runV (As := [.int x1]) (rest := [.long x3]) ⟨hx, hb, hml, hown, hts⟩ (k_X0_lower l ad ck D tt h_13 _) (cwV 1 hts gX4_having_X0_lower rfl rfl rfl (by decide +kernel) ⟨Nat.le_of_ble_eq_true rfl, Nat.le_of_ble_eq_true rfl⟩) (cx_preV C (q0 := 9) (ci := 0) rfl rfl) rfl rfl hl.1 rfl (lv_room (Nat.le_of_ble_eq_true rfl)) dX4_having_112 ⟨Nat.zero_le _, Nat.zero_le _⟩) (fun H locs C => ?_)
              refine lv_lmul hx hb dX4_having_115 ?_
              refine lv_topl (fun x11_16 ex11_16 => ?_)
              replace hf := lt_at hf ex11_16
              refine lv_lstore (lv' := [(11, .long x11_16), (9, .long x9_12), (8, .int y0), (0, .ref (ad 0)), (1, .int x1), (2, .int x2), (3, .long x3), (5, .long x5), (7, .int x7)]) hx hb dX4_having_116 hl (by decide) rfl (fun ls hl => ?_)
              refine lv_iload_n hx hb dX4_having_118 rfl (lv_at hl 5 rfl) ?_
              refine lv_if_ne (tgt := 138) hx hb dX4_having_119 (by decide) (fun c_17 => ?_) (fun c_17 => ?_)
              · replace hf := (if_neg c_17).symm.trans hf
                refine lv_iload_n hx hb dX4_having_138 rfl (lv_at hl 5 rfl) ?_
                refine lv_iconst (v := 1) hx hb dX4_having_139 (by decide) ?_
                refine lv_icmp_ne (tgt := 159) hx hb dX4_having_140 (by decide) (fun c_18 => ?_) (fun c_18 => ?_)
                · replace hf := (if_neg c_18).symm.trans hf
                  refine lv_lload hx hb dX4_having_159 (lv_at hl 1 rfl) ?_
                  refine lv_lload hx hb dX4_having_161 (lv_at hl 0 rfl) ?_
                  refine W.lcmp hx hb dX4_having_163 ?_
                  refine lv_if_le (tgt := 171) hx hb dX4_having_164 (by decide) (fun c_19 => ?_) (fun c_19 => ?_)
                  · replace hf := (if_pos ((lg_cmp_le _ _).mp c_19)).symm.trans hf
                    refine lv_iconst (v := 0) hx hb dX4_having_171 (by decide) ?_
                    cases hf
                  · replace hf := (if_neg (fun q => c_19 ((lg_cmp_le _ _).mpr q))).symm.trans hf
                    refine lv_iconst (v := 1) hx hb dX4_having_167 (by decide) ?_
                    refine lv_goto (tgt := 172) hx hb dX4_having_168 (by decide) ?_
                    cases hf
                · replace hf := (if_pos c_18).symm.trans hf
                  refine lv_lload hx hb dX4_having_143 (lv_at hl 1 rfl) ?_
                  refine lv_lload hx hb dX4_having_145 (lv_at hl 0 rfl) ?_
                  refine W.lcmp hx hb dX4_having_147 ?_
                  refine lv_if_ne (tgt := 155) hx hb dX4_having_148 (by decide) (fun c_20 => ?_) (fun c_20 => ?_)
                  · replace hf := (if_neg (fun q => c_20 ((lg_cmp_eq _ _).mpr q))).symm.trans hf
                    refine lv_iconst (v := 0) hx hb dX4_having_155 (by decide) ?_
                    refine lv_goto (tgt := 172) hx hb dX4_having_156 (by decide) ?_
                    cases hf
                  · replace hf := (if_pos ((lg_cmp_eq _ _).mp c_20)).symm.trans hf
                    refine lv_iconst (v := 1) hx hb dX4_having_151 (by decide) ?_
                    refine lv_goto (tgt := 172) hx hb dX4_having_152 (by decide) ?_
                    cases hf
              · replace hf := (if_pos c_17).symm.trans hf
                refine lv_lload hx hb dX4_having_122 (lv_at hl 1 rfl) ?_
                refine lv_lload hx hb dX4_having_124 (lv_at hl 0 rfl) ?_
                refine W.lcmp hx hb dX4_having_126 ?_
                refine lv_if_ge (tgt := 134) hx hb dX4_having_127 (by decide) (fun c_21 => ?_) (fun c_21 => ?_)
                · replace hf := (if_pos ((lg_cmp_ge _ _).mp c_21)).symm.trans hf
                  refine lv_iconst (v := 0) hx hb dX4_having_134 (by decide) ?_
                  refine lv_goto (tgt := 172) hx hb dX4_having_135 (by decide) ?_
                  cases hf
                · replace hf := (if_neg (fun q => c_21 ((lg_cmp_ge _ _).mpr q))).symm.trans hf
                  refine lv_iconst (v := 1) hx hb dX4_having_130 (by decide) ?_
                  refine lv_goto (tgt := 172) hx hb dX4_having_131 (by decide) ?_
                  cases hf
            · replace hf := (if_neg c_8).symm.trans hf
              refine lv_iconst (v := 0) hx hb dX4_having_91 (by decide) ?_
              cases hf
          · replace hf := (if_pos c_4).symm.trans hf
            exact cx_throw (k0 := 1) C hx hb hst hown (cls := xA) (text := "no such bound") (ik := 53) (is := 160) (ic := 57) rfl (by decide +kernel) (hts (.classLink RX4 53 xA) (by decide +kernel)) (hts (.initialized xA) (by decide +kernel)) (by decide) (fun w h => hts w (xi_X4_having_A w h)) xb_A C.2.2.2.2.2.2.2.2.2.2.1 xg_A (hl.1.trans hml.symm) dX4_having_70 dX4_having_73 dX4_having_74 dX4_having_76 dX4_having_79 ht (Nat.le_of_ble_eq_true rfl) (Nat.le_of_ble_eq_true rfl) (Nat.le_of_ble_eq_true rfl) (Nat.le_of_ble_eq_true rfl) hlocks (Nat.le_refl _) (Nat.le_refl _) hf
  have J26 : ∀ (x1 : Int32) (x2 : Int32) (x3 : Int64) (x5 : Int64) (y0 : Int32) (w : St) (H : Heap) (locs : List Loc) (ls : Array Slot), fX4_having_26 x1 x2 x3 x5 y0 w = some (.inl k, u') → CX (wA ad ck) ck D tt (va_A (wA ad ck u) sz) s w H locs → lv_has ls 13 [(0, .ref (ad 0)), (1, .int x1), (2, .int x2), (3, .long x3), (5, .long x5)] → W p l e (headSpec wsX4_having rmTX4_having).room s m ([.ref (ad 0), .int a1, .int a2, .long a3, .long a5] : List Value).toArray below meth c H locs 0 0 (vx_MQ below QN (XT (wA ad ck) D u sz k u') ([.ref (ad 0), .int a1, .int a2, .long a3, .long a5] : List Value).toArray s 1 6 (va_A (wA ad ck u) sz)) (F0 m 26 ls [.int y0]) := by
    intro x1 x2 x3 x5 y0 w H locs ls hf C hl
    unfold fX4_having_26 at hf
    refine lv_istore (lv' := [(7, .int y0), (0, .ref (ad 0)), (1, .int x1), (2, .int x2), (3, .long x3), (5, .long x5)]) hx hb dX4_having_26 hl (by decide) rfl (fun ls hl => ?_)
    refine lv_lload hx hb dX4_having_28 (lv_at hl 5 rfl) ?_
    refine lv_lconst (v := 1) hx hb dX4_having_30 (by decide) ?_
    refine W.lcmp hx hb dX4_having_31 ?_
    refine lv_if_lt (tgt := 48) hx hb dX4_having_32 (by decide) (fun c_1 => ?_) (fun c_1 => ?_)
    · replace hf := (if_pos ((lg_cmp_lt _ _).mp c_1)).symm.trans hf
      refine lv_iconst (v := 0) hx hb dX4_having_48 (by decide) ?_
      exact J49 x1 x2 x3 x5 y0 0 w _ _ _ hf C (lv_sub hl [1, 2, 3, 4, 5, 0] rfl)
    · replace hf := (if_neg (fun q => c_1 ((lg_cmp_lt _ _).mpr q))).symm.trans hf
      refine lv_lload hx hb dX4_having_35 (lv_at hl 5 rfl) ?_
      refine lv_ldc2 (v := 1000000) hx hb hown (hts (.constantLong RX4 158 (1000000)) (by decide +kernel)) dX4_having_37 ?_
      refine W.lcmp hx hb dX4_having_40 ?_
      refine lv_if_gt (tgt := 48) hx hb dX4_having_41 (by decide) (fun c_2 => ?_) (fun c_2 => ?_)
      · replace hf := (if_pos ((lg_cmp_gt _ _).mp c_2)).symm.trans hf
        refine lv_iconst (v := 0) hx hb dX4_having_48 (by decide) ?_
        exact J49 x1 x2 x3 x5 y0 0 w _ _ _ hf C (lv_sub hl [1, 2, 3, 4, 5, 0] rfl)
      · replace hf := (if_neg (fun q => c_2 ((lg_cmp_gt _ _).mpr q))).symm.trans hf
        refine lv_iconst (v := 1) hx hb dX4_having_44 (by decide) ?_
        refine lv_goto (tgt := 49) hx hb dX4_having_45 (by decide) ?_
        exact J49 x1 x2 x3 x5 y0 1 w _ _ _ hf C (lv_sub hl [1, 2, 3, 4, 5, 0] rfl)
  have hl := lv_entry ([.ref (ad 0), .int a1, .int a2, .long a3, .long a5]) (n := 13) (Nat.le_of_ble_eq_true rfl)
  rw [lg_entry_eq]
  generalize (lg_sl ([.ref (ad 0), .int a1, .int a2, .long a3, .long a5]) ++ List.replicate (13 - (lg_sl ([.ref (ad 0), .int a1, .int a2, .long a3, .long a5])).length) Slot.unset).toArray = ls at hl ⊢
  have hl : lv_has ls 13 [(0, .ref (ad 0)), (1, .int a1), (2, .int a2), (3, .long a3), (5, .long a5)] := hl
  unfold fX4_having at hf
  refine lv_aload_n hx hb dX4_having_0 rfl (lv_at hl 0 rfl) ?_
  refine lv_iload_n hx hb dX4_having_1 rfl (lv_at hl 1 rfl) ?_
  rcases bndT_inl hf with h_1 | ⟨_, u_3, h_1, hf⟩
  · exact cx_passv C ht hlocks (vx_runV (As := [.int a1]) (rest := []) ⟨hx, hb, hml, hown, hts⟩ (t_X4_needGroup l ad ck D tt hst h_1 _) (cwV 1 hts gX4_having_X4_needGroup rfl rfl rfl (by decide +kernel) ⟨Nat.le_of_ble_eq_true rfl, Nat.le_of_ble_eq_true rfl⟩) (cx_preV C (q0 := 0) (ci := 4) rfl rfl) rfl rfl hl.1 rfl (lv_room (Nat.le_of_ble_eq_true rfl)) dX4_having_2 ⟨Nat.le_of_ble_eq_true rfl, Nat.le_of_ble_eq_true rfl⟩) (Nat.le_refl _) (Nat.le_refl _)
  · refine cx_callv C (va_runV (As := [.int a1]) (rest := []) ⟨hx, hb, hml, hown, hts⟩ (k_X4_needGroup l ad ck D tt h_1 _) (cwV 1 hts gX4_having_X4_needGroup rfl rfl rfl (by decide +kernel) ⟨Nat.le_of_ble_eq_true rfl, Nat.le_of_ble_eq_true rfl⟩) (cx_preV C (q0 := 0) (ci := 4) rfl rfl) rfl rfl hl.1 rfl (lv_room (Nat.le_of_ble_eq_true rfl)) dX4_having_2 ⟨Nat.zero_le _, Nat.zero_le _⟩) (fun H locs C => ?_)
    refine lv_lload_n hx hb dX4_having_5 rfl (lv_at hl 3 rfl) ?_
    refine lv_ldc2 (v := (-1000000000)) hx hb hown (hts (.constantLong RX4 154 (-1000000000)) (by decide +kernel)) dX4_having_6 ?_
    refine W.lcmp hx hb dX4_having_9 ?_
    refine lv_if_lt (tgt := 25) hx hb dX4_having_10 (by decide) (fun c_4 => ?_) (fun c_4 => ?_)
    · replace hf := (if_pos ((lg_cmp_lt _ _).mp c_4)).symm.trans hf
      refine lv_iconst (v := 0) hx hb dX4_having_25 (by decide) ?_
      exact J26 a1 a2 a3 a5 0 u_3 _ _ _ hf C (lv_sub hl [0, 1, 2, 3, 4] rfl)
    · replace hf := (if_neg (fun q => c_4 ((lg_cmp_lt _ _).mpr q))).symm.trans hf
      refine lv_lload_n hx hb dX4_having_13 rfl (lv_at hl 3 rfl) ?_
      refine lv_ldc2 (v := 1000000000) hx hb hown (hts (.constantLong RX4 156 (1000000000)) (by decide +kernel)) dX4_having_14 ?_
      refine W.lcmp hx hb dX4_having_17 ?_
      refine lv_if_gt (tgt := 25) hx hb dX4_having_18 (by decide) (fun c_5 => ?_) (fun c_5 => ?_)
      · replace hf := (if_pos ((lg_cmp_gt _ _).mp c_5)).symm.trans hf
        refine lv_iconst (v := 0) hx hb dX4_having_25 (by decide) ?_
        exact J26 a1 a2 a3 a5 0 u_3 _ _ _ hf C (lv_sub hl [0, 1, 2, 3, 4] rfl)
      · replace hf := (if_neg (fun q => c_5 ((lg_cmp_gt _ _).mpr q))).symm.trans hf
        refine lv_iconst (v := 1) hx hb dX4_having_21 (by decide) ?_
        refine lv_goto (tgt := 26) hx hb dX4_having_22 (by decide) ?_
        exact J26 a1 a2 a3 a5 1 u_3 _ _ _ hf C (lv_sub hl [0, 1, 2, 3, 4] rfl)
/-! ===== X4_told ===== -/
def fX4_told (u : St) (a1 : Int32) : Option ((Nat ⊕ Int32) × St) := (if a1 < 0 then some (.inl 1, u) else (if a1 ≤ 2 then (if a1 = 0 then bnd (fX2_count u) (fun r_12 u_13 => some (.inr r_12, u_13)) else (if a1 = 1 then bnd (fX1_count u) (fun r_9 u_10 => some (.inr r_9, u_10)) else bnd (fX0_count u) (fun r_6 u_7 => some (.inr r_6, u_7)))) else some (.inl 1, u)))
theorem xi_X4_told_A : ∀ w ∈ (vx_atS RX4 57 xA xns).filter goodWord, w ∈ wsX4_told := by decide +kernel
abbrev rmX4_told : Room := { frames := 6, cells := 0, slots := 0, locals := 92 }
set_option maxHeartbeats 4000000 in
set_option maxRecDepth 100000 in
theorem k_X4_told (l : Launch) (ad : Nat → Nat) (ck : Nat → ClassId) (D : va_G) (tt : Nat) {u : St} {a1 : Int32} {r : Int32} {u' : St} (hf : fX4_told u a1 = some (.inr r, u')) : MI l yX4_told wsX4_told rmX4_told (wA ad ck) ck D tt [.ref (ad 0), .int a1] u r u' := by
  intro sz
  refine Met.ofW (cc := cX4_told) (maxL := 2) (ret := (some .int)) (by decide) rfl ?_
  intro p e s m args below meth c s₁ B hml hv
  obtain ⟨rfl, hsz, C⟩ := cx_entry hv
  have hx := B.exec
  have hb := B.bytes
  have hr := B.returns
  have hts := atoms_spec (ws := wsX4_told) B.pre
  have hown : s.vm.findClass RX4 = some m.cls := findClass_of_methodNamed B.named
  have hlocks := B.notSynchronized
  have hl := lv_entry ([.ref (ad 0), .int a1]) (n := 2) (Nat.le_of_ble_eq_true rfl)
  rw [lg_entry_eq]
  generalize (lg_sl ([.ref (ad 0), .int a1]) ++ List.replicate (2 - (lg_sl ([.ref (ad 0), .int a1])).length) Slot.unset).toArray = ls at hl ⊢
  have hl : lv_has ls 2 [(0, .ref (ad 0)), (1, .int a1)] := hl
  unfold fX4_told at hf
  refine lv_iload_n hx hb dX4_told_0 rfl (lv_at hl 1 rfl) ?_
  refine lv_if_lt (tgt := 9) hx hb dX4_told_1 (by decide) (fun c_1 => ?_) (fun c_1 => ?_)
  · replace hf := (if_pos c_1).symm.trans hf
    cases hf
  · replace hf := (if_neg c_1).symm.trans hf
    refine lv_iload_n hx hb dX4_told_4 rfl (lv_at hl 1 rfl) ?_
    refine lv_iconst (v := 2) hx hb dX4_told_5 (by decide) ?_
    refine lv_icmp_le (tgt := 19) hx hb dX4_told_6 (by decide) (fun c_2 => ?_) (fun c_2 => ?_)
    · replace hf := (if_pos c_2).symm.trans hf
      refine lv_iload_n hx hb dX4_told_19 rfl (lv_at hl 1 rfl) ?_
      refine lv_if_ne (tgt := 33) hx hb dX4_told_20 (by decide) (fun c_3 => ?_) (fun c_3 => ?_)
      · replace hf := (if_neg c_3).symm.trans hf
        refine lv_iload_n hx hb dX4_told_33 rfl (lv_at hl 1 rfl) ?_
        refine lv_iconst (v := 1) hx hb dX4_told_34 (by decide) ?_
        refine lv_icmp_ne (tgt := 48) hx hb dX4_told_35 (by decide) (fun c_4 => ?_) (fun c_4 => ?_)
        · replace hf := (if_neg c_4).symm.trans hf
          refine lv_aload_n hx hb dX4_told_48 rfl (lv_at hl 0 rfl) ?_
          refine cx_get C hx hb (T := TX4) (N := 8) hts (by decide +kernel) hown 0 rfl rfl 2 (by decide) (hts (.fieldLink RX4 26 "AggregateRows" "results" "LAggregateRows$Results;") (by decide +kernel)) (fun _ h9 => h9) (v := .ref (ad 9)) rfl dX4_told_49 ?_
          obtain ⟨r_6, u_7, h_5, hf⟩ := bnd_some hf
          refine cx_calli C (va_runV (As := []) (rest := []) ⟨hx, hb, hml, hown, hts⟩ (k_X0_count l ad ck D tt h_5 _) (cwV 0 hts gX4_told_X0_count rfl rfl rfl (by decide +kernel) ⟨Nat.le_of_ble_eq_true rfl, Nat.le_of_ble_eq_true rfl⟩) (cx_preV C (q0 := 9) (ci := 0) rfl rfl) rfl rfl hl.1 rfl (lv_room (Nat.le_of_ble_eq_true rfl)) dX4_told_52 ⟨Nat.zero_le _, Nat.zero_le _⟩) (fun H locs C => ?_)
          exact cx_iretT C hx hb hr hlocks hf dX4_told_55
        · replace hf := (if_pos c_4).symm.trans hf
          refine lv_aload_n hx hb dX4_told_38 rfl (lv_at hl 0 rfl) ?_
          refine cx_get C hx hb (T := TX4) (N := 8) hts (by decide +kernel) hown 0 rfl rfl 1 (by decide) (hts (.fieldLink RX4 19 "AggregateRows" "table" "LAggregateRows$RowTable;") (by decide +kernel)) (fun _ h9 => h9) (v := .ref (ad 5)) rfl dX4_told_39 ?_
          obtain ⟨r_9, u_10, h_8, hf⟩ := bnd_some hf
          refine cx_calli C (va_runV (As := []) (rest := []) ⟨hx, hb, hml, hown, hts⟩ (k_X1_count l ad ck D tt h_8 _) (cwV 0 hts gX4_told_X1_count rfl rfl rfl (by decide +kernel) ⟨Nat.le_of_ble_eq_true rfl, Nat.le_of_ble_eq_true rfl⟩) (cx_preV C (q0 := 5) (ci := 1) rfl rfl) rfl rfl hl.1 rfl (lv_room (Nat.le_of_ble_eq_true rfl)) dX4_told_42 ⟨Nat.zero_le _, Nat.zero_le _⟩) (fun H locs C => ?_)
          refine lv_goto (tgt := 55) hx hb dX4_told_45 (by decide) ?_
          exact cx_iretT C hx hb hr hlocks hf dX4_told_55
      · replace hf := (if_pos c_3).symm.trans hf
        refine lv_aload_n hx hb dX4_told_23 rfl (lv_at hl 0 rfl) ?_
        refine cx_get C hx hb (T := TX4) (N := 8) hts (by decide +kernel) hown 0 rfl rfl 0 (by decide) (hts (.fieldLink RX4 10 "AggregateRows" "terms" "LAggregateRows$Terms;") (by decide +kernel)) (fun _ h9 => h9) (v := .ref (ad 1)) rfl dX4_told_24 ?_
        obtain ⟨r_12, u_13, h_11, hf⟩ := bnd_some hf
        refine cx_calli C (va_runV (As := []) (rest := []) ⟨hx, hb, hml, hown, hts⟩ (k_X2_count l ad ck D tt h_11 _) (cwV 0 hts gX4_told_X2_count rfl rfl rfl (by decide +kernel) ⟨Nat.le_of_ble_eq_true rfl, Nat.le_of_ble_eq_true rfl⟩) (cx_preV C (q0 := 1) (ci := 2) rfl rfl) rfl rfl hl.1 rfl (lv_room (Nat.le_of_ble_eq_true rfl)) dX4_told_27 ⟨Nat.zero_le _, Nat.zero_le _⟩) (fun H locs C => ?_)
        refine lv_goto (tgt := 55) hx hb dX4_told_30 (by decide) ?_
        exact cx_iretT C hx hb hr hlocks hf dX4_told_55
    · replace hf := (if_neg c_2).symm.trans hf
      cases hf
abbrev rmTX4_told : Room := { frames := 6, cells := 1, slots := 6, locals := 92 }
set_option maxHeartbeats 4000000 in
set_option maxRecDepth 100000 in
theorem t_X4_told (l : Launch) (ad : Nat → Nat) (ck : Nat → ClassId) (D : va_G) (tt : Nat) (hst : l.stackTraces = false) {u : St} {a1 : Int32} {k : Nat} {u' : St} (hf : fX4_told u a1 = some (.inl k, u')) : MT l yX4_told wsX4_told rmTX4_told (wA ad ck) ck D tt [.ref (ad 0), .int a1] u k u' := by
  intro sz
  refine vx_ofW (cc := cX4_told) (maxL := 2) (ret := (some .int)) (by decide) rfl ?_
  intro p e s m args below meth c s₁ B hml ht hv
  obtain ⟨rfl, hsz, C⟩ := cx_entry hv
  have hx := B.exec
  have hb := B.bytes
  have hr := B.returns
  have hts := atoms_spec (ws := wsX4_told) B.pre
  have hown : s.vm.findClass RX4 = some m.cls := findClass_of_methodNamed B.named
  have hlocks := B.notSynchronized
  have hl := lv_entry ([.ref (ad 0), .int a1]) (n := 2) (Nat.le_of_ble_eq_true rfl)
  rw [lg_entry_eq]
  generalize (lg_sl ([.ref (ad 0), .int a1]) ++ List.replicate (2 - (lg_sl ([.ref (ad 0), .int a1])).length) Slot.unset).toArray = ls at hl ⊢
  have hl : lv_has ls 2 [(0, .ref (ad 0)), (1, .int a1)] := hl
  unfold fX4_told at hf
  refine lv_iload_n hx hb dX4_told_0 rfl (lv_at hl 1 rfl) ?_
  refine lv_if_lt (tgt := 9) hx hb dX4_told_1 (by decide) (fun c_1 => ?_) (fun c_1 => ?_)
  · replace hf := (if_pos c_1).symm.trans hf
    exact cx_throw (k0 := 1) C hx hb hst hown (cls := xA) (text := "nothing to tell") (ik := 53) (is := 162) (ic := 57) rfl (by decide +kernel) (hts (.classLink RX4 53 xA) (by decide +kernel)) (hts (.initialized xA) (by decide +kernel)) (by decide) (fun w h => hts w (xi_X4_told_A w h)) xb_A C.2.2.2.2.2.2.2.2.2.2.1 xg_A (hl.1.trans hml.symm) dX4_told_9 dX4_told_12 dX4_told_13 dX4_told_15 dX4_told_18 ht (Nat.le_of_ble_eq_true rfl) (Nat.le_of_ble_eq_true rfl) (Nat.le_of_ble_eq_true rfl) (Nat.le_of_ble_eq_true rfl) hlocks (Nat.le_refl _) (Nat.le_refl _) hf
  · replace hf := (if_neg c_1).symm.trans hf
    refine lv_iload_n hx hb dX4_told_4 rfl (lv_at hl 1 rfl) ?_
    refine lv_iconst (v := 2) hx hb dX4_told_5 (by decide) ?_
    refine lv_icmp_le (tgt := 19) hx hb dX4_told_6 (by decide) (fun c_2 => ?_) (fun c_2 => ?_)
    · replace hf := (if_pos c_2).symm.trans hf
      refine lv_iload_n hx hb dX4_told_19 rfl (lv_at hl 1 rfl) ?_
      refine lv_if_ne (tgt := 33) hx hb dX4_told_20 (by decide) (fun c_3 => ?_) (fun c_3 => ?_)
      · replace hf := (if_neg c_3).symm.trans hf
        refine lv_iload_n hx hb dX4_told_33 rfl (lv_at hl 1 rfl) ?_
        refine lv_iconst (v := 1) hx hb dX4_told_34 (by decide) ?_
        refine lv_icmp_ne (tgt := 48) hx hb dX4_told_35 (by decide) (fun c_4 => ?_) (fun c_4 => ?_)
        · replace hf := (if_neg c_4).symm.trans hf
          refine lv_aload_n hx hb dX4_told_48 rfl (lv_at hl 0 rfl) ?_
          refine cx_get C hx hb (T := TX4) (N := 8) hts (by decide +kernel) hown 0 rfl rfl 2 (by decide) (hts (.fieldLink RX4 26 "AggregateRows" "results" "LAggregateRows$Results;") (by decide +kernel)) (fun _ h9 => h9) (v := .ref (ad 9)) rfl dX4_told_49 ?_
          obtain ⟨r_6, u_7, h_5, hf⟩ := bnd_some hf
          refine cx_calli C (va_runV (As := []) (rest := []) ⟨hx, hb, hml, hown, hts⟩ (k_X0_count l ad ck D tt h_5 _) (cwV 0 hts gX4_told_X0_count rfl rfl rfl (by decide +kernel) ⟨Nat.le_of_ble_eq_true rfl, Nat.le_of_ble_eq_true rfl⟩) (cx_preV C (q0 := 9) (ci := 0) rfl rfl) rfl rfl hl.1 rfl (lv_room (Nat.le_of_ble_eq_true rfl)) dX4_told_52 ⟨Nat.zero_le _, Nat.zero_le _⟩) (fun H locs C => ?_)
          cases hf
        · replace hf := (if_pos c_4).symm.trans hf
          refine lv_aload_n hx hb dX4_told_38 rfl (lv_at hl 0 rfl) ?_
          refine cx_get C hx hb (T := TX4) (N := 8) hts (by decide +kernel) hown 0 rfl rfl 1 (by decide) (hts (.fieldLink RX4 19 "AggregateRows" "table" "LAggregateRows$RowTable;") (by decide +kernel)) (fun _ h9 => h9) (v := .ref (ad 5)) rfl dX4_told_39 ?_
          obtain ⟨r_9, u_10, h_8, hf⟩ := bnd_some hf
          refine cx_calli C (va_runV (As := []) (rest := []) ⟨hx, hb, hml, hown, hts⟩ (k_X1_count l ad ck D tt h_8 _) (cwV 0 hts gX4_told_X1_count rfl rfl rfl (by decide +kernel) ⟨Nat.le_of_ble_eq_true rfl, Nat.le_of_ble_eq_true rfl⟩) (cx_preV C (q0 := 5) (ci := 1) rfl rfl) rfl rfl hl.1 rfl (lv_room (Nat.le_of_ble_eq_true rfl)) dX4_told_42 ⟨Nat.zero_le _, Nat.zero_le _⟩) (fun H locs C => ?_)
          refine lv_goto (tgt := 55) hx hb dX4_told_45 (by decide) ?_
          cases hf
      · replace hf := (if_pos c_3).symm.trans hf
        refine lv_aload_n hx hb dX4_told_23 rfl (lv_at hl 0 rfl) ?_
        refine cx_get C hx hb (T := TX4) (N := 8) hts (by decide +kernel) hown 0 rfl rfl 0 (by decide) (hts (.fieldLink RX4 10 "AggregateRows" "terms" "LAggregateRows$Terms;") (by decide +kernel)) (fun _ h9 => h9) (v := .ref (ad 1)) rfl dX4_told_24 ?_
        obtain ⟨r_12, u_13, h_11, hf⟩ := bnd_some hf
        refine cx_calli C (va_runV (As := []) (rest := []) ⟨hx, hb, hml, hown, hts⟩ (k_X2_count l ad ck D tt h_11 _) (cwV 0 hts gX4_told_X2_count rfl rfl rfl (by decide +kernel) ⟨Nat.le_of_ble_eq_true rfl, Nat.le_of_ble_eq_true rfl⟩) (cx_preV C (q0 := 1) (ci := 2) rfl rfl) rfl rfl hl.1 rfl (lv_room (Nat.le_of_ble_eq_true rfl)) dX4_told_27 ⟨Nat.zero_le _, Nat.zero_le _⟩) (fun H locs C => ?_)
        refine lv_goto (tgt := 55) hx hb dX4_told_30 (by decide) ?_
        cases hf
    · replace hf := (if_neg c_2).symm.trans hf
      exact cx_throw (k0 := 1) C hx hb hst hown (cls := xA) (text := "nothing to tell") (ik := 53) (is := 162) (ic := 57) rfl (by decide +kernel) (hts (.classLink RX4 53 xA) (by decide +kernel)) (hts (.initialized xA) (by decide +kernel)) (by decide) (fun w h => hts w (xi_X4_told_A w h)) xb_A C.2.2.2.2.2.2.2.2.2.2.1 xg_A (hl.1.trans hml.symm) dX4_told_9 dX4_told_12 dX4_told_13 dX4_told_15 dX4_told_18 ht (Nat.le_of_ble_eq_true rfl) (Nat.le_of_ble_eq_true rfl) (Nat.le_of_ble_eq_true rfl) (Nat.le_of_ble_eq_true rfl) hlocks (Nat.le_refl _) (Nat.le_refl _) hf
/-! ===== X4_run ===== -/
def fX4_run_26  : Nat → Int32 → Int32 → Int32 → St → Option ((Nat ⊕ Int32) × St)
  | 0, _, _, _, _ => none
  | n26 + 1, x1, x2, x3, w => bnd (fX0_count w) (fun r_2 u_3 => (if r_2 ≤ x3 then bnd (fX0_count u_3) (fun r_6 u_7 => some (.inr r_6, u_7)) else bnd (fX4_pickValues u_3 x3 x2) (fun _ u_10 => bnd (fX4_reckon u_10 x3 x1) (fun _ u_13 => lt_ (x3 + 1) (fun x3_14 => fX4_run_26 n26 x1 x2 x3_14 u_13)))))
def fX4_run (u : St) (a1 : Int32) (a2 : Int32) : Option ((Nat ⊕ Int32) × St) := (if a1 < 0 then some (.inl 1, u) else (if a1 ≤ 7 then bnd (fX4_makeGroups u) (fun _ u_5 => fX4_run_26 FU a1 a2 0 u_5) else some (.inl 1, u)))
theorem xi_X4_run_A : ∀ w ∈ (vx_atS RX4 57 xA xns).filter goodWord, w ∈ wsX4_run := by decide +kernel
abbrev rmX4_run : Room := { frames := 6, cells := 0, slots := 0, locals := 146 }
set_option maxHeartbeats 4000000 in
set_option maxRecDepth 100000 in
theorem k_X4_run (l : Launch) (ad : Nat → Nat) (ck : Nat → ClassId) (D : va_G) (tt : Nat) {u : St} {a1 : Int32} {a2 : Int32} {r : Int32} {u' : St} (hf : fX4_run u a1 a2 = some (.inr r, u')) : MI l yX4_run wsX4_run rmX4_run (wA ad ck) ck D tt [.ref (ad 0), .int a1, .int a2] u r u' := by
  intro sz
  refine Met.ofW (cc := cX4_run) (maxL := 4) (ret := (some .int)) (by decide) rfl ?_
  intro p e s m args below meth c s₁ B hml hv
  obtain ⟨rfl, hsz, C⟩ := cx_entry hv
  have hx := B.exec
  have hb := B.bytes
  have hr := B.returns
  have hts := atoms_spec (ws := wsX4_run) B.pre
  have hown : s.vm.findClass RX4 = some m.cls := findClass_of_methodNamed B.named
  have hlocks := B.notSynchronized
  have J26 : ∀ (n26 : Nat) (x1 : Int32) (x2 : Int32) (x3 : Int32) (w : St) (H : Heap) (locs : List Loc) (ls : Array Slot), fX4_run_26 n26 x1 x2 x3 w = some (.inr r, u') → CX (wA ad ck) ck D tt (va_A (wA ad ck u) sz) s w H locs → lv_has ls 4 [(0, .ref (ad 0)), (1, .int x1), (2, .int x2), (3, .int x3)] → W p l e (headSpec wsX4_run rmX4_run).room s m ([.ref (ad 0), .int a1, .int a2] : List Value).toArray below meth c H locs 0 0 (MQ below (QI (wA ad ck) D u sz r u') ([.ref (ad 0), .int a1, .int a2] : List Value).toArray s 0 0 (va_A (wA ad ck u) sz)) (F0 m 26 ls []) := by
    intro n26
    induction n26 with
    | zero =>
      intro x1 x2 x3 w H locs ls hf
      have hf : (none : Option ((Nat ⊕ Int32) × St)) = some (.inr r, u') := hf
      cases hf
    | succ n26 ih26 =>
      intro x1 x2 x3 w H locs ls hf C hl
      rw [fX4_run_26] at hf
      refine lv_iload_n hx hb dX4_run_26 rfl (lv_at hl 3 rfl) ?_
      refine lv_aload_n hx hb dX4_run_27 rfl (lv_at hl 0 rfl) ?_
      refine cx_get C hx hb (T := TX4) (N := 8) hts (by decide +kernel) hown 0 rfl rfl 2 (by decide) (hts (.fieldLink RX4 26 "AggregateRows" "results" "LAggregateRows$Results;") (by decide +kernel)) (fun _ h9 => h9) (v := .ref (ad 9)) rfl dX4_run_28 ?_
      obtain ⟨r_2, u_3, h_1, hf⟩ := bnd_some hf
      refine cx_calli C (va_runV (As := []) (rest := [.int x3]) ⟨hx, hb, hml, hown, hts⟩ (k_X0_count l ad ck D tt h_1 _) (cwV 0 hts gX4_run_X0_count rfl rfl rfl (by decide +kernel) ⟨Nat.le_of_ble_eq_true rfl, Nat.le_of_ble_eq_true rfl⟩) (cx_preV C (q0 := 9) (ci := 0) rfl rfl) rfl rfl hl.1 rfl (lv_room (Nat.le_of_ble_eq_true rfl)) dX4_run_31 ⟨Nat.zero_le _, Nat.zero_le _⟩) (fun H locs C => ?_)
      refine lv_icmp_ge (tgt := 55) hx hb dX4_run_34 (by decide) (fun c_4 => ?_) (fun c_4 => ?_)
      · replace hf := (if_pos c_4).symm.trans hf
        refine lv_aload_n hx hb dX4_run_55 rfl (lv_at hl 0 rfl) ?_
        refine cx_get C hx hb (T := TX4) (N := 8) hts (by decide +kernel) hown 0 rfl rfl 2 (by decide) (hts (.fieldLink RX4 26 "AggregateRows" "results" "LAggregateRows$Results;") (by decide +kernel)) (fun _ h9 => h9) (v := .ref (ad 9)) rfl dX4_run_56 ?_
        obtain ⟨r_6, u_7, h_5, hf⟩ := bnd_some hf
        refine cx_calli C (va_runV (As := []) (rest := []) ⟨hx, hb, hml, hown, hts⟩ (k_X0_count l ad ck D tt h_5 _) (cwV 0 hts gX4_run_X0_count rfl rfl rfl (by decide +kernel) ⟨Nat.le_of_ble_eq_true rfl, Nat.le_of_ble_eq_true rfl⟩) (cx_preV C (q0 := 9) (ci := 0) rfl rfl) rfl rfl hl.1 rfl (lv_room (Nat.le_of_ble_eq_true rfl)) dX4_run_59 ⟨Nat.zero_le _, Nat.zero_le _⟩) (fun H locs C => ?_)
        exact cx_iretT C hx hb hr hlocks hf dX4_run_62
      · replace hf := (if_neg c_4).symm.trans hf
        refine lv_aload_n hx hb dX4_run_37 rfl (lv_at hl 0 rfl) ?_
        refine lv_iload_n hx hb dX4_run_38 rfl (lv_at hl 3 rfl) ?_
        refine lv_iload_n hx hb dX4_run_39 rfl (lv_at hl 2 rfl) ?_
        obtain ⟨_, u_10, h_8, hf⟩ := bnd_some hf
        refine cx_callv C (va_runV (As := [.int x3, .int x2]) (rest := []) ⟨hx, hb, hml, hown, hts⟩ (k_X4_pickValues l ad ck D tt h_8 _) (cwV 2 hts gX4_run_X4_pickValues rfl rfl rfl (by decide +kernel) ⟨Nat.le_of_ble_eq_true rfl, Nat.le_of_ble_eq_true rfl⟩) (cx_preV C (q0 := 0) (ci := 4) rfl rfl) rfl rfl hl.1 rfl (lv_room (Nat.le_of_ble_eq_true rfl)) dX4_run_40 ⟨Nat.zero_le _, Nat.zero_le _⟩) (fun H locs C => ?_)
        refine lv_aload_n hx hb dX4_run_43 rfl (lv_at hl 0 rfl) ?_
        refine lv_iload_n hx hb dX4_run_44 rfl (lv_at hl 3 rfl) ?_
        refine lv_iload_n hx hb dX4_run_45 rfl (lv_at hl 1 rfl) ?_
        obtain ⟨_, u_13, h_11, hf⟩ := bnd_some hf
        refine cx_callv C (va_runV (As := [.int x3, .int x1]) (rest := []) ⟨hx, hb, hml, hown, hts⟩ (k_X4_reckon l ad ck D tt h_11 _) (cwV 2 hts gX4_run_X4_reckon rfl rfl rfl (by decide +kernel) ⟨Nat.le_of_ble_eq_true rfl, Nat.le_of_ble_eq_true rfl⟩) (cx_preV C (q0 := 0) (ci := 4) rfl rfl) rfl rfl hl.1 rfl (lv_room (Nat.le_of_ble_eq_true rfl)) dX4_run_46 ⟨Nat.zero_le _, Nat.zero_le _⟩) (fun H locs C => ?_)
        obtain ⟨x3_14, ex3_14⟩ : ∃ y : Int32, y = x3 + 1 := ⟨_, rfl⟩
        replace hf := lt_at hf ex3_14
        refine lv_iinc (v := x3_14) (lv' := [(3, .int x3_14), (0, .ref (ad 0)), (1, .int x1), (2, .int x2)]) hx hb dX4_run_49 hl (k := 3) rfl (by rw [ex3_14]; rfl) (by decide) rfl (fun ls hl => ?_)
        refine lv_goto (tgt := 26) hx hb dX4_run_52 (by decide) ?_
        exact ih26 x1 x2 x3_14 u_13 _ _ _ hf C (lv_sub hl [1, 2, 3, 0] rfl)
  have hl := lv_entry ([.ref (ad 0), .int a1, .int a2]) (n := 4) (Nat.le_of_ble_eq_true rfl)
  rw [lg_entry_eq]
  generalize (lg_sl ([.ref (ad 0), .int a1, .int a2]) ++ List.replicate (4 - (lg_sl ([.ref (ad 0), .int a1, .int a2])).length) Slot.unset).toArray = ls at hl ⊢
  have hl : lv_has ls 4 [(0, .ref (ad 0)), (1, .int a1), (2, .int a2)] := hl
  unfold fX4_run at hf
  refine lv_iload_n hx hb dX4_run_0 rfl (lv_at hl 1 rfl) ?_
  refine lv_if_lt (tgt := 10) hx hb dX4_run_1 (by decide) (fun c_1 => ?_) (fun c_1 => ?_)
  · replace hf := (if_pos c_1).symm.trans hf
    cases hf
  · replace hf := (if_neg c_1).symm.trans hf
    refine lv_iload_n hx hb dX4_run_4 rfl (lv_at hl 1 rfl) ?_
    refine lv_bipush (v := 7) hx hb dX4_run_5 (by decide) ?_
    refine lv_icmp_le (tgt := 20) hx hb dX4_run_7 (by decide) (fun c_2 => ?_) (fun c_2 => ?_)
    · replace hf := (if_pos c_2).symm.trans hf
      refine lv_aload_n hx hb dX4_run_20 rfl (lv_at hl 0 rfl) ?_
      obtain ⟨_, u_5, h_3, hf⟩ := bnd_some hf
      refine cx_callv C (va_runV (As := []) (rest := []) ⟨hx, hb, hml, hown, hts⟩ (k_X4_makeGroups l ad ck D tt h_3 _) (cwV 0 hts gX4_run_X4_makeGroups rfl rfl rfl (by decide +kernel) ⟨Nat.le_of_ble_eq_true rfl, Nat.le_of_ble_eq_true rfl⟩) (cx_preV C (q0 := 0) (ci := 4) rfl rfl) rfl rfl hl.1 rfl (lv_room (Nat.le_of_ble_eq_true rfl)) dX4_run_21 ⟨Nat.zero_le _, Nat.zero_le _⟩) (fun H locs C => ?_)
      refine lv_iconst (v := 0) hx hb dX4_run_24 (by decide) ?_
      refine lv_istore_n (lv' := [(3, .int 0), (0, .ref (ad 0)), (1, .int a1), (2, .int a2)]) hx hb dX4_run_25 rfl hl (by decide) rfl (fun ls hl => ?_)
      exact J26 FU a1 a2 0 u_5 _ _ _ hf C (lv_sub hl [1, 2, 3, 0] rfl)
    · replace hf := (if_neg c_2).symm.trans hf
      cases hf
abbrev rmTX4_run : Room := { frames := 6, cells := 1, slots := 6, locals := 146 }
set_option maxHeartbeats 4000000 in
set_option maxRecDepth 100000 in
theorem t_X4_run (l : Launch) (ad : Nat → Nat) (ck : Nat → ClassId) (D : va_G) (tt : Nat) (hst : l.stackTraces = false) {u : St} {a1 : Int32} {a2 : Int32} {k : Nat} {u' : St} (hf : fX4_run u a1 a2 = some (.inl k, u')) : MT l yX4_run wsX4_run rmTX4_run (wA ad ck) ck D tt [.ref (ad 0), .int a1, .int a2] u k u' := by
  intro sz
  refine vx_ofW (cc := cX4_run) (maxL := 4) (ret := (some .int)) (by decide) rfl ?_
  intro p e s m args below meth c s₁ B hml ht hv
  obtain ⟨rfl, hsz, C⟩ := cx_entry hv
  have hx := B.exec
  have hb := B.bytes
  have hr := B.returns
  have hts := atoms_spec (ws := wsX4_run) B.pre
  have hown : s.vm.findClass RX4 = some m.cls := findClass_of_methodNamed B.named
  have hlocks := B.notSynchronized
  have J26 : ∀ (n26 : Nat) (x1 : Int32) (x2 : Int32) (x3 : Int32) (w : St) (H : Heap) (locs : List Loc) (ls : Array Slot), fX4_run_26 n26 x1 x2 x3 w = some (.inl k, u') → CX (wA ad ck) ck D tt (va_A (wA ad ck u) sz) s w H locs → lv_has ls 4 [(0, .ref (ad 0)), (1, .int x1), (2, .int x2), (3, .int x3)] → W p l e (headSpec wsX4_run rmTX4_run).room s m ([.ref (ad 0), .int a1, .int a2] : List Value).toArray below meth c H locs 0 0 (vx_MQ below QN (XT (wA ad ck) D u sz k u') ([.ref (ad 0), .int a1, .int a2] : List Value).toArray s 1 6 (va_A (wA ad ck u) sz)) (F0 m 26 ls []) := by
    intro n26
    induction n26 with
    | zero =>
      intro x1 x2 x3 w H locs ls hf
      have hf : (none : Option ((Nat ⊕ Int32) × St)) = some (.inl k, u') := hf
      cases hf
    | succ n26 ih26 =>
      intro x1 x2 x3 w H locs ls hf C hl
      rw [fX4_run_26] at hf
      refine lv_iload_n hx hb dX4_run_26 rfl (lv_at hl 3 rfl) ?_
      refine lv_aload_n hx hb dX4_run_27 rfl (lv_at hl 0 rfl) ?_
      refine cx_get C hx hb (T := TX4) (N := 8) hts (by decide +kernel) hown 0 rfl rfl 2 (by decide) (hts (.fieldLink RX4 26 "AggregateRows" "results" "LAggregateRows$Results;") (by decide +kernel)) (fun _ h9 => h9) (v := .ref (ad 9)) rfl dX4_run_28 ?_
      obtain ⟨r_2, u_3, h_1, hf⟩ := bnd_some hf
      refine cx_calli C (va_runV (As := []) (rest := [.int x3]) ⟨hx, hb, hml, hown, hts⟩ (k_X0_count l ad ck D tt h_1 _) (cwV 0 hts gX4_run_X0_count rfl rfl rfl (by decide +kernel) ⟨Nat.le_of_ble_eq_true rfl, Nat.le_of_ble_eq_true rfl⟩) (cx_preV C (q0 := 9) (ci := 0) rfl rfl) rfl rfl hl.1 rfl (lv_room (Nat.le_of_ble_eq_true rfl)) dX4_run_31 ⟨Nat.zero_le _, Nat.zero_le _⟩) (fun H locs C => ?_)
      refine lv_icmp_ge (tgt := 55) hx hb dX4_run_34 (by decide) (fun c_4 => ?_) (fun c_4 => ?_)
      · replace hf := (if_pos c_4).symm.trans hf
        refine lv_aload_n hx hb dX4_run_55 rfl (lv_at hl 0 rfl) ?_
        refine cx_get C hx hb (T := TX4) (N := 8) hts (by decide +kernel) hown 0 rfl rfl 2 (by decide) (hts (.fieldLink RX4 26 "AggregateRows" "results" "LAggregateRows$Results;") (by decide +kernel)) (fun _ h9 => h9) (v := .ref (ad 9)) rfl dX4_run_56 ?_
        obtain ⟨r_6, u_7, h_5, hf⟩ := bnd_some hf
        refine cx_calli C (va_runV (As := []) (rest := []) ⟨hx, hb, hml, hown, hts⟩ (k_X0_count l ad ck D tt h_5 _) (cwV 0 hts gX4_run_X0_count rfl rfl rfl (by decide +kernel) ⟨Nat.le_of_ble_eq_true rfl, Nat.le_of_ble_eq_true rfl⟩) (cx_preV C (q0 := 9) (ci := 0) rfl rfl) rfl rfl hl.1 rfl (lv_room (Nat.le_of_ble_eq_true rfl)) dX4_run_59 ⟨Nat.zero_le _, Nat.zero_le _⟩) (fun H locs C => ?_)
        cases hf
      · replace hf := (if_neg c_4).symm.trans hf
        refine lv_aload_n hx hb dX4_run_37 rfl (lv_at hl 0 rfl) ?_
        refine lv_iload_n hx hb dX4_run_38 rfl (lv_at hl 3 rfl) ?_
        refine lv_iload_n hx hb dX4_run_39 rfl (lv_at hl 2 rfl) ?_
        obtain ⟨_, u_10, h_8, hf⟩ := bnd_some hf
        refine cx_callv C (va_runV (As := [.int x3, .int x2]) (rest := []) ⟨hx, hb, hml, hown, hts⟩ (k_X4_pickValues l ad ck D tt h_8 _) (cwV 2 hts gX4_run_X4_pickValues rfl rfl rfl (by decide +kernel) ⟨Nat.le_of_ble_eq_true rfl, Nat.le_of_ble_eq_true rfl⟩) (cx_preV C (q0 := 0) (ci := 4) rfl rfl) rfl rfl hl.1 rfl (lv_room (Nat.le_of_ble_eq_true rfl)) dX4_run_40 ⟨Nat.zero_le _, Nat.zero_le _⟩) (fun H locs C => ?_)
        refine lv_aload_n hx hb dX4_run_43 rfl (lv_at hl 0 rfl) ?_
        refine lv_iload_n hx hb dX4_run_44 rfl (lv_at hl 3 rfl) ?_
        refine lv_iload_n hx hb dX4_run_45 rfl (lv_at hl 1 rfl) ?_
        obtain ⟨_, u_13, h_11, hf⟩ := bnd_some hf
        refine cx_callv C (va_runV (As := [.int x3, .int x1]) (rest := []) ⟨hx, hb, hml, hown, hts⟩ (k_X4_reckon l ad ck D tt h_11 _) (cwV 2 hts gX4_run_X4_reckon rfl rfl rfl (by decide +kernel) ⟨Nat.le_of_ble_eq_true rfl, Nat.le_of_ble_eq_true rfl⟩) (cx_preV C (q0 := 0) (ci := 4) rfl rfl) rfl rfl hl.1 rfl (lv_room (Nat.le_of_ble_eq_true rfl)) dX4_run_46 ⟨Nat.zero_le _, Nat.zero_le _⟩) (fun H locs C => ?_)
        obtain ⟨x3_14, ex3_14⟩ : ∃ y : Int32, y = x3 + 1 := ⟨_, rfl⟩
        replace hf := lt_at hf ex3_14
        refine lv_iinc (v := x3_14) (lv' := [(3, .int x3_14), (0, .ref (ad 0)), (1, .int x1), (2, .int x2)]) hx hb dX4_run_49 hl (k := 3) rfl (by rw [ex3_14]; rfl) (by decide) rfl (fun ls hl => ?_)
        refine lv_goto (tgt := 26) hx hb dX4_run_52 (by decide) ?_
        exact ih26 x1 x2 x3_14 u_13 _ _ _ hf C (lv_sub hl [1, 2, 3, 0] rfl)
  have hl := lv_entry ([.ref (ad 0), .int a1, .int a2]) (n := 4) (Nat.le_of_ble_eq_true rfl)
  rw [lg_entry_eq]
  generalize (lg_sl ([.ref (ad 0), .int a1, .int a2]) ++ List.replicate (4 - (lg_sl ([.ref (ad 0), .int a1, .int a2])).length) Slot.unset).toArray = ls at hl ⊢
  have hl : lv_has ls 4 [(0, .ref (ad 0)), (1, .int a1), (2, .int a2)] := hl
  unfold fX4_run at hf
  refine lv_iload_n hx hb dX4_run_0 rfl (lv_at hl 1 rfl) ?_
  refine lv_if_lt (tgt := 10) hx hb dX4_run_1 (by decide) (fun c_1 => ?_) (fun c_1 => ?_)
  · replace hf := (if_pos c_1).symm.trans hf
    exact cx_throw (k0 := 1) C hx hb hst hown (cls := xA) (text := "no such kind") (ik := 53) (is := 99) (ic := 57) rfl (by decide +kernel) (hts (.classLink RX4 53 xA) (by decide +kernel)) (hts (.initialized xA) (by decide +kernel)) (by decide) (fun w h => hts w (xi_X4_run_A w h)) xb_A C.2.2.2.2.2.2.2.2.2.2.1 xg_A (hl.1.trans hml.symm) dX4_run_10 dX4_run_13 dX4_run_14 dX4_run_16 dX4_run_19 ht (Nat.le_of_ble_eq_true rfl) (Nat.le_of_ble_eq_true rfl) (Nat.le_of_ble_eq_true rfl) (Nat.le_of_ble_eq_true rfl) hlocks (Nat.le_refl _) (Nat.le_refl _) hf
  · replace hf := (if_neg c_1).symm.trans hf
    refine lv_iload_n hx hb dX4_run_4 rfl (lv_at hl 1 rfl) ?_
    refine lv_bipush (v := 7) hx hb dX4_run_5 (by decide) ?_
    refine lv_icmp_le (tgt := 20) hx hb dX4_run_7 (by decide) (fun c_2 => ?_) (fun c_2 => ?_)
    · replace hf := (if_pos c_2).symm.trans hf
      refine lv_aload_n hx hb dX4_run_20 rfl (lv_at hl 0 rfl) ?_
      obtain ⟨_, u_5, h_3, hf⟩ := bnd_some hf
      refine cx_callv C (va_runV (As := []) (rest := []) ⟨hx, hb, hml, hown, hts⟩ (k_X4_makeGroups l ad ck D tt h_3 _) (cwV 0 hts gX4_run_X4_makeGroups rfl rfl rfl (by decide +kernel) ⟨Nat.le_of_ble_eq_true rfl, Nat.le_of_ble_eq_true rfl⟩) (cx_preV C (q0 := 0) (ci := 4) rfl rfl) rfl rfl hl.1 rfl (lv_room (Nat.le_of_ble_eq_true rfl)) dX4_run_21 ⟨Nat.zero_le _, Nat.zero_le _⟩) (fun H locs C => ?_)
      refine lv_iconst (v := 0) hx hb dX4_run_24 (by decide) ?_
      refine lv_istore_n (lv' := [(3, .int 0), (0, .ref (ad 0)), (1, .int a1), (2, .int a2)]) hx hb dX4_run_25 rfl hl (by decide) rfl (fun ls hl => ?_)
      exact J26 FU a1 a2 0 u_5 _ _ _ hf C (lv_sub hl [1, 2, 3, 0] rfl)
    · replace hf := (if_neg c_2).symm.trans hf
      exact cx_throw (k0 := 1) C hx hb hst hown (cls := xA) (text := "no such kind") (ik := 53) (is := 99) (ic := 57) rfl (by decide +kernel) (hts (.classLink RX4 53 xA) (by decide +kernel)) (hts (.initialized xA) (by decide +kernel)) (by decide) (fun w h => hts w (xi_X4_run_A w h)) xb_A C.2.2.2.2.2.2.2.2.2.2.1 xg_A (hl.1.trans hml.symm) dX4_run_10 dX4_run_13 dX4_run_14 dX4_run_16 dX4_run_19 ht (Nat.le_of_ble_eq_true rfl) (Nat.le_of_ble_eq_true rfl) (Nat.le_of_ble_eq_true rfl) (Nat.le_of_ble_eq_true rfl) hlocks (Nat.le_refl _) (Nat.le_refl _) hf
