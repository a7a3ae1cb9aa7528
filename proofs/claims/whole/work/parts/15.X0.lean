/-! ===== X0_clear ===== -/
def fX0_clear (u : St)  : Option (Unit × St) := lt_ (sS u 7 0) (fun u_1 => lt_ (sS u_1 6 0) (fun u_2 => some ((), u_2)))
abbrev rmX0_clear : Room := { frames := 0, cells := 0, slots := 0, locals := 0 }
set_option maxHeartbeats 4000000 in
set_option maxRecDepth 100000 in
theorem k_X0_clear (l : Launch) (ad : Nat → Nat) (ck : Nat → ClassId) (D : va_G) (tt : Nat) {u : St}  {u' : St} (hf : fX0_clear u = some ((), u')) : MV l yX0_clear wsX0_clear rmX0_clear (wA ad ck) ck D tt [.ref (ad 9)] u u' := by
  intro sz
  refine Met.ofW (cc := cX0_clear) (maxL := 1) (ret := none) (by decide) rfl ?_
  intro p e s m args below meth c s₁ B hml hv
  obtain ⟨rfl, hsz, C⟩ := cx_entry hv
  have hx := B.exec
  have hb := B.bytes
  have hr := B.returns
  have hts := atoms_spec (ws := wsX0_clear) B.pre
  have hown : s.vm.findClass RX0 = some m.cls := findClass_of_methodNamed B.named
  have hlocks := B.notSynchronized
  have hl := lv_entry ([.ref (ad 9)]) (n := 1) (Nat.le_of_ble_eq_true rfl)
  rw [lg_entry_eq]
  generalize (lg_sl ([.ref (ad 9)]) ++ List.replicate (1 - (lg_sl ([.ref (ad 9)])).length) Slot.unset).toArray = ls at hl ⊢
  have hl : lv_has ls 1 [(0, .ref (ad 9))] := hl
  unfold fX0_clear at hf
  refine lv_aload_n hx hb dX0_clear_0 rfl (lv_at hl 0 rfl) ?_
  refine lv_iconst (v := 0) hx hb dX0_clear_1 (by decide) ?_
  refine cx_puti C hx hb (T := TX0) (N := 12) hts (by decide +kernel) tyX0 tyX0_ok nmX0 hown 9 rfl rfl 11 (by decide) (hts (.fieldLink RX0 48 "AggregateRows$Results" "count" "I") (by decide +kernel)) (fun _ h9 => h9) rfl (by decide +kernel) (Nat.le_of_ble_eq_true rfl) (u1 := sS u 7 0) rfl dX0_clear_2 (fun u_1 H locs eu_1 C => ?_)
  replace hf := lt_at hf eu_1
  refine lv_aload_n hx hb dX0_clear_5 rfl (lv_at hl 0 rfl) ?_
  refine lv_iconst (v := 0) hx hb dX0_clear_6 (by decide) ?_
  refine cx_puti C hx hb (T := TX0) (N := 12) hts (by decide +kernel) tyX0 tyX0_ok nmX0 hown 9 rfl rfl 10 (by decide) (hts (.fieldLink RX0 44 "AggregateRows$Results" "written" "I") (by decide +kernel)) (fun _ h9 => h9) rfl (by decide +kernel) (Nat.le_of_ble_eq_true rfl) (u1 := sS u_1 6 0) rfl dX0_clear_7 (fun u_2 H locs eu_2 C => ?_)
  replace hf := lt_at hf eu_2
  exact cx_vret C hx hb hr hlocks hf dX0_clear_10
/-! ===== X0_open ===== -/
def fX0_open (u : St) (a1 : Int32) : Option (Unit × St) := gd (okI (u.1 7) 60) (lt_ (sI u 6 (u.1 7).toNatClampNeg a1) (fun u_2 => gd (okI (u_2.1 7) 60) (lt_ (sI u_2 7 (u_2.1 7).toNatClampNeg 0) (fun u_4 => gd (okI (u_4.1 7) 60) (lt_ (sI u_4 8 (u_4.1 7).toNatClampNeg 3) (fun u_6 => gd (okI (u_6.1 7) 60) (lt_ (sI u_6 9 (u_6.1 7).toNatClampNeg 0) (fun u_8 => gd (okI (u_8.1 7) 60) (lt_ (sJ u_8 1 (u_8.1 7).toNatClampNeg 0) (fun u_10 => gd (okI (u_10.1 7) 60) (lt_ (sJ u_10 2 (u_10.1 7).toNatClampNeg 1) (fun u_12 => gd (okI (u_12.1 7) 60) (lt_ (sI u_12 10 (u_12.1 7).toNatClampNeg (-1)) (fun u_14 => gd (okI (u_14.1 7) 60) (lt_ (sI u_14 11 (u_14.1 7).toNatClampNeg 0) (fun u_16 => gd (okI (u_16.1 7) 60) (lt_ (sI u_16 12 (u_16.1 7).toNatClampNeg 0) (fun u_18 => lt_ (sS u_18 7 ((u_18.1 7) + 1)) (fun u_19 => some ((), u_19))))))))))))))))))))
abbrev rmX0_open : Room := { frames := 0, cells := 0, slots := 0, locals := 0 }
set_option maxHeartbeats 4000000 in
set_option maxRecDepth 100000 in
theorem k_X0_open (l : Launch) (ad : Nat → Nat) (ck : Nat → ClassId) (D : va_G) (tt : Nat) {u : St} {a1 : Int32} {u' : St} (hf : fX0_open u a1 = some ((), u')) : MV l yX0_open wsX0_open rmX0_open (wA ad ck) ck D tt [.ref (ad 9), .int a1] u u' := by
  intro sz
  refine Met.ofW (cc := cX0_open) (maxL := 2) (ret := none) (by decide) rfl ?_
  intro p e s m args below meth c s₁ B hml hv
  obtain ⟨rfl, hsz, C⟩ := cx_entry hv
  have hx := B.exec
  have hb := B.bytes
  have hr := B.returns
  have hts := atoms_spec (ws := wsX0_open) B.pre
  have hown : s.vm.findClass RX0 = some m.cls := findClass_of_methodNamed B.named
  have hlocks := B.notSynchronized
  have hl := lv_entry ([.ref (ad 9), .int a1]) (n := 2) (Nat.le_of_ble_eq_true rfl)
  rw [lg_entry_eq]
  generalize (lg_sl ([.ref (ad 9), .int a1]) ++ List.replicate (2 - (lg_sl ([.ref (ad 9), .int a1])).length) Slot.unset).toArray = ls at hl ⊢
  have hl : lv_has ls 2 [(0, .ref (ad 9)), (1, .int a1)] := hl
  unfold fX0_open at hf
  refine lv_aload_n hx hb dX0_open_0 rfl (lv_at hl 0 rfl) ?_
  refine cx_get C hx hb (T := TX0) (N := 12) hts (by decide +kernel) hown 9 rfl rfl 0 (by decide) (hts (.fieldLink RX0 9 "AggregateRows$Results" "firstKeys" "[I") (by decide +kernel)) (fun _ h9 => h9) (v := .ref (ad 10)) rfl dX0_open_1 ?_
  refine lv_aload_n hx hb dX0_open_4 rfl (lv_at hl 0 rfl) ?_
  refine cx_get C hx hb (T := TX0) (N := 12) hts (by decide +kernel) hown 9 rfl rfl 11 (by decide) (hts (.fieldLink RX0 48 "AggregateRows$Results" "count" "I") (by decide +kernel)) (fun _ h9 => h9) (v := .int (u.1 7)) rfl dX0_open_5 ?_
  refine lv_iload_n hx hb dX0_open_8 rfl (lv_at hl 1 rfl) ?_
  obtain ⟨g_1, hf⟩ := gd_some hf
  refine cx_iast C hx hb 10 rfl g_1 (u1 := sI u 6 (u.1 7).toNatClampNeg a1) rfl dX0_open_9 (fun u_2 H locs eu_2 C => ?_)
  replace hf := lt_at hf eu_2
  refine lv_aload_n hx hb dX0_open_10 rfl (lv_at hl 0 rfl) ?_
  refine cx_get C hx hb (T := TX0) (N := 12) hts (by decide +kernel) hown 9 rfl rfl 1 (by decide) (hts (.fieldLink RX0 15 "AggregateRows$Results" "rowCounts" "[I") (by decide +kernel)) (fun _ h9 => h9) (v := .ref (ad 11)) rfl dX0_open_11 ?_
  refine lv_aload_n hx hb dX0_open_14 rfl (lv_at hl 0 rfl) ?_
  refine cx_get C hx hb (T := TX0) (N := 12) hts (by decide +kernel) hown 9 rfl rfl 11 (by decide) (hts (.fieldLink RX0 48 "AggregateRows$Results" "count" "I") (by decide +kernel)) (fun _ h9 => h9) (v := .int (u_2.1 7)) rfl dX0_open_15 ?_
  refine lv_iconst (v := 0) hx hb dX0_open_18 (by decide) ?_
  obtain ⟨g_3, hf⟩ := gd_some hf
  refine cx_iast C hx hb 11 rfl g_3 (u1 := sI u_2 7 (u_2.1 7).toNatClampNeg 0) rfl dX0_open_19 (fun u_4 H locs eu_4 C => ?_)
  replace hf := lt_at hf eu_4
  refine lv_aload_n hx hb dX0_open_20 rfl (lv_at hl 0 rfl) ?_
  refine cx_get C hx hb (T := TX0) (N := 12) hts (by decide +kernel) hown 9 rfl rfl 2 (by decide) (hts (.fieldLink RX0 18 "AggregateRows$Results" "sorts" "[I") (by decide +kernel)) (fun _ h9 => h9) (v := .ref (ad 12)) rfl dX0_open_21 ?_
  refine lv_aload_n hx hb dX0_open_24 rfl (lv_at hl 0 rfl) ?_
  refine cx_get C hx hb (T := TX0) (N := 12) hts (by decide +kernel) hown 9 rfl rfl 11 (by decide) (hts (.fieldLink RX0 48 "AggregateRows$Results" "count" "I") (by decide +kernel)) (fun _ h9 => h9) (v := .int (u_4.1 7)) rfl dX0_open_25 ?_
  refine lv_iconst (v := 3) hx hb dX0_open_28 (by decide) ?_
  obtain ⟨g_5, hf⟩ := gd_some hf
  refine cx_iast C hx hb 12 rfl g_5 (u1 := sI u_4 8 (u_4.1 7).toNatClampNeg 3) rfl dX0_open_29 (fun u_6 H locs eu_6 C => ?_)
  replace hf := lt_at hf eu_6
  refine lv_aload_n hx hb dX0_open_30 rfl (lv_at hl 0 rfl) ?_
  refine cx_get C hx hb (T := TX0) (N := 12) hts (by decide +kernel) hown 9 rfl rfl 3 (by decide) (hts (.fieldLink RX0 21 "AggregateRows$Results" "reasons" "[I") (by decide +kernel)) (fun _ h9 => h9) (v := .ref (ad 13)) rfl dX0_open_31 ?_
  refine lv_aload_n hx hb dX0_open_34 rfl (lv_at hl 0 rfl) ?_
  refine cx_get C hx hb (T := TX0) (N := 12) hts (by decide +kernel) hown 9 rfl rfl 11 (by decide) (hts (.fieldLink RX0 48 "AggregateRows$Results" "count" "I") (by decide +kernel)) (fun _ h9 => h9) (v := .int (u_6.1 7)) rfl dX0_open_35 ?_
  refine lv_iconst (v := 0) hx hb dX0_open_38 (by decide) ?_
  obtain ⟨g_7, hf⟩ := gd_some hf
  refine cx_iast C hx hb 13 rfl g_7 (u1 := sI u_6 9 (u_6.1 7).toNatClampNeg 0) rfl dX0_open_39 (fun u_8 H locs eu_8 C => ?_)
  replace hf := lt_at hf eu_8
  refine lv_aload_n hx hb dX0_open_40 rfl (lv_at hl 0 rfl) ?_
  refine cx_get C hx hb (T := TX0) (N := 12) hts (by decide +kernel) hown 9 rfl rfl 4 (by decide) (hts (.fieldLink RX0 24 "AggregateRows$Results" "uppers" "[J") (by decide +kernel)) (fun _ h9 => h9) (v := .ref (ad 14)) rfl dX0_open_41 ?_
  refine lv_aload_n hx hb dX0_open_44 rfl (lv_at hl 0 rfl) ?_
  refine cx_get C hx hb (T := TX0) (N := 12) hts (by decide +kernel) hown 9 rfl rfl 11 (by decide) (hts (.fieldLink RX0 48 "AggregateRows$Results" "count" "I") (by decide +kernel)) (fun _ h9 => h9) (v := .int (u_8.1 7)) rfl dX0_open_45 ?_
  refine lv_lconst (v := 0) hx hb dX0_open_48 (by decide) ?_
  obtain ⟨g_9, hf⟩ := gd_some hf
  refine cx_last C hx hb 14 rfl g_9 (u1 := sJ u_8 1 (u_8.1 7).toNatClampNeg 0) rfl dX0_open_49 (fun u_10 H locs eu_10 C => ?_)
  replace hf := lt_at hf eu_10
  refine lv_aload_n hx hb dX0_open_50 rfl (lv_at hl 0 rfl) ?_
  refine cx_get C hx hb (T := TX0) (N := 12) hts (by decide +kernel) hown 9 rfl rfl 5 (by decide) (hts (.fieldLink RX0 28 "AggregateRows$Results" "lowers" "[J") (by decide +kernel)) (fun _ h9 => h9) (v := .ref (ad 15)) rfl dX0_open_51 ?_
  refine lv_aload_n hx hb dX0_open_54 rfl (lv_at hl 0 rfl) ?_
  refine cx_get C hx hb (T := TX0) (N := 12) hts (by decide +kernel) hown 9 rfl rfl 11 (by decide) (hts (.fieldLink RX0 48 "AggregateRows$Results" "count" "I") (by decide +kernel)) (fun _ h9 => h9) (v := .int (u_10.1 7)) rfl dX0_open_55 ?_
  refine lv_lconst (v := 1) hx hb dX0_open_58 (by decide) ?_
  obtain ⟨g_11, hf⟩ := gd_some hf
  refine cx_last C hx hb 15 rfl g_11 (u1 := sJ u_10 2 (u_10.1 7).toNatClampNeg 1) rfl dX0_open_59 (fun u_12 H locs eu_12 C => ?_)
  replace hf := lt_at hf eu_12
  refine lv_aload_n hx hb dX0_open_60 rfl (lv_at hl 0 rfl) ?_
  refine cx_get C hx hb (T := TX0) (N := 12) hts (by decide +kernel) hown 9 rfl rfl 6 (by decide) (hts (.fieldLink RX0 31 "AggregateRows$Results" "terms" "[I") (by decide +kernel)) (fun _ h9 => h9) (v := .ref (ad 16)) rfl dX0_open_61 ?_
  refine lv_aload_n hx hb dX0_open_64 rfl (lv_at hl 0 rfl) ?_
  refine cx_get C hx hb (T := TX0) (N := 12) hts (by decide +kernel) hown 9 rfl rfl 11 (by decide) (hts (.fieldLink RX0 48 "AggregateRows$Results" "count" "I") (by decide +kernel)) (fun _ h9 => h9) (v := .int (u_12.1 7)) rfl dX0_open_65 ?_
  refine lv_iconst (v := (-1)) hx hb dX0_open_68 (by decide) ?_
  obtain ⟨g_13, hf⟩ := gd_some hf
  refine cx_iast C hx hb 16 rfl g_13 (u1 := sI u_12 10 (u_12.1 7).toNatClampNeg (-1)) rfl dX0_open_69 (fun u_14 H locs eu_14 C => ?_)
  replace hf := lt_at hf eu_14
  refine lv_aload_n hx hb dX0_open_70 rfl (lv_at hl 0 rfl) ?_
  refine cx_get C hx hb (T := TX0) (N := 12) hts (by decide +kernel) hown 9 rfl rfl 7 (by decide) (hts (.fieldLink RX0 34 "AggregateRows$Results" "starts" "[I") (by decide +kernel)) (fun _ h9 => h9) (v := .ref (ad 17)) rfl dX0_open_71 ?_
  refine lv_aload_n hx hb dX0_open_74 rfl (lv_at hl 0 rfl) ?_
  refine cx_get C hx hb (T := TX0) (N := 12) hts (by decide +kernel) hown 9 rfl rfl 11 (by decide) (hts (.fieldLink RX0 48 "AggregateRows$Results" "count" "I") (by decide +kernel)) (fun _ h9 => h9) (v := .int (u_14.1 7)) rfl dX0_open_75 ?_
  refine lv_iconst (v := 0) hx hb dX0_open_78 (by decide) ?_
  obtain ⟨g_15, hf⟩ := gd_some hf
  refine cx_iast C hx hb 17 rfl g_15 (u1 := sI u_14 11 (u_14.1 7).toNatClampNeg 0) rfl dX0_open_79 (fun u_16 H locs eu_16 C => ?_)
  replace hf := lt_at hf eu_16
  refine lv_aload_n hx hb dX0_open_80 rfl (lv_at hl 0 rfl) ?_
  refine cx_get C hx hb (T := TX0) (N := 12) hts (by decide +kernel) hown 9 rfl rfl 8 (by decide) (hts (.fieldLink RX0 37 "AggregateRows$Results" "lengths" "[I") (by decide +kernel)) (fun _ h9 => h9) (v := .ref (ad 18)) rfl dX0_open_81 ?_
  refine lv_aload_n hx hb dX0_open_84 rfl (lv_at hl 0 rfl) ?_
  refine cx_get C hx hb (T := TX0) (N := 12) hts (by decide +kernel) hown 9 rfl rfl 11 (by decide) (hts (.fieldLink RX0 48 "AggregateRows$Results" "count" "I") (by decide +kernel)) (fun _ h9 => h9) (v := .int (u_16.1 7)) rfl dX0_open_85 ?_
  refine lv_iconst (v := 0) hx hb dX0_open_88 (by decide) ?_
  obtain ⟨g_17, hf⟩ := gd_some hf
  refine cx_iast C hx hb 18 rfl g_17 (u1 := sI u_16 12 (u_16.1 7).toNatClampNeg 0) rfl dX0_open_89 (fun u_18 H locs eu_18 C => ?_)
  replace hf := lt_at hf eu_18
  refine lv_aload_n hx hb dX0_open_90 rfl (lv_at hl 0 rfl) ?_
  refine lv_dup hx hb dX0_open_91 rfl ?_
  refine cx_get C hx hb (T := TX0) (N := 12) hts (by decide +kernel) hown 9 rfl rfl 11 (by decide) (hts (.fieldLink RX0 48 "AggregateRows$Results" "count" "I") (by decide +kernel)) (fun _ h9 => h9) (v := .int (u_18.1 7)) rfl dX0_open_92 ?_
  refine lv_iconst (v := 1) hx hb dX0_open_95 (by decide) ?_
  refine lv_iadd hx hb dX0_open_96 ?_
  refine cx_puti C hx hb (T := TX0) (N := 12) hts (by decide +kernel) tyX0 tyX0_ok nmX0 hown 9 rfl rfl 11 (by decide) (hts (.fieldLink RX0 48 "AggregateRows$Results" "count" "I") (by decide +kernel)) (fun _ h9 => h9) rfl (by decide +kernel) (Nat.le_of_ble_eq_true rfl) (u1 := sS u_18 7 ((u_18.1 7) + 1)) rfl dX0_open_97 (fun u_19 H locs eu_19 C => ?_)
  replace hf := lt_at hf eu_19
  exact cx_vret C hx hb hr hlocks hf dX0_open_100
/-! ===== X0_addRow ===== -/
def fX0_addRow (u : St) (a1 : Int32) : Option (Unit × St) := gd (okI a1 60) (gd (okI a1 60) (lt_ (sI u 7 a1.toNatClampNeg ((u.2.1 7 a1.toNatClampNeg) + 1)) (fun u_3 => some ((), u_3))))
abbrev rmX0_addRow : Room := { frames := 0, cells := 0, slots := 0, locals := 0 }
set_option maxHeartbeats 4000000 in
set_option maxRecDepth 100000 in
theorem k_X0_addRow (l : Launch) (ad : Nat → Nat) (ck : Nat → ClassId) (D : va_G) (tt : Nat) {u : St} {a1 : Int32} {u' : St} (hf : fX0_addRow u a1 = some ((), u')) : MV l yX0_addRow wsX0_addRow rmX0_addRow (wA ad ck) ck D tt [.ref (ad 9), .int a1] u u' := by
  intro sz
  refine Met.ofW (cc := cX0_addRow) (maxL := 2) (ret := none) (by decide) rfl ?_
  intro p e s m args below meth c s₁ B hml hv
  obtain ⟨rfl, hsz, C⟩ := cx_entry hv
  have hx := B.exec
  have hb := B.bytes
  have hr := B.returns
  have hts := atoms_spec (ws := wsX0_addRow) B.pre
  have hown : s.vm.findClass RX0 = some m.cls := findClass_of_methodNamed B.named
  have hlocks := B.notSynchronized
  have hl := lv_entry ([.ref (ad 9), .int a1]) (n := 2) (Nat.le_of_ble_eq_true rfl)
  rw [lg_entry_eq]
  generalize (lg_sl ([.ref (ad 9), .int a1]) ++ List.replicate (2 - (lg_sl ([.ref (ad 9), .int a1])).length) Slot.unset).toArray = ls at hl ⊢
  have hl : lv_has ls 2 [(0, .ref (ad 9)), (1, .int a1)] := hl
  unfold fX0_addRow at hf
  refine lv_aload_n hx hb dX0_addRow_0 rfl (lv_at hl 0 rfl) ?_
  refine cx_get C hx hb (T := TX0) (N := 12) hts (by decide +kernel) hown 9 rfl rfl 1 (by decide) (hts (.fieldLink RX0 15 "AggregateRows$Results" "rowCounts" "[I") (by decide +kernel)) (fun _ h9 => h9) (v := .ref (ad 11)) rfl dX0_addRow_1 ?_
  refine lv_iload_n hx hb dX0_addRow_4 rfl (lv_at hl 1 rfl) ?_
  refine lv_dup2_11 hx hb dX0_addRow_5 rfl rfl ?_
  obtain ⟨g_1, hf⟩ := gd_some hf
  refine cx_iald C hx hb 11 rfl g_1 dX0_addRow_6 ?_
  refine lv_iconst (v := 1) hx hb dX0_addRow_7 (by decide) ?_
  refine lv_iadd hx hb dX0_addRow_8 ?_
  obtain ⟨g_2, hf⟩ := gd_some hf
  refine cx_iast C hx hb 11 rfl g_2 (u1 := sI u 7 a1.toNatClampNeg ((u.2.1 7 a1.toNatClampNeg) + 1)) rfl dX0_addRow_9 (fun u_3 H locs eu_3 C => ?_)
  replace hf := lt_at hf eu_3
  exact cx_vret C hx hb hr hlocks hf dX0_addRow_10
/-! ===== X0_commonDivisor ===== -/
def fX0_commonDivisor_9  : Nat → Int64 → Int64 → Int32 → St → Option (Int64 × St)
  | 0, _, _, _, _ => none
  | n9 + 1, x4, x6, x8, w => (if 100 ≤ x8 then lt_ (if x4 < 1 then 1 else x4) (fun z_2 => some (z_2, w)) else (if x6 = 0 then lt_ (if x4 < 1 then 1 else x4) (fun z_4 => some (z_4, w)) else gd (decide (¬ x6 = 0)) (lt_ (x4 - x4 / x6 * x6) (fun x9_6 => lt_ (x8 + 1) (fun x8_7 => fX0_commonDivisor_9 n9 x6 x9_6 x8_7 w)))))
def fX0_commonDivisor (u : St) (a0 : Int64) (a2 : Int64) : Option (Int64 × St) := fX0_commonDivisor_9 FU a0 a2 0 u
abbrev rmX0_commonDivisor : Room := { frames := 1, cells := 0, slots := 0, locals := 23 }
set_option maxHeartbeats 4000000 in
set_option maxRecDepth 100000 in
theorem k_X0_commonDivisor (l : Launch) (ad : Nat → Nat) (ck : Nat → ClassId) (D : va_G) (tt : Nat) {u : St} {a0 : Int64} {a2 : Int64} {r : Int64} {u' : St} (hf : fX0_commonDivisor u a0 a2 = some (r, u')) : ML l yX0_commonDivisor wsX0_commonDivisor rmX0_commonDivisor (wA ad ck) ck D tt [.long a0, .long a2] u r u' := by
  intro sz
  refine Met.ofW (cc := cX0_commonDivisor) (maxL := 11) (ret := (some .long)) (by decide) rfl ?_
  intro p e s m args below meth c s₁ B hml hv
  obtain ⟨rfl, hsz, C⟩ := cx_entry hv
  have hx := B.exec
  have hb := B.bytes
  have hr := B.returns
  have hts := atoms_spec (ws := wsX0_commonDivisor) B.pre
  have hown : s.vm.findClass RX0 = some m.cls := findClass_of_methodNamed B.named
  have hlocks := B.notSynchronized
  have J9 : ∀ (n9 : Nat) (x4 : Int64) (x6 : Int64) (x8 : Int32) (w : St) (H : Heap) (locs : List Loc) (ls : Array Slot), fX0_commonDivisor_9 n9 x4 x6 x8 w = some (r, u') → CX (wA ad ck) ck D tt (va_A (wA ad ck u) sz) s w H locs → lv_has ls 11 [(4, .long x4), (6, .long x6), (8, .int x8)] → W p l e (headSpec wsX0_commonDivisor rmX0_commonDivisor).room s m ([.long a0, .long a2] : List Value).toArray below meth c H locs 0 0 (MQ below (QL (wA ad ck) D u sz r u') ([.long a0, .long a2] : List Value).toArray s 0 0 (va_A (wA ad ck u) sz)) (F0 m 9 ls []) := by
    intro n9
    induction n9 with
    | zero =>
      intro x4 x6 x8 w H locs ls hf
      have hf : (none : Option (Int64 × St)) = some (r, u') := hf
      cases hf
    | succ n9 ih9 =>
      intro x4 x6 x8 w H locs ls hf C hl
      rw [fX0_commonDivisor_9] at hf
      refine lv_iload hx hb dX0_commonDivisor_9 (lv_at hl 2 rfl) ?_
      refine lv_bipush (v := 100) hx hb dX0_commonDivisor_11 (by decide) ?_
      refine lv_icmp_ge (tgt := 44) hx hb dX0_commonDivisor_13 (by decide) (fun c_1 => ?_) (fun c_1 => ?_)
      · replace hf := (if_pos c_1).symm.trans hf
        refine lv_lconst (v := 1) hx hb dX0_commonDivisor_44 (by decide) ?_
        refine lv_lload hx hb dX0_commonDivisor_45 (lv_at hl 0 rfl) ?_
        refine va_mmax_long hx hb (hml.trans hl.1.symm) hown (hts (.methodLink RX0 61 Lib.MathLoose.max_long.x) (by decide +kernel)) (hts (.static Lib.MathLoose.max_long.x) (by decide +kernel)) (hts (.initialized "java/lang/Math") (by decide +kernel)) (hts (.code Lib.MathLoose.max_long.x Lib.MathLoose.max_long.code 4 (some .long)) (by decide +kernel)) (Nat.le_of_ble_eq_true rfl) (Nat.le_of_ble_eq_true rfl) (Nat.zero_le _) (Nat.zero_le _) dX0_commonDivisor_47 ?_
        refine lv_topl (fun z_2 ez_2 => ?_)
        replace hf := lt_at hf ez_2
        exact cx_lret C hx hb hr hlocks hf dX0_commonDivisor_50
      · replace hf := (if_neg c_1).symm.trans hf
        refine lv_lload hx hb dX0_commonDivisor_16 (lv_at hl 1 rfl) ?_
        refine lv_lconst (v := 0) hx hb dX0_commonDivisor_18 (by decide) ?_
        refine W.lcmp hx hb dX0_commonDivisor_19 ?_
        refine lv_if_eq (tgt := 44) hx hb dX0_commonDivisor_20 (by decide) (fun c_3 => ?_) (fun c_3 => ?_)
        · replace hf := (if_pos ((lg_cmp_eq _ _).mp c_3)).symm.trans hf
          refine lv_lconst (v := 1) hx hb dX0_commonDivisor_44 (by decide) ?_
          refine lv_lload hx hb dX0_commonDivisor_45 (lv_at hl 0 rfl) ?_
          refine va_mmax_long hx hb (hml.trans hl.1.symm) hown (hts (.methodLink RX0 61 Lib.MathLoose.max_long.x) (by decide +kernel)) (hts (.static Lib.MathLoose.max_long.x) (by decide +kernel)) (hts (.initialized "java/lang/Math") (by decide +kernel)) (hts (.code Lib.MathLoose.max_long.x Lib.MathLoose.max_long.code 4 (some .long)) (by decide +kernel)) (Nat.le_of_ble_eq_true rfl) (Nat.le_of_ble_eq_true rfl) (Nat.zero_le _) (Nat.zero_le _) dX0_commonDivisor_47 ?_
          refine lv_topl (fun z_4 ez_4 => ?_)
          replace hf := lt_at hf ez_4
          exact cx_lret C hx hb hr hlocks hf dX0_commonDivisor_50
        · replace hf := (if_neg (fun q => c_3 ((lg_cmp_eq _ _).mpr q))).symm.trans hf
          refine lv_lload hx hb dX0_commonDivisor_23 (lv_at hl 0 rfl) ?_
          refine lv_lload hx hb dX0_commonDivisor_25 (lv_at hl 1 rfl) ?_
          obtain ⟨g_5, hf⟩ := gd_some hf
          refine lv_lrem hx hb dX0_commonDivisor_27 (of_decide_eq_true g_5) ?_
          refine lv_topl (fun x9_6 ex9_6 => ?_)
          replace hf := lt_at hf ex9_6
          refine lv_lstore (lv' := [(9, .long x9_6), (4, .long x4), (6, .long x6), (8, .int x8)]) hx hb dX0_commonDivisor_28 hl (by decide) rfl (fun ls hl => ?_)
          refine lv_lload hx hb dX0_commonDivisor_30 (lv_at hl 2 rfl) ?_
          refine lv_lstore (lv' := [(4, .long x6), (9, .long x9_6), (6, .long x6), (8, .int x8)]) hx hb dX0_commonDivisor_32 hl (by decide) rfl (fun ls hl => ?_)
          refine lv_lload hx hb dX0_commonDivisor_34 (lv_at hl 1 rfl) ?_
          refine lv_lstore (lv' := [(6, .long x9_6), (4, .long x6), (9, .long x9_6), (8, .int x8)]) hx hb dX0_commonDivisor_36 hl (by decide) rfl (fun ls hl => ?_)
          obtain ⟨x8_7, ex8_7⟩ : ∃ y : Int32, y = x8 + 1 := ⟨_, rfl⟩
          replace hf := lt_at hf ex8_7
          refine lv_iinc (v := x8_7) (lv' := [(8, .int x8_7), (6, .long x9_6), (4, .long x6), (9, .long x9_6)]) hx hb dX0_commonDivisor_38 hl (k := 3) rfl (by rw [ex8_7]; rfl) (by decide) rfl (fun ls hl => ?_)
          refine lv_goto (tgt := 9) hx hb dX0_commonDivisor_41 (by decide) ?_
          exact ih9 x6 x9_6 x8_7 w _ _ _ hf C (lv_sub hl [2, 1, 0] rfl)
  have hl := lv_entry ([.long a0, .long a2]) (n := 11) (Nat.le_of_ble_eq_true rfl)
  rw [lg_entry_eq]
  generalize (lg_sl ([.long a0, .long a2]) ++ List.replicate (11 - (lg_sl ([.long a0, .long a2])).length) Slot.unset).toArray = ls at hl ⊢
  have hl : lv_has ls 11 [(0, .long a0), (2, .long a2)] := hl
  unfold fX0_commonDivisor at hf
  refine lv_lload_n hx hb dX0_commonDivisor_0 rfl (lv_at hl 0 rfl) ?_
  refine lv_lstore (lv' := [(4, .long a0), (0, .long a0), (2, .long a2)]) hx hb dX0_commonDivisor_1 hl (by decide) rfl (fun ls hl => ?_)
  refine lv_lload_n hx hb dX0_commonDivisor_3 rfl (lv_at hl 2 rfl) ?_
  refine lv_lstore (lv' := [(6, .long a2), (4, .long a0), (0, .long a0), (2, .long a2)]) hx hb dX0_commonDivisor_4 hl (by decide) rfl (fun ls hl => ?_)
  refine lv_iconst (v := 0) hx hb dX0_commonDivisor_6 (by decide) ?_
  refine lv_istore (lv' := [(8, .int 0), (6, .long a2), (4, .long a0), (0, .long a0), (2, .long a2)]) hx hb dX0_commonDivisor_7 hl (by decide) rfl (fun ls hl => ?_)
  exact J9 FU a0 a2 0 u _ _ _ hf C (lv_sub hl [2, 1, 0] rfl)
/-! ===== X0_setNumber ===== -/
def fX0_setNumber (u : St) (a1 : Int32) (a2 : Int64) (a4 : Int64) : Option (Unit × St) := lt_ (if 0 < a2 then a2 else -a2) (fun z_1 => bnd (fX0_commonDivisor u z_1 a4) (fun r_3 u_4 => gd (okI a1 60) (lt_ (sI u_4 8 a1.toNatClampNeg 0) (fun u_6 => gd (decide (¬ r_3 = 0)) (gd (okI a1 60) (lt_ (sJ u_6 1 a1.toNatClampNeg (a2 / r_3)) (fun u_9 => gd (decide (¬ r_3 = 0)) (gd (okI a1 60) (lt_ (sJ u_9 2 a1.toNatClampNeg (a4 / r_3)) (fun u_12 => some ((), u_12)))))))))))
abbrev rmX0_setNumber : Room := { frames := 2, cells := 0, slots := 0, locals := 53 }
set_option maxHeartbeats 4000000 in
set_option maxRecDepth 100000 in
theorem k_X0_setNumber (l : Launch) (ad : Nat → Nat) (ck : Nat → ClassId) (D : va_G) (tt : Nat) {u : St} {a1 : Int32} {a2 : Int64} {a4 : Int64} {u' : St} (hf : fX0_setNumber u a1 a2 a4 = some ((), u')) : MV l yX0_setNumber wsX0_setNumber rmX0_setNumber (wA ad ck) ck D tt [.ref (ad 9), .int a1, .long a2, .long a4] u u' := by
  intro sz
  refine Met.ofW (cc := cX0_setNumber) (maxL := 8) (ret := none) (by decide) rfl ?_
  intro p e s m args below meth c s₁ B hml hv
  obtain ⟨rfl, hsz, C⟩ := cx_entry hv
  have hx := B.exec
  have hb := B.bytes
  have hr := B.returns
  have hts := atoms_spec (ws := wsX0_setNumber) B.pre
  have hown : s.vm.findClass RX0 = some m.cls := findClass_of_methodNamed B.named
  have hlocks := B.notSynchronized
  have hl := lv_entry ([.ref (ad 9), .int a1, .long a2, .long a4]) (n := 8) (Nat.le_of_ble_eq_true rfl)
  rw [lg_entry_eq]
  generalize (lg_sl ([.ref (ad 9), .int a1, .long a2, .long a4]) ++ List.replicate (8 - (lg_sl ([.ref (ad 9), .int a1, .long a2, .long a4])).length) Slot.unset).toArray = ls at hl ⊢
  have hl : lv_has ls 8 [(0, .ref (ad 9)), (1, .int a1), (2, .long a2), (4, .long a4)] := hl
  unfold fX0_setNumber at hf
  refine lv_lload_n hx hb dX0_setNumber_0 rfl (lv_at hl 2 rfl) ?_
  refine va_mabs_long hx hb (hml.trans hl.1.symm) hown (hts (.methodLink RX0 51 Lib.MathLoose.abs_long.x) (by decide +kernel)) (hts (.static Lib.MathLoose.abs_long.x) (by decide +kernel)) (hts (.initialized "java/lang/Math") (by decide +kernel)) (hts (.code Lib.MathLoose.abs_long.x Lib.MathLoose.abs_long.code 2 (some .long)) (by decide +kernel)) (Nat.le_of_ble_eq_true rfl) (Nat.le_of_ble_eq_true rfl) (Nat.zero_le _) (Nat.zero_le _) dX0_setNumber_1 ?_
  refine lv_topl (fun z_1 ez_1 => ?_)
  replace hf := lt_at hf ez_1
  refine lv_lload hx hb dX0_setNumber_4 (lv_at hl 3 rfl) ?_
  obtain ⟨r_3, u_4, h_2, hf⟩ := bnd_some hf
  refine cx_calll C (va_runS (As := [.long z_1, .long a4]) (rest := []) ⟨hx, hb, hml, hown, hts⟩ (k_X0_commonDivisor l ad ck D tt h_2 _) (va_cwS 2 hts gX0_setNumber_X0_commonDivisor rfl rfl rfl (by decide +kernel) ⟨Nat.le_of_ble_eq_true rfl, Nat.le_of_ble_eq_true rfl⟩) (cx_preS C) rfl rfl hl.1 rfl (lv_room (Nat.le_of_ble_eq_true rfl)) dX0_setNumber_6 ⟨Nat.zero_le _, Nat.zero_le _⟩) (fun H locs C => ?_)
  refine lv_lstore (lv' := [(6, .long r_3), (0, .ref (ad 9)), (1, .int a1), (2, .long a2), (4, .long a4)]) hx hb dX0_setNumber_9 hl (by decide) rfl (fun ls hl => ?_)
  refine lv_aload_n hx hb dX0_setNumber_11 rfl (lv_at hl 1 rfl) ?_
  refine cx_get C hx hb (T := TX0) (N := 12) hts (by decide +kernel) hown 9 rfl rfl 2 (by decide) (hts (.fieldLink RX0 18 "AggregateRows$Results" "sorts" "[I") (by decide +kernel)) (fun _ h9 => h9) (v := .ref (ad 12)) rfl dX0_setNumber_12 ?_
  refine lv_iload_n hx hb dX0_setNumber_15 rfl (lv_at hl 2 rfl) ?_
  refine lv_iconst (v := 0) hx hb dX0_setNumber_16 (by decide) ?_
  obtain ⟨g_5, hf⟩ := gd_some hf
  refine cx_iast C hx hb 12 rfl g_5 (u1 := sI u_4 8 a1.toNatClampNeg 0) rfl dX0_setNumber_17 (fun u_6 H locs eu_6 C => ?_)
  replace hf := lt_at hf eu_6
  refine lv_aload_n hx hb dX0_setNumber_18 rfl (lv_at hl 1 rfl) ?_
  refine cx_get C hx hb (T := TX0) (N := 12) hts (by decide +kernel) hown 9 rfl rfl 4 (by decide) (hts (.fieldLink RX0 24 "AggregateRows$Results" "uppers" "[J") (by decide +kernel)) (fun _ h9 => h9) (v := .ref (ad 14)) rfl dX0_setNumber_19 ?_
  refine lv_iload_n hx hb dX0_setNumber_22 rfl (lv_at hl 2 rfl) ?_
  refine lv_lload_n hx hb dX0_setNumber_23 rfl (lv_at hl 3 rfl) ?_
  refine lv_lload hx hb dX0_setNumber_24 (lv_at hl 0 rfl) ?_
  obtain ⟨g_7, hf⟩ := gd_some hf
  refine lv_ldiv hx hb dX0_setNumber_26 (of_decide_eq_true g_7) ?_
  obtain ⟨g_8, hf⟩ := gd_some hf
  refine cx_last C hx hb 14 rfl g_8 (u1 := sJ u_6 1 a1.toNatClampNeg (a2 / r_3)) rfl dX0_setNumber_27 (fun u_9 H locs eu_9 C => ?_)
  replace hf := lt_at hf eu_9
  refine lv_aload_n hx hb dX0_setNumber_28 rfl (lv_at hl 1 rfl) ?_
  refine cx_get C hx hb (T := TX0) (N := 12) hts (by decide +kernel) hown 9 rfl rfl 5 (by decide) (hts (.fieldLink RX0 28 "AggregateRows$Results" "lowers" "[J") (by decide +kernel)) (fun _ h9 => h9) (v := .ref (ad 15)) rfl dX0_setNumber_29 ?_
  refine lv_iload_n hx hb dX0_setNumber_32 rfl (lv_at hl 2 rfl) ?_
  refine lv_lload hx hb dX0_setNumber_33 (lv_at hl 4 rfl) ?_
  refine lv_lload hx hb dX0_setNumber_35 (lv_at hl 0 rfl) ?_
  obtain ⟨g_10, hf⟩ := gd_some hf
  refine lv_ldiv hx hb dX0_setNumber_37 (of_decide_eq_true g_10) ?_
  obtain ⟨g_11, hf⟩ := gd_some hf
  refine cx_last C hx hb 15 rfl g_11 (u1 := sJ u_9 2 a1.toNatClampNeg (a4 / r_3)) rfl dX0_setNumber_38 (fun u_12 H locs eu_12 C => ?_)
  replace hf := lt_at hf eu_12
  exact cx_vret C hx hb hr hlocks hf dX0_setNumber_39
/-! ===== X0_setError ===== -/
def fX0_setError (u : St) (a1 : Int32) (a2 : Int32) : Option (Unit × St) := gd (okI a1 60) (lt_ (sI u 8 a1.toNatClampNeg 2) (fun u_2 => gd (okI a1 60) (lt_ (sI u_2 9 a1.toNatClampNeg a2) (fun u_4 => some ((), u_4)))))
abbrev rmX0_setError : Room := { frames := 0, cells := 0, slots := 0, locals := 0 }
set_option maxHeartbeats 4000000 in
set_option maxRecDepth 100000 in
theorem k_X0_setError (l : Launch) (ad : Nat → Nat) (ck : Nat → ClassId) (D : va_G) (tt : Nat) {u : St} {a1 : Int32} {a2 : Int32} {u' : St} (hf : fX0_setError u a1 a2 = some ((), u')) : MV l yX0_setError wsX0_setError rmX0_setError (wA ad ck) ck D tt [.ref (ad 9), .int a1, .int a2] u u' := by
  intro sz
  refine Met.ofW (cc := cX0_setError) (maxL := 3) (ret := none) (by decide) rfl ?_
  intro p e s m args below meth c s₁ B hml hv
  obtain ⟨rfl, hsz, C⟩ := cx_entry hv
  have hx := B.exec
  have hb := B.bytes
  have hr := B.returns
  have hts := atoms_spec (ws := wsX0_setError) B.pre
  have hown : s.vm.findClass RX0 = some m.cls := findClass_of_methodNamed B.named
  have hlocks := B.notSynchronized
  have hl := lv_entry ([.ref (ad 9), .int a1, .int a2]) (n := 3) (Nat.le_of_ble_eq_true rfl)
  rw [lg_entry_eq]
  generalize (lg_sl ([.ref (ad 9), .int a1, .int a2]) ++ List.replicate (3 - (lg_sl ([.ref (ad 9), .int a1, .int a2])).length) Slot.unset).toArray = ls at hl ⊢
  have hl : lv_has ls 3 [(0, .ref (ad 9)), (1, .int a1), (2, .int a2)] := hl
  unfold fX0_setError at hf
  refine lv_aload_n hx hb dX0_setError_0 rfl (lv_at hl 0 rfl) ?_
  refine cx_get C hx hb (T := TX0) (N := 12) hts (by decide +kernel) hown 9 rfl rfl 2 (by decide) (hts (.fieldLink RX0 18 "AggregateRows$Results" "sorts" "[I") (by decide +kernel)) (fun _ h9 => h9) (v := .ref (ad 12)) rfl dX0_setError_1 ?_
  refine lv_iload_n hx hb dX0_setError_4 rfl (lv_at hl 1 rfl) ?_
  refine lv_iconst (v := 2) hx hb dX0_setError_5 (by decide) ?_
  obtain ⟨g_1, hf⟩ := gd_some hf
  refine cx_iast C hx hb 12 rfl g_1 (u1 := sI u 8 a1.toNatClampNeg 2) rfl dX0_setError_6 (fun u_2 H locs eu_2 C => ?_)
  replace hf := lt_at hf eu_2
  refine lv_aload_n hx hb dX0_setError_7 rfl (lv_at hl 0 rfl) ?_
  refine cx_get C hx hb (T := TX0) (N := 12) hts (by decide +kernel) hown 9 rfl rfl 3 (by decide) (hts (.fieldLink RX0 21 "AggregateRows$Results" "reasons" "[I") (by decide +kernel)) (fun _ h9 => h9) (v := .ref (ad 13)) rfl dX0_setError_8 ?_
  refine lv_iload_n hx hb dX0_setError_11 rfl (lv_at hl 1 rfl) ?_
  refine lv_iload_n hx hb dX0_setError_12 rfl (lv_at hl 2 rfl) ?_
  obtain ⟨g_3, hf⟩ := gd_some hf
  refine cx_iast C hx hb 13 rfl g_3 (u1 := sI u_2 9 a1.toNatClampNeg a2) rfl dX0_setError_13 (fun u_4 H locs eu_4 C => ?_)
  replace hf := lt_at hf eu_4
  exact cx_vret C hx hb hr hlocks hf dX0_setError_14
/-! ===== X0_setTermOfResult ===== -/
def fX0_setTermOfResult (u : St) (a1 : Int32) (a2 : Int32) : Option (Unit × St) := gd (okI a1 60) (lt_ (sI u 10 a1.toNatClampNeg a2) (fun u_2 => some ((), u_2)))
abbrev rmX0_setTermOfResult : Room := { frames := 0, cells := 0, slots := 0, locals := 0 }
set_option maxHeartbeats 4000000 in
set_option maxRecDepth 100000 in
theorem k_X0_setTermOfResult (l : Launch) (ad : Nat → Nat) (ck : Nat → ClassId) (D : va_G) (tt : Nat) {u : St} {a1 : Int32} {a2 : Int32} {u' : St} (hf : fX0_setTermOfResult u a1 a2 = some ((), u')) : MV l yX0_setTermOfResult wsX0_setTermOfResult rmX0_setTermOfResult (wA ad ck) ck D tt [.ref (ad 9), .int a1, .int a2] u u' := by
  intro sz
  refine Met.ofW (cc := cX0_setTermOfResult) (maxL := 3) (ret := none) (by decide) rfl ?_
  intro p e s m args below meth c s₁ B hml hv
  obtain ⟨rfl, hsz, C⟩ := cx_entry hv
  have hx := B.exec
  have hb := B.bytes
  have hr := B.returns
  have hts := atoms_spec (ws := wsX0_setTermOfResult) B.pre
  have hown : s.vm.findClass RX0 = some m.cls := findClass_of_methodNamed B.named
  have hlocks := B.notSynchronized
  have hl := lv_entry ([.ref (ad 9), .int a1, .int a2]) (n := 3) (Nat.le_of_ble_eq_true rfl)
  rw [lg_entry_eq]
  generalize (lg_sl ([.ref (ad 9), .int a1, .int a2]) ++ List.replicate (3 - (lg_sl ([.ref (ad 9), .int a1, .int a2])).length) Slot.unset).toArray = ls at hl ⊢
  have hl : lv_has ls 3 [(0, .ref (ad 9)), (1, .int a1), (2, .int a2)] := hl
  unfold fX0_setTermOfResult at hf
  refine lv_aload_n hx hb dX0_setTermOfResult_0 rfl (lv_at hl 0 rfl) ?_
  refine cx_get C hx hb (T := TX0) (N := 12) hts (by decide +kernel) hown 9 rfl rfl 6 (by decide) (hts (.fieldLink RX0 31 "AggregateRows$Results" "terms" "[I") (by decide +kernel)) (fun _ h9 => h9) (v := .ref (ad 16)) rfl dX0_setTermOfResult_1 ?_
  refine lv_iload_n hx hb dX0_setTermOfResult_4 rfl (lv_at hl 1 rfl) ?_
  refine lv_iload_n hx hb dX0_setTermOfResult_5 rfl (lv_at hl 2 rfl) ?_
  obtain ⟨g_1, hf⟩ := gd_some hf
  refine cx_iast C hx hb 16 rfl g_1 (u1 := sI u 10 a1.toNatClampNeg a2) rfl dX0_setTermOfResult_6 (fun u_2 H locs eu_2 C => ?_)
  replace hf := lt_at hf eu_2
  exact cx_vret C hx hb hr hlocks hf dX0_setTermOfResult_7
/-! ===== X0_beginText ===== -/
def fX0_beginText (u : St) (a1 : Int32) : Option (Unit × St) := gd (okI a1 60) (lt_ (sI u 11 a1.toNatClampNeg (u.1 6)) (fun u_2 => some ((), u_2)))
abbrev rmX0_beginText : Room := { frames := 0, cells := 0, slots := 0, locals := 0 }
set_option maxHeartbeats 4000000 in
set_option maxRecDepth 100000 in
theorem k_X0_beginText (l : Launch) (ad : Nat → Nat) (ck : Nat → ClassId) (D : va_G) (tt : Nat) {u : St} {a1 : Int32} {u' : St} (hf : fX0_beginText u a1 = some ((), u')) : MV l yX0_beginText wsX0_beginText rmX0_beginText (wA ad ck) ck D tt [.ref (ad 9), .int a1] u u' := by
  intro sz
  refine Met.ofW (cc := cX0_beginText) (maxL := 2) (ret := none) (by decide) rfl ?_
  intro p e s m args below meth c s₁ B hml hv
  obtain ⟨rfl, hsz, C⟩ := cx_entry hv
  have hx := B.exec
  have hb := B.bytes
  have hr := B.returns
  have hts := atoms_spec (ws := wsX0_beginText) B.pre
  have hown : s.vm.findClass RX0 = some m.cls := findClass_of_methodNamed B.named
  have hlocks := B.notSynchronized
  have hl := lv_entry ([.ref (ad 9), .int a1]) (n := 2) (Nat.le_of_ble_eq_true rfl)
  rw [lg_entry_eq]
  generalize (lg_sl ([.ref (ad 9), .int a1]) ++ List.replicate (2 - (lg_sl ([.ref (ad 9), .int a1])).length) Slot.unset).toArray = ls at hl ⊢
  have hl : lv_has ls 2 [(0, .ref (ad 9)), (1, .int a1)] := hl
  unfold fX0_beginText at hf
  refine lv_aload_n hx hb dX0_beginText_0 rfl (lv_at hl 0 rfl) ?_
  refine cx_get C hx hb (T := TX0) (N := 12) hts (by decide +kernel) hown 9 rfl rfl 7 (by decide) (hts (.fieldLink RX0 34 "AggregateRows$Results" "starts" "[I") (by decide +kernel)) (fun _ h9 => h9) (v := .ref (ad 17)) rfl dX0_beginText_1 ?_
  refine lv_iload_n hx hb dX0_beginText_4 rfl (lv_at hl 1 rfl) ?_
  refine lv_aload_n hx hb dX0_beginText_5 rfl (lv_at hl 0 rfl) ?_
  refine cx_get C hx hb (T := TX0) (N := 12) hts (by decide +kernel) hown 9 rfl rfl 10 (by decide) (hts (.fieldLink RX0 44 "AggregateRows$Results" "written" "I") (by decide +kernel)) (fun _ h9 => h9) (v := .int (u.1 6)) rfl dX0_beginText_6 ?_
  obtain ⟨g_1, hf⟩ := gd_some hf
  refine cx_iast C hx hb 17 rfl g_1 (u1 := sI u 11 a1.toNatClampNeg (u.1 6)) rfl dX0_beginText_9 (fun u_2 H locs eu_2 C => ?_)
  replace hf := lt_at hf eu_2
  exact cx_vret C hx hb hr hlocks hf dX0_beginText_10
/-! ===== X0_put ===== -/
def fX0_put (u : St) (a1 : Int32) : Option (Unit × St) := (if 600 ≤ (u.1 6) then some ((), u) else gd (okI (u.1 6) 600) (lt_ (sI u 13 (u.1 6).toNatClampNeg (vp_nar .char a1)) (fun u_3 => lt_ (sS u_3 6 ((u_3.1 6) + 1)) (fun u_4 => some ((), u_4)))))
abbrev rmX0_put : Room := { frames := 0, cells := 0, slots := 0, locals := 0 }
set_option maxHeartbeats 4000000 in
set_option maxRecDepth 100000 in
theorem k_X0_put (l : Launch) (ad : Nat → Nat) (ck : Nat → ClassId) (D : va_G) (tt : Nat) {u : St} {a1 : Int32} {u' : St} (hf : fX0_put u a1 = some ((), u')) : MV l yX0_put wsX0_put rmX0_put (wA ad ck) ck D tt [.ref (ad 9), .int a1] u u' := by
  intro sz
  refine Met.ofW (cc := cX0_put) (maxL := 2) (ret := none) (by decide) rfl ?_
  intro p e s m args below meth c s₁ B hml hv
  obtain ⟨rfl, hsz, C⟩ := cx_entry hv
  have hx := B.exec
  have hb := B.bytes
  have hr := B.returns
  have hts := atoms_spec (ws := wsX0_put) B.pre
  have hown : s.vm.findClass RX0 = some m.cls := findClass_of_methodNamed B.named
  have hlocks := B.notSynchronized
  have hl := lv_entry ([.ref (ad 9), .int a1]) (n := 2) (Nat.le_of_ble_eq_true rfl)
  rw [lg_entry_eq]
  generalize (lg_sl ([.ref (ad 9), .int a1]) ++ List.replicate (2 - (lg_sl ([.ref (ad 9), .int a1])).length) Slot.unset).toArray = ls at hl ⊢
  have hl : lv_has ls 2 [(0, .ref (ad 9)), (1, .int a1)] := hl
  unfold fX0_put at hf
  refine lv_aload_n hx hb dX0_put_0 rfl (lv_at hl 0 rfl) ?_
  refine cx_get C hx hb (T := TX0) (N := 12) hts (by decide +kernel) hown 9 rfl rfl 10 (by decide) (hts (.fieldLink RX0 44 "AggregateRows$Results" "written" "I") (by decide +kernel)) (fun _ h9 => h9) (v := .int (u.1 6)) rfl dX0_put_1 ?_
  refine lv_sipush (v := 600) hx hb dX0_put_4 (by decide) ?_
  refine lv_icmp_ge (tgt := 30) hx hb dX0_put_7 (by decide) (fun c_1 => ?_) (fun c_1 => ?_)
  · replace hf := (if_pos c_1).symm.trans hf
    exact cx_vret C hx hb hr hlocks hf dX0_put_30
  · replace hf := (if_neg c_1).symm.trans hf
    refine lv_aload_n hx hb dX0_put_10 rfl (lv_at hl 0 rfl) ?_
    refine cx_get C hx hb (T := TX0) (N := 12) hts (by decide +kernel) hown 9 rfl rfl 9 (by decide) (hts (.fieldLink RX0 40 "AggregateRows$Results" "characters" "[C") (by decide +kernel)) (fun _ h9 => h9) (v := .ref (ad 19)) rfl dX0_put_11 ?_
    refine lv_aload_n hx hb dX0_put_14 rfl (lv_at hl 0 rfl) ?_
    refine cx_get C hx hb (T := TX0) (N := 12) hts (by decide +kernel) hown 9 rfl rfl 10 (by decide) (hts (.fieldLink RX0 44 "AggregateRows$Results" "written" "I") (by decide +kernel)) (fun _ h9 => h9) (v := .int (u.1 6)) rfl dX0_put_15 ?_
    refine lv_iload_n hx hb dX0_put_18 rfl (lv_at hl 1 rfl) ?_
    obtain ⟨g_2, hf⟩ := gd_some hf
    refine cx_cast C hx hb 19 rfl g_2 (u1 := sI u 13 (u.1 6).toNatClampNeg (vp_nar .char a1)) rfl dX0_put_19 (fun u_3 H locs eu_3 C => ?_)
    replace hf := lt_at hf eu_3
    refine lv_aload_n hx hb dX0_put_20 rfl (lv_at hl 0 rfl) ?_
    refine lv_dup hx hb dX0_put_21 rfl ?_
    refine cx_get C hx hb (T := TX0) (N := 12) hts (by decide +kernel) hown 9 rfl rfl 10 (by decide) (hts (.fieldLink RX0 44 "AggregateRows$Results" "written" "I") (by decide +kernel)) (fun _ h9 => h9) (v := .int (u_3.1 6)) rfl dX0_put_22 ?_
    refine lv_iconst (v := 1) hx hb dX0_put_25 (by decide) ?_
    refine lv_iadd hx hb dX0_put_26 ?_
    refine cx_puti C hx hb (T := TX0) (N := 12) hts (by decide +kernel) tyX0 tyX0_ok nmX0 hown 9 rfl rfl 10 (by decide) (hts (.fieldLink RX0 44 "AggregateRows$Results" "written" "I") (by decide +kernel)) (fun _ h9 => h9) rfl (by decide +kernel) (Nat.le_of_ble_eq_true rfl) (u1 := sS u_3 6 ((u_3.1 6) + 1)) rfl dX0_put_27 (fun u_4 H locs eu_4 C => ?_)
    replace hf := lt_at hf eu_4
    exact cx_vret C hx hb hr hlocks hf dX0_put_30
/-! ===== X0_openLength ===== -/
def fX0_openLength (u : St) (a1 : Int32) : Option (Int32 × St) := gd (okI a1 60) (some (((u.1 6) - (u.2.1 11 a1.toNatClampNeg)), u))
abbrev rmX0_openLength : Room := { frames := 0, cells := 0, slots := 0, locals := 0 }
set_option maxHeartbeats 4000000 in
set_option maxRecDepth 100000 in
theorem k_X0_openLength (l : Launch) (ad : Nat → Nat) (ck : Nat → ClassId) (D : va_G) (tt : Nat) {u : St} {a1 : Int32} {r : Int32} {u' : St} (hf : fX0_openLength u a1 = some (r, u')) : MI l yX0_openLength wsX0_openLength rmX0_openLength (wA ad ck) ck D tt [.ref (ad 9), .int a1] u r u' := by
  intro sz
  refine Met.ofW (cc := cX0_openLength) (maxL := 2) (ret := (some .int)) (by decide) rfl ?_
  intro p e s m args below meth c s₁ B hml hv
  obtain ⟨rfl, hsz, C⟩ := cx_entry hv
  have hx := B.exec
  have hb := B.bytes
  have hr := B.returns
  have hts := atoms_spec (ws := wsX0_openLength) B.pre
  have hown : s.vm.findClass RX0 = some m.cls := findClass_of_methodNamed B.named
  have hlocks := B.notSynchronized
  have hl := lv_entry ([.ref (ad 9), .int a1]) (n := 2) (Nat.le_of_ble_eq_true rfl)
  rw [lg_entry_eq]
  generalize (lg_sl ([.ref (ad 9), .int a1]) ++ List.replicate (2 - (lg_sl ([.ref (ad 9), .int a1])).length) Slot.unset).toArray = ls at hl ⊢
  have hl : lv_has ls 2 [(0, .ref (ad 9)), (1, .int a1)] := hl
  unfold fX0_openLength at hf
  refine lv_aload_n hx hb dX0_openLength_0 rfl (lv_at hl 0 rfl) ?_
  refine cx_get C hx hb (T := TX0) (N := 12) hts (by decide +kernel) hown 9 rfl rfl 10 (by decide) (hts (.fieldLink RX0 44 "AggregateRows$Results" "written" "I") (by decide +kernel)) (fun _ h9 => h9) (v := .int (u.1 6)) rfl dX0_openLength_1 ?_
  refine lv_aload_n hx hb dX0_openLength_4 rfl (lv_at hl 0 rfl) ?_
  refine cx_get C hx hb (T := TX0) (N := 12) hts (by decide +kernel) hown 9 rfl rfl 7 (by decide) (hts (.fieldLink RX0 34 "AggregateRows$Results" "starts" "[I") (by decide +kernel)) (fun _ h9 => h9) (v := .ref (ad 17)) rfl dX0_openLength_5 ?_
  refine lv_iload_n hx hb dX0_openLength_8 rfl (lv_at hl 1 rfl) ?_
  obtain ⟨g_1, hf⟩ := gd_some hf
  refine cx_iald C hx hb 17 rfl g_1 dX0_openLength_9 ?_
  refine lv_isub hx hb dX0_openLength_10 ?_
  exact cx_iret C hx hb hr hlocks hf dX0_openLength_11
/-! ===== X0_endText ===== -/
def fX0_endText (u : St) (a1 : Int32) : Option (Unit × St) := gd (okI a1 60) (lt_ (sI u 8 a1.toNatClampNeg 1) (fun u_2 => bnd (fX0_openLength u_2 a1) (fun r_4 u_5 => gd (okI a1 60) (lt_ (sI u_5 12 a1.toNatClampNeg r_4) (fun u_7 => some ((), u_7))))))
abbrev rmX0_endText : Room := { frames := 1, cells := 0, slots := 0, locals := 21 }
set_option maxHeartbeats 4000000 in
set_option maxRecDepth 100000 in
theorem k_X0_endText (l : Launch) (ad : Nat → Nat) (ck : Nat → ClassId) (D : va_G) (tt : Nat) {u : St} {a1 : Int32} {u' : St} (hf : fX0_endText u a1 = some ((), u')) : MV l yX0_endText wsX0_endText rmX0_endText (wA ad ck) ck D tt [.ref (ad 9), .int a1] u u' := by
  intro sz
  refine Met.ofW (cc := cX0_endText) (maxL := 2) (ret := none) (by decide) rfl ?_
  intro p e s m args below meth c s₁ B hml hv
  obtain ⟨rfl, hsz, C⟩ := cx_entry hv
  have hx := B.exec
  have hb := B.bytes
  have hr := B.returns
  have hts := atoms_spec (ws := wsX0_endText) B.pre
  have hown : s.vm.findClass RX0 = some m.cls := findClass_of_methodNamed B.named
  have hlocks := B.notSynchronized
  have hl := lv_entry ([.ref (ad 9), .int a1]) (n := 2) (Nat.le_of_ble_eq_true rfl)
  rw [lg_entry_eq]
  generalize (lg_sl ([.ref (ad 9), .int a1]) ++ List.replicate (2 - (lg_sl ([.ref (ad 9), .int a1])).length) Slot.unset).toArray = ls at hl ⊢
  have hl : lv_has ls 2 [(0, .ref (ad 9)), (1, .int a1)] := hl
  unfold fX0_endText at hf
  refine lv_aload_n hx hb dX0_endText_0 rfl (lv_at hl 0 rfl) ?_
  refine cx_get C hx hb (T := TX0) (N := 12) hts (by decide +kernel) hown 9 rfl rfl 2 (by decide) (hts (.fieldLink RX0 18 "AggregateRows$Results" "sorts" "[I") (by decide +kernel)) (fun _ h9 => h9) (v := .ref (ad 12)) rfl dX0_endText_1 ?_
  refine lv_iload_n hx hb dX0_endText_4 rfl (lv_at hl 1 rfl) ?_
  refine lv_iconst (v := 1) hx hb dX0_endText_5 (by decide) ?_
  obtain ⟨g_1, hf⟩ := gd_some hf
  refine cx_iast C hx hb 12 rfl g_1 (u1 := sI u 8 a1.toNatClampNeg 1) rfl dX0_endText_6 (fun u_2 H locs eu_2 C => ?_)
  replace hf := lt_at hf eu_2
  refine lv_aload_n hx hb dX0_endText_7 rfl (lv_at hl 0 rfl) ?_
  refine cx_get C hx hb (T := TX0) (N := 12) hts (by decide +kernel) hown 9 rfl rfl 8 (by decide) (hts (.fieldLink RX0 37 "AggregateRows$Results" "lengths" "[I") (by decide +kernel)) (fun _ h9 => h9) (v := .ref (ad 18)) rfl dX0_endText_8 ?_
  refine lv_iload_n hx hb dX0_endText_11 rfl (lv_at hl 1 rfl) ?_
  refine lv_aload_n hx hb dX0_endText_12 rfl (lv_at hl 0 rfl) ?_
  refine lv_iload_n hx hb dX0_endText_13 rfl (lv_at hl 1 rfl) ?_
  obtain ⟨r_4, u_5, h_3, hf⟩ := bnd_some hf
  refine cx_calli C (va_runV (As := [.int a1]) (rest := [.int a1, .ref (ad 18)]) ⟨hx, hb, hml, hown, hts⟩ (k_X0_openLength l ad ck D tt h_3 _) (cwV 1 hts gX0_endText_X0_openLength rfl rfl rfl (by decide +kernel) ⟨Nat.le_of_ble_eq_true rfl, Nat.le_of_ble_eq_true rfl⟩) (cx_preV C (q0 := 9) (ci := 0) rfl rfl) rfl rfl hl.1 rfl (lv_room (Nat.le_of_ble_eq_true rfl)) dX0_endText_14 ⟨Nat.zero_le _, Nat.zero_le _⟩) (fun H locs C => ?_)
  obtain ⟨g_6, hf⟩ := gd_some hf
  refine cx_iast C hx hb 18 rfl g_6 (u1 := sI u_5 12 a1.toNatClampNeg r_4) rfl dX0_endText_17 (fun u_7 H locs eu_7 C => ?_)
  replace hf := lt_at hf eu_7
  exact cx_vret C hx hb hr hlocks hf dX0_endText_18
/-! ===== X0_count ===== -/
def fX0_count (u : St)  : Option (Int32 × St) := some ((u.1 7), u)
abbrev rmX0_count : Room := { frames := 0, cells := 0, slots := 0, locals := 0 }
set_option maxHeartbeats 4000000 in
set_option maxRecDepth 100000 in
theorem k_X0_count (l : Launch) (ad : Nat → Nat) (ck : Nat → ClassId) (D : va_G) (tt : Nat) {u : St}  {r : Int32} {u' : St} (hf : fX0_count u = some (r, u')) : MI l yX0_count wsX0_count rmX0_count (wA ad ck) ck D tt [.ref (ad 9)] u r u' := by
  intro sz
  refine Met.ofW (cc := cX0_count) (maxL := 1) (ret := (some .int)) (by decide) rfl ?_
  intro p e s m args below meth c s₁ B hml hv
  obtain ⟨rfl, hsz, C⟩ := cx_entry hv
  have hx := B.exec
  have hb := B.bytes
  have hr := B.returns
  have hts := atoms_spec (ws := wsX0_count) B.pre
  have hown : s.vm.findClass RX0 = some m.cls := findClass_of_methodNamed B.named
  have hlocks := B.notSynchronized
  have hl := lv_entry ([.ref (ad 9)]) (n := 1) (Nat.le_of_ble_eq_true rfl)
  rw [lg_entry_eq]
  generalize (lg_sl ([.ref (ad 9)]) ++ List.replicate (1 - (lg_sl ([.ref (ad 9)])).length) Slot.unset).toArray = ls at hl ⊢
  have hl : lv_has ls 1 [(0, .ref (ad 9))] := hl
  unfold fX0_count at hf
  refine lv_aload_n hx hb dX0_count_0 rfl (lv_at hl 0 rfl) ?_
  refine cx_get C hx hb (T := TX0) (N := 12) hts (by decide +kernel) hown 9 rfl rfl 11 (by decide) (hts (.fieldLink RX0 48 "AggregateRows$Results" "count" "I") (by decide +kernel)) (fun _ h9 => h9) (v := .int (u.1 7)) rfl dX0_count_1 ?_
  exact cx_iret C hx hb hr hlocks hf dX0_count_4
/-! ===== X0_firstKey ===== -/
def fX0_firstKey (u : St) (a1 : Int32) : Option (Int32 × St) := gd (okI a1 60) (some ((u.2.1 6 a1.toNatClampNeg), u))
abbrev rmX0_firstKey : Room := { frames := 0, cells := 0, slots := 0, locals := 0 }
set_option maxHeartbeats 4000000 in
set_option maxRecDepth 100000 in
theorem k_X0_firstKey (l : Launch) (ad : Nat → Nat) (ck : Nat → ClassId) (D : va_G) (tt : Nat) {u : St} {a1 : Int32} {r : Int32} {u' : St} (hf : fX0_firstKey u a1 = some (r, u')) : MI l yX0_firstKey wsX0_firstKey rmX0_firstKey (wA ad ck) ck D tt [.ref (ad 9), .int a1] u r u' := by
  intro sz
  refine Met.ofW (cc := cX0_firstKey) (maxL := 2) (ret := (some .int)) (by decide) rfl ?_
  intro p e s m args below meth c s₁ B hml hv
  obtain ⟨rfl, hsz, C⟩ := cx_entry hv
  have hx := B.exec
  have hb := B.bytes
  have hr := B.returns
  have hts := atoms_spec (ws := wsX0_firstKey) B.pre
  have hown : s.vm.findClass RX0 = some m.cls := findClass_of_methodNamed B.named
  have hlocks := B.notSynchronized
  have hl := lv_entry ([.ref (ad 9), .int a1]) (n := 2) (Nat.le_of_ble_eq_true rfl)
  rw [lg_entry_eq]
  generalize (lg_sl ([.ref (ad 9), .int a1]) ++ List.replicate (2 - (lg_sl ([.ref (ad 9), .int a1])).length) Slot.unset).toArray = ls at hl ⊢
  have hl : lv_has ls 2 [(0, .ref (ad 9)), (1, .int a1)] := hl
  unfold fX0_firstKey at hf
  refine lv_aload_n hx hb dX0_firstKey_0 rfl (lv_at hl 0 rfl) ?_
  refine cx_get C hx hb (T := TX0) (N := 12) hts (by decide +kernel) hown 9 rfl rfl 0 (by decide) (hts (.fieldLink RX0 9 "AggregateRows$Results" "firstKeys" "[I") (by decide +kernel)) (fun _ h9 => h9) (v := .ref (ad 10)) rfl dX0_firstKey_1 ?_
  refine lv_iload_n hx hb dX0_firstKey_4 rfl (lv_at hl 1 rfl) ?_
  obtain ⟨g_1, hf⟩ := gd_some hf
  refine cx_iald C hx hb 10 rfl g_1 dX0_firstKey_5 ?_
  exact cx_iret C hx hb hr hlocks hf dX0_firstKey_6
/-! ===== X0_rowCount ===== -/
def fX0_rowCount (u : St) (a1 : Int32) : Option (Int32 × St) := gd (okI a1 60) (some ((u.2.1 7 a1.toNatClampNeg), u))
abbrev rmX0_rowCount : Room := { frames := 0, cells := 0, slots := 0, locals := 0 }
set_option maxHeartbeats 4000000 in
set_option maxRecDepth 100000 in
theorem k_X0_rowCount (l : Launch) (ad : Nat → Nat) (ck : Nat → ClassId) (D : va_G) (tt : Nat) {u : St} {a1 : Int32} {r : Int32} {u' : St} (hf : fX0_rowCount u a1 = some (r, u')) : MI l yX0_rowCount wsX0_rowCount rmX0_rowCount (wA ad ck) ck D tt [.ref (ad 9), .int a1] u r u' := by
  intro sz
  refine Met.ofW (cc := cX0_rowCount) (maxL := 2) (ret := (some .int)) (by decide) rfl ?_
  intro p e s m args below meth c s₁ B hml hv
  obtain ⟨rfl, hsz, C⟩ := cx_entry hv
  have hx := B.exec
  have hb := B.bytes
  have hr := B.returns
  have hts := atoms_spec (ws := wsX0_rowCount) B.pre
  have hown : s.vm.findClass RX0 = some m.cls := findClass_of_methodNamed B.named
  have hlocks := B.notSynchronized
  have hl := lv_entry ([.ref (ad 9), .int a1]) (n := 2) (Nat.le_of_ble_eq_true rfl)
  rw [lg_entry_eq]
  generalize (lg_sl ([.ref (ad 9), .int a1]) ++ List.replicate (2 - (lg_sl ([.ref (ad 9), .int a1])).length) Slot.unset).toArray = ls at hl ⊢
  have hl : lv_has ls 2 [(0, .ref (ad 9)), (1, .int a1)] := hl
  unfold fX0_rowCount at hf
  refine lv_aload_n hx hb dX0_rowCount_0 rfl (lv_at hl 0 rfl) ?_
  refine cx_get C hx hb (T := TX0) (N := 12) hts (by decide +kernel) hown 9 rfl rfl 1 (by decide) (hts (.fieldLink RX0 15 "AggregateRows$Results" "rowCounts" "[I") (by decide +kernel)) (fun _ h9 => h9) (v := .ref (ad 11)) rfl dX0_rowCount_1 ?_
  refine lv_iload_n hx hb dX0_rowCount_4 rfl (lv_at hl 1 rfl) ?_
  obtain ⟨g_1, hf⟩ := gd_some hf
  refine cx_iald C hx hb 11 rfl g_1 dX0_rowCount_5 ?_
  exact cx_iret C hx hb hr hlocks hf dX0_rowCount_6
/-! ===== X0_sortOf ===== -/
def fX0_sortOf (u : St) (a1 : Int32) : Option (Int32 × St) := gd (okI a1 60) (some ((u.2.1 8 a1.toNatClampNeg), u))
abbrev rmX0_sortOf : Room := { frames := 0, cells := 0, slots := 0, locals := 0 }
set_option maxHeartbeats 4000000 in
set_option maxRecDepth 100000 in
theorem k_X0_sortOf (l : Launch) (ad : Nat → Nat) (ck : Nat → ClassId) (D : va_G) (tt : Nat) {u : St} {a1 : Int32} {r : Int32} {u' : St} (hf : fX0_sortOf u a1 = some (r, u')) : MI l yX0_sortOf wsX0_sortOf rmX0_sortOf (wA ad ck) ck D tt [.ref (ad 9), .int a1] u r u' := by
  intro sz
  refine Met.ofW (cc := cX0_sortOf) (maxL := 2) (ret := (some .int)) (by decide) rfl ?_
  intro p e s m args below meth c s₁ B hml hv
  obtain ⟨rfl, hsz, C⟩ := cx_entry hv
  have hx := B.exec
  have hb := B.bytes
  have hr := B.returns
  have hts := atoms_spec (ws := wsX0_sortOf) B.pre
  have hown : s.vm.findClass RX0 = some m.cls := findClass_of_methodNamed B.named
  have hlocks := B.notSynchronized
  have hl := lv_entry ([.ref (ad 9), .int a1]) (n := 2) (Nat.le_of_ble_eq_true rfl)
  rw [lg_entry_eq]
  generalize (lg_sl ([.ref (ad 9), .int a1]) ++ List.replicate (2 - (lg_sl ([.ref (ad 9), .int a1])).length) Slot.unset).toArray = ls at hl ⊢
  have hl : lv_has ls 2 [(0, .ref (ad 9)), (1, .int a1)] := hl
  unfold fX0_sortOf at hf
  refine lv_aload_n hx hb dX0_sortOf_0 rfl (lv_at hl 0 rfl) ?_
  refine cx_get C hx hb (T := TX0) (N := 12) hts (by decide +kernel) hown 9 rfl rfl 2 (by decide) (hts (.fieldLink RX0 18 "AggregateRows$Results" "sorts" "[I") (by decide +kernel)) (fun _ h9 => h9) (v := .ref (ad 12)) rfl dX0_sortOf_1 ?_
  refine lv_iload_n hx hb dX0_sortOf_4 rfl (lv_at hl 1 rfl) ?_
  obtain ⟨g_1, hf⟩ := gd_some hf
  refine cx_iald C hx hb 12 rfl g_1 dX0_sortOf_5 ?_
  exact cx_iret C hx hb hr hlocks hf dX0_sortOf_6
/-! ===== X0_reason ===== -/
def fX0_reason (u : St) (a1 : Int32) : Option (Int32 × St) := gd (okI a1 60) (some ((u.2.1 9 a1.toNatClampNeg), u))
abbrev rmX0_reason : Room := { frames := 0, cells := 0, slots := 0, locals := 0 }
set_option maxHeartbeats 4000000 in
set_option maxRecDepth 100000 in
theorem k_X0_reason (l : Launch) (ad : Nat → Nat) (ck : Nat → ClassId) (D : va_G) (tt : Nat) {u : St} {a1 : Int32} {r : Int32} {u' : St} (hf : fX0_reason u a1 = some (r, u')) : MI l yX0_reason wsX0_reason rmX0_reason (wA ad ck) ck D tt [.ref (ad 9), .int a1] u r u' := by
  intro sz
  refine Met.ofW (cc := cX0_reason) (maxL := 2) (ret := (some .int)) (by decide) rfl ?_
  intro p e s m args below meth c s₁ B hml hv
  obtain ⟨rfl, hsz, C⟩ := cx_entry hv
  have hx := B.exec
  have hb := B.bytes
  have hr := B.returns
  have hts := atoms_spec (ws := wsX0_reason) B.pre
  have hown : s.vm.findClass RX0 = some m.cls := findClass_of_methodNamed B.named
  have hlocks := B.notSynchronized
  have hl := lv_entry ([.ref (ad 9), .int a1]) (n := 2) (Nat.le_of_ble_eq_true rfl)
  rw [lg_entry_eq]
  generalize (lg_sl ([.ref (ad 9), .int a1]) ++ List.replicate (2 - (lg_sl ([.ref (ad 9), .int a1])).length) Slot.unset).toArray = ls at hl ⊢
  have hl : lv_has ls 2 [(0, .ref (ad 9)), (1, .int a1)] := hl
  unfold fX0_reason at hf
  refine lv_aload_n hx hb dX0_reason_0 rfl (lv_at hl 0 rfl) ?_
  refine cx_get C hx hb (T := TX0) (N := 12) hts (by decide +kernel) hown 9 rfl rfl 3 (by decide) (hts (.fieldLink RX0 21 "AggregateRows$Results" "reasons" "[I") (by decide +kernel)) (fun _ h9 => h9) (v := .ref (ad 13)) rfl dX0_reason_1 ?_
  refine lv_iload_n hx hb dX0_reason_4 rfl (lv_at hl 1 rfl) ?_
  obtain ⟨g_1, hf⟩ := gd_some hf
  refine cx_iald C hx hb 13 rfl g_1 dX0_reason_5 ?_
  exact cx_iret C hx hb hr hlocks hf dX0_reason_6
/-! ===== X0_upper ===== -/
def fX0_upper (u : St) (a1 : Int32) : Option (Int64 × St) := gd (okI a1 60) (some ((u.2.2 1 a1.toNatClampNeg), u))
abbrev rmX0_upper : Room := { frames := 0, cells := 0, slots := 0, locals := 0 }
set_option maxHeartbeats 4000000 in
set_option maxRecDepth 100000 in
theorem k_X0_upper (l : Launch) (ad : Nat → Nat) (ck : Nat → ClassId) (D : va_G) (tt : Nat) {u : St} {a1 : Int32} {r : Int64} {u' : St} (hf : fX0_upper u a1 = some (r, u')) : ML l yX0_upper wsX0_upper rmX0_upper (wA ad ck) ck D tt [.ref (ad 9), .int a1] u r u' := by
  intro sz
  refine Met.ofW (cc := cX0_upper) (maxL := 2) (ret := (some .long)) (by decide) rfl ?_
  intro p e s m args below meth c s₁ B hml hv
  obtain ⟨rfl, hsz, C⟩ := cx_entry hv
  have hx := B.exec
  have hb := B.bytes
  have hr := B.returns
  have hts := atoms_spec (ws := wsX0_upper) B.pre
  have hown : s.vm.findClass RX0 = some m.cls := findClass_of_methodNamed B.named
  have hlocks := B.notSynchronized
  have hl := lv_entry ([.ref (ad 9), .int a1]) (n := 2) (Nat.le_of_ble_eq_true rfl)
  rw [lg_entry_eq]
  generalize (lg_sl ([.ref (ad 9), .int a1]) ++ List.replicate (2 - (lg_sl ([.ref (ad 9), .int a1])).length) Slot.unset).toArray = ls at hl ⊢
  have hl : lv_has ls 2 [(0, .ref (ad 9)), (1, .int a1)] := hl
  unfold fX0_upper at hf
  refine lv_aload_n hx hb dX0_upper_0 rfl (lv_at hl 0 rfl) ?_
  refine cx_get C hx hb (T := TX0) (N := 12) hts (by decide +kernel) hown 9 rfl rfl 4 (by decide) (hts (.fieldLink RX0 24 "AggregateRows$Results" "uppers" "[J") (by decide +kernel)) (fun _ h9 => h9) (v := .ref (ad 14)) rfl dX0_upper_1 ?_
  refine lv_iload_n hx hb dX0_upper_4 rfl (lv_at hl 1 rfl) ?_
  obtain ⟨g_1, hf⟩ := gd_some hf
  refine cx_lald C hx hb 14 rfl g_1 dX0_upper_5 ?_
  exact cx_lret C hx hb hr hlocks hf dX0_upper_6
/-! ===== X0_lower ===== -/
def fX0_lower (u : St) (a1 : Int32) : Option (Int64 × St) := gd (okI a1 60) (some ((u.2.2 2 a1.toNatClampNeg), u))
abbrev rmX0_lower : Room := { frames := 0, cells := 0, slots := 0, locals := 0 }
set_option maxHeartbeats 4000000 in
set_option maxRecDepth 100000 in
theorem k_X0_lower (l : Launch) (ad : Nat → Nat) (ck : Nat → ClassId) (D : va_G) (tt : Nat) {u : St} {a1 : Int32} {r : Int64} {u' : St} (hf : fX0_lower u a1 = some (r, u')) : ML l yX0_lower wsX0_lower rmX0_lower (wA ad ck) ck D tt [.ref (ad 9), .int a1] u r u' := by
  intro sz
  refine Met.ofW (cc := cX0_lower) (maxL := 2) (ret := (some .long)) (by decide) rfl ?_
  intro p e s m args below meth c s₁ B hml hv
  obtain ⟨rfl, hsz, C⟩ := cx_entry hv
  have hx := B.exec
  have hb := B.bytes
  have hr := B.returns
  have hts := atoms_spec (ws := wsX0_lower) B.pre
  have hown : s.vm.findClass RX0 = some m.cls := findClass_of_methodNamed B.named
  have hlocks := B.notSynchronized
  have hl := lv_entry ([.ref (ad 9), .int a1]) (n := 2) (Nat.le_of_ble_eq_true rfl)
  rw [lg_entry_eq]
  generalize (lg_sl ([.ref (ad 9), .int a1]) ++ List.replicate (2 - (lg_sl ([.ref (ad 9), .int a1])).length) Slot.unset).toArray = ls at hl ⊢
  have hl : lv_has ls 2 [(0, .ref (ad 9)), (1, .int a1)] := hl
  unfold fX0_lower at hf
  refine lv_aload_n hx hb dX0_lower_0 rfl (lv_at hl 0 rfl) ?_
  refine cx_get C hx hb (T := TX0) (N := 12) hts (by decide +kernel) hown 9 rfl rfl 5 (by decide) (hts (.fieldLink RX0 28 "AggregateRows$Results" "lowers" "[J") (by decide +kernel)) (fun _ h9 => h9) (v := .ref (ad 15)) rfl dX0_lower_1 ?_
  refine lv_iload_n hx hb dX0_lower_4 rfl (lv_at hl 1 rfl) ?_
  obtain ⟨g_1, hf⟩ := gd_some hf
  refine cx_lald C hx hb 15 rfl g_1 dX0_lower_5 ?_
  exact cx_lret C hx hb hr hlocks hf dX0_lower_6
/-! ===== X0_termOfResult ===== -/
def fX0_termOfResult (u : St) (a1 : Int32) : Option (Int32 × St) := gd (okI a1 60) (some ((u.2.1 10 a1.toNatClampNeg), u))
abbrev rmX0_termOfResult : Room := { frames := 0, cells := 0, slots := 0, locals := 0 }
set_option maxHeartbeats 4000000 in
set_option maxRecDepth 100000 in
theorem k_X0_termOfResult (l : Launch) (ad : Nat → Nat) (ck : Nat → ClassId) (D : va_G) (tt : Nat) {u : St} {a1 : Int32} {r : Int32} {u' : St} (hf : fX0_termOfResult u a1 = some (r, u')) : MI l yX0_termOfResult wsX0_termOfResult rmX0_termOfResult (wA ad ck) ck D tt [.ref (ad 9), .int a1] u r u' := by
  intro sz
  refine Met.ofW (cc := cX0_termOfResult) (maxL := 2) (ret := (some .int)) (by decide) rfl ?_
  intro p e s m args below meth c s₁ B hml hv
  obtain ⟨rfl, hsz, C⟩ := cx_entry hv
  have hx := B.exec
  have hb := B.bytes
  have hr := B.returns
  have hts := atoms_spec (ws := wsX0_termOfResult) B.pre
  have hown : s.vm.findClass RX0 = some m.cls := findClass_of_methodNamed B.named
  have hlocks := B.notSynchronized
  have hl := lv_entry ([.ref (ad 9), .int a1]) (n := 2) (Nat.le_of_ble_eq_true rfl)
  rw [lg_entry_eq]
  generalize (lg_sl ([.ref (ad 9), .int a1]) ++ List.replicate (2 - (lg_sl ([.ref (ad 9), .int a1])).length) Slot.unset).toArray = ls at hl ⊢
  have hl : lv_has ls 2 [(0, .ref (ad 9)), (1, .int a1)] := hl
  unfold fX0_termOfResult at hf
  refine lv_aload_n hx hb dX0_termOfResult_0 rfl (lv_at hl 0 rfl) ?_
  refine cx_get C hx hb (T := TX0) (N := 12) hts (by decide +kernel) hown 9 rfl rfl 6 (by decide) (hts (.fieldLink RX0 31 "AggregateRows$Results" "terms" "[I") (by decide +kernel)) (fun _ h9 => h9) (v := .ref (ad 16)) rfl dX0_termOfResult_1 ?_
  refine lv_iload_n hx hb dX0_termOfResult_4 rfl (lv_at hl 1 rfl) ?_
  obtain ⟨g_1, hf⟩ := gd_some hf
  refine cx_iald C hx hb 16 rfl g_1 dX0_termOfResult_5 ?_
  exact cx_iret C hx hb hr hlocks hf dX0_termOfResult_6
/-! ===== X0_textLength ===== -/
def fX0_textLength (u : St) (a1 : Int32) : Option (Int32 × St) := gd (okI a1 60) (some ((u.2.1 12 a1.toNatClampNeg), u))
abbrev rmX0_textLength : Room := { frames := 0, cells := 0, slots := 0, locals := 0 }
set_option maxHeartbeats 4000000 in
set_option maxRecDepth 100000 in
theorem k_X0_textLength (l : Launch) (ad : Nat → Nat) (ck : Nat → ClassId) (D : va_G) (tt : Nat) {u : St} {a1 : Int32} {r : Int32} {u' : St} (hf : fX0_textLength u a1 = some (r, u')) : MI l yX0_textLength wsX0_textLength rmX0_textLength (wA ad ck) ck D tt [.ref (ad 9), .int a1] u r u' := by
  intro sz
  refine Met.ofW (cc := cX0_textLength) (maxL := 2) (ret := (some .int)) (by decide) rfl ?_
  intro p e s m args below meth c s₁ B hml hv
  obtain ⟨rfl, hsz, C⟩ := cx_entry hv
  have hx := B.exec
  have hb := B.bytes
  have hr := B.returns
  have hts := atoms_spec (ws := wsX0_textLength) B.pre
  have hown : s.vm.findClass RX0 = some m.cls := findClass_of_methodNamed B.named
  have hlocks := B.notSynchronized
  have hl := lv_entry ([.ref (ad 9), .int a1]) (n := 2) (Nat.le_of_ble_eq_true rfl)
  rw [lg_entry_eq]
  generalize (lg_sl ([.ref (ad 9), .int a1]) ++ List.replicate (2 - (lg_sl ([.ref (ad 9), .int a1])).length) Slot.unset).toArray = ls at hl ⊢
  have hl : lv_has ls 2 [(0, .ref (ad 9)), (1, .int a1)] := hl
  unfold fX0_textLength at hf
  refine lv_aload_n hx hb dX0_textLength_0 rfl (lv_at hl 0 rfl) ?_
  refine cx_get C hx hb (T := TX0) (N := 12) hts (by decide +kernel) hown 9 rfl rfl 8 (by decide) (hts (.fieldLink RX0 37 "AggregateRows$Results" "lengths" "[I") (by decide +kernel)) (fun _ h9 => h9) (v := .ref (ad 18)) rfl dX0_textLength_1 ?_
  refine lv_iload_n hx hb dX0_textLength_4 rfl (lv_at hl 1 rfl) ?_
  obtain ⟨g_1, hf⟩ := gd_some hf
  refine cx_iald C hx hb 18 rfl g_1 dX0_textLength_5 ?_
  exact cx_iret C hx hb hr hlocks hf dX0_textLength_6
/-! ===== X0_character ===== -/
def fX0_character (u : St) (a1 : Int32) (a2 : Int32) : Option (Int32 × St) := gd (okI a1 60) (gd (okI ((u.2.1 11 a1.toNatClampNeg) + a2) 600) (some ((u.2.1 13 ((u.2.1 11 a1.toNatClampNeg) + a2).toNatClampNeg), u)))
abbrev rmX0_character : Room := { frames := 0, cells := 0, slots := 0, locals := 0 }
set_option maxHeartbeats 4000000 in
set_option maxRecDepth 100000 in
theorem k_X0_character (l : Launch) (ad : Nat → Nat) (ck : Nat → ClassId) (D : va_G) (tt : Nat) {u : St} {a1 : Int32} {a2 : Int32} {r : Int32} {u' : St} (hf : fX0_character u a1 a2 = some (r, u')) : MI l yX0_character wsX0_character rmX0_character (wA ad ck) ck D tt [.ref (ad 9), .int a1, .int a2] u r u' := by
  intro sz
  refine Met.ofW (cc := cX0_character) (maxL := 3) (ret := (some .int)) (by decide) rfl ?_
  intro p e s m args below meth c s₁ B hml hv
  obtain ⟨rfl, hsz, C⟩ := cx_entry hv
  have hx := B.exec
  have hb := B.bytes
  have hr := B.returns
  have hts := atoms_spec (ws := wsX0_character) B.pre
  have hown : s.vm.findClass RX0 = some m.cls := findClass_of_methodNamed B.named
  have hlocks := B.notSynchronized
  have hl := lv_entry ([.ref (ad 9), .int a1, .int a2]) (n := 3) (Nat.le_of_ble_eq_true rfl)
  rw [lg_entry_eq]
  generalize (lg_sl ([.ref (ad 9), .int a1, .int a2]) ++ List.replicate (3 - (lg_sl ([.ref (ad 9), .int a1, .int a2])).length) Slot.unset).toArray = ls at hl ⊢
  have hl : lv_has ls 3 [(0, .ref (ad 9)), (1, .int a1), (2, .int a2)] := hl
  unfold fX0_character at hf
  refine lv_aload_n hx hb dX0_character_0 rfl (lv_at hl 0 rfl) ?_
  refine cx_get C hx hb (T := TX0) (N := 12) hts (by decide +kernel) hown 9 rfl rfl 9 (by decide) (hts (.fieldLink RX0 40 "AggregateRows$Results" "characters" "[C") (by decide +kernel)) (fun _ h9 => h9) (v := .ref (ad 19)) rfl dX0_character_1 ?_
  refine lv_aload_n hx hb dX0_character_4 rfl (lv_at hl 0 rfl) ?_
  refine cx_get C hx hb (T := TX0) (N := 12) hts (by decide +kernel) hown 9 rfl rfl 7 (by decide) (hts (.fieldLink RX0 34 "AggregateRows$Results" "starts" "[I") (by decide +kernel)) (fun _ h9 => h9) (v := .ref (ad 17)) rfl dX0_character_5 ?_
  refine lv_iload_n hx hb dX0_character_8 rfl (lv_at hl 1 rfl) ?_
  obtain ⟨g_1, hf⟩ := gd_some hf
  refine cx_iald C hx hb 17 rfl g_1 dX0_character_9 ?_
  refine lv_iload_n hx hb dX0_character_10 rfl (lv_at hl 2 rfl) ?_
  refine lv_iadd hx hb dX0_character_11 ?_
  obtain ⟨g_2, hf⟩ := gd_some hf
  refine cx_cald C hx hb 19 rfl g_2 dX0_character_12 ?_
  exact cx_iret C hx hb hr hlocks hf dX0_character_13
