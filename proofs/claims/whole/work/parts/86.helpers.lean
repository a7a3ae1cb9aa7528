def MH {σ : Type} (l : Launch) (y : MethodName) (ws : List Cond) (rm : Room) (wf : σ → va_W) (ck : Nat → ClassId) (D : va_G) (tt : Nat) (av : List Value) (u : σ) (r : Int32) (u' : σ) : Prop := ∀ sz : Nat, Met l y ws rm (PC wf ck D tt av u sz) (QI wf D u sz r u') 1 6 (va_A (wf u) sz)
abbrev rmL_number : Room := { frames := 8, cells := 1, slots := 6, locals := 139 }
set_option maxHeartbeats 4000000 in
set_option maxRecDepth 100000 in
theorem k_L_number (l : Launch) (ad : Nat → Nat) (aO : Nat) (ck : Nat → ClassId) (D : va_G) (tt : Nat) (hst : l.stackTraces = false) {u : St} {o : Nat → Int64} {a1 : Int32} {a2 : Int32} {r : Int32} {u1 : St} (hf : fX4_number u a1 a2 = some (.inr r, u1)) : MH l yL_number wsL_number rmL_number (wApp (wA ad ck) (wO aO ck)) ck D tt [.ref (ad 0), .int a1, .int a2, .ref aO] (u, o) 0 (u1, vp_updL o (0 : Int32).toNatClampNeg r.toInt64) := by
  intro sz
  refine va_MetW (cc := cL_number) (maxL := 5) (ret := (some .int)) (hh := [(0, 10, 13, 13), (0, 10, 17, 15)]) (by decide) rfl ?_
  intro p e s m args below meth c s₁ B hml hv
  obtain ⟨rfl, hsz, C⟩ := cx_entry hv
  have hx := B.exec
  have hb := B.bytes
  have hr := B.returns
  have hts := atoms_spec (ws := wsL_number) B.pre
  have hown : s.vm.findClass RL = some m.cls := findClass_of_methodNamed B.named
  have hlocks := B.notSynchronized
  have htab : c.exceptionTable.toList = tableOf [(0, 10, 13, 13), (0, 10, 17, 15)] := vx_table (x := yL_number) B (hts _ List.mem_cons_self)
  have hl := lv_entry ([.ref (ad 0), .int a1, .int a2, .ref aO]) (n := 5) (Nat.le_of_ble_eq_true rfl)
  rw [lg_entry_eq]
  generalize (lg_sl ([.ref (ad 0), .int a1, .int a2, .ref aO]) ++ List.replicate (5 - (lg_sl ([.ref (ad 0), .int a1, .int a2, .ref aO])).length) Slot.unset).toArray = ls at hl ⊢
  have hl : lv_has ls 5 [(0, .ref (ad 0)), (1, .int a1), (2, .int a2), (3, .ref aO)] := hl
  refine lv_aload_n hx hb dL_number_0 rfl (lv_at hl 3 rfl) ?_
  refine lv_iconst (v := 0) hx hb dL_number_1 (by decide) ?_
  refine lv_aload_n hx hb dL_number_2 rfl (lv_at hl 0 rfl) ?_
  refine lv_iload_n hx hb dL_number_3 rfl (lv_at hl 1 rfl) ?_
  refine lv_iload_n hx hb dL_number_4 rfl (lv_at hl 2 rfl) ?_
  refine cl_calli C (va_runV (As := [.int a1, .int a2]) (rest := [.int 0, .ref aO]) ⟨hx, hb, hml, hown, hts⟩ (k_X4_number l ad ck D tt hf _) (cwV 2 hts gL_number_X4_number rfl rfl rfl (by decide +kernel) ⟨Nat.le_of_ble_eq_true rfl, Nat.le_of_ble_eq_true rfl⟩) (cx_preV C.l (q0 := 0) (ci := 4) rfl rfl) rfl rfl hl.1 rfl (lv_room (Nat.le_of_ble_eq_true rfl)) dL_number_5 ⟨Nat.zero_le _, Nat.zero_le _⟩) (fun H locs C => ?_)
  refine lv_i2l hx hb dL_number_8 rfl ?_
  refine cx_last C hx hb 23 rfl (by decide) (u1 := (u1, vp_updL o (0 : Int32).toNatClampNeg r.toInt64)) rfl dL_number_9 (fun w H locs ew C => ?_)
  subst ew
  refine lv_goto (tgt := 21) hx hb dL_number_10 (by decide) ?_
  refine lv_iconst (v := 0) hx hb dL_number_21 (by decide) ?_
  refine W.widen (k := 1) (n := 6) (Nat.zero_le _) (Nat.zero_le _) ?_
  exact cx_iret C hx hb hr hlocks rfl dL_number_22
set_option maxHeartbeats 4000000 in
set_option maxRecDepth 100000 in
theorem t_L_number_1 (l : Launch) (ad : Nat → Nat) (aO : Nat) (ck : Nat → ClassId) (D : va_G) (tt : Nat) (hst : l.stackTraces = false) {u : St} {o : Nat → Int64} {a1 : Int32} {a2 : Int32} {u1 : St} (hf : fX4_number u a1 a2 = some (.inl 1, u1)) : MH l yL_number wsL_number rmL_number (wApp (wA ad ck) (wO aO ck)) ck D tt [.ref (ad 0), .int a1, .int a2, .ref aO] (u, o) 1 (u1, o) := by
  intro sz
  refine va_MetW (cc := cL_number) (maxL := 5) (ret := (some .int)) (hh := [(0, 10, 13, 13), (0, 10, 17, 15)]) (by decide) rfl ?_
  intro p e s m args below meth c s₁ B hml hv
  obtain ⟨rfl, hsz, C⟩ := cx_entry hv
  have hx := B.exec
  have hb := B.bytes
  have hr := B.returns
  have hts := atoms_spec (ws := wsL_number) B.pre
  have hown : s.vm.findClass RL = some m.cls := findClass_of_methodNamed B.named
  have hlocks := B.notSynchronized
  have htab : c.exceptionTable.toList = tableOf [(0, 10, 13, 13), (0, 10, 17, 15)] := vx_table (x := yL_number) B (hts _ List.mem_cons_self)
  have hl := lv_entry ([.ref (ad 0), .int a1, .int a2, .ref aO]) (n := 5) (Nat.le_of_ble_eq_true rfl)
  rw [lg_entry_eq]
  generalize (lg_sl ([.ref (ad 0), .int a1, .int a2, .ref aO]) ++ List.replicate (5 - (lg_sl ([.ref (ad 0), .int a1, .int a2, .ref aO])).length) Slot.unset).toArray = ls at hl ⊢
  have hl : lv_has ls 5 [(0, .ref (ad 0)), (1, .int a1), (2, .int a2), (3, .ref aO)] := hl
  refine lv_aload_n hx hb dL_number_0 rfl (lv_at hl 3 rfl) ?_
  refine lv_iconst (v := 0) hx hb dL_number_1 (by decide) ?_
  refine lv_aload_n hx hb dL_number_2 rfl (lv_at hl 0 rfl) ?_
  refine lv_iload_n hx hb dL_number_3 rfl (lv_at hl 1 rfl) ?_
  refine lv_iload_n hx hb dL_number_4 rfl (lv_at hl 2 rfl) ?_
  refine cl_thr C (vx_runV (As := [.int a1, .int a2]) (rest := [.int 0, .ref aO]) ⟨hx, hb, hml, hown, hts⟩ (t_X4_number l ad ck D tt hst hf _) (cwV 2 hts gL_number_X4_number rfl rfl rfl (by decide +kernel) ⟨Nat.le_of_ble_eq_true rfl, Nat.le_of_ble_eq_true rfl⟩) (cx_preV C.l (q0 := 0) (ci := 4) rfl rfl) rfl rfl hl.1 rfl (lv_room (Nat.le_of_ble_eq_true rfl)) dL_number_5 ⟨Nat.le_of_ble_eq_true rfl, Nat.le_of_ble_eq_true rfl⟩) (fun ce q9 H locs C hce hcv hcl => ?_)
  refine cx_catchA (name := xA) (E := xA) hown _ _ htab rfl (by decide) (hts (.classLink RL 13 xA) (by decide +kernel)) C.2.2.2.2.2.2.2.2.2.2.1 hce hcv hcl ?_
  refine W.eq (g2 := F0 m 13 ls [.ref q9]) rfl ?_
  refine lv_astore (lv' := [(4, .ref q9), (0, .ref (ad 0)), (1, .int a1), (2, .int a2), (3, .ref aO)]) hx hb dL_number_13 hl (by decide) rfl (fun ls hl => ?_)
  refine lv_iconst (v := 1) hx hb dL_number_15 (by decide) ?_
  exact cx_iret C hx hb hr hlocks rfl dL_number_16
set_option maxHeartbeats 4000000 in
set_option maxRecDepth 100000 in
theorem t_L_number_2 (l : Launch) (ad : Nat → Nat) (aO : Nat) (ck : Nat → ClassId) (D : va_G) (tt : Nat) (hst : l.stackTraces = false) {u : St} {o : Nat → Int64} {a1 : Int32} {a2 : Int32} {u1 : St} (hf : fX4_number u a1 a2 = some (.inl 2, u1)) : MH l yL_number wsL_number rmL_number (wApp (wA ad ck) (wO aO ck)) ck D tt [.ref (ad 0), .int a1, .int a2, .ref aO] (u, o) 2 (u1, o) := by
  intro sz
  refine va_MetW (cc := cL_number) (maxL := 5) (ret := (some .int)) (hh := [(0, 10, 13, 13), (0, 10, 17, 15)]) (by decide) rfl ?_
  intro p e s m args below meth c s₁ B hml hv
  obtain ⟨rfl, hsz, C⟩ := cx_entry hv
  have hx := B.exec
  have hb := B.bytes
  have hr := B.returns
  have hts := atoms_spec (ws := wsL_number) B.pre
  have hown : s.vm.findClass RL = some m.cls := findClass_of_methodNamed B.named
  have hlocks := B.notSynchronized
  have htab : c.exceptionTable.toList = tableOf [(0, 10, 13, 13), (0, 10, 17, 15)] := vx_table (x := yL_number) B (hts _ List.mem_cons_self)
  have hl := lv_entry ([.ref (ad 0), .int a1, .int a2, .ref aO]) (n := 5) (Nat.le_of_ble_eq_true rfl)
  rw [lg_entry_eq]
  generalize (lg_sl ([.ref (ad 0), .int a1, .int a2, .ref aO]) ++ List.replicate (5 - (lg_sl ([.ref (ad 0), .int a1, .int a2, .ref aO])).length) Slot.unset).toArray = ls at hl ⊢
  have hl : lv_has ls 5 [(0, .ref (ad 0)), (1, .int a1), (2, .int a2), (3, .ref aO)] := hl
  refine lv_aload_n hx hb dL_number_0 rfl (lv_at hl 3 rfl) ?_
  refine lv_iconst (v := 0) hx hb dL_number_1 (by decide) ?_
  refine lv_aload_n hx hb dL_number_2 rfl (lv_at hl 0 rfl) ?_
  refine lv_iload_n hx hb dL_number_3 rfl (lv_at hl 1 rfl) ?_
  refine lv_iload_n hx hb dL_number_4 rfl (lv_at hl 2 rfl) ?_
  refine cl_thr C (vx_runV (As := [.int a1, .int a2]) (rest := [.int 0, .ref aO]) ⟨hx, hb, hml, hown, hts⟩ (t_X4_number l ad ck D tt hst hf _) (cwV 2 hts gL_number_X4_number rfl rfl rfl (by decide +kernel) ⟨Nat.le_of_ble_eq_true rfl, Nat.le_of_ble_eq_true rfl⟩) (cx_preV C.l (q0 := 0) (ci := 4) rfl rfl) rfl rfl hl.1 rfl (lv_room (Nat.le_of_ble_eq_true rfl)) dL_number_5 ⟨Nat.le_of_ble_eq_true rfl, Nat.le_of_ble_eq_true rfl⟩) (fun ce q9 H locs C hce hcv hcl => ?_)
  refine cx_catchB (name := xS) (nm2 := xA) (E := xS) hown _ _ _ htab rfl (by decide) (hts (.classLink RL 13 xA) (by decide +kernel)) C.2.2.2.2.2.2.2.2.2.2.2.2.2.1 rfl (by decide) (hts (.classLink RL 15 xS) (by decide +kernel)) C.2.2.2.2.2.2.2.2.2.2.2.1 hce hcv hcl ?_
  refine W.eq (g2 := F0 m 17 ls [.ref q9]) rfl ?_
  refine lv_astore (lv' := [(4, .ref q9), (0, .ref (ad 0)), (1, .int a1), (2, .int a2), (3, .ref aO)]) hx hb dL_number_17 hl (by decide) rfl (fun ls hl => ?_)
  refine lv_iconst (v := 2) hx hb dL_number_19 (by decide) ?_
  exact cx_iret C hx hb hr hlocks rfl dL_number_20
abbrev rmL_text : Room := { frames := 8, cells := 1, slots := 6, locals := 141 }
set_option maxHeartbeats 4000000 in
set_option maxRecDepth 100000 in
theorem k_L_text (l : Launch) (ad : Nat → Nat) (aO : Nat) (ck : Nat → ClassId) (D : va_G) (tt : Nat) (hst : l.stackTraces = false) {u : St} {o : Nat → Int64} {a1 : Int64} {r : Int32} {u1 : St} (hf : fX4_text u a1 = some (.inr r, u1)) : MH l yL_text wsL_text rmL_text (wApp (wA ad ck) (wO aO ck)) ck D tt [.ref (ad 0), .long a1, .ref aO] (u, o) 0 (u1, vp_updL o (0 : Int32).toNatClampNeg r.toInt64) := by
  intro sz
  refine va_MetW (cc := cL_text) (maxL := 5) (ret := (some .int)) (hh := [(0, 9, 12, 13), (0, 9, 16, 15)]) (by decide) rfl ?_
  intro p e s m args below meth c s₁ B hml hv
  obtain ⟨rfl, hsz, C⟩ := cx_entry hv
  have hx := B.exec
  have hb := B.bytes
  have hr := B.returns
  have hts := atoms_spec (ws := wsL_text) B.pre
  have hown : s.vm.findClass RL = some m.cls := findClass_of_methodNamed B.named
  have hlocks := B.notSynchronized
  have htab : c.exceptionTable.toList = tableOf [(0, 9, 12, 13), (0, 9, 16, 15)] := vx_table (x := yL_text) B (hts _ List.mem_cons_self)
  have hl := lv_entry ([.ref (ad 0), .long a1, .ref aO]) (n := 5) (Nat.le_of_ble_eq_true rfl)
  rw [lg_entry_eq]
  generalize (lg_sl ([.ref (ad 0), .long a1, .ref aO]) ++ List.replicate (5 - (lg_sl ([.ref (ad 0), .long a1, .ref aO])).length) Slot.unset).toArray = ls at hl ⊢
  have hl : lv_has ls 5 [(0, .ref (ad 0)), (1, .long a1), (3, .ref aO)] := hl
  refine lv_aload_n hx hb dL_text_0 rfl (lv_at hl 2 rfl) ?_
  refine lv_iconst (v := 0) hx hb dL_text_1 (by decide) ?_
  refine lv_aload_n hx hb dL_text_2 rfl (lv_at hl 0 rfl) ?_
  refine lv_lload_n hx hb dL_text_3 rfl (lv_at hl 1 rfl) ?_
  refine cl_calli C (va_runV (As := [.long a1]) (rest := [.int 0, .ref aO]) ⟨hx, hb, hml, hown, hts⟩ (k_X4_text l ad ck D tt hf _) (cwV 1 hts gL_text_X4_text rfl rfl rfl (by decide +kernel) ⟨Nat.le_of_ble_eq_true rfl, Nat.le_of_ble_eq_true rfl⟩) (cx_preV C.l (q0 := 0) (ci := 4) rfl rfl) rfl rfl hl.1 rfl (lv_room (Nat.le_of_ble_eq_true rfl)) dL_text_4 ⟨Nat.zero_le _, Nat.zero_le _⟩) (fun H locs C => ?_)
  refine lv_i2l hx hb dL_text_7 rfl ?_
  refine cx_last C hx hb 23 rfl (by decide) (u1 := (u1, vp_updL o (0 : Int32).toNatClampNeg r.toInt64)) rfl dL_text_8 (fun w H locs ew C => ?_)
  subst ew
  refine lv_goto (tgt := 20) hx hb dL_text_9 (by decide) ?_
  refine lv_iconst (v := 0) hx hb dL_text_20 (by decide) ?_
  refine W.widen (k := 1) (n := 6) (Nat.zero_le _) (Nat.zero_le _) ?_
  exact cx_iret C hx hb hr hlocks rfl dL_text_21
set_option maxHeartbeats 4000000 in
set_option maxRecDepth 100000 in
theorem t_L_text_1 (l : Launch) (ad : Nat → Nat) (aO : Nat) (ck : Nat → ClassId) (D : va_G) (tt : Nat) (hst : l.stackTraces = false) {u : St} {o : Nat → Int64} {a1 : Int64} {u1 : St} (hf : fX4_text u a1 = some (.inl 1, u1)) : MH l yL_text wsL_text rmL_text (wApp (wA ad ck) (wO aO ck)) ck D tt [.ref (ad 0), .long a1, .ref aO] (u, o) 1 (u1, o) := by
  intro sz
  refine va_MetW (cc := cL_text) (maxL := 5) (ret := (some .int)) (hh := [(0, 9, 12, 13), (0, 9, 16, 15)]) (by decide) rfl ?_
  intro p e s m args below meth c s₁ B hml hv
  obtain ⟨rfl, hsz, C⟩ := cx_entry hv
  have hx := B.exec
  have hb := B.bytes
  have hr := B.returns
  have hts := atoms_spec (ws := wsL_text) B.pre
  have hown : s.vm.findClass RL = some m.cls := findClass_of_methodNamed B.named
  have hlocks := B.notSynchronized
  have htab : c.exceptionTable.toList = tableOf [(0, 9, 12, 13), (0, 9, 16, 15)] := vx_table (x := yL_text) B (hts _ List.mem_cons_self)
  have hl := lv_entry ([.ref (ad 0), .long a1, .ref aO]) (n := 5) (Nat.le_of_ble_eq_true rfl)
  rw [lg_entry_eq]
  generalize (lg_sl ([.ref (ad 0), .long a1, .ref aO]) ++ List.replicate (5 - (lg_sl ([.ref (ad 0), .long a1, .ref aO])).length) Slot.unset).toArray = ls at hl ⊢
  have hl : lv_has ls 5 [(0, .ref (ad 0)), (1, .long a1), (3, .ref aO)] := hl
  refine lv_aload_n hx hb dL_text_0 rfl (lv_at hl 2 rfl) ?_
  refine lv_iconst (v := 0) hx hb dL_text_1 (by decide) ?_
  refine lv_aload_n hx hb dL_text_2 rfl (lv_at hl 0 rfl) ?_
  refine lv_lload_n hx hb dL_text_3 rfl (lv_at hl 1 rfl) ?_
  refine cl_thr C (vx_runV (As := [.long a1]) (rest := [.int 0, .ref aO]) ⟨hx, hb, hml, hown, hts⟩ (t_X4_text l ad ck D tt hst hf _) (cwV 1 hts gL_text_X4_text rfl rfl rfl (by decide +kernel) ⟨Nat.le_of_ble_eq_true rfl, Nat.le_of_ble_eq_true rfl⟩) (cx_preV C.l (q0 := 0) (ci := 4) rfl rfl) rfl rfl hl.1 rfl (lv_room (Nat.le_of_ble_eq_true rfl)) dL_text_4 ⟨Nat.le_of_ble_eq_true rfl, Nat.le_of_ble_eq_true rfl⟩) (fun ce q9 H locs C hce hcv hcl => ?_)
  refine cx_catchA (name := xA) (E := xA) hown _ _ htab rfl (by decide) (hts (.classLink RL 13 xA) (by decide +kernel)) C.2.2.2.2.2.2.2.2.2.2.1 hce hcv hcl ?_
  refine W.eq (g2 := F0 m 12 ls [.ref q9]) rfl ?_
  refine lv_astore (lv' := [(4, .ref q9), (0, .ref (ad 0)), (1, .long a1), (3, .ref aO)]) hx hb dL_text_12 hl (by decide) rfl (fun ls hl => ?_)
  refine lv_iconst (v := 1) hx hb dL_text_14 (by decide) ?_
  exact cx_iret C hx hb hr hlocks rfl dL_text_15
set_option maxHeartbeats 4000000 in
set_option maxRecDepth 100000 in
theorem t_L_text_2 (l : Launch) (ad : Nat → Nat) (aO : Nat) (ck : Nat → ClassId) (D : va_G) (tt : Nat) (hst : l.stackTraces = false) {u : St} {o : Nat → Int64} {a1 : Int64} {u1 : St} (hf : fX4_text u a1 = some (.inl 2, u1)) : MH l yL_text wsL_text rmL_text (wApp (wA ad ck) (wO aO ck)) ck D tt [.ref (ad 0), .long a1, .ref aO] (u, o) 2 (u1, o) := by
  intro sz
  refine va_MetW (cc := cL_text) (maxL := 5) (ret := (some .int)) (hh := [(0, 9, 12, 13), (0, 9, 16, 15)]) (by decide) rfl ?_
  intro p e s m args below meth c s₁ B hml hv
  obtain ⟨rfl, hsz, C⟩ := cx_entry hv
  have hx := B.exec
  have hb := B.bytes
  have hr := B.returns
  have hts := atoms_spec (ws := wsL_text) B.pre
  have hown : s.vm.findClass RL = some m.cls := findClass_of_methodNamed B.named
  have hlocks := B.notSynchronized
  have htab : c.exceptionTable.toList = tableOf [(0, 9, 12, 13), (0, 9, 16, 15)] := vx_table (x := yL_text) B (hts _ List.mem_cons_self)
  have hl := lv_entry ([.ref (ad 0), .long a1, .ref aO]) (n := 5) (Nat.le_of_ble_eq_true rfl)
  rw [lg_entry_eq]
  generalize (lg_sl ([.ref (ad 0), .long a1, .ref aO]) ++ List.replicate (5 - (lg_sl ([.ref (ad 0), .long a1, .ref aO])).length) Slot.unset).toArray = ls at hl ⊢
  have hl : lv_has ls 5 [(0, .ref (ad 0)), (1, .long a1), (3, .ref aO)] := hl
  refine lv_aload_n hx hb dL_text_0 rfl (lv_at hl 2 rfl) ?_
  refine lv_iconst (v := 0) hx hb dL_text_1 (by decide) ?_
  refine lv_aload_n hx hb dL_text_2 rfl (lv_at hl 0 rfl) ?_
  refine lv_lload_n hx hb dL_text_3 rfl (lv_at hl 1 rfl) ?_
  refine cl_thr C (vx_runV (As := [.long a1]) (rest := [.int 0, .ref aO]) ⟨hx, hb, hml, hown, hts⟩ (t_X4_text l ad ck D tt hst hf _) (cwV 1 hts gL_text_X4_text rfl rfl rfl (by decide +kernel) ⟨Nat.le_of_ble_eq_true rfl, Nat.le_of_ble_eq_true rfl⟩) (cx_preV C.l (q0 := 0) (ci := 4) rfl rfl) rfl rfl hl.1 rfl (lv_room (Nat.le_of_ble_eq_true rfl)) dL_text_4 ⟨Nat.le_of_ble_eq_true rfl, Nat.le_of_ble_eq_true rfl⟩) (fun ce q9 H locs C hce hcv hcl => ?_)
  refine cx_catchB (name := xS) (nm2 := xA) (E := xS) hown _ _ _ htab rfl (by decide) (hts (.classLink RL 13 xA) (by decide +kernel)) C.2.2.2.2.2.2.2.2.2.2.2.2.2.1 rfl (by decide) (hts (.classLink RL 15 xS) (by decide +kernel)) C.2.2.2.2.2.2.2.2.2.2.2.1 hce hcv hcl ?_
  refine W.eq (g2 := F0 m 16 ls [.ref q9]) rfl ?_
  refine lv_astore (lv' := [(4, .ref q9), (0, .ref (ad 0)), (1, .long a1), (3, .ref aO)]) hx hb dL_text_16 hl (by decide) rfl (fun ls hl => ?_)
  refine lv_iconst (v := 2) hx hb dL_text_18 (by decide) ?_
  exact cx_iret C hx hb hr hlocks rfl dL_text_19
abbrev rmL_row : Room := { frames := 7, cells := 1, slots := 6, locals := 117 }
set_option maxHeartbeats 4000000 in
set_option maxRecDepth 100000 in
theorem k_L_row (l : Launch) (ad : Nat → Nat) (aO : Nat) (ck : Nat → ClassId) (D : va_G) (tt : Nat) (hst : l.stackTraces = false) {u : St} {o : Nat → Int64} {a1 : Int32} {a2 : Int32} {a3 : Int32} {r : Int32} {u1 : St} (hf : fX4_row u a1 a2 a3 = some (.inr r, u1)) : MH l yL_row wsL_row rmL_row (wApp (wA ad ck) (wO aO ck)) ck D tt [.ref (ad 0), .int a1, .int a2, .int a3, .ref aO] (u, o) 0 (u1, vp_updL o (0 : Int32).toNatClampNeg r.toInt64) := by
  intro sz
  refine va_MetW (cc := cL_row) (maxL := 6) (ret := (some .int)) (hh := [(0, 12, 15, 13), (0, 12, 19, 15)]) (by decide) rfl ?_
  intro p e s m args below meth c s₁ B hml hv
  obtain ⟨rfl, hsz, C⟩ := cx_entry hv
  have hx := B.exec
  have hb := B.bytes
  have hr := B.returns
  have hts := atoms_spec (ws := wsL_row) B.pre
  have hown : s.vm.findClass RL = some m.cls := findClass_of_methodNamed B.named
  have hlocks := B.notSynchronized
  have htab : c.exceptionTable.toList = tableOf [(0, 12, 15, 13), (0, 12, 19, 15)] := vx_table (x := yL_row) B (hts _ List.mem_cons_self)
  have hl := lv_entry ([.ref (ad 0), .int a1, .int a2, .int a3, .ref aO]) (n := 6) (Nat.le_of_ble_eq_true rfl)
  rw [lg_entry_eq]
  generalize (lg_sl ([.ref (ad 0), .int a1, .int a2, .int a3, .ref aO]) ++ List.replicate (6 - (lg_sl ([.ref (ad 0), .int a1, .int a2, .int a3, .ref aO])).length) Slot.unset).toArray = ls at hl ⊢
  have hl : lv_has ls 6 [(0, .ref (ad 0)), (1, .int a1), (2, .int a2), (3, .int a3), (4, .ref aO)] := hl
  refine lv_aload hx hb dL_row_0 (lv_at hl 4 rfl) ?_
  refine lv_iconst (v := 0) hx hb dL_row_2 (by decide) ?_
  refine lv_aload_n hx hb dL_row_3 rfl (lv_at hl 0 rfl) ?_
  refine lv_iload_n hx hb dL_row_4 rfl (lv_at hl 1 rfl) ?_
  refine lv_iload_n hx hb dL_row_5 rfl (lv_at hl 2 rfl) ?_
  refine lv_iload_n hx hb dL_row_6 rfl (lv_at hl 3 rfl) ?_
  refine cl_calli C (va_runV (As := [.int a1, .int a2, .int a3]) (rest := [.int 0, .ref aO]) ⟨hx, hb, hml, hown, hts⟩ (k_X4_row l ad ck D tt hf _) (cwV 3 hts gL_row_X4_row rfl rfl rfl (by decide +kernel) ⟨Nat.le_of_ble_eq_true rfl, Nat.le_of_ble_eq_true rfl⟩) (cx_preV C.l (q0 := 0) (ci := 4) rfl rfl) rfl rfl hl.1 rfl (lv_room (Nat.le_of_ble_eq_true rfl)) dL_row_7 ⟨Nat.zero_le _, Nat.zero_le _⟩) (fun H locs C => ?_)
  refine lv_i2l hx hb dL_row_10 rfl ?_
  refine cx_last C hx hb 23 rfl (by decide) (u1 := (u1, vp_updL o (0 : Int32).toNatClampNeg r.toInt64)) rfl dL_row_11 (fun w H locs ew C => ?_)
  subst ew
  refine lv_goto (tgt := 23) hx hb dL_row_12 (by decide) ?_
  refine lv_iconst (v := 0) hx hb dL_row_23 (by decide) ?_
  refine W.widen (k := 1) (n := 6) (Nat.zero_le _) (Nat.zero_le _) ?_
  exact cx_iret C hx hb hr hlocks rfl dL_row_24
set_option maxHeartbeats 4000000 in
set_option maxRecDepth 100000 in
theorem t_L_row_1 (l : Launch) (ad : Nat → Nat) (aO : Nat) (ck : Nat → ClassId) (D : va_G) (tt : Nat) (hst : l.stackTraces = false) {u : St} {o : Nat → Int64} {a1 : Int32} {a2 : Int32} {a3 : Int32} {u1 : St} (hf : fX4_row u a1 a2 a3 = some (.inl 1, u1)) : MH l yL_row wsL_row rmL_row (wApp (wA ad ck) (wO aO ck)) ck D tt [.ref (ad 0), .int a1, .int a2, .int a3, .ref aO] (u, o) 1 (u1, o) := by
  intro sz
  refine va_MetW (cc := cL_row) (maxL := 6) (ret := (some .int)) (hh := [(0, 12, 15, 13), (0, 12, 19, 15)]) (by decide) rfl ?_
  intro p e s m args below meth c s₁ B hml hv
  obtain ⟨rfl, hsz, C⟩ := cx_entry hv
  have hx := B.exec
  have hb := B.bytes
  have hr := B.returns
  have hts := atoms_spec (ws := wsL_row) B.pre
  have hown : s.vm.findClass RL = some m.cls := findClass_of_methodNamed B.named
  have hlocks := B.notSynchronized
  have htab : c.exceptionTable.toList = tableOf [(0, 12, 15, 13), (0, 12, 19, 15)] := vx_table (x := yL_row) B (hts _ List.mem_cons_self)
  have hl := lv_entry ([.ref (ad 0), .int a1, .int a2, .int a3, .ref aO]) (n := 6) (Nat.le_of_ble_eq_true rfl)
  rw [lg_entry_eq]
  generalize (lg_sl ([.ref (ad 0), .int a1, .int a2, .int a3, .ref aO]) ++ List.replicate (6 - (lg_sl ([.ref (ad 0), .int a1, .int a2, .int a3, .ref aO])).length) Slot.unset).toArray = ls at hl ⊢
  have hl : lv_has ls 6 [(0, .ref (ad 0)), (1, .int a1), (2, .int a2), (3, .int a3), (4, .ref aO)] := hl
  refine lv_aload hx hb dL_row_0 (lv_at hl 4 rfl) ?_
  refine lv_iconst (v := 0) hx hb dL_row_2 (by decide) ?_
  refine lv_aload_n hx hb dL_row_3 rfl (lv_at hl 0 rfl) ?_
  refine lv_iload_n hx hb dL_row_4 rfl (lv_at hl 1 rfl) ?_
  refine lv_iload_n hx hb dL_row_5 rfl (lv_at hl 2 rfl) ?_
  refine lv_iload_n hx hb dL_row_6 rfl (lv_at hl 3 rfl) ?_
  refine cl_thr C (vx_runV (As := [.int a1, .int a2, .int a3]) (rest := [.int 0, .ref aO]) ⟨hx, hb, hml, hown, hts⟩ (t_X4_row l ad ck D tt hst hf _) (cwV 3 hts gL_row_X4_row rfl rfl rfl (by decide +kernel) ⟨Nat.le_of_ble_eq_true rfl, Nat.le_of_ble_eq_true rfl⟩) (cx_preV C.l (q0 := 0) (ci := 4) rfl rfl) rfl rfl hl.1 rfl (lv_room (Nat.le_of_ble_eq_true rfl)) dL_row_7 ⟨Nat.le_of_ble_eq_true rfl, Nat.le_of_ble_eq_true rfl⟩) (fun ce q9 H locs C hce hcv hcl => ?_)
  refine cx_catchA (name := xA) (E := xA) hown _ _ htab rfl (by decide) (hts (.classLink RL 13 xA) (by decide +kernel)) C.2.2.2.2.2.2.2.2.2.2.1 hce hcv hcl ?_
  refine W.eq (g2 := F0 m 15 ls [.ref q9]) rfl ?_
  refine lv_astore (lv' := [(5, .ref q9), (0, .ref (ad 0)), (1, .int a1), (2, .int a2), (3, .int a3), (4, .ref aO)]) hx hb dL_row_15 hl (by decide) rfl (fun ls hl => ?_)
  refine lv_iconst (v := 1) hx hb dL_row_17 (by decide) ?_
  exact cx_iret C hx hb hr hlocks rfl dL_row_18
set_option maxHeartbeats 4000000 in
set_option maxRecDepth 100000 in
theorem t_L_row_2 (l : Launch) (ad : Nat → Nat) (aO : Nat) (ck : Nat → ClassId) (D : va_G) (tt : Nat) (hst : l.stackTraces = false) {u : St} {o : Nat → Int64} {a1 : Int32} {a2 : Int32} {a3 : Int32} {u1 : St} (hf : fX4_row u a1 a2 a3 = some (.inl 2, u1)) : MH l yL_row wsL_row rmL_row (wApp (wA ad ck) (wO aO ck)) ck D tt [.ref (ad 0), .int a1, .int a2, .int a3, .ref aO] (u, o) 2 (u1, o) := by
  intro sz
  refine va_MetW (cc := cL_row) (maxL := 6) (ret := (some .int)) (hh := [(0, 12, 15, 13), (0, 12, 19, 15)]) (by decide) rfl ?_
  intro p e s m args below meth c s₁ B hml hv
  obtain ⟨rfl, hsz, C⟩ := cx_entry hv
  have hx := B.exec
  have hb := B.bytes
  have hr := B.returns
  have hts := atoms_spec (ws := wsL_row) B.pre
  have hown : s.vm.findClass RL = some m.cls := findClass_of_methodNamed B.named
  have hlocks := B.notSynchronized
  have htab : c.exceptionTable.toList = tableOf [(0, 12, 15, 13), (0, 12, 19, 15)] := vx_table (x := yL_row) B (hts _ List.mem_cons_self)
  have hl := lv_entry ([.ref (ad 0), .int a1, .int a2, .int a3, .ref aO]) (n := 6) (Nat.le_of_ble_eq_true rfl)
  rw [lg_entry_eq]
  generalize (lg_sl ([.ref (ad 0), .int a1, .int a2, .int a3, .ref aO]) ++ List.replicate (6 - (lg_sl ([.ref (ad 0), .int a1, .int a2, .int a3, .ref aO])).length) Slot.unset).toArray = ls at hl ⊢
  have hl : lv_has ls 6 [(0, .ref (ad 0)), (1, .int a1), (2, .int a2), (3, .int a3), (4, .ref aO)] := hl
  refine lv_aload hx hb dL_row_0 (lv_at hl 4 rfl) ?_
  refine lv_iconst (v := 0) hx hb dL_row_2 (by decide) ?_
  refine lv_aload_n hx hb dL_row_3 rfl (lv_at hl 0 rfl) ?_
  refine lv_iload_n hx hb dL_row_4 rfl (lv_at hl 1 rfl) ?_
  refine lv_iload_n hx hb dL_row_5 rfl (lv_at hl 2 rfl) ?_
  refine lv_iload_n hx hb dL_row_6 rfl (lv_at hl 3 rfl) ?_
  refine cl_thr C (vx_runV (As := [.int a1, .int a2, .int a3]) (rest := [.int 0, .ref aO]) ⟨hx, hb, hml, hown, hts⟩ (t_X4_row l ad ck D tt hst hf _) (cwV 3 hts gL_row_X4_row rfl rfl rfl (by decide +kernel) ⟨Nat.le_of_ble_eq_true rfl, Nat.le_of_ble_eq_true rfl⟩) (cx_preV C.l (q0 := 0) (ci := 4) rfl rfl) rfl rfl hl.1 rfl (lv_room (Nat.le_of_ble_eq_true rfl)) dL_row_7 ⟨Nat.le_of_ble_eq_true rfl, Nat.le_of_ble_eq_true rfl⟩) (fun ce q9 H locs C hce hcv hcl => ?_)
  refine cx_catchB (name := xS) (nm2 := xA) (E := xS) hown _ _ _ htab rfl (by decide) (hts (.classLink RL 13 xA) (by decide +kernel)) C.2.2.2.2.2.2.2.2.2.2.2.2.2.1 rfl (by decide) (hts (.classLink RL 15 xS) (by decide +kernel)) C.2.2.2.2.2.2.2.2.2.2.2.1 hce hcv hcl ?_
  refine W.eq (g2 := F0 m 19 ls [.ref q9]) rfl ?_
  refine lv_astore (lv' := [(5, .ref q9), (0, .ref (ad 0)), (1, .int a1), (2, .int a2), (3, .int a3), (4, .ref aO)]) hx hb dL_row_19 hl (by decide) rfl (fun ls hl => ?_)
  refine lv_iconst (v := 2) hx hb dL_row_21 (by decide) ?_
  exact cx_iret C hx hb hr hlocks rfl dL_row_22
abbrev rmL_by : Room := { frames := 7, cells := 1, slots := 6, locals := 114 }
set_option maxHeartbeats 4000000 in
set_option maxRecDepth 100000 in
theorem k_L_by (l : Launch) (ad : Nat → Nat) (aO : Nat) (ck : Nat → ClassId) (D : va_G) (tt : Nat) (hst : l.stackTraces = false) {u : St} {o : Nat → Int64} {a1 : Int32} {r : Int32} {u1 : St} (hf : fX4_by u a1 = some (.inr r, u1)) : MH l yL_by wsL_by rmL_by (wApp (wA ad ck) (wO aO ck)) ck D tt [.ref (ad 0), .int a1, .ref aO] (u, o) 0 (u1, vp_updL o (0 : Int32).toNatClampNeg r.toInt64) := by
  intro sz
  refine va_MetW (cc := cL_by) (maxL := 4) (ret := (some .int)) (hh := [(0, 9, 12, 13)]) (by decide) rfl ?_
  intro p e s m args below meth c s₁ B hml hv
  obtain ⟨rfl, hsz, C⟩ := cx_entry hv
  have hx := B.exec
  have hb := B.bytes
  have hr := B.returns
  have hts := atoms_spec (ws := wsL_by) B.pre
  have hown : s.vm.findClass RL = some m.cls := findClass_of_methodNamed B.named
  have hlocks := B.notSynchronized
  have htab : c.exceptionTable.toList = tableOf [(0, 9, 12, 13)] := vx_table (x := yL_by) B (hts _ List.mem_cons_self)
  have hl := lv_entry ([.ref (ad 0), .int a1, .ref aO]) (n := 4) (Nat.le_of_ble_eq_true rfl)
  rw [lg_entry_eq]
  generalize (lg_sl ([.ref (ad 0), .int a1, .ref aO]) ++ List.replicate (4 - (lg_sl ([.ref (ad 0), .int a1, .ref aO])).length) Slot.unset).toArray = ls at hl ⊢
  have hl : lv_has ls 4 [(0, .ref (ad 0)), (1, .int a1), (2, .ref aO)] := hl
  refine lv_aload_n hx hb dL_by_0 rfl (lv_at hl 2 rfl) ?_
  refine lv_iconst (v := 0) hx hb dL_by_1 (by decide) ?_
  refine lv_aload_n hx hb dL_by_2 rfl (lv_at hl 0 rfl) ?_
  refine lv_iload_n hx hb dL_by_3 rfl (lv_at hl 1 rfl) ?_
  refine cl_calli C (va_runV (As := [.int a1]) (rest := [.int 0, .ref aO]) ⟨hx, hb, hml, hown, hts⟩ (k_X4_by l ad ck D tt hf _) (cwV 1 hts gL_by_X4_by rfl rfl rfl (by decide +kernel) ⟨Nat.le_of_ble_eq_true rfl, Nat.le_of_ble_eq_true rfl⟩) (cx_preV C.l (q0 := 0) (ci := 4) rfl rfl) rfl rfl hl.1 rfl (lv_room (Nat.le_of_ble_eq_true rfl)) dL_by_4 ⟨Nat.zero_le _, Nat.zero_le _⟩) (fun H locs C => ?_)
  refine lv_i2l hx hb dL_by_7 rfl ?_
  refine cx_last C hx hb 23 rfl (by decide) (u1 := (u1, vp_updL o (0 : Int32).toNatClampNeg r.toInt64)) rfl dL_by_8 (fun w H locs ew C => ?_)
  subst ew
  refine lv_goto (tgt := 15) hx hb dL_by_9 (by decide) ?_
  refine lv_iconst (v := 0) hx hb dL_by_15 (by decide) ?_
  refine W.widen (k := 1) (n := 6) (Nat.zero_le _) (Nat.zero_le _) ?_
  exact cx_iret C hx hb hr hlocks rfl dL_by_16
set_option maxHeartbeats 4000000 in
set_option maxRecDepth 100000 in
theorem t_L_by_1 (l : Launch) (ad : Nat → Nat) (aO : Nat) (ck : Nat → ClassId) (D : va_G) (tt : Nat) (hst : l.stackTraces = false) {u : St} {o : Nat → Int64} {a1 : Int32} {u1 : St} (hf : fX4_by u a1 = some (.inl 1, u1)) : MH l yL_by wsL_by rmL_by (wApp (wA ad ck) (wO aO ck)) ck D tt [.ref (ad 0), .int a1, .ref aO] (u, o) 1 (u1, o) := by
  intro sz
  refine va_MetW (cc := cL_by) (maxL := 4) (ret := (some .int)) (hh := [(0, 9, 12, 13)]) (by decide) rfl ?_
  intro p e s m args below meth c s₁ B hml hv
  obtain ⟨rfl, hsz, C⟩ := cx_entry hv
  have hx := B.exec
  have hb := B.bytes
  have hr := B.returns
  have hts := atoms_spec (ws := wsL_by) B.pre
  have hown : s.vm.findClass RL = some m.cls := findClass_of_methodNamed B.named
  have hlocks := B.notSynchronized
  have htab : c.exceptionTable.toList = tableOf [(0, 9, 12, 13)] := vx_table (x := yL_by) B (hts _ List.mem_cons_self)
  have hl := lv_entry ([.ref (ad 0), .int a1, .ref aO]) (n := 4) (Nat.le_of_ble_eq_true rfl)
  rw [lg_entry_eq]
  generalize (lg_sl ([.ref (ad 0), .int a1, .ref aO]) ++ List.replicate (4 - (lg_sl ([.ref (ad 0), .int a1, .ref aO])).length) Slot.unset).toArray = ls at hl ⊢
  have hl : lv_has ls 4 [(0, .ref (ad 0)), (1, .int a1), (2, .ref aO)] := hl
  refine lv_aload_n hx hb dL_by_0 rfl (lv_at hl 2 rfl) ?_
  refine lv_iconst (v := 0) hx hb dL_by_1 (by decide) ?_
  refine lv_aload_n hx hb dL_by_2 rfl (lv_at hl 0 rfl) ?_
  refine lv_iload_n hx hb dL_by_3 rfl (lv_at hl 1 rfl) ?_
  refine cl_thr C (vx_runV (As := [.int a1]) (rest := [.int 0, .ref aO]) ⟨hx, hb, hml, hown, hts⟩ (t_X4_by l ad ck D tt hst hf _) (cwV 1 hts gL_by_X4_by rfl rfl rfl (by decide +kernel) ⟨Nat.le_of_ble_eq_true rfl, Nat.le_of_ble_eq_true rfl⟩) (cx_preV C.l (q0 := 0) (ci := 4) rfl rfl) rfl rfl hl.1 rfl (lv_room (Nat.le_of_ble_eq_true rfl)) dL_by_4 ⟨Nat.le_of_ble_eq_true rfl, Nat.le_of_ble_eq_true rfl⟩) (fun ce q9 H locs C hce hcv hcl => ?_)
  refine cx_catchA (name := xA) (E := xA) hown _ _ htab rfl (by decide) (hts (.classLink RL 13 xA) (by decide +kernel)) C.2.2.2.2.2.2.2.2.2.2.1 hce hcv hcl ?_
  refine W.eq (g2 := F0 m 12 ls [.ref q9]) rfl ?_
  refine lv_astore_n (lv' := [(3, .ref q9), (0, .ref (ad 0)), (1, .int a1), (2, .ref aO)]) hx hb dL_by_12 rfl hl (by decide) rfl (fun ls hl => ?_)
  refine lv_iconst (v := 1) hx hb dL_by_13 (by decide) ?_
  exact cx_iret C hx hb hr hlocks rfl dL_by_14
abbrev rmL_separator : Room := { frames := 7, cells := 1, slots := 6, locals := 114 }
set_option maxHeartbeats 4000000 in
set_option maxRecDepth 100000 in
theorem k_L_separator (l : Launch) (ad : Nat → Nat) (aO : Nat) (ck : Nat → ClassId) (D : va_G) (tt : Nat) (hst : l.stackTraces = false) {u : St} {o : Nat → Int64} {a1 : Int32} {r : Int32} {u1 : St} (hf : fX4_separator u a1 = some (.inr r, u1)) : MH l yL_separator wsL_separator rmL_separator (wApp (wA ad ck) (wO aO ck)) ck D tt [.ref (ad 0), .int a1, .ref aO] (u, o) 0 (u1, vp_updL o (0 : Int32).toNatClampNeg r.toInt64) := by
  intro sz
  refine va_MetW (cc := cL_separator) (maxL := 4) (ret := (some .int)) (hh := [(0, 9, 12, 13)]) (by decide) rfl ?_
  intro p e s m args below meth c s₁ B hml hv
  obtain ⟨rfl, hsz, C⟩ := cx_entry hv
  have hx := B.exec
  have hb := B.bytes
  have hr := B.returns
  have hts := atoms_spec (ws := wsL_separator) B.pre
  have hown : s.vm.findClass RL = some m.cls := findClass_of_methodNamed B.named
  have hlocks := B.notSynchronized
  have htab : c.exceptionTable.toList = tableOf [(0, 9, 12, 13)] := vx_table (x := yL_separator) B (hts _ List.mem_cons_self)
  have hl := lv_entry ([.ref (ad 0), .int a1, .ref aO]) (n := 4) (Nat.le_of_ble_eq_true rfl)
  rw [lg_entry_eq]
  generalize (lg_sl ([.ref (ad 0), .int a1, .ref aO]) ++ List.replicate (4 - (lg_sl ([.ref (ad 0), .int a1, .ref aO])).length) Slot.unset).toArray = ls at hl ⊢
  have hl : lv_has ls 4 [(0, .ref (ad 0)), (1, .int a1), (2, .ref aO)] := hl
  refine lv_aload_n hx hb dL_separator_0 rfl (lv_at hl 2 rfl) ?_
  refine lv_iconst (v := 0) hx hb dL_separator_1 (by decide) ?_
  refine lv_aload_n hx hb dL_separator_2 rfl (lv_at hl 0 rfl) ?_
  refine lv_iload_n hx hb dL_separator_3 rfl (lv_at hl 1 rfl) ?_
  refine cl_calli C (va_runV (As := [.int a1]) (rest := [.int 0, .ref aO]) ⟨hx, hb, hml, hown, hts⟩ (k_X4_separator l ad ck D tt hf _) (cwV 1 hts gL_separator_X4_separator rfl rfl rfl (by decide +kernel) ⟨Nat.le_of_ble_eq_true rfl, Nat.le_of_ble_eq_true rfl⟩) (cx_preV C.l (q0 := 0) (ci := 4) rfl rfl) rfl rfl hl.1 rfl (lv_room (Nat.le_of_ble_eq_true rfl)) dL_separator_4 ⟨Nat.zero_le _, Nat.zero_le _⟩) (fun H locs C => ?_)
  refine lv_i2l hx hb dL_separator_7 rfl ?_
  refine cx_last C hx hb 23 rfl (by decide) (u1 := (u1, vp_updL o (0 : Int32).toNatClampNeg r.toInt64)) rfl dL_separator_8 (fun w H locs ew C => ?_)
  subst ew
  refine lv_goto (tgt := 15) hx hb dL_separator_9 (by decide) ?_
  refine lv_iconst (v := 0) hx hb dL_separator_15 (by decide) ?_
  refine W.widen (k := 1) (n := 6) (Nat.zero_le _) (Nat.zero_le _) ?_
  exact cx_iret C hx hb hr hlocks rfl dL_separator_16
set_option maxHeartbeats 4000000 in
set_option maxRecDepth 100000 in
theorem t_L_separator_1 (l : Launch) (ad : Nat → Nat) (aO : Nat) (ck : Nat → ClassId) (D : va_G) (tt : Nat) (hst : l.stackTraces = false) {u : St} {o : Nat → Int64} {a1 : Int32} {u1 : St} (hf : fX4_separator u a1 = some (.inl 1, u1)) : MH l yL_separator wsL_separator rmL_separator (wApp (wA ad ck) (wO aO ck)) ck D tt [.ref (ad 0), .int a1, .ref aO] (u, o) 1 (u1, o) := by
  intro sz
  refine va_MetW (cc := cL_separator) (maxL := 4) (ret := (some .int)) (hh := [(0, 9, 12, 13)]) (by decide) rfl ?_
  intro p e s m args below meth c s₁ B hml hv
  obtain ⟨rfl, hsz, C⟩ := cx_entry hv
  have hx := B.exec
  have hb := B.bytes
  have hr := B.returns
  have hts := atoms_spec (ws := wsL_separator) B.pre
  have hown : s.vm.findClass RL = some m.cls := findClass_of_methodNamed B.named
  have hlocks := B.notSynchronized
  have htab : c.exceptionTable.toList = tableOf [(0, 9, 12, 13)] := vx_table (x := yL_separator) B (hts _ List.mem_cons_self)
  have hl := lv_entry ([.ref (ad 0), .int a1, .ref aO]) (n := 4) (Nat.le_of_ble_eq_true rfl)
  rw [lg_entry_eq]
  generalize (lg_sl ([.ref (ad 0), .int a1, .ref aO]) ++ List.replicate (4 - (lg_sl ([.ref (ad 0), .int a1, .ref aO])).length) Slot.unset).toArray = ls at hl ⊢
  have hl : lv_has ls 4 [(0, .ref (ad 0)), (1, .int a1), (2, .ref aO)] := hl
  refine lv_aload_n hx hb dL_separator_0 rfl (lv_at hl 2 rfl) ?_
  refine lv_iconst (v := 0) hx hb dL_separator_1 (by decide) ?_
  refine lv_aload_n hx hb dL_separator_2 rfl (lv_at hl 0 rfl) ?_
  refine lv_iload_n hx hb dL_separator_3 rfl (lv_at hl 1 rfl) ?_
  refine cl_thr C (vx_runV (As := [.int a1]) (rest := [.int 0, .ref aO]) ⟨hx, hb, hml, hown, hts⟩ (t_X4_separator l ad ck D tt hst hf _) (cwV 1 hts gL_separator_X4_separator rfl rfl rfl (by decide +kernel) ⟨Nat.le_of_ble_eq_true rfl, Nat.le_of_ble_eq_true rfl⟩) (cx_preV C.l (q0 := 0) (ci := 4) rfl rfl) rfl rfl hl.1 rfl (lv_room (Nat.le_of_ble_eq_true rfl)) dL_separator_4 ⟨Nat.le_of_ble_eq_true rfl, Nat.le_of_ble_eq_true rfl⟩) (fun ce q9 H locs C hce hcv hcl => ?_)
  refine cx_catchA (name := xA) (E := xA) hown _ _ htab rfl (by decide) (hts (.classLink RL 13 xA) (by decide +kernel)) C.2.2.2.2.2.2.2.2.2.2.1 hce hcv hcl ?_
  refine W.eq (g2 := F0 m 12 ls [.ref q9]) rfl ?_
  refine lv_astore_n (lv' := [(3, .ref q9), (0, .ref (ad 0)), (1, .int a1), (2, .ref aO)]) hx hb dL_separator_12 rfl hl (by decide) rfl (fun ls hl => ?_)
  refine lv_iconst (v := 1) hx hb dL_separator_13 (by decide) ?_
  exact cx_iret C hx hb hr hlocks rfl dL_separator_14
abbrev rmL_own : Room := { frames := 7, cells := 1, slots := 6, locals := 114 }
set_option maxHeartbeats 4000000 in
set_option maxRecDepth 100000 in
theorem k_L_own (l : Launch) (ad : Nat → Nat) (aO : Nat) (ck : Nat → ClassId) (D : va_G) (tt : Nat) (hst : l.stackTraces = false) {u : St} {o : Nat → Int64} {a1 : Int32} {r : Int32} {u1 : St} (hf : fX4_own u a1 = some (.inr r, u1)) : MH l yL_own wsL_own rmL_own (wApp (wA ad ck) (wO aO ck)) ck D tt [.ref (ad 0), .int a1, .ref aO] (u, o) 0 (u1, vp_updL o (0 : Int32).toNatClampNeg r.toInt64) := by
  intro sz
  refine va_MetW (cc := cL_own) (maxL := 4) (ret := (some .int)) (hh := [(0, 9, 12, 13)]) (by decide) rfl ?_
  intro p e s m args below meth c s₁ B hml hv
  obtain ⟨rfl, hsz, C⟩ := cx_entry hv
  have hx := B.exec
  have hb := B.bytes
  have hr := B.returns
  have hts := atoms_spec (ws := wsL_own) B.pre
  have hown : s.vm.findClass RL = some m.cls := findClass_of_methodNamed B.named
  have hlocks := B.notSynchronized
  have htab : c.exceptionTable.toList = tableOf [(0, 9, 12, 13)] := vx_table (x := yL_own) B (hts _ List.mem_cons_self)
  have hl := lv_entry ([.ref (ad 0), .int a1, .ref aO]) (n := 4) (Nat.le_of_ble_eq_true rfl)
  rw [lg_entry_eq]
  generalize (lg_sl ([.ref (ad 0), .int a1, .ref aO]) ++ List.replicate (4 - (lg_sl ([.ref (ad 0), .int a1, .ref aO])).length) Slot.unset).toArray = ls at hl ⊢
  have hl : lv_has ls 4 [(0, .ref (ad 0)), (1, .int a1), (2, .ref aO)] := hl
  refine lv_aload_n hx hb dL_own_0 rfl (lv_at hl 2 rfl) ?_
  refine lv_iconst (v := 0) hx hb dL_own_1 (by decide) ?_
  refine lv_aload_n hx hb dL_own_2 rfl (lv_at hl 0 rfl) ?_
  refine lv_iload_n hx hb dL_own_3 rfl (lv_at hl 1 rfl) ?_
  refine cl_calli C (va_runV (As := [.int a1]) (rest := [.int 0, .ref aO]) ⟨hx, hb, hml, hown, hts⟩ (k_X4_own l ad ck D tt hf _) (cwV 1 hts gL_own_X4_own rfl rfl rfl (by decide +kernel) ⟨Nat.le_of_ble_eq_true rfl, Nat.le_of_ble_eq_true rfl⟩) (cx_preV C.l (q0 := 0) (ci := 4) rfl rfl) rfl rfl hl.1 rfl (lv_room (Nat.le_of_ble_eq_true rfl)) dL_own_4 ⟨Nat.zero_le _, Nat.zero_le _⟩) (fun H locs C => ?_)
  refine lv_i2l hx hb dL_own_7 rfl ?_
  refine cx_last C hx hb 23 rfl (by decide) (u1 := (u1, vp_updL o (0 : Int32).toNatClampNeg r.toInt64)) rfl dL_own_8 (fun w H locs ew C => ?_)
  subst ew
  refine lv_goto (tgt := 15) hx hb dL_own_9 (by decide) ?_
  refine lv_iconst (v := 0) hx hb dL_own_15 (by decide) ?_
  refine W.widen (k := 1) (n := 6) (Nat.zero_le _) (Nat.zero_le _) ?_
  exact cx_iret C hx hb hr hlocks rfl dL_own_16
set_option maxHeartbeats 4000000 in
set_option maxRecDepth 100000 in
theorem t_L_own_1 (l : Launch) (ad : Nat → Nat) (aO : Nat) (ck : Nat → ClassId) (D : va_G) (tt : Nat) (hst : l.stackTraces = false) {u : St} {o : Nat → Int64} {a1 : Int32} {u1 : St} (hf : fX4_own u a1 = some (.inl 1, u1)) : MH l yL_own wsL_own rmL_own (wApp (wA ad ck) (wO aO ck)) ck D tt [.ref (ad 0), .int a1, .ref aO] (u, o) 1 (u1, o) := by
  intro sz
  refine va_MetW (cc := cL_own) (maxL := 4) (ret := (some .int)) (hh := [(0, 9, 12, 13)]) (by decide) rfl ?_
  intro p e s m args below meth c s₁ B hml hv
  obtain ⟨rfl, hsz, C⟩ := cx_entry hv
  have hx := B.exec
  have hb := B.bytes
  have hr := B.returns
  have hts := atoms_spec (ws := wsL_own) B.pre
  have hown : s.vm.findClass RL = some m.cls := findClass_of_methodNamed B.named
  have hlocks := B.notSynchronized
  have htab : c.exceptionTable.toList = tableOf [(0, 9, 12, 13)] := vx_table (x := yL_own) B (hts _ List.mem_cons_self)
  have hl := lv_entry ([.ref (ad 0), .int a1, .ref aO]) (n := 4) (Nat.le_of_ble_eq_true rfl)
  rw [lg_entry_eq]
  generalize (lg_sl ([.ref (ad 0), .int a1, .ref aO]) ++ List.replicate (4 - (lg_sl ([.ref (ad 0), .int a1, .ref aO])).length) Slot.unset).toArray = ls at hl ⊢
  have hl : lv_has ls 4 [(0, .ref (ad 0)), (1, .int a1), (2, .ref aO)] := hl
  refine lv_aload_n hx hb dL_own_0 rfl (lv_at hl 2 rfl) ?_
  refine lv_iconst (v := 0) hx hb dL_own_1 (by decide) ?_
  refine lv_aload_n hx hb dL_own_2 rfl (lv_at hl 0 rfl) ?_
  refine lv_iload_n hx hb dL_own_3 rfl (lv_at hl 1 rfl) ?_
  refine cl_thr C (vx_runV (As := [.int a1]) (rest := [.int 0, .ref aO]) ⟨hx, hb, hml, hown, hts⟩ (t_X4_own l ad ck D tt hst hf _) (cwV 1 hts gL_own_X4_own rfl rfl rfl (by decide +kernel) ⟨Nat.le_of_ble_eq_true rfl, Nat.le_of_ble_eq_true rfl⟩) (cx_preV C.l (q0 := 0) (ci := 4) rfl rfl) rfl rfl hl.1 rfl (lv_room (Nat.le_of_ble_eq_true rfl)) dL_own_4 ⟨Nat.le_of_ble_eq_true rfl, Nat.le_of_ble_eq_true rfl⟩) (fun ce q9 H locs C hce hcv hcl => ?_)
  refine cx_catchA (name := xA) (E := xA) hown _ _ htab rfl (by decide) (hts (.classLink RL 13 xA) (by decide +kernel)) C.2.2.2.2.2.2.2.2.2.2.1 hce hcv hcl ?_
  refine W.eq (g2 := F0 m 12 ls [.ref q9]) rfl ?_
  refine lv_astore_n (lv' := [(3, .ref q9), (0, .ref (ad 0)), (1, .int a1), (2, .ref aO)]) hx hb dL_own_12 rfl hl (by decide) rfl (fun ls hl => ?_)
  refine lv_iconst (v := 1) hx hb dL_own_13 (by decide) ?_
  exact cx_iret C hx hb hr hlocks rfl dL_own_14
abbrev rmL_run : Room := { frames := 7, cells := 1, slots := 6, locals := 169 }
set_option maxHeartbeats 4000000 in
set_option maxRecDepth 100000 in
theorem k_L_run (l : Launch) (ad : Nat → Nat) (aO : Nat) (ck : Nat → ClassId) (D : va_G) (tt : Nat) (hst : l.stackTraces = false) {u : St} {o : Nat → Int64} {a1 : Int32} {a2 : Int32} {r : Int32} {u1 : St} (hf : fX4_run u a1 a2 = some (.inr r, u1)) : MH l yL_run wsL_run rmL_run (wApp (wA ad ck) (wO aO ck)) ck D tt [.ref (ad 0), .int a1, .int a2, .ref aO] (u, o) 0 (u1, vp_updL o (0 : Int32).toNatClampNeg r.toInt64) := by
  intro sz
  refine va_MetW (cc := cL_run) (maxL := 5) (ret := (some .int)) (hh := [(0, 10, 13, 13)]) (by decide) rfl ?_
  intro p e s m args below meth c s₁ B hml hv
  obtain ⟨rfl, hsz, C⟩ := cx_entry hv
  have hx := B.exec
  have hb := B.bytes
  have hr := B.returns
  have hts := atoms_spec (ws := wsL_run) B.pre
  have hown : s.vm.findClass RL = some m.cls := findClass_of_methodNamed B.named
  have hlocks := B.notSynchronized
  have htab : c.exceptionTable.toList = tableOf [(0, 10, 13, 13)] := vx_table (x := yL_run) B (hts _ List.mem_cons_self)
  have hl := lv_entry ([.ref (ad 0), .int a1, .int a2, .ref aO]) (n := 5) (Nat.le_of_ble_eq_true rfl)
  rw [lg_entry_eq]
  generalize (lg_sl ([.ref (ad 0), .int a1, .int a2, .ref aO]) ++ List.replicate (5 - (lg_sl ([.ref (ad 0), .int a1, .int a2, .ref aO])).length) Slot.unset).toArray = ls at hl ⊢
  have hl : lv_has ls 5 [(0, .ref (ad 0)), (1, .int a1), (2, .int a2), (3, .ref aO)] := hl
  refine lv_aload_n hx hb dL_run_0 rfl (lv_at hl 3 rfl) ?_
  refine lv_iconst (v := 0) hx hb dL_run_1 (by decide) ?_
  refine lv_aload_n hx hb dL_run_2 rfl (lv_at hl 0 rfl) ?_
  refine lv_iload_n hx hb dL_run_3 rfl (lv_at hl 1 rfl) ?_
  refine lv_iload_n hx hb dL_run_4 rfl (lv_at hl 2 rfl) ?_
  refine cl_calli C (va_runV (As := [.int a1, .int a2]) (rest := [.int 0, .ref aO]) ⟨hx, hb, hml, hown, hts⟩ (k_X4_run l ad ck D tt hf _) (cwV 2 hts gL_run_X4_run rfl rfl rfl (by decide +kernel) ⟨Nat.le_of_ble_eq_true rfl, Nat.le_of_ble_eq_true rfl⟩) (cx_preV C.l (q0 := 0) (ci := 4) rfl rfl) rfl rfl hl.1 rfl (lv_room (Nat.le_of_ble_eq_true rfl)) dL_run_5 ⟨Nat.zero_le _, Nat.zero_le _⟩) (fun H locs C => ?_)
  refine lv_i2l hx hb dL_run_8 rfl ?_
  refine cx_last C hx hb 23 rfl (by decide) (u1 := (u1, vp_updL o (0 : Int32).toNatClampNeg r.toInt64)) rfl dL_run_9 (fun w H locs ew C => ?_)
  subst ew
  refine lv_goto (tgt := 17) hx hb dL_run_10 (by decide) ?_
  refine lv_iconst (v := 0) hx hb dL_run_17 (by decide) ?_
  refine W.widen (k := 1) (n := 6) (Nat.zero_le _) (Nat.zero_le _) ?_
  exact cx_iret C hx hb hr hlocks rfl dL_run_18
set_option maxHeartbeats 4000000 in
set_option maxRecDepth 100000 in
theorem t_L_run_1 (l : Launch) (ad : Nat → Nat) (aO : Nat) (ck : Nat → ClassId) (D : va_G) (tt : Nat) (hst : l.stackTraces = false) {u : St} {o : Nat → Int64} {a1 : Int32} {a2 : Int32} {u1 : St} (hf : fX4_run u a1 a2 = some (.inl 1, u1)) : MH l yL_run wsL_run rmL_run (wApp (wA ad ck) (wO aO ck)) ck D tt [.ref (ad 0), .int a1, .int a2, .ref aO] (u, o) 1 (u1, o) := by
  intro sz
  refine va_MetW (cc := cL_run) (maxL := 5) (ret := (some .int)) (hh := [(0, 10, 13, 13)]) (by decide) rfl ?_
  intro p e s m args below meth c s₁ B hml hv
  obtain ⟨rfl, hsz, C⟩ := cx_entry hv
  have hx := B.exec
  have hb := B.bytes
  have hr := B.returns
  have hts := atoms_spec (ws := wsL_run) B.pre
  have hown : s.vm.findClass RL = some m.cls := findClass_of_methodNamed B.named
  have hlocks := B.notSynchronized
  have htab : c.exceptionTable.toList = tableOf [(0, 10, 13, 13)] := vx_table (x := yL_run) B (hts _ List.mem_cons_self)
  have hl := lv_entry ([.ref (ad 0), .int a1, .int a2, .ref aO]) (n := 5) (Nat.le_of_ble_eq_true rfl)
  rw [lg_entry_eq]
  generalize (lg_sl ([.ref (ad 0), .int a1, .int a2, .ref aO]) ++ List.replicate (5 - (lg_sl ([.ref (ad 0), .int a1, .int a2, .ref aO])).length) Slot.unset).toArray = ls at hl ⊢
  have hl : lv_has ls 5 [(0, .ref (ad 0)), (1, .int a1), (2, .int a2), (3, .ref aO)] := hl
  refine lv_aload_n hx hb dL_run_0 rfl (lv_at hl 3 rfl) ?_
  refine lv_iconst (v := 0) hx hb dL_run_1 (by decide) ?_
  refine lv_aload_n hx hb dL_run_2 rfl (lv_at hl 0 rfl) ?_
  refine lv_iload_n hx hb dL_run_3 rfl (lv_at hl 1 rfl) ?_
  refine lv_iload_n hx hb dL_run_4 rfl (lv_at hl 2 rfl) ?_
  refine cl_thr C (vx_runV (As := [.int a1, .int a2]) (rest := [.int 0, .ref aO]) ⟨hx, hb, hml, hown, hts⟩ (t_X4_run l ad ck D tt hst hf _) (cwV 2 hts gL_run_X4_run rfl rfl rfl (by decide +kernel) ⟨Nat.le_of_ble_eq_true rfl, Nat.le_of_ble_eq_true rfl⟩) (cx_preV C.l (q0 := 0) (ci := 4) rfl rfl) rfl rfl hl.1 rfl (lv_room (Nat.le_of_ble_eq_true rfl)) dL_run_5 ⟨Nat.le_of_ble_eq_true rfl, Nat.le_of_ble_eq_true rfl⟩) (fun ce q9 H locs C hce hcv hcl => ?_)
  refine cx_catchA (name := xA) (E := xA) hown _ _ htab rfl (by decide) (hts (.classLink RL 13 xA) (by decide +kernel)) C.2.2.2.2.2.2.2.2.2.2.1 hce hcv hcl ?_
  refine W.eq (g2 := F0 m 13 ls [.ref q9]) rfl ?_
  refine lv_astore (lv' := [(4, .ref q9), (0, .ref (ad 0)), (1, .int a1), (2, .int a2), (3, .ref aO)]) hx hb dL_run_13 hl (by decide) rfl (fun ls hl => ?_)
  refine lv_iconst (v := 1) hx hb dL_run_15 (by decide) ?_
  exact cx_iret C hx hb hr hlocks rfl dL_run_16
abbrev rmL_key : Room := { frames := 8, cells := 1, slots := 6, locals := 134 }
set_option maxHeartbeats 4000000 in
set_option maxRecDepth 100000 in
theorem k_L_key (l : Launch) (ad : Nat → Nat) (aO : Nat) (ck : Nat → ClassId) (D : va_G) (tt : Nat) (hst : l.stackTraces = false) {u : St} {o : Nat → Int64} {a1 : Int32} {r : Int32} {u1 : St} (hf : fX4_key u a1 = some (.inr r, u1)) : MH l yL_key wsL_key rmL_key (wApp (wA ad ck) (wO aO ck)) ck D tt [.ref (ad 0), .int a1, .ref aO] (u, o) 0 (u1, vp_updL o (0 : Int32).toNatClampNeg r.toInt64) := by
  intro sz
  refine va_MetW (cc := cL_key) (maxL := 4) (ret := (some .int)) (hh := [(0, 9, 12, 42)]) (by decide) rfl ?_
  intro p e s m args below meth c s₁ B hml hv
  obtain ⟨rfl, hsz, C⟩ := cx_entry hv
  have hx := B.exec
  have hb := B.bytes
  have hr := B.returns
  have hts := atoms_spec (ws := wsL_key) B.pre
  have hown : s.vm.findClass RL = some m.cls := findClass_of_methodNamed B.named
  have hlocks := B.notSynchronized
  have htab : c.exceptionTable.toList = tableOf [(0, 9, 12, 42)] := vx_table (x := yL_key) B (hts _ List.mem_cons_self)
  have hl := lv_entry ([.ref (ad 0), .int a1, .ref aO]) (n := 4) (Nat.le_of_ble_eq_true rfl)
  rw [lg_entry_eq]
  generalize (lg_sl ([.ref (ad 0), .int a1, .ref aO]) ++ List.replicate (4 - (lg_sl ([.ref (ad 0), .int a1, .ref aO])).length) Slot.unset).toArray = ls at hl ⊢
  have hl : lv_has ls 4 [(0, .ref (ad 0)), (1, .int a1), (2, .ref aO)] := hl
  refine lv_aload_n hx hb dL_key_0 rfl (lv_at hl 2 rfl) ?_
  refine lv_iconst (v := 0) hx hb dL_key_1 (by decide) ?_
  refine lv_aload_n hx hb dL_key_2 rfl (lv_at hl 0 rfl) ?_
  refine lv_iload_n hx hb dL_key_3 rfl (lv_at hl 1 rfl) ?_
  refine cl_calli C (va_runV (As := [.int a1]) (rest := [.int 0, .ref aO]) ⟨hx, hb, hml, hown, hts⟩ (k_X4_key l ad ck D tt hf _) (cwV 1 hts gL_key_X4_key rfl rfl rfl (by decide +kernel) ⟨Nat.le_of_ble_eq_true rfl, Nat.le_of_ble_eq_true rfl⟩) (cx_preV C.l (q0 := 0) (ci := 4) rfl rfl) rfl rfl hl.1 rfl (lv_room (Nat.le_of_ble_eq_true rfl)) dL_key_4 ⟨Nat.zero_le _, Nat.zero_le _⟩) (fun H locs C => ?_)
  refine lv_i2l hx hb dL_key_7 rfl ?_
  refine cx_last C hx hb 23 rfl (by decide) (u1 := (u1, vp_updL o (0 : Int32).toNatClampNeg r.toInt64)) rfl dL_key_8 (fun w H locs ew C => ?_)
  subst ew
  refine lv_goto (tgt := 15) hx hb dL_key_9 (by decide) ?_
  refine lv_iconst (v := 0) hx hb dL_key_15 (by decide) ?_
  refine W.widen (k := 1) (n := 6) (Nat.zero_le _) (Nat.zero_le _) ?_
  exact cx_iret C hx hb hr hlocks rfl dL_key_16
set_option maxHeartbeats 4000000 in
set_option maxRecDepth 100000 in
theorem t_L_key_3 (l : Launch) (ad : Nat → Nat) (aO : Nat) (ck : Nat → ClassId) (D : va_G) (tt : Nat) (hst : l.stackTraces = false) {u : St} {o : Nat → Int64} {a1 : Int32} {u1 : St} (hf : fX4_key u a1 = some (.inl 3, u1)) : MH l yL_key wsL_key rmL_key (wApp (wA ad ck) (wO aO ck)) ck D tt [.ref (ad 0), .int a1, .ref aO] (u, o) 1 (u1, o) := by
  intro sz
  refine va_MetW (cc := cL_key) (maxL := 4) (ret := (some .int)) (hh := [(0, 9, 12, 42)]) (by decide) rfl ?_
  intro p e s m args below meth c s₁ B hml hv
  obtain ⟨rfl, hsz, C⟩ := cx_entry hv
  have hx := B.exec
  have hb := B.bytes
  have hr := B.returns
  have hts := atoms_spec (ws := wsL_key) B.pre
  have hown : s.vm.findClass RL = some m.cls := findClass_of_methodNamed B.named
  have hlocks := B.notSynchronized
  have htab : c.exceptionTable.toList = tableOf [(0, 9, 12, 42)] := vx_table (x := yL_key) B (hts _ List.mem_cons_self)
  have hl := lv_entry ([.ref (ad 0), .int a1, .ref aO]) (n := 4) (Nat.le_of_ble_eq_true rfl)
  rw [lg_entry_eq]
  generalize (lg_sl ([.ref (ad 0), .int a1, .ref aO]) ++ List.replicate (4 - (lg_sl ([.ref (ad 0), .int a1, .ref aO])).length) Slot.unset).toArray = ls at hl ⊢
  have hl : lv_has ls 4 [(0, .ref (ad 0)), (1, .int a1), (2, .ref aO)] := hl
  refine lv_aload_n hx hb dL_key_0 rfl (lv_at hl 2 rfl) ?_
  refine lv_iconst (v := 0) hx hb dL_key_1 (by decide) ?_
  refine lv_aload_n hx hb dL_key_2 rfl (lv_at hl 0 rfl) ?_
  refine lv_iload_n hx hb dL_key_3 rfl (lv_at hl 1 rfl) ?_
  refine cl_thr C (vx_runV (As := [.int a1]) (rest := [.int 0, .ref aO]) ⟨hx, hb, hml, hown, hts⟩ (t_X4_key l ad ck D tt hst hf _) (cwV 1 hts gL_key_X4_key rfl rfl rfl (by decide +kernel) ⟨Nat.le_of_ble_eq_true rfl, Nat.le_of_ble_eq_true rfl⟩) (cx_preV C.l (q0 := 0) (ci := 4) rfl rfl) rfl rfl hl.1 rfl (lv_room (Nat.le_of_ble_eq_true rfl)) dL_key_4 ⟨Nat.le_of_ble_eq_true rfl, Nat.le_of_ble_eq_true rfl⟩) (fun ce q9 H locs C hce hcv hcl => ?_)
  refine cx_catchA (name := xI) (E := xI) hown _ _ htab rfl (by decide) (hts (.classLink RL 42 xI) (by decide +kernel)) C.2.2.2.2.2.2.2.2.2.2.2.2.1 hce hcv hcl ?_
  refine W.eq (g2 := F0 m 12 ls [.ref q9]) rfl ?_
  refine lv_astore_n (lv' := [(3, .ref q9), (0, .ref (ad 0)), (1, .int a1), (2, .ref aO)]) hx hb dL_key_12 rfl hl (by decide) rfl (fun ls hl => ?_)
  refine lv_iconst (v := 1) hx hb dL_key_13 (by decide) ?_
  exact cx_iret C hx hb hr hlocks rfl dL_key_14
abbrev rmL_rows : Room := { frames := 8, cells := 1, slots := 6, locals := 134 }
set_option maxHeartbeats 4000000 in
set_option maxRecDepth 100000 in
theorem k_L_rows (l : Launch) (ad : Nat → Nat) (aO : Nat) (ck : Nat → ClassId) (D : va_G) (tt : Nat) (hst : l.stackTraces = false) {u : St} {o : Nat → Int64} {a1 : Int32} {r : Int32} {u1 : St} (hf : fX4_rows u a1 = some (.inr r, u1)) : MH l yL_rows wsL_rows rmL_rows (wApp (wA ad ck) (wO aO ck)) ck D tt [.ref (ad 0), .int a1, .ref aO] (u, o) 0 (u1, vp_updL o (0 : Int32).toNatClampNeg r.toInt64) := by
  intro sz
  refine va_MetW (cc := cL_rows) (maxL := 4) (ret := (some .int)) (hh := [(0, 9, 12, 42)]) (by decide) rfl ?_
  intro p e s m args below meth c s₁ B hml hv
  obtain ⟨rfl, hsz, C⟩ := cx_entry hv
  have hx := B.exec
  have hb := B.bytes
  have hr := B.returns
  have hts := atoms_spec (ws := wsL_rows) B.pre
  have hown : s.vm.findClass RL = some m.cls := findClass_of_methodNamed B.named
  have hlocks := B.notSynchronized
  have htab : c.exceptionTable.toList = tableOf [(0, 9, 12, 42)] := vx_table (x := yL_rows) B (hts _ List.mem_cons_self)
  have hl := lv_entry ([.ref (ad 0), .int a1, .ref aO]) (n := 4) (Nat.le_of_ble_eq_true rfl)
  rw [lg_entry_eq]
  generalize (lg_sl ([.ref (ad 0), .int a1, .ref aO]) ++ List.replicate (4 - (lg_sl ([.ref (ad 0), .int a1, .ref aO])).length) Slot.unset).toArray = ls at hl ⊢
  have hl : lv_has ls 4 [(0, .ref (ad 0)), (1, .int a1), (2, .ref aO)] := hl
  refine lv_aload_n hx hb dL_rows_0 rfl (lv_at hl 2 rfl) ?_
  refine lv_iconst (v := 0) hx hb dL_rows_1 (by decide) ?_
  refine lv_aload_n hx hb dL_rows_2 rfl (lv_at hl 0 rfl) ?_
  refine lv_iload_n hx hb dL_rows_3 rfl (lv_at hl 1 rfl) ?_
  refine cl_calli C (va_runV (As := [.int a1]) (rest := [.int 0, .ref aO]) ⟨hx, hb, hml, hown, hts⟩ (k_X4_rows l ad ck D tt hf _) (cwV 1 hts gL_rows_X4_rows rfl rfl rfl (by decide +kernel) ⟨Nat.le_of_ble_eq_true rfl, Nat.le_of_ble_eq_true rfl⟩) (cx_preV C.l (q0 := 0) (ci := 4) rfl rfl) rfl rfl hl.1 rfl (lv_room (Nat.le_of_ble_eq_true rfl)) dL_rows_4 ⟨Nat.zero_le _, Nat.zero_le _⟩) (fun H locs C => ?_)
  refine lv_i2l hx hb dL_rows_7 rfl ?_
  refine cx_last C hx hb 23 rfl (by decide) (u1 := (u1, vp_updL o (0 : Int32).toNatClampNeg r.toInt64)) rfl dL_rows_8 (fun w H locs ew C => ?_)
  subst ew
  refine lv_goto (tgt := 15) hx hb dL_rows_9 (by decide) ?_
  refine lv_iconst (v := 0) hx hb dL_rows_15 (by decide) ?_
  refine W.widen (k := 1) (n := 6) (Nat.zero_le _) (Nat.zero_le _) ?_
  exact cx_iret C hx hb hr hlocks rfl dL_rows_16
set_option maxHeartbeats 4000000 in
set_option maxRecDepth 100000 in
theorem t_L_rows_3 (l : Launch) (ad : Nat → Nat) (aO : Nat) (ck : Nat → ClassId) (D : va_G) (tt : Nat) (hst : l.stackTraces = false) {u : St} {o : Nat → Int64} {a1 : Int32} {u1 : St} (hf : fX4_rows u a1 = some (.inl 3, u1)) : MH l yL_rows wsL_rows rmL_rows (wApp (wA ad ck) (wO aO ck)) ck D tt [.ref (ad 0), .int a1, .ref aO] (u, o) 1 (u1, o) := by
  intro sz
  refine va_MetW (cc := cL_rows) (maxL := 4) (ret := (some .int)) (hh := [(0, 9, 12, 42)]) (by decide) rfl ?_
  intro p e s m args below meth c s₁ B hml hv
  obtain ⟨rfl, hsz, C⟩ := cx_entry hv
  have hx := B.exec
  have hb := B.bytes
  have hr := B.returns
  have hts := atoms_spec (ws := wsL_rows) B.pre
  have hown : s.vm.findClass RL = some m.cls := findClass_of_methodNamed B.named
  have hlocks := B.notSynchronized
  have htab : c.exceptionTable.toList = tableOf [(0, 9, 12, 42)] := vx_table (x := yL_rows) B (hts _ List.mem_cons_self)
  have hl := lv_entry ([.ref (ad 0), .int a1, .ref aO]) (n := 4) (Nat.le_of_ble_eq_true rfl)
  rw [lg_entry_eq]
  generalize (lg_sl ([.ref (ad 0), .int a1, .ref aO]) ++ List.replicate (4 - (lg_sl ([.ref (ad 0), .int a1, .ref aO])).length) Slot.unset).toArray = ls at hl ⊢
  have hl : lv_has ls 4 [(0, .ref (ad 0)), (1, .int a1), (2, .ref aO)] := hl
  refine lv_aload_n hx hb dL_rows_0 rfl (lv_at hl 2 rfl) ?_
  refine lv_iconst (v := 0) hx hb dL_rows_1 (by decide) ?_
  refine lv_aload_n hx hb dL_rows_2 rfl (lv_at hl 0 rfl) ?_
  refine lv_iload_n hx hb dL_rows_3 rfl (lv_at hl 1 rfl) ?_
  refine cl_thr C (vx_runV (As := [.int a1]) (rest := [.int 0, .ref aO]) ⟨hx, hb, hml, hown, hts⟩ (t_X4_rows l ad ck D tt hst hf _) (cwV 1 hts gL_rows_X4_rows rfl rfl rfl (by decide +kernel) ⟨Nat.le_of_ble_eq_true rfl, Nat.le_of_ble_eq_true rfl⟩) (cx_preV C.l (q0 := 0) (ci := 4) rfl rfl) rfl rfl hl.1 rfl (lv_room (Nat.le_of_ble_eq_true rfl)) dL_rows_4 ⟨Nat.le_of_ble_eq_true rfl, Nat.le_of_ble_eq_true rfl⟩) (fun ce q9 H locs C hce hcv hcl => ?_)
  refine cx_catchA (name := xI) (E := xI) hown _ _ htab rfl (by decide) (hts (.classLink RL 42 xI) (by decide +kernel)) C.2.2.2.2.2.2.2.2.2.2.2.2.1 hce hcv hcl ?_
  refine W.eq (g2 := F0 m 12 ls [.ref q9]) rfl ?_
  refine lv_astore_n (lv' := [(3, .ref q9), (0, .ref (ad 0)), (1, .int a1), (2, .ref aO)]) hx hb dL_rows_12 rfl hl (by decide) rfl (fun ls hl => ?_)
  refine lv_iconst (v := 1) hx hb dL_rows_13 (by decide) ?_
  exact cx_iret C hx hb hr hlocks rfl dL_rows_14
abbrev rmL_sort : Room := { frames := 8, cells := 1, slots := 6, locals := 134 }
set_option maxHeartbeats 4000000 in
set_option maxRecDepth 100000 in
theorem k_L_sort (l : Launch) (ad : Nat → Nat) (aO : Nat) (ck : Nat → ClassId) (D : va_G) (tt : Nat) (hst : l.stackTraces = false) {u : St} {o : Nat → Int64} {a1 : Int32} {r : Int32} {u1 : St} (hf : fX4_sort u a1 = some (.inr r, u1)) : MH l yL_sort wsL_sort rmL_sort (wApp (wA ad ck) (wO aO ck)) ck D tt [.ref (ad 0), .int a1, .ref aO] (u, o) 0 (u1, vp_updL o (0 : Int32).toNatClampNeg r.toInt64) := by
  intro sz
  refine va_MetW (cc := cL_sort) (maxL := 4) (ret := (some .int)) (hh := [(0, 9, 12, 42)]) (by decide) rfl ?_
  intro p e s m args below meth c s₁ B hml hv
  obtain ⟨rfl, hsz, C⟩ := cx_entry hv
  have hx := B.exec
  have hb := B.bytes
  have hr := B.returns
  have hts := atoms_spec (ws := wsL_sort) B.pre
  have hown : s.vm.findClass RL = some m.cls := findClass_of_methodNamed B.named
  have hlocks := B.notSynchronized
  have htab : c.exceptionTable.toList = tableOf [(0, 9, 12, 42)] := vx_table (x := yL_sort) B (hts _ List.mem_cons_self)
  have hl := lv_entry ([.ref (ad 0), .int a1, .ref aO]) (n := 4) (Nat.le_of_ble_eq_true rfl)
  rw [lg_entry_eq]
  generalize (lg_sl ([.ref (ad 0), .int a1, .ref aO]) ++ List.replicate (4 - (lg_sl ([.ref (ad 0), .int a1, .ref aO])).length) Slot.unset).toArray = ls at hl ⊢
  have hl : lv_has ls 4 [(0, .ref (ad 0)), (1, .int a1), (2, .ref aO)] := hl
  refine lv_aload_n hx hb dL_sort_0 rfl (lv_at hl 2 rfl) ?_
  refine lv_iconst (v := 0) hx hb dL_sort_1 (by decide) ?_
  refine lv_aload_n hx hb dL_sort_2 rfl (lv_at hl 0 rfl) ?_
  refine lv_iload_n hx hb dL_sort_3 rfl (lv_at hl 1 rfl) ?_
  refine cl_calli C (va_runV (As := [.int a1]) (rest := [.int 0, .ref aO]) ⟨hx, hb, hml, hown, hts⟩ (k_X4_sort l ad ck D tt hf _) (cwV 1 hts gL_sort_X4_sort rfl rfl rfl (by decide +kernel) ⟨Nat.le_of_ble_eq_true rfl, Nat.le_of_ble_eq_true rfl⟩) (cx_preV C.l (q0 := 0) (ci := 4) rfl rfl) rfl rfl hl.1 rfl (lv_room (Nat.le_of_ble_eq_true rfl)) dL_sort_4 ⟨Nat.zero_le _, Nat.zero_le _⟩) (fun H locs C => ?_)
  refine lv_i2l hx hb dL_sort_7 rfl ?_
  refine cx_last C hx hb 23 rfl (by decide) (u1 := (u1, vp_updL o (0 : Int32).toNatClampNeg r.toInt64)) rfl dL_sort_8 (fun w H locs ew C => ?_)
  subst ew
  refine lv_goto (tgt := 15) hx hb dL_sort_9 (by decide) ?_
  refine lv_iconst (v := 0) hx hb dL_sort_15 (by decide) ?_
  refine W.widen (k := 1) (n := 6) (Nat.zero_le _) (Nat.zero_le _) ?_
  exact cx_iret C hx hb hr hlocks rfl dL_sort_16
set_option maxHeartbeats 4000000 in
set_option maxRecDepth 100000 in
theorem t_L_sort_3 (l : Launch) (ad : Nat → Nat) (aO : Nat) (ck : Nat → ClassId) (D : va_G) (tt : Nat) (hst : l.stackTraces = false) {u : St} {o : Nat → Int64} {a1 : Int32} {u1 : St} (hf : fX4_sort u a1 = some (.inl 3, u1)) : MH l yL_sort wsL_sort rmL_sort (wApp (wA ad ck) (wO aO ck)) ck D tt [.ref (ad 0), .int a1, .ref aO] (u, o) 1 (u1, o) := by
  intro sz
  refine va_MetW (cc := cL_sort) (maxL := 4) (ret := (some .int)) (hh := [(0, 9, 12, 42)]) (by decide) rfl ?_
  intro p e s m args below meth c s₁ B hml hv
  obtain ⟨rfl, hsz, C⟩ := cx_entry hv
  have hx := B.exec
  have hb := B.bytes
  have hr := B.returns
  have hts := atoms_spec (ws := wsL_sort) B.pre
  have hown : s.vm.findClass RL = some m.cls := findClass_of_methodNamed B.named
  have hlocks := B.notSynchronized
  have htab : c.exceptionTable.toList = tableOf [(0, 9, 12, 42)] := vx_table (x := yL_sort) B (hts _ List.mem_cons_self)
  have hl := lv_entry ([.ref (ad 0), .int a1, .ref aO]) (n := 4) (Nat.le_of_ble_eq_true rfl)
  rw [lg_entry_eq]
  generalize (lg_sl ([.ref (ad 0), .int a1, .ref aO]) ++ List.replicate (4 - (lg_sl ([.ref (ad 0), .int a1, .ref aO])).length) Slot.unset).toArray = ls at hl ⊢
  have hl : lv_has ls 4 [(0, .ref (ad 0)), (1, .int a1), (2, .ref aO)] := hl
  refine lv_aload_n hx hb dL_sort_0 rfl (lv_at hl 2 rfl) ?_
  refine lv_iconst (v := 0) hx hb dL_sort_1 (by decide) ?_
  refine lv_aload_n hx hb dL_sort_2 rfl (lv_at hl 0 rfl) ?_
  refine lv_iload_n hx hb dL_sort_3 rfl (lv_at hl 1 rfl) ?_
  refine cl_thr C (vx_runV (As := [.int a1]) (rest := [.int 0, .ref aO]) ⟨hx, hb, hml, hown, hts⟩ (t_X4_sort l ad ck D tt hst hf _) (cwV 1 hts gL_sort_X4_sort rfl rfl rfl (by decide +kernel) ⟨Nat.le_of_ble_eq_true rfl, Nat.le_of_ble_eq_true rfl⟩) (cx_preV C.l (q0 := 0) (ci := 4) rfl rfl) rfl rfl hl.1 rfl (lv_room (Nat.le_of_ble_eq_true rfl)) dL_sort_4 ⟨Nat.le_of_ble_eq_true rfl, Nat.le_of_ble_eq_true rfl⟩) (fun ce q9 H locs C hce hcv hcl => ?_)
  refine cx_catchA (name := xI) (E := xI) hown _ _ htab rfl (by decide) (hts (.classLink RL 42 xI) (by decide +kernel)) C.2.2.2.2.2.2.2.2.2.2.2.2.1 hce hcv hcl ?_
  refine W.eq (g2 := F0 m 12 ls [.ref q9]) rfl ?_
  refine lv_astore_n (lv' := [(3, .ref q9), (0, .ref (ad 0)), (1, .int a1), (2, .ref aO)]) hx hb dL_sort_12 rfl hl (by decide) rfl (fun ls hl => ?_)
  refine lv_iconst (v := 1) hx hb dL_sort_13 (by decide) ?_
  exact cx_iret C hx hb hr hlocks rfl dL_sort_14
abbrev rmL_why : Room := { frames := 8, cells := 1, slots := 6, locals := 134 }
set_option maxHeartbeats 4000000 in
set_option maxRecDepth 100000 in
theorem k_L_why (l : Launch) (ad : Nat → Nat) (aO : Nat) (ck : Nat → ClassId) (D : va_G) (tt : Nat) (hst : l.stackTraces = false) {u : St} {o : Nat → Int64} {a1 : Int32} {r : Int32} {u1 : St} (hf : fX4_why u a1 = some (.inr r, u1)) : MH l yL_why wsL_why rmL_why (wApp (wA ad ck) (wO aO ck)) ck D tt [.ref (ad 0), .int a1, .ref aO] (u, o) 0 (u1, vp_updL o (0 : Int32).toNatClampNeg r.toInt64) := by
  intro sz
  refine va_MetW (cc := cL_why) (maxL := 4) (ret := (some .int)) (hh := [(0, 9, 12, 42)]) (by decide) rfl ?_
  intro p e s m args below meth c s₁ B hml hv
  obtain ⟨rfl, hsz, C⟩ := cx_entry hv
  have hx := B.exec
  have hb := B.bytes
  have hr := B.returns
  have hts := atoms_spec (ws := wsL_why) B.pre
  have hown : s.vm.findClass RL = some m.cls := findClass_of_methodNamed B.named
  have hlocks := B.notSynchronized
  have htab : c.exceptionTable.toList = tableOf [(0, 9, 12, 42)] := vx_table (x := yL_why) B (hts _ List.mem_cons_self)
  have hl := lv_entry ([.ref (ad 0), .int a1, .ref aO]) (n := 4) (Nat.le_of_ble_eq_true rfl)
  rw [lg_entry_eq]
  generalize (lg_sl ([.ref (ad 0), .int a1, .ref aO]) ++ List.replicate (4 - (lg_sl ([.ref (ad 0), .int a1, .ref aO])).length) Slot.unset).toArray = ls at hl ⊢
  have hl : lv_has ls 4 [(0, .ref (ad 0)), (1, .int a1), (2, .ref aO)] := hl
  refine lv_aload_n hx hb dL_why_0 rfl (lv_at hl 2 rfl) ?_
  refine lv_iconst (v := 0) hx hb dL_why_1 (by decide) ?_
  refine lv_aload_n hx hb dL_why_2 rfl (lv_at hl 0 rfl) ?_
  refine lv_iload_n hx hb dL_why_3 rfl (lv_at hl 1 rfl) ?_
  refine cl_calli C (va_runV (As := [.int a1]) (rest := [.int 0, .ref aO]) ⟨hx, hb, hml, hown, hts⟩ (k_X4_why l ad ck D tt hf _) (cwV 1 hts gL_why_X4_why rfl rfl rfl (by decide +kernel) ⟨Nat.le_of_ble_eq_true rfl, Nat.le_of_ble_eq_true rfl⟩) (cx_preV C.l (q0 := 0) (ci := 4) rfl rfl) rfl rfl hl.1 rfl (lv_room (Nat.le_of_ble_eq_true rfl)) dL_why_4 ⟨Nat.zero_le _, Nat.zero_le _⟩) (fun H locs C => ?_)
  refine lv_i2l hx hb dL_why_7 rfl ?_
  refine cx_last C hx hb 23 rfl (by decide) (u1 := (u1, vp_updL o (0 : Int32).toNatClampNeg r.toInt64)) rfl dL_why_8 (fun w H locs ew C => ?_)
  subst ew
  refine lv_goto (tgt := 15) hx hb dL_why_9 (by decide) ?_
  refine lv_iconst (v := 0) hx hb dL_why_15 (by decide) ?_
  refine W.widen (k := 1) (n := 6) (Nat.zero_le _) (Nat.zero_le _) ?_
  exact cx_iret C hx hb hr hlocks rfl dL_why_16
set_option maxHeartbeats 4000000 in
set_option maxRecDepth 100000 in
theorem t_L_why_3 (l : Launch) (ad : Nat → Nat) (aO : Nat) (ck : Nat → ClassId) (D : va_G) (tt : Nat) (hst : l.stackTraces = false) {u : St} {o : Nat → Int64} {a1 : Int32} {u1 : St} (hf : fX4_why u a1 = some (.inl 3, u1)) : MH l yL_why wsL_why rmL_why (wApp (wA ad ck) (wO aO ck)) ck D tt [.ref (ad 0), .int a1, .ref aO] (u, o) 1 (u1, o) := by
  intro sz
  refine va_MetW (cc := cL_why) (maxL := 4) (ret := (some .int)) (hh := [(0, 9, 12, 42)]) (by decide) rfl ?_
  intro p e s m args below meth c s₁ B hml hv
  obtain ⟨rfl, hsz, C⟩ := cx_entry hv
  have hx := B.exec
  have hb := B.bytes
  have hr := B.returns
  have hts := atoms_spec (ws := wsL_why) B.pre
  have hown : s.vm.findClass RL = some m.cls := findClass_of_methodNamed B.named
  have hlocks := B.notSynchronized
  have htab : c.exceptionTable.toList = tableOf [(0, 9, 12, 42)] := vx_table (x := yL_why) B (hts _ List.mem_cons_self)
  have hl := lv_entry ([.ref (ad 0), .int a1, .ref aO]) (n := 4) (Nat.le_of_ble_eq_true rfl)
  rw [lg_entry_eq]
  generalize (lg_sl ([.ref (ad 0), .int a1, .ref aO]) ++ List.replicate (4 - (lg_sl ([.ref (ad 0), .int a1, .ref aO])).length) Slot.unset).toArray = ls at hl ⊢
  have hl : lv_has ls 4 [(0, .ref (ad 0)), (1, .int a1), (2, .ref aO)] := hl
  refine lv_aload_n hx hb dL_why_0 rfl (lv_at hl 2 rfl) ?_
  refine lv_iconst (v := 0) hx hb dL_why_1 (by decide) ?_
  refine lv_aload_n hx hb dL_why_2 rfl (lv_at hl 0 rfl) ?_
  refine lv_iload_n hx hb dL_why_3 rfl (lv_at hl 1 rfl) ?_
  refine cl_thr C (vx_runV (As := [.int a1]) (rest := [.int 0, .ref aO]) ⟨hx, hb, hml, hown, hts⟩ (t_X4_why l ad ck D tt hst hf _) (cwV 1 hts gL_why_X4_why rfl rfl rfl (by decide +kernel) ⟨Nat.le_of_ble_eq_true rfl, Nat.le_of_ble_eq_true rfl⟩) (cx_preV C.l (q0 := 0) (ci := 4) rfl rfl) rfl rfl hl.1 rfl (lv_room (Nat.le_of_ble_eq_true rfl)) dL_why_4 ⟨Nat.le_of_ble_eq_true rfl, Nat.le_of_ble_eq_true rfl⟩) (fun ce q9 H locs C hce hcv hcl => ?_)
  refine cx_catchA (name := xI) (E := xI) hown _ _ htab rfl (by decide) (hts (.classLink RL 42 xI) (by decide +kernel)) C.2.2.2.2.2.2.2.2.2.2.2.2.1 hce hcv hcl ?_
  refine W.eq (g2 := F0 m 12 ls [.ref q9]) rfl ?_
  refine lv_astore_n (lv' := [(3, .ref q9), (0, .ref (ad 0)), (1, .int a1), (2, .ref aO)]) hx hb dL_why_12 rfl hl (by decide) rfl (fun ls hl => ?_)
  refine lv_iconst (v := 1) hx hb dL_why_13 (by decide) ?_
  exact cx_iret C hx hb hr hlocks rfl dL_why_14
abbrev rmL_value : Room := { frames := 8, cells := 1, slots := 6, locals := 135 }
set_option maxHeartbeats 4000000 in
set_option maxRecDepth 100000 in
theorem k_L_value (l : Launch) (ad : Nat → Nat) (aO : Nat) (ck : Nat → ClassId) (D : va_G) (tt : Nat) (hst : l.stackTraces = false) {u : St} {o : Nat → Int64} {a1 : Int32} {a2 : Int32} {r : Int64} {u1 : St} (hf : fX4_value u a1 a2 = some (.inr r, u1)) : MH l yL_value wsL_value rmL_value (wApp (wA ad ck) (wO aO ck)) ck D tt [.ref (ad 0), .int a1, .int a2, .ref aO] (u, o) 0 (u1, vp_updL o (0 : Int32).toNatClampNeg r) := by
  intro sz
  refine va_MetW (cc := cL_value) (maxL := 5) (ret := (some .int)) (hh := [(0, 9, 12, 42), (0, 9, 16, 13)]) (by decide) rfl ?_
  intro p e s m args below meth c s₁ B hml hv
  obtain ⟨rfl, hsz, C⟩ := cx_entry hv
  have hx := B.exec
  have hb := B.bytes
  have hr := B.returns
  have hts := atoms_spec (ws := wsL_value) B.pre
  have hown : s.vm.findClass RL = some m.cls := findClass_of_methodNamed B.named
  have hlocks := B.notSynchronized
  have htab : c.exceptionTable.toList = tableOf [(0, 9, 12, 42), (0, 9, 16, 13)] := vx_table (x := yL_value) B (hts _ List.mem_cons_self)
  have hl := lv_entry ([.ref (ad 0), .int a1, .int a2, .ref aO]) (n := 5) (Nat.le_of_ble_eq_true rfl)
  rw [lg_entry_eq]
  generalize (lg_sl ([.ref (ad 0), .int a1, .int a2, .ref aO]) ++ List.replicate (5 - (lg_sl ([.ref (ad 0), .int a1, .int a2, .ref aO])).length) Slot.unset).toArray = ls at hl ⊢
  have hl : lv_has ls 5 [(0, .ref (ad 0)), (1, .int a1), (2, .int a2), (3, .ref aO)] := hl
  refine lv_aload_n hx hb dL_value_0 rfl (lv_at hl 3 rfl) ?_
  refine lv_iconst (v := 0) hx hb dL_value_1 (by decide) ?_
  refine lv_aload_n hx hb dL_value_2 rfl (lv_at hl 0 rfl) ?_
  refine lv_iload_n hx hb dL_value_3 rfl (lv_at hl 1 rfl) ?_
  refine lv_iload_n hx hb dL_value_4 rfl (lv_at hl 2 rfl) ?_
  refine cl_calll C (va_runV (As := [.int a1, .int a2]) (rest := [.int 0, .ref aO]) ⟨hx, hb, hml, hown, hts⟩ (k_X4_value l ad ck D tt hf _) (cwV 2 hts gL_value_X4_value rfl rfl rfl (by decide +kernel) ⟨Nat.le_of_ble_eq_true rfl, Nat.le_of_ble_eq_true rfl⟩) (cx_preV C.l (q0 := 0) (ci := 4) rfl rfl) rfl rfl hl.1 rfl (lv_room (Nat.le_of_ble_eq_true rfl)) dL_value_5 ⟨Nat.zero_le _, Nat.zero_le _⟩) (fun H locs C => ?_)
  refine cx_last C hx hb 23 rfl (by decide) (u1 := (u1, vp_updL o (0 : Int32).toNatClampNeg r)) rfl dL_value_8 (fun w H locs ew C => ?_)
  subst ew
  refine lv_goto (tgt := 20) hx hb dL_value_9 (by decide) ?_
  refine lv_iconst (v := 0) hx hb dL_value_20 (by decide) ?_
  refine W.widen (k := 1) (n := 6) (Nat.zero_le _) (Nat.zero_le _) ?_
  exact cx_iret C hx hb hr hlocks rfl dL_value_21
set_option maxHeartbeats 4000000 in
set_option maxRecDepth 100000 in
theorem t_L_value_3 (l : Launch) (ad : Nat → Nat) (aO : Nat) (ck : Nat → ClassId) (D : va_G) (tt : Nat) (hst : l.stackTraces = false) {u : St} {o : Nat → Int64} {a1 : Int32} {a2 : Int32} {u1 : St} (hf : fX4_value u a1 a2 = some (.inl 3, u1)) : MH l yL_value wsL_value rmL_value (wApp (wA ad ck) (wO aO ck)) ck D tt [.ref (ad 0), .int a1, .int a2, .ref aO] (u, o) 1 (u1, o) := by
  intro sz
  refine va_MetW (cc := cL_value) (maxL := 5) (ret := (some .int)) (hh := [(0, 9, 12, 42), (0, 9, 16, 13)]) (by decide) rfl ?_
  intro p e s m args below meth c s₁ B hml hv
  obtain ⟨rfl, hsz, C⟩ := cx_entry hv
  have hx := B.exec
  have hb := B.bytes
  have hr := B.returns
  have hts := atoms_spec (ws := wsL_value) B.pre
  have hown : s.vm.findClass RL = some m.cls := findClass_of_methodNamed B.named
  have hlocks := B.notSynchronized
  have htab : c.exceptionTable.toList = tableOf [(0, 9, 12, 42), (0, 9, 16, 13)] := vx_table (x := yL_value) B (hts _ List.mem_cons_self)
  have hl := lv_entry ([.ref (ad 0), .int a1, .int a2, .ref aO]) (n := 5) (Nat.le_of_ble_eq_true rfl)
  rw [lg_entry_eq]
  generalize (lg_sl ([.ref (ad 0), .int a1, .int a2, .ref aO]) ++ List.replicate (5 - (lg_sl ([.ref (ad 0), .int a1, .int a2, .ref aO])).length) Slot.unset).toArray = ls at hl ⊢
  have hl : lv_has ls 5 [(0, .ref (ad 0)), (1, .int a1), (2, .int a2), (3, .ref aO)] := hl
  refine lv_aload_n hx hb dL_value_0 rfl (lv_at hl 3 rfl) ?_
  refine lv_iconst (v := 0) hx hb dL_value_1 (by decide) ?_
  refine lv_aload_n hx hb dL_value_2 rfl (lv_at hl 0 rfl) ?_
  refine lv_iload_n hx hb dL_value_3 rfl (lv_at hl 1 rfl) ?_
  refine lv_iload_n hx hb dL_value_4 rfl (lv_at hl 2 rfl) ?_
  refine cl_thr C (vx_runV (As := [.int a1, .int a2]) (rest := [.int 0, .ref aO]) ⟨hx, hb, hml, hown, hts⟩ (t_X4_value l ad ck D tt hst hf _) (cwV 2 hts gL_value_X4_value rfl rfl rfl (by decide +kernel) ⟨Nat.le_of_ble_eq_true rfl, Nat.le_of_ble_eq_true rfl⟩) (cx_preV C.l (q0 := 0) (ci := 4) rfl rfl) rfl rfl hl.1 rfl (lv_room (Nat.le_of_ble_eq_true rfl)) dL_value_5 ⟨Nat.le_of_ble_eq_true rfl, Nat.le_of_ble_eq_true rfl⟩) (fun ce q9 H locs C hce hcv hcl => ?_)
  refine cx_catchA (name := xI) (E := xI) hown _ _ htab rfl (by decide) (hts (.classLink RL 42 xI) (by decide +kernel)) C.2.2.2.2.2.2.2.2.2.2.2.2.1 hce hcv hcl ?_
  refine W.eq (g2 := F0 m 12 ls [.ref q9]) rfl ?_
  refine lv_astore (lv' := [(4, .ref q9), (0, .ref (ad 0)), (1, .int a1), (2, .int a2), (3, .ref aO)]) hx hb dL_value_12 hl (by decide) rfl (fun ls hl => ?_)
  refine lv_iconst (v := 1) hx hb dL_value_14 (by decide) ?_
  exact cx_iret C hx hb hr hlocks rfl dL_value_15
set_option maxHeartbeats 4000000 in
set_option maxRecDepth 100000 in
theorem t_L_value_1 (l : Launch) (ad : Nat → Nat) (aO : Nat) (ck : Nat → ClassId) (D : va_G) (tt : Nat) (hst : l.stackTraces = false) {u : St} {o : Nat → Int64} {a1 : Int32} {a2 : Int32} {u1 : St} (hf : fX4_value u a1 a2 = some (.inl 1, u1)) : MH l yL_value wsL_value rmL_value (wApp (wA ad ck) (wO aO ck)) ck D tt [.ref (ad 0), .int a1, .int a2, .ref aO] (u, o) 2 (u1, o) := by
  intro sz
  refine va_MetW (cc := cL_value) (maxL := 5) (ret := (some .int)) (hh := [(0, 9, 12, 42), (0, 9, 16, 13)]) (by decide) rfl ?_
  intro p e s m args below meth c s₁ B hml hv
  obtain ⟨rfl, hsz, C⟩ := cx_entry hv
  have hx := B.exec
  have hb := B.bytes
  have hr := B.returns
  have hts := atoms_spec (ws := wsL_value) B.pre
  have hown : s.vm.findClass RL = some m.cls := findClass_of_methodNamed B.named
  have hlocks := B.notSynchronized
  have htab : c.exceptionTable.toList = tableOf [(0, 9, 12, 42), (0, 9, 16, 13)] := vx_table (x := yL_value) B (hts _ List.mem_cons_self)
  have hl := lv_entry ([.ref (ad 0), .int a1, .int a2, .ref aO]) (n := 5) (Nat.le_of_ble_eq_true rfl)
  rw [lg_entry_eq]
  generalize (lg_sl ([.ref (ad 0), .int a1, .int a2, .ref aO]) ++ List.replicate (5 - (lg_sl ([.ref (ad 0), .int a1, .int a2, .ref aO])).length) Slot.unset).toArray = ls at hl ⊢
  have hl : lv_has ls 5 [(0, .ref (ad 0)), (1, .int a1), (2, .int a2), (3, .ref aO)] := hl
  refine lv_aload_n hx hb dL_value_0 rfl (lv_at hl 3 rfl) ?_
  refine lv_iconst (v := 0) hx hb dL_value_1 (by decide) ?_
  refine lv_aload_n hx hb dL_value_2 rfl (lv_at hl 0 rfl) ?_
  refine lv_iload_n hx hb dL_value_3 rfl (lv_at hl 1 rfl) ?_
  refine lv_iload_n hx hb dL_value_4 rfl (lv_at hl 2 rfl) ?_
  refine cl_thr C (vx_runV (As := [.int a1, .int a2]) (rest := [.int 0, .ref aO]) ⟨hx, hb, hml, hown, hts⟩ (t_X4_value l ad ck D tt hst hf _) (cwV 2 hts gL_value_X4_value rfl rfl rfl (by decide +kernel) ⟨Nat.le_of_ble_eq_true rfl, Nat.le_of_ble_eq_true rfl⟩) (cx_preV C.l (q0 := 0) (ci := 4) rfl rfl) rfl rfl hl.1 rfl (lv_room (Nat.le_of_ble_eq_true rfl)) dL_value_5 ⟨Nat.le_of_ble_eq_true rfl, Nat.le_of_ble_eq_true rfl⟩) (fun ce q9 H locs C hce hcv hcl => ?_)
  refine cx_catchB (name := xA) (nm2 := xI) (E := xA) hown _ _ _ htab rfl (by decide) (hts (.classLink RL 42 xI) (by decide +kernel)) C.2.2.2.2.2.2.2.2.2.2.2.2.2.2.1 rfl (by decide) (hts (.classLink RL 13 xA) (by decide +kernel)) C.2.2.2.2.2.2.2.2.2.2.1 hce hcv hcl ?_
  refine W.eq (g2 := F0 m 16 ls [.ref q9]) rfl ?_
  refine lv_astore (lv' := [(4, .ref q9), (0, .ref (ad 0)), (1, .int a1), (2, .int a2), (3, .ref aO)]) hx hb dL_value_16 hl (by decide) rfl (fun ls hl => ?_)
  refine lv_iconst (v := 2) hx hb dL_value_18 (by decide) ?_
  exact cx_iret C hx hb hr hlocks rfl dL_value_19
abbrev rmL_term : Room := { frames := 8, cells := 1, slots := 6, locals := 134 }
set_option maxHeartbeats 4000000 in
set_option maxRecDepth 100000 in
theorem k_L_term (l : Launch) (ad : Nat → Nat) (aO : Nat) (ck : Nat → ClassId) (D : va_G) (tt : Nat) (hst : l.stackTraces = false) {u : St} {o : Nat → Int64} {a1 : Int32} {r : Int32} {u1 : St} (hf : fX4_term u a1 = some (.inr r, u1)) : MH l yL_term wsL_term rmL_term (wApp (wA ad ck) (wO aO ck)) ck D tt [.ref (ad 0), .int a1, .ref aO] (u, o) 0 (u1, vp_updL o (0 : Int32).toNatClampNeg r.toInt64) := by
  intro sz
  refine va_MetW (cc := cL_term) (maxL := 4) (ret := (some .int)) (hh := [(0, 9, 12, 42)]) (by decide) rfl ?_
  intro p e s m args below meth c s₁ B hml hv
  obtain ⟨rfl, hsz, C⟩ := cx_entry hv
  have hx := B.exec
  have hb := B.bytes
  have hr := B.returns
  have hts := atoms_spec (ws := wsL_term) B.pre
  have hown : s.vm.findClass RL = some m.cls := findClass_of_methodNamed B.named
  have hlocks := B.notSynchronized
  have htab : c.exceptionTable.toList = tableOf [(0, 9, 12, 42)] := vx_table (x := yL_term) B (hts _ List.mem_cons_self)
  have hl := lv_entry ([.ref (ad 0), .int a1, .ref aO]) (n := 4) (Nat.le_of_ble_eq_true rfl)
  rw [lg_entry_eq]
  generalize (lg_sl ([.ref (ad 0), .int a1, .ref aO]) ++ List.replicate (4 - (lg_sl ([.ref (ad 0), .int a1, .ref aO])).length) Slot.unset).toArray = ls at hl ⊢
  have hl : lv_has ls 4 [(0, .ref (ad 0)), (1, .int a1), (2, .ref aO)] := hl
  refine lv_aload_n hx hb dL_term_0 rfl (lv_at hl 2 rfl) ?_
  refine lv_iconst (v := 0) hx hb dL_term_1 (by decide) ?_
  refine lv_aload_n hx hb dL_term_2 rfl (lv_at hl 0 rfl) ?_
  refine lv_iload_n hx hb dL_term_3 rfl (lv_at hl 1 rfl) ?_
  refine cl_calli C (va_runV (As := [.int a1]) (rest := [.int 0, .ref aO]) ⟨hx, hb, hml, hown, hts⟩ (k_X4_term l ad ck D tt hf _) (cwV 1 hts gL_term_X4_term rfl rfl rfl (by decide +kernel) ⟨Nat.le_of_ble_eq_true rfl, Nat.le_of_ble_eq_true rfl⟩) (cx_preV C.l (q0 := 0) (ci := 4) rfl rfl) rfl rfl hl.1 rfl (lv_room (Nat.le_of_ble_eq_true rfl)) dL_term_4 ⟨Nat.zero_le _, Nat.zero_le _⟩) (fun H locs C => ?_)
  refine lv_i2l hx hb dL_term_7 rfl ?_
  refine cx_last C hx hb 23 rfl (by decide) (u1 := (u1, vp_updL o (0 : Int32).toNatClampNeg r.toInt64)) rfl dL_term_8 (fun w H locs ew C => ?_)
  subst ew
  refine lv_goto (tgt := 15) hx hb dL_term_9 (by decide) ?_
  refine lv_iconst (v := 0) hx hb dL_term_15 (by decide) ?_
  refine W.widen (k := 1) (n := 6) (Nat.zero_le _) (Nat.zero_le _) ?_
  exact cx_iret C hx hb hr hlocks rfl dL_term_16
set_option maxHeartbeats 4000000 in
set_option maxRecDepth 100000 in
theorem t_L_term_3 (l : Launch) (ad : Nat → Nat) (aO : Nat) (ck : Nat → ClassId) (D : va_G) (tt : Nat) (hst : l.stackTraces = false) {u : St} {o : Nat → Int64} {a1 : Int32} {u1 : St} (hf : fX4_term u a1 = some (.inl 3, u1)) : MH l yL_term wsL_term rmL_term (wApp (wA ad ck) (wO aO ck)) ck D tt [.ref (ad 0), .int a1, .ref aO] (u, o) 1 (u1, o) := by
  intro sz
  refine va_MetW (cc := cL_term) (maxL := 4) (ret := (some .int)) (hh := [(0, 9, 12, 42)]) (by decide) rfl ?_
  intro p e s m args below meth c s₁ B hml hv
  obtain ⟨rfl, hsz, C⟩ := cx_entry hv
  have hx := B.exec
  have hb := B.bytes
  have hr := B.returns
  have hts := atoms_spec (ws := wsL_term) B.pre
  have hown : s.vm.findClass RL = some m.cls := findClass_of_methodNamed B.named
  have hlocks := B.notSynchronized
  have htab : c.exceptionTable.toList = tableOf [(0, 9, 12, 42)] := vx_table (x := yL_term) B (hts _ List.mem_cons_self)
  have hl := lv_entry ([.ref (ad 0), .int a1, .ref aO]) (n := 4) (Nat.le_of_ble_eq_true rfl)
  rw [lg_entry_eq]
  generalize (lg_sl ([.ref (ad 0), .int a1, .ref aO]) ++ List.replicate (4 - (lg_sl ([.ref (ad 0), .int a1, .ref aO])).length) Slot.unset).toArray = ls at hl ⊢
  have hl : lv_has ls 4 [(0, .ref (ad 0)), (1, .int a1), (2, .ref aO)] := hl
  refine lv_aload_n hx hb dL_term_0 rfl (lv_at hl 2 rfl) ?_
  refine lv_iconst (v := 0) hx hb dL_term_1 (by decide) ?_
  refine lv_aload_n hx hb dL_term_2 rfl (lv_at hl 0 rfl) ?_
  refine lv_iload_n hx hb dL_term_3 rfl (lv_at hl 1 rfl) ?_
  refine cl_thr C (vx_runV (As := [.int a1]) (rest := [.int 0, .ref aO]) ⟨hx, hb, hml, hown, hts⟩ (t_X4_term l ad ck D tt hst hf _) (cwV 1 hts gL_term_X4_term rfl rfl rfl (by decide +kernel) ⟨Nat.le_of_ble_eq_true rfl, Nat.le_of_ble_eq_true rfl⟩) (cx_preV C.l (q0 := 0) (ci := 4) rfl rfl) rfl rfl hl.1 rfl (lv_room (Nat.le_of_ble_eq_true rfl)) dL_term_4 ⟨Nat.le_of_ble_eq_true rfl, Nat.le_of_ble_eq_true rfl⟩) (fun ce q9 H locs C hce hcv hcl => ?_)
  refine cx_catchA (name := xI) (E := xI) hown _ _ htab rfl (by decide) (hts (.classLink RL 42 xI) (by decide +kernel)) C.2.2.2.2.2.2.2.2.2.2.2.2.1 hce hcv hcl ?_
  refine W.eq (g2 := F0 m 12 ls [.ref q9]) rfl ?_
  refine lv_astore_n (lv' := [(3, .ref q9), (0, .ref (ad 0)), (1, .int a1), (2, .ref aO)]) hx hb dL_term_12 rfl hl (by decide) rfl (fun ls hl => ?_)
  refine lv_iconst (v := 1) hx hb dL_term_13 (by decide) ?_
  exact cx_iret C hx hb hr hlocks rfl dL_term_14
abbrev rmL_length : Room := { frames := 8, cells := 1, slots := 6, locals := 134 }
set_option maxHeartbeats 4000000 in
set_option maxRecDepth 100000 in
theorem k_L_length (l : Launch) (ad : Nat → Nat) (aO : Nat) (ck : Nat → ClassId) (D : va_G) (tt : Nat) (hst : l.stackTraces = false) {u : St} {o : Nat → Int64} {a1 : Int32} {r : Int32} {u1 : St} (hf : fX4_length u a1 = some (.inr r, u1)) : MH l yL_length wsL_length rmL_length (wApp (wA ad ck) (wO aO ck)) ck D tt [.ref (ad 0), .int a1, .ref aO] (u, o) 0 (u1, vp_updL o (0 : Int32).toNatClampNeg r.toInt64) := by
  intro sz
  refine va_MetW (cc := cL_length) (maxL := 4) (ret := (some .int)) (hh := [(0, 9, 12, 42)]) (by decide) rfl ?_
  intro p e s m args below meth c s₁ B hml hv
  obtain ⟨rfl, hsz, C⟩ := cx_entry hv
  have hx := B.exec
  have hb := B.bytes
  have hr := B.returns
  have hts := atoms_spec (ws := wsL_length) B.pre
  have hown : s.vm.findClass RL = some m.cls := findClass_of_methodNamed B.named
  have hlocks := B.notSynchronized
  have htab : c.exceptionTable.toList = tableOf [(0, 9, 12, 42)] := vx_table (x := yL_length) B (hts _ List.mem_cons_self)
  have hl := lv_entry ([.ref (ad 0), .int a1, .ref aO]) (n := 4) (Nat.le_of_ble_eq_true rfl)
  rw [lg_entry_eq]
  generalize (lg_sl ([.ref (ad 0), .int a1, .ref aO]) ++ List.replicate (4 - (lg_sl ([.ref (ad 0), .int a1, .ref aO])).length) Slot.unset).toArray = ls at hl ⊢
  have hl : lv_has ls 4 [(0, .ref (ad 0)), (1, .int a1), (2, .ref aO)] := hl
  refine lv_aload_n hx hb dL_length_0 rfl (lv_at hl 2 rfl) ?_
  refine lv_iconst (v := 0) hx hb dL_length_1 (by decide) ?_
  refine lv_aload_n hx hb dL_length_2 rfl (lv_at hl 0 rfl) ?_
  refine lv_iload_n hx hb dL_length_3 rfl (lv_at hl 1 rfl) ?_
  refine cl_calli C (va_runV (As := [.int a1]) (rest := [.int 0, .ref aO]) ⟨hx, hb, hml, hown, hts⟩ (k_X4_length l ad ck D tt hf _) (cwV 1 hts gL_length_X4_length rfl rfl rfl (by decide +kernel) ⟨Nat.le_of_ble_eq_true rfl, Nat.le_of_ble_eq_true rfl⟩) (cx_preV C.l (q0 := 0) (ci := 4) rfl rfl) rfl rfl hl.1 rfl (lv_room (Nat.le_of_ble_eq_true rfl)) dL_length_4 ⟨Nat.zero_le _, Nat.zero_le _⟩) (fun H locs C => ?_)
  refine lv_i2l hx hb dL_length_7 rfl ?_
  refine cx_last C hx hb 23 rfl (by decide) (u1 := (u1, vp_updL o (0 : Int32).toNatClampNeg r.toInt64)) rfl dL_length_8 (fun w H locs ew C => ?_)
  subst ew
  refine lv_goto (tgt := 15) hx hb dL_length_9 (by decide) ?_
  refine lv_iconst (v := 0) hx hb dL_length_15 (by decide) ?_
  refine W.widen (k := 1) (n := 6) (Nat.zero_le _) (Nat.zero_le _) ?_
  exact cx_iret C hx hb hr hlocks rfl dL_length_16
set_option maxHeartbeats 4000000 in
set_option maxRecDepth 100000 in
theorem t_L_length_3 (l : Launch) (ad : Nat → Nat) (aO : Nat) (ck : Nat → ClassId) (D : va_G) (tt : Nat) (hst : l.stackTraces = false) {u : St} {o : Nat → Int64} {a1 : Int32} {u1 : St} (hf : fX4_length u a1 = some (.inl 3, u1)) : MH l yL_length wsL_length rmL_length (wApp (wA ad ck) (wO aO ck)) ck D tt [.ref (ad 0), .int a1, .ref aO] (u, o) 1 (u1, o) := by
  intro sz
  refine va_MetW (cc := cL_length) (maxL := 4) (ret := (some .int)) (hh := [(0, 9, 12, 42)]) (by decide) rfl ?_
  intro p e s m args below meth c s₁ B hml hv
  obtain ⟨rfl, hsz, C⟩ := cx_entry hv
  have hx := B.exec
  have hb := B.bytes
  have hr := B.returns
  have hts := atoms_spec (ws := wsL_length) B.pre
  have hown : s.vm.findClass RL = some m.cls := findClass_of_methodNamed B.named
  have hlocks := B.notSynchronized
  have htab : c.exceptionTable.toList = tableOf [(0, 9, 12, 42)] := vx_table (x := yL_length) B (hts _ List.mem_cons_self)
  have hl := lv_entry ([.ref (ad 0), .int a1, .ref aO]) (n := 4) (Nat.le_of_ble_eq_true rfl)
  rw [lg_entry_eq]
  generalize (lg_sl ([.ref (ad 0), .int a1, .ref aO]) ++ List.replicate (4 - (lg_sl ([.ref (ad 0), .int a1, .ref aO])).length) Slot.unset).toArray = ls at hl ⊢
  have hl : lv_has ls 4 [(0, .ref (ad 0)), (1, .int a1), (2, .ref aO)] := hl
  refine lv_aload_n hx hb dL_length_0 rfl (lv_at hl 2 rfl) ?_
  refine lv_iconst (v := 0) hx hb dL_length_1 (by decide) ?_
  refine lv_aload_n hx hb dL_length_2 rfl (lv_at hl 0 rfl) ?_
  refine lv_iload_n hx hb dL_length_3 rfl (lv_at hl 1 rfl) ?_
  refine cl_thr C (vx_runV (As := [.int a1]) (rest := [.int 0, .ref aO]) ⟨hx, hb, hml, hown, hts⟩ (t_X4_length l ad ck D tt hst hf _) (cwV 1 hts gL_length_X4_length rfl rfl rfl (by decide +kernel) ⟨Nat.le_of_ble_eq_true rfl, Nat.le_of_ble_eq_true rfl⟩) (cx_preV C.l (q0 := 0) (ci := 4) rfl rfl) rfl rfl hl.1 rfl (lv_room (Nat.le_of_ble_eq_true rfl)) dL_length_4 ⟨Nat.le_of_ble_eq_true rfl, Nat.le_of_ble_eq_true rfl⟩) (fun ce q9 H locs C hce hcv hcl => ?_)
  refine cx_catchA (name := xI) (E := xI) hown _ _ htab rfl (by decide) (hts (.classLink RL 42 xI) (by decide +kernel)) C.2.2.2.2.2.2.2.2.2.2.2.2.1 hce hcv hcl ?_
  refine W.eq (g2 := F0 m 12 ls [.ref q9]) rfl ?_
  refine lv_astore_n (lv' := [(3, .ref q9), (0, .ref (ad 0)), (1, .int a1), (2, .ref aO)]) hx hb dL_length_12 rfl hl (by decide) rfl (fun ls hl => ?_)
  refine lv_iconst (v := 1) hx hb dL_length_13 (by decide) ?_
  exact cx_iret C hx hb hr hlocks rfl dL_length_14
abbrev rmL_charAt : Room := { frames := 8, cells := 1, slots := 6, locals := 135 }
set_option maxHeartbeats 4000000 in
set_option maxRecDepth 100000 in
theorem k_L_charAt (l : Launch) (ad : Nat → Nat) (aO : Nat) (ck : Nat → ClassId) (D : va_G) (tt : Nat) (hst : l.stackTraces = false) {u : St} {o : Nat → Int64} {a1 : Int32} {a2 : Int32} {r : Int32} {u1 : St} (hf : fX4_charAt u a1 a2 = some (.inr r, u1)) : MH l yL_charAt wsL_charAt rmL_charAt (wApp (wA ad ck) (wO aO ck)) ck D tt [.ref (ad 0), .int a1, .int a2, .ref aO] (u, o) 0 (u1, vp_updL o (0 : Int32).toNatClampNeg r.toInt64) := by
  intro sz
  refine va_MetW (cc := cL_charAt) (maxL := 5) (ret := (some .int)) (hh := [(0, 10, 13, 42)]) (by decide) rfl ?_
  intro p e s m args below meth c s₁ B hml hv
  obtain ⟨rfl, hsz, C⟩ := cx_entry hv
  have hx := B.exec
  have hb := B.bytes
  have hr := B.returns
  have hts := atoms_spec (ws := wsL_charAt) B.pre
  have hown : s.vm.findClass RL = some m.cls := findClass_of_methodNamed B.named
  have hlocks := B.notSynchronized
  have htab : c.exceptionTable.toList = tableOf [(0, 10, 13, 42)] := vx_table (x := yL_charAt) B (hts _ List.mem_cons_self)
  have hl := lv_entry ([.ref (ad 0), .int a1, .int a2, .ref aO]) (n := 5) (Nat.le_of_ble_eq_true rfl)
  rw [lg_entry_eq]
  generalize (lg_sl ([.ref (ad 0), .int a1, .int a2, .ref aO]) ++ List.replicate (5 - (lg_sl ([.ref (ad 0), .int a1, .int a2, .ref aO])).length) Slot.unset).toArray = ls at hl ⊢
  have hl : lv_has ls 5 [(0, .ref (ad 0)), (1, .int a1), (2, .int a2), (3, .ref aO)] := hl
  refine lv_aload_n hx hb dL_charAt_0 rfl (lv_at hl 3 rfl) ?_
  refine lv_iconst (v := 0) hx hb dL_charAt_1 (by decide) ?_
  refine lv_aload_n hx hb dL_charAt_2 rfl (lv_at hl 0 rfl) ?_
  refine lv_iload_n hx hb dL_charAt_3 rfl (lv_at hl 1 rfl) ?_
  refine lv_iload_n hx hb dL_charAt_4 rfl (lv_at hl 2 rfl) ?_
  refine cl_calli C (va_runV (As := [.int a1, .int a2]) (rest := [.int 0, .ref aO]) ⟨hx, hb, hml, hown, hts⟩ (k_X4_charAt l ad ck D tt hf _) (cwV 2 hts gL_charAt_X4_charAt rfl rfl rfl (by decide +kernel) ⟨Nat.le_of_ble_eq_true rfl, Nat.le_of_ble_eq_true rfl⟩) (cx_preV C.l (q0 := 0) (ci := 4) rfl rfl) rfl rfl hl.1 rfl (lv_room (Nat.le_of_ble_eq_true rfl)) dL_charAt_5 ⟨Nat.zero_le _, Nat.zero_le _⟩) (fun H locs C => ?_)
  refine lv_i2l hx hb dL_charAt_8 rfl ?_
  refine cx_last C hx hb 23 rfl (by decide) (u1 := (u1, vp_updL o (0 : Int32).toNatClampNeg r.toInt64)) rfl dL_charAt_9 (fun w H locs ew C => ?_)
  subst ew
  refine lv_goto (tgt := 17) hx hb dL_charAt_10 (by decide) ?_
  refine lv_iconst (v := 0) hx hb dL_charAt_17 (by decide) ?_
  refine W.widen (k := 1) (n := 6) (Nat.zero_le _) (Nat.zero_le _) ?_
  exact cx_iret C hx hb hr hlocks rfl dL_charAt_18
set_option maxHeartbeats 4000000 in
set_option maxRecDepth 100000 in
theorem t_L_charAt_3 (l : Launch) (ad : Nat → Nat) (aO : Nat) (ck : Nat → ClassId) (D : va_G) (tt : Nat) (hst : l.stackTraces = false) {u : St} {o : Nat → Int64} {a1 : Int32} {a2 : Int32} {u1 : St} (hf : fX4_charAt u a1 a2 = some (.inl 3, u1)) : MH l yL_charAt wsL_charAt rmL_charAt (wApp (wA ad ck) (wO aO ck)) ck D tt [.ref (ad 0), .int a1, .int a2, .ref aO] (u, o) 1 (u1, o) := by
  intro sz
  refine va_MetW (cc := cL_charAt) (maxL := 5) (ret := (some .int)) (hh := [(0, 10, 13, 42)]) (by decide) rfl ?_
  intro p e s m args below meth c s₁ B hml hv
  obtain ⟨rfl, hsz, C⟩ := cx_entry hv
  have hx := B.exec
  have hb := B.bytes
  have hr := B.returns
  have hts := atoms_spec (ws := wsL_charAt) B.pre
  have hown : s.vm.findClass RL = some m.cls := findClass_of_methodNamed B.named
  have hlocks := B.notSynchronized
  have htab : c.exceptionTable.toList = tableOf [(0, 10, 13, 42)] := vx_table (x := yL_charAt) B (hts _ List.mem_cons_self)
  have hl := lv_entry ([.ref (ad 0), .int a1, .int a2, .ref aO]) (n := 5) (Nat.le_of_ble_eq_true rfl)
  rw [lg_entry_eq]
  generalize (lg_sl ([.ref (ad 0), .int a1, .int a2, .ref aO]) ++ List.replicate (5 - (lg_sl ([.ref (ad 0), .int a1, .int a2, .ref aO])).length) Slot.unset).toArray = ls at hl ⊢
  have hl : lv_has ls 5 [(0, .ref (ad 0)), (1, .int a1), (2, .int a2), (3, .ref aO)] := hl
  refine lv_aload_n hx hb dL_charAt_0 rfl (lv_at hl 3 rfl) ?_
  refine lv_iconst (v := 0) hx hb dL_charAt_1 (by decide) ?_
  refine lv_aload_n hx hb dL_charAt_2 rfl (lv_at hl 0 rfl) ?_
  refine lv_iload_n hx hb dL_charAt_3 rfl (lv_at hl 1 rfl) ?_
  refine lv_iload_n hx hb dL_charAt_4 rfl (lv_at hl 2 rfl) ?_
  refine cl_thr C (vx_runV (As := [.int a1, .int a2]) (rest := [.int 0, .ref aO]) ⟨hx, hb, hml, hown, hts⟩ (t_X4_charAt l ad ck D tt hst hf _) (cwV 2 hts gL_charAt_X4_charAt rfl rfl rfl (by decide +kernel) ⟨Nat.le_of_ble_eq_true rfl, Nat.le_of_ble_eq_true rfl⟩) (cx_preV C.l (q0 := 0) (ci := 4) rfl rfl) rfl rfl hl.1 rfl (lv_room (Nat.le_of_ble_eq_true rfl)) dL_charAt_5 ⟨Nat.le_of_ble_eq_true rfl, Nat.le_of_ble_eq_true rfl⟩) (fun ce q9 H locs C hce hcv hcl => ?_)
  refine cx_catchA (name := xI) (E := xI) hown _ _ htab rfl (by decide) (hts (.classLink RL 42 xI) (by decide +kernel)) C.2.2.2.2.2.2.2.2.2.2.2.2.1 hce hcv hcl ?_
  refine W.eq (g2 := F0 m 13 ls [.ref q9]) rfl ?_
  refine lv_astore (lv' := [(4, .ref q9), (0, .ref (ad 0)), (1, .int a1), (2, .int a2), (3, .ref aO)]) hx hb dL_charAt_13 hl (by decide) rfl (fun ls hl => ?_)
  refine lv_iconst (v := 1) hx hb dL_charAt_15 (by decide) ?_
  exact cx_iret C hx hb hr hlocks rfl dL_charAt_16
abbrev rmL_having : Room := { frames := 8, cells := 1, slots := 6, locals := 145 }
set_option maxHeartbeats 4000000 in
set_option maxRecDepth 100000 in
theorem k_L_having (l : Launch) (ad : Nat → Nat) (aO : Nat) (ck : Nat → ClassId) (D : va_G) (tt : Nat) (hst : l.stackTraces = false) {u : St} {o : Nat → Int64} {a1 : Int32} {a2 : Int32} {a3 : Int64} {a5 : Int64} {r : Int32} {u1 : St} (hf : fX4_having u a1 a2 a3 a5 = some (.inr r, u1)) : MH l yL_having wsL_having rmL_having (wApp (wA ad ck) (wO aO ck)) ck D tt [.ref (ad 0), .int a1, .int a2, .long a3, .long a5, .ref aO] (u, o) 0 (u1, vp_updL o (0 : Int32).toNatClampNeg (if r = 0 then 0 else 1)) := by
  intro sz
  refine va_MetW (cc := cL_having) (maxL := 9) (ret := (some .int)) (hh := [(0, 21, 24, 42), (0, 21, 28, 13)]) (by decide) rfl ?_
  intro p e s m args below meth c s₁ B hml hv
  obtain ⟨rfl, hsz, C⟩ := cx_entry hv
  have hx := B.exec
  have hb := B.bytes
  have hr := B.returns
  have hts := atoms_spec (ws := wsL_having) B.pre
  have hown : s.vm.findClass RL = some m.cls := findClass_of_methodNamed B.named
  have hlocks := B.notSynchronized
  have htab : c.exceptionTable.toList = tableOf [(0, 21, 24, 42), (0, 21, 28, 13)] := vx_table (x := yL_having) B (hts _ List.mem_cons_self)
  have hl := lv_entry ([.ref (ad 0), .int a1, .int a2, .long a3, .long a5, .ref aO]) (n := 9) (Nat.le_of_ble_eq_true rfl)
  rw [lg_entry_eq]
  generalize (lg_sl ([.ref (ad 0), .int a1, .int a2, .long a3, .long a5, .ref aO]) ++ List.replicate (9 - (lg_sl ([.ref (ad 0), .int a1, .int a2, .long a3, .long a5, .ref aO])).length) Slot.unset).toArray = ls at hl ⊢
  have hl : lv_has ls 9 [(0, .ref (ad 0)), (1, .int a1), (2, .int a2), (3, .long a3), (5, .long a5), (7, .ref aO)] := hl
  refine lv_aload hx hb dL_having_0 (lv_at hl 5 rfl) ?_
  refine lv_iconst (v := 0) hx hb dL_having_2 (by decide) ?_
  refine lv_aload_n hx hb dL_having_3 rfl (lv_at hl 0 rfl) ?_
  refine lv_iload_n hx hb dL_having_4 rfl (lv_at hl 1 rfl) ?_
  refine lv_iload_n hx hb dL_having_5 rfl (lv_at hl 2 rfl) ?_
  refine lv_lload_n hx hb dL_having_6 rfl (lv_at hl 3 rfl) ?_
  refine lv_lload hx hb dL_having_7 (lv_at hl 4 rfl) ?_
  refine cl_calli C (va_runV (As := [.int a1, .int a2, .long a3, .long a5]) (rest := [.int 0, .ref aO]) ⟨hx, hb, hml, hown, hts⟩ (k_X4_having l ad ck D tt hf _) (cwV 4 hts gL_having_X4_having rfl rfl rfl (by decide +kernel) ⟨Nat.le_of_ble_eq_true rfl, Nat.le_of_ble_eq_true rfl⟩) (cx_preV C.l (q0 := 0) (ci := 4) rfl rfl) rfl rfl hl.1 rfl (lv_room (Nat.le_of_ble_eq_true rfl)) dL_having_9 ⟨Nat.zero_le _, Nat.zero_le _⟩) (fun H locs C => ?_)
  refine lv_if_eq (tgt := 19) hx hb dL_having_12 (by decide) (fun c1 => ?_) (fun c1 => ?_)
  · refine lv_lconst (v := 0) hx hb dL_having_19 (by decide) ?_
    refine cx_last C hx hb 23 rfl (by decide) (u1 := (u1, vp_updL o (0 : Int32).toNatClampNeg 0)) rfl dL_having_20 (fun w H locs ew C => ?_)
    subst ew
    refine lv_goto (tgt := 32) hx hb dL_having_21 (by decide) ?_
    refine lv_iconst (v := 0) hx hb dL_having_32 (by decide) ?_
    refine W.widen (k := 1) (n := 6) (Nat.zero_le _) (Nat.zero_le _) ?_
    exact cx_iret C hx hb hr hlocks (by rw [if_pos c1]) dL_having_33
  · refine lv_lconst (v := 1) hx hb dL_having_15 (by decide) ?_
    refine lv_goto (tgt := 20) hx hb dL_having_16 (by decide) ?_
    refine cx_last C hx hb 23 rfl (by decide) (u1 := (u1, vp_updL o (0 : Int32).toNatClampNeg 1)) rfl dL_having_20 (fun w H locs ew C => ?_)
    subst ew
    refine lv_goto (tgt := 32) hx hb dL_having_21 (by decide) ?_
    refine lv_iconst (v := 0) hx hb dL_having_32 (by decide) ?_
    refine W.widen (k := 1) (n := 6) (Nat.zero_le _) (Nat.zero_le _) ?_
    exact cx_iret C hx hb hr hlocks (by rw [if_neg c1]) dL_having_33
set_option maxHeartbeats 4000000 in
set_option maxRecDepth 100000 in
theorem t_L_having_3 (l : Launch) (ad : Nat → Nat) (aO : Nat) (ck : Nat → ClassId) (D : va_G) (tt : Nat) (hst : l.stackTraces = false) {u : St} {o : Nat → Int64} {a1 : Int32} {a2 : Int32} {a3 : Int64} {a5 : Int64} {u1 : St} (hf : fX4_having u a1 a2 a3 a5 = some (.inl 3, u1)) : MH l yL_having wsL_having rmL_having (wApp (wA ad ck) (wO aO ck)) ck D tt [.ref (ad 0), .int a1, .int a2, .long a3, .long a5, .ref aO] (u, o) 1 (u1, o) := by
  intro sz
  refine va_MetW (cc := cL_having) (maxL := 9) (ret := (some .int)) (hh := [(0, 21, 24, 42), (0, 21, 28, 13)]) (by decide) rfl ?_
  intro p e s m args below meth c s₁ B hml hv
  obtain ⟨rfl, hsz, C⟩ := cx_entry hv
  have hx := B.exec
  have hb := B.bytes
  have hr := B.returns
  have hts := atoms_spec (ws := wsL_having) B.pre
  have hown : s.vm.findClass RL = some m.cls := findClass_of_methodNamed B.named
  have hlocks := B.notSynchronized
  have htab : c.exceptionTable.toList = tableOf [(0, 21, 24, 42), (0, 21, 28, 13)] := vx_table (x := yL_having) B (hts _ List.mem_cons_self)
  have hl := lv_entry ([.ref (ad 0), .int a1, .int a2, .long a3, .long a5, .ref aO]) (n := 9) (Nat.le_of_ble_eq_true rfl)
  rw [lg_entry_eq]
  generalize (lg_sl ([.ref (ad 0), .int a1, .int a2, .long a3, .long a5, .ref aO]) ++ List.replicate (9 - (lg_sl ([.ref (ad 0), .int a1, .int a2, .long a3, .long a5, .ref aO])).length) Slot.unset).toArray = ls at hl ⊢
  have hl : lv_has ls 9 [(0, .ref (ad 0)), (1, .int a1), (2, .int a2), (3, .long a3), (5, .long a5), (7, .ref aO)] := hl
  refine lv_aload hx hb dL_having_0 (lv_at hl 5 rfl) ?_
  refine lv_iconst (v := 0) hx hb dL_having_2 (by decide) ?_
  refine lv_aload_n hx hb dL_having_3 rfl (lv_at hl 0 rfl) ?_
  refine lv_iload_n hx hb dL_having_4 rfl (lv_at hl 1 rfl) ?_
  refine lv_iload_n hx hb dL_having_5 rfl (lv_at hl 2 rfl) ?_
  refine lv_lload_n hx hb dL_having_6 rfl (lv_at hl 3 rfl) ?_
  refine lv_lload hx hb dL_having_7 (lv_at hl 4 rfl) ?_
  refine cl_thr C (vx_runV (As := [.int a1, .int a2, .long a3, .long a5]) (rest := [.int 0, .ref aO]) ⟨hx, hb, hml, hown, hts⟩ (t_X4_having l ad ck D tt hst hf _) (cwV 4 hts gL_having_X4_having rfl rfl rfl (by decide +kernel) ⟨Nat.le_of_ble_eq_true rfl, Nat.le_of_ble_eq_true rfl⟩) (cx_preV C.l (q0 := 0) (ci := 4) rfl rfl) rfl rfl hl.1 rfl (lv_room (Nat.le_of_ble_eq_true rfl)) dL_having_9 ⟨Nat.le_of_ble_eq_true rfl, Nat.le_of_ble_eq_true rfl⟩) (fun ce q9 H locs C hce hcv hcl => ?_)
  refine cx_catchA (name := xI) (E := xI) hown _ _ htab rfl (by decide) (hts (.classLink RL 42 xI) (by decide +kernel)) C.2.2.2.2.2.2.2.2.2.2.2.2.1 hce hcv hcl ?_
  refine W.eq (g2 := F0 m 24 ls [.ref q9]) rfl ?_
  refine lv_astore (lv' := [(8, .ref q9), (0, .ref (ad 0)), (1, .int a1), (2, .int a2), (3, .long a3), (5, .long a5), (7, .ref aO)]) hx hb dL_having_24 hl (by decide) rfl (fun ls hl => ?_)
  refine lv_iconst (v := 1) hx hb dL_having_26 (by decide) ?_
  exact cx_iret C hx hb hr hlocks rfl dL_having_27
set_option maxHeartbeats 4000000 in
set_option maxRecDepth 100000 in
theorem t_L_having_1 (l : Launch) (ad : Nat → Nat) (aO : Nat) (ck : Nat → ClassId) (D : va_G) (tt : Nat) (hst : l.stackTraces = false) {u : St} {o : Nat → Int64} {a1 : Int32} {a2 : Int32} {a3 : Int64} {a5 : Int64} {u1 : St} (hf : fX4_having u a1 a2 a3 a5 = some (.inl 1, u1)) : MH l yL_having wsL_having rmL_having (wApp (wA ad ck) (wO aO ck)) ck D tt [.ref (ad 0), .int a1, .int a2, .long a3, .long a5, .ref aO] (u, o) 2 (u1, o) := by
  intro sz
  refine va_MetW (cc := cL_having) (maxL := 9) (ret := (some .int)) (hh := [(0, 21, 24, 42), (0, 21, 28, 13)]) (by decide) rfl ?_
  intro p e s m args below meth c s₁ B hml hv
  obtain ⟨rfl, hsz, C⟩ := cx_entry hv
  have hx := B.exec
  have hb := B.bytes
  have hr := B.returns
  have hts := atoms_spec (ws := wsL_having) B.pre
  have hown : s.vm.findClass RL = some m.cls := findClass_of_methodNamed B.named
  have hlocks := B.notSynchronized
  have htab : c.exceptionTable.toList = tableOf [(0, 21, 24, 42), (0, 21, 28, 13)] := vx_table (x := yL_having) B (hts _ List.mem_cons_self)
  have hl := lv_entry ([.ref (ad 0), .int a1, .int a2, .long a3, .long a5, .ref aO]) (n := 9) (Nat.le_of_ble_eq_true rfl)
  rw [lg_entry_eq]
  generalize (lg_sl ([.ref (ad 0), .int a1, .int a2, .long a3, .long a5, .ref aO]) ++ List.replicate (9 - (lg_sl ([.ref (ad 0), .int a1, .int a2, .long a3, .long a5, .ref aO])).length) Slot.unset).toArray = ls at hl ⊢
  have hl : lv_has ls 9 [(0, .ref (ad 0)), (1, .int a1), (2, .int a2), (3, .long a3), (5, .long a5), (7, .ref aO)] := hl
  refine lv_aload hx hb dL_having_0 (lv_at hl 5 rfl) ?_
  refine lv_iconst (v := 0) hx hb dL_having_2 (by decide) ?_
  refine lv_aload_n hx hb dL_having_3 rfl (lv_at hl 0 rfl) ?_
  refine lv_iload_n hx hb dL_having_4 rfl (lv_at hl 1 rfl) ?_
  refine lv_iload_n hx hb dL_having_5 rfl (lv_at hl 2 rfl) ?_
  refine lv_lload_n hx hb dL_having_6 rfl (lv_at hl 3 rfl) ?_
  refine lv_lload hx hb dL_having_7 (lv_at hl 4 rfl) ?_
  refine cl_thr C (vx_runV (As := [.int a1, .int a2, .long a3, .long a5]) (rest := [.int 0, .ref aO]) ⟨hx, hb, hml, hown, hts⟩ (t_X4_having l ad ck D tt hst hf _) (cwV 4 hts gL_having_X4_having rfl rfl rfl (by decide +kernel) ⟨Nat.le_of_ble_eq_true rfl, Nat.le_of_ble_eq_true rfl⟩) (cx_preV C.l (q0 := 0) (ci := 4) rfl rfl) rfl rfl hl.1 rfl (lv_room (Nat.le_of_ble_eq_true rfl)) dL_having_9 ⟨Nat.le_of_ble_eq_true rfl, Nat.le_of_ble_eq_true rfl⟩) (fun ce q9 H locs C hce hcv hcl => ?_)
  refine cx_catchB (name := xA) (nm2 := xI) (E := xA) hown _ _ _ htab rfl (by decide) (hts (.classLink RL 42 xI) (by decide +kernel)) C.2.2.2.2.2.2.2.2.2.2.2.2.2.2.1 rfl (by decide) (hts (.classLink RL 13 xA) (by decide +kernel)) C.2.2.2.2.2.2.2.2.2.2.1 hce hcv hcl ?_
  refine W.eq (g2 := F0 m 28 ls [.ref q9]) rfl ?_
  refine lv_astore (lv' := [(8, .ref q9), (0, .ref (ad 0)), (1, .int a1), (2, .int a2), (3, .long a3), (5, .long a5), (7, .ref aO)]) hx hb dL_having_28 hl (by decide) rfl (fun ls hl => ?_)
  refine lv_iconst (v := 2) hx hb dL_having_30 (by decide) ?_
  exact cx_iret C hx hb hr hlocks rfl dL_having_31
abbrev rmL_told : Room := { frames := 7, cells := 1, slots := 6, locals := 113 }
set_option maxHeartbeats 4000000 in
set_option maxRecDepth 100000 in
theorem k_L_told (l : Launch) (ad : Nat → Nat) (aO : Nat) (ck : Nat → ClassId) (D : va_G) (tt : Nat) (hst : l.stackTraces = false) {u : St} {o : Nat → Int64} {a1 : Int32} {r : Int32} {u1 : St} (hf : fX4_told u a1 = some (.inr r, u1)) : MH l yL_told wsL_told rmL_told (wApp (wA ad ck) (wO aO ck)) ck D tt [.ref (ad 0), .int a1, .ref aO] (u, o) 0 (u1, vp_updL o (0 : Int32).toNatClampNeg r.toInt64) := by
  intro sz
  refine va_MetW (cc := cL_told) (maxL := 4) (ret := (some .int)) (hh := [(0, 9, 12, 13)]) (by decide) rfl ?_
  intro p e s m args below meth c s₁ B hml hv
  obtain ⟨rfl, hsz, C⟩ := cx_entry hv
  have hx := B.exec
  have hb := B.bytes
  have hr := B.returns
  have hts := atoms_spec (ws := wsL_told) B.pre
  have hown : s.vm.findClass RL = some m.cls := findClass_of_methodNamed B.named
  have hlocks := B.notSynchronized
  have htab : c.exceptionTable.toList = tableOf [(0, 9, 12, 13)] := vx_table (x := yL_told) B (hts _ List.mem_cons_self)
  have hl := lv_entry ([.ref (ad 0), .int a1, .ref aO]) (n := 4) (Nat.le_of_ble_eq_true rfl)
  rw [lg_entry_eq]
  generalize (lg_sl ([.ref (ad 0), .int a1, .ref aO]) ++ List.replicate (4 - (lg_sl ([.ref (ad 0), .int a1, .ref aO])).length) Slot.unset).toArray = ls at hl ⊢
  have hl : lv_has ls 4 [(0, .ref (ad 0)), (1, .int a1), (2, .ref aO)] := hl
  refine lv_aload_n hx hb dL_told_0 rfl (lv_at hl 2 rfl) ?_
  refine lv_iconst (v := 0) hx hb dL_told_1 (by decide) ?_
  refine lv_aload_n hx hb dL_told_2 rfl (lv_at hl 0 rfl) ?_
  refine lv_iload_n hx hb dL_told_3 rfl (lv_at hl 1 rfl) ?_
  refine cl_calli C (va_runV (As := [.int a1]) (rest := [.int 0, .ref aO]) ⟨hx, hb, hml, hown, hts⟩ (k_X4_told l ad ck D tt hf _) (cwV 1 hts gL_told_X4_told rfl rfl rfl (by decide +kernel) ⟨Nat.le_of_ble_eq_true rfl, Nat.le_of_ble_eq_true rfl⟩) (cx_preV C.l (q0 := 0) (ci := 4) rfl rfl) rfl rfl hl.1 rfl (lv_room (Nat.le_of_ble_eq_true rfl)) dL_told_4 ⟨Nat.zero_le _, Nat.zero_le _⟩) (fun H locs C => ?_)
  refine lv_i2l hx hb dL_told_7 rfl ?_
  refine cx_last C hx hb 23 rfl (by decide) (u1 := (u1, vp_updL o (0 : Int32).toNatClampNeg r.toInt64)) rfl dL_told_8 (fun w H locs ew C => ?_)
  subst ew
  refine lv_goto (tgt := 15) hx hb dL_told_9 (by decide) ?_
  refine lv_iconst (v := 0) hx hb dL_told_15 (by decide) ?_
  refine W.widen (k := 1) (n := 6) (Nat.zero_le _) (Nat.zero_le _) ?_
  exact cx_iret C hx hb hr hlocks rfl dL_told_16
set_option maxHeartbeats 4000000 in
set_option maxRecDepth 100000 in
theorem t_L_told_1 (l : Launch) (ad : Nat → Nat) (aO : Nat) (ck : Nat → ClassId) (D : va_G) (tt : Nat) (hst : l.stackTraces = false) {u : St} {o : Nat → Int64} {a1 : Int32} {u1 : St} (hf : fX4_told u a1 = some (.inl 1, u1)) : MH l yL_told wsL_told rmL_told (wApp (wA ad ck) (wO aO ck)) ck D tt [.ref (ad 0), .int a1, .ref aO] (u, o) 1 (u1, o) := by
  intro sz
  refine va_MetW (cc := cL_told) (maxL := 4) (ret := (some .int)) (hh := [(0, 9, 12, 13)]) (by decide) rfl ?_
  intro p e s m args below meth c s₁ B hml hv
  obtain ⟨rfl, hsz, C⟩ := cx_entry hv
  have hx := B.exec
  have hb := B.bytes
  have hr := B.returns
  have hts := atoms_spec (ws := wsL_told) B.pre
  have hown : s.vm.findClass RL = some m.cls := findClass_of_methodNamed B.named
  have hlocks := B.notSynchronized
  have htab : c.exceptionTable.toList = tableOf [(0, 9, 12, 13)] := vx_table (x := yL_told) B (hts _ List.mem_cons_self)
  have hl := lv_entry ([.ref (ad 0), .int a1, .ref aO]) (n := 4) (Nat.le_of_ble_eq_true rfl)
  rw [lg_entry_eq]
  generalize (lg_sl ([.ref (ad 0), .int a1, .ref aO]) ++ List.replicate (4 - (lg_sl ([.ref (ad 0), .int a1, .ref aO])).length) Slot.unset).toArray = ls at hl ⊢
  have hl : lv_has ls 4 [(0, .ref (ad 0)), (1, .int a1), (2, .ref aO)] := hl
  refine lv_aload_n hx hb dL_told_0 rfl (lv_at hl 2 rfl) ?_
  refine lv_iconst (v := 0) hx hb dL_told_1 (by decide) ?_
  refine lv_aload_n hx hb dL_told_2 rfl (lv_at hl 0 rfl) ?_
  refine lv_iload_n hx hb dL_told_3 rfl (lv_at hl 1 rfl) ?_
  refine cl_thr C (vx_runV (As := [.int a1]) (rest := [.int 0, .ref aO]) ⟨hx, hb, hml, hown, hts⟩ (t_X4_told l ad ck D tt hst hf _) (cwV 1 hts gL_told_X4_told rfl rfl rfl (by decide +kernel) ⟨Nat.le_of_ble_eq_true rfl, Nat.le_of_ble_eq_true rfl⟩) (cx_preV C.l (q0 := 0) (ci := 4) rfl rfl) rfl rfl hl.1 rfl (lv_room (Nat.le_of_ble_eq_true rfl)) dL_told_4 ⟨Nat.le_of_ble_eq_true rfl, Nat.le_of_ble_eq_true rfl⟩) (fun ce q9 H locs C hce hcv hcl => ?_)
  refine cx_catchA (name := xA) (E := xA) hown _ _ htab rfl (by decide) (hts (.classLink RL 13 xA) (by decide +kernel)) C.2.2.2.2.2.2.2.2.2.2.1 hce hcv hcl ?_
  refine W.eq (g2 := F0 m 12 ls [.ref q9]) rfl ?_
  refine lv_astore_n (lv' := [(3, .ref q9), (0, .ref (ad 0)), (1, .int a1), (2, .ref aO)]) hx hb dL_told_12 rfl hl (by decide) rfl (fun ls hl => ?_)
  refine lv_iconst (v := 1) hx hb dL_told_13 (by decide) ?_
  exact cx_iret C hx hb hr hlocks rfl dL_told_14
