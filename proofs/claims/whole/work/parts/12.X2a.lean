/-! ===== X2_count ===== -/
def fX2_count (u : St)  : Option (Int32 × St) := some ((u.1 3), u)
abbrev rmX2_count : Room := { frames := 0, cells := 0, slots := 0, locals := 0 }
set_option maxHeartbeats 4000000 in
set_option maxRecDepth 100000 in
theorem k_X2_count (l : Launch) (ad : Nat → Nat) (ck : Nat → ClassId) (D : va_G) (tt : Nat) {u : St}  {r : Int32} {u' : St} (hf : fX2_count u = some (r, u')) : MI l yX2_count wsX2_count rmX2_count (wA ad ck) ck D tt [.ref (ad 1)] u r u' := by
  intro sz
  refine Met.ofW (cc := cX2_count) (maxL := 1) (ret := (some .int)) (by decide) rfl ?_
  intro p e s m args below meth c s₁ B hml hv
  obtain ⟨rfl, hsz, C⟩ := cx_entry hv
  have hx := B.exec
  have hb := B.bytes
  have hr := B.returns
  have hts := atoms_spec (ws := wsX2_count) B.pre
  have hown : s.vm.findClass RX2 = some m.cls := findClass_of_methodNamed B.named
  have hlocks := B.notSynchronized
  have hl := lv_entry ([.ref (ad 1)]) (n := 1) (Nat.le_of_ble_eq_true rfl)
  rw [lg_entry_eq]
  generalize (lg_sl ([.ref (ad 1)]) ++ List.replicate (1 - (lg_sl ([.ref (ad 1)])).length) Slot.unset).toArray = ls at hl ⊢
  have hl : lv_has ls 1 [(0, .ref (ad 1))] := hl
  unfold fX2_count at hf
  refine lv_aload_n hx hb dX2_count_0 rfl (lv_at hl 0 rfl) ?_
  refine cx_get C hx hb (T := TX2) (N := 4) hts (by decide +kernel) hown 1 rfl rfl 3 (by decide) (hts (.fieldLink RX2 22 "AggregateRows$Terms" "count" "I") (by decide +kernel)) (fun _ h9 => h9) (v := .int (u.1 3)) rfl dX2_count_1 ?_
  exact cx_iret C hx hb hr hlocks hf dX2_count_4
/-! ===== X2_isFull ===== -/
def fX2_isFull (u : St)  : Option (Int32 × St) := (if (u.1 3) < 60 then some (0, u) else some (1, u))
abbrev rmX2_isFull : Room := { frames := 0, cells := 0, slots := 0, locals := 0 }
set_option maxHeartbeats 4000000 in
set_option maxRecDepth 100000 in
theorem k_X2_isFull (l : Launch) (ad : Nat → Nat) (ck : Nat → ClassId) (D : va_G) (tt : Nat) {u : St}  {r : Int32} {u' : St} (hf : fX2_isFull u = some (r, u')) : MI l yX2_isFull wsX2_isFull rmX2_isFull (wA ad ck) ck D tt [.ref (ad 1)] u r u' := by
  intro sz
  refine Met.ofW (cc := cX2_isFull) (maxL := 1) (ret := (some .boolean)) (by decide) rfl ?_
  intro p e s m args below meth c s₁ B hml hv
  obtain ⟨rfl, hsz, C⟩ := cx_entry hv
  have hx := B.exec
  have hb := B.bytes
  have hr := B.returns
  have hts := atoms_spec (ws := wsX2_isFull) B.pre
  have hown : s.vm.findClass RX2 = some m.cls := findClass_of_methodNamed B.named
  have hlocks := B.notSynchronized
  have hl := lv_entry ([.ref (ad 1)]) (n := 1) (Nat.le_of_ble_eq_true rfl)
  rw [lg_entry_eq]
  generalize (lg_sl ([.ref (ad 1)]) ++ List.replicate (1 - (lg_sl ([.ref (ad 1)])).length) Slot.unset).toArray = ls at hl ⊢
  have hl : lv_has ls 1 [(0, .ref (ad 1))] := hl
  unfold fX2_isFull at hf
  refine lv_aload_n hx hb dX2_isFull_0 rfl (lv_at hl 0 rfl) ?_
  refine cx_get C hx hb (T := TX2) (N := 4) hts (by decide +kernel) hown 1 rfl rfl 3 (by decide) (hts (.fieldLink RX2 22 "AggregateRows$Terms" "count" "I") (by decide +kernel)) (fun _ h9 => h9) (v := .int (u.1 3)) rfl dX2_isFull_1 ?_
  refine lv_bipush (v := 60) hx hb dX2_isFull_4 (by decide) ?_
  refine lv_icmp_lt (tgt := 13) hx hb dX2_isFull_6 (by decide) (fun c_1 => ?_) (fun c_1 => ?_)
  · replace hf := (if_pos c_1).symm.trans hf
    refine lv_iconst (v := 0) hx hb dX2_isFull_13 (by decide) ?_
    exact cx_zret C hx hb hr (by decide) hlocks hf dX2_isFull_14
  · replace hf := (if_neg c_1).symm.trans hf
    refine lv_iconst (v := 1) hx hb dX2_isFull_9 (by decide) ?_
    refine lv_goto (tgt := 14) hx hb dX2_isFull_10 (by decide) ?_
    exact cx_zret C hx hb hr (by decide) hlocks hf dX2_isFull_14
/-! ===== X2_has ===== -/
def fX2_has (u : St) (a1 : Int32) : Option (Int32 × St) := (if a1 < 0 then some (0, u) else (if (u.1 3) ≤ a1 then some (0, u) else some (1, u)))
abbrev rmX2_has : Room := { frames := 0, cells := 0, slots := 0, locals := 0 }
set_option maxHeartbeats 4000000 in
set_option maxRecDepth 100000 in
theorem k_X2_has (l : Launch) (ad : Nat → Nat) (ck : Nat → ClassId) (D : va_G) (tt : Nat) {u : St} {a1 : Int32} {r : Int32} {u' : St} (hf : fX2_has u a1 = some (r, u')) : MI l yX2_has wsX2_has rmX2_has (wA ad ck) ck D tt [.ref (ad 1), .int a1] u r u' := by
  intro sz
  refine Met.ofW (cc := cX2_has) (maxL := 2) (ret := (some .boolean)) (by decide) rfl ?_
  intro p e s m args below meth c s₁ B hml hv
  obtain ⟨rfl, hsz, C⟩ := cx_entry hv
  have hx := B.exec
  have hb := B.bytes
  have hr := B.returns
  have hts := atoms_spec (ws := wsX2_has) B.pre
  have hown : s.vm.findClass RX2 = some m.cls := findClass_of_methodNamed B.named
  have hlocks := B.notSynchronized
  have hl := lv_entry ([.ref (ad 1), .int a1]) (n := 2) (Nat.le_of_ble_eq_true rfl)
  rw [lg_entry_eq]
  generalize (lg_sl ([.ref (ad 1), .int a1]) ++ List.replicate (2 - (lg_sl ([.ref (ad 1), .int a1])).length) Slot.unset).toArray = ls at hl ⊢
  have hl : lv_has ls 2 [(0, .ref (ad 1)), (1, .int a1)] := hl
  unfold fX2_has at hf
  refine lv_iload_n hx hb dX2_has_0 rfl (lv_at hl 1 rfl) ?_
  refine lv_if_lt (tgt := 16) hx hb dX2_has_1 (by decide) (fun c_1 => ?_) (fun c_1 => ?_)
  · replace hf := (if_pos c_1).symm.trans hf
    refine lv_iconst (v := 0) hx hb dX2_has_16 (by decide) ?_
    exact cx_zret C hx hb hr (by decide) hlocks hf dX2_has_17
  · replace hf := (if_neg c_1).symm.trans hf
    refine lv_iload_n hx hb dX2_has_4 rfl (lv_at hl 1 rfl) ?_
    refine lv_aload_n hx hb dX2_has_5 rfl (lv_at hl 0 rfl) ?_
    refine cx_get C hx hb (T := TX2) (N := 4) hts (by decide +kernel) hown 1 rfl rfl 3 (by decide) (hts (.fieldLink RX2 22 "AggregateRows$Terms" "count" "I") (by decide +kernel)) (fun _ h9 => h9) (v := .int (u.1 3)) rfl dX2_has_6 ?_
    refine lv_icmp_ge (tgt := 16) hx hb dX2_has_9 (by decide) (fun c_2 => ?_) (fun c_2 => ?_)
    · replace hf := (if_pos c_2).symm.trans hf
      refine lv_iconst (v := 0) hx hb dX2_has_16 (by decide) ?_
      exact cx_zret C hx hb hr (by decide) hlocks hf dX2_has_17
    · replace hf := (if_neg c_2).symm.trans hf
      refine lv_iconst (v := 1) hx hb dX2_has_12 (by decide) ?_
      refine lv_goto (tgt := 17) hx hb dX2_has_13 (by decide) ?_
      exact cx_zret C hx hb hr (by decide) hlocks hf dX2_has_17
/-! ===== X2_isText ===== -/
def fX2_isText (u : St) (a1 : Int32) : Option (Int32 × St) := gd (okI a1 60) ((if (u.2.2 0 a1.toNatClampNeg) = 0 then some (0, u) else some (1, u)))
abbrev rmX2_isText : Room := { frames := 0, cells := 0, slots := 0, locals := 0 }
set_option maxHeartbeats 4000000 in
set_option maxRecDepth 100000 in
theorem k_X2_isText (l : Launch) (ad : Nat → Nat) (ck : Nat → ClassId) (D : va_G) (tt : Nat) {u : St} {a1 : Int32} {r : Int32} {u' : St} (hf : fX2_isText u a1 = some (r, u')) : MI l yX2_isText wsX2_isText rmX2_isText (wA ad ck) ck D tt [.ref (ad 1), .int a1] u r u' := by
  intro sz
  refine Met.ofW (cc := cX2_isText) (maxL := 2) (ret := (some .boolean)) (by decide) rfl ?_
  intro p e s m args below meth c s₁ B hml hv
  obtain ⟨rfl, hsz, C⟩ := cx_entry hv
  have hx := B.exec
  have hb := B.bytes
  have hr := B.returns
  have hts := atoms_spec (ws := wsX2_isText) B.pre
  have hown : s.vm.findClass RX2 = some m.cls := findClass_of_methodNamed B.named
  have hlocks := B.notSynchronized
  have hl := lv_entry ([.ref (ad 1), .int a1]) (n := 2) (Nat.le_of_ble_eq_true rfl)
  rw [lg_entry_eq]
  generalize (lg_sl ([.ref (ad 1), .int a1]) ++ List.replicate (2 - (lg_sl ([.ref (ad 1), .int a1])).length) Slot.unset).toArray = ls at hl ⊢
  have hl : lv_has ls 2 [(0, .ref (ad 1)), (1, .int a1)] := hl
  unfold fX2_isText at hf
  refine lv_aload_n hx hb dX2_isText_0 rfl (lv_at hl 0 rfl) ?_
  refine cx_get C hx hb (T := TX2) (N := 4) hts (by decide +kernel) hown 1 rfl rfl 0 (by decide) (hts (.fieldLink RX2 9 "AggregateRows$Terms" "letters" "[J") (by decide +kernel)) (fun _ h9 => h9) (v := .ref (ad 2)) rfl dX2_isText_1 ?_
  refine lv_iload_n hx hb dX2_isText_4 rfl (lv_at hl 1 rfl) ?_
  obtain ⟨g_1, hf⟩ := gd_some hf
  refine cx_lald C hx hb 2 rfl g_1 dX2_isText_5 ?_
  refine lv_lconst (v := 0) hx hb dX2_isText_6 (by decide) ?_
  refine W.lcmp hx hb dX2_isText_7 ?_
  refine lv_if_eq (tgt := 15) hx hb dX2_isText_8 (by decide) (fun c_2 => ?_) (fun c_2 => ?_)
  · replace hf := (if_pos ((lg_cmp_eq _ _).mp c_2)).symm.trans hf
    refine lv_iconst (v := 0) hx hb dX2_isText_15 (by decide) ?_
    exact cx_zret C hx hb hr (by decide) hlocks hf dX2_isText_16
  · replace hf := (if_neg (fun q => c_2 ((lg_cmp_eq _ _).mpr q))).symm.trans hf
    refine lv_iconst (v := 1) hx hb dX2_isText_11 (by decide) ?_
    refine lv_goto (tgt := 16) hx hb dX2_isText_12 (by decide) ?_
    exact cx_zret C hx hb hr (by decide) hlocks hf dX2_isText_16
/-! ===== X2_find ===== -/
def fX2_find_3  : Nat → Int64 → Int32 → Int32 → Int32 → St → Option (Int32 × St)
  | 0, _, _, _, _, _ => none
  | n3 + 1, x1, x3, x4, x5, w => (if (w.1 3) ≤ x5 then some ((-1), w) else gd (okI x5 60) ((if (w.2.2 0 x5.toNatClampNeg) = x1 then gd (okI x5 60) ((if (w.2.1 0 x5.toNatClampNeg) = x3 then gd (okI x5 60) ((if (w.2.1 1 x5.toNatClampNeg) = x4 then some (x5, w) else lt_ (x5 + 1) (fun x5_10 => fX2_find_3 n3 x1 x3 x4 x5_10 w))) else lt_ (x5 + 1) (fun x5_7 => fX2_find_3 n3 x1 x3 x4 x5_7 w))) else lt_ (x5 + 1) (fun x5_4 => fX2_find_3 n3 x1 x3 x4 x5_4 w))))
def fX2_find (u : St) (a1 : Int64) (a3 : Int32) (a4 : Int32) : Option (Int32 × St) := fX2_find_3 FU a1 a3 a4 0 u
abbrev rmX2_find : Room := { frames := 0, cells := 0, slots := 0, locals := 0 }
set_option maxHeartbeats 4000000 in
set_option maxRecDepth 100000 in
theorem k_X2_find (l : Launch) (ad : Nat → Nat) (ck : Nat → ClassId) (D : va_G) (tt : Nat) {u : St} {a1 : Int64} {a3 : Int32} {a4 : Int32} {r : Int32} {u' : St} (hf : fX2_find u a1 a3 a4 = some (r, u')) : MI l yX2_find wsX2_find rmX2_find (wA ad ck) ck D tt [.ref (ad 1), .long a1, .int a3, .int a4] u r u' := by
  intro sz
  refine Met.ofW (cc := cX2_find) (maxL := 6) (ret := (some .int)) (by decide) rfl ?_
  intro p e s m args below meth c s₁ B hml hv
  obtain ⟨rfl, hsz, C⟩ := cx_entry hv
  have hx := B.exec
  have hb := B.bytes
  have hr := B.returns
  have hts := atoms_spec (ws := wsX2_find) B.pre
  have hown : s.vm.findClass RX2 = some m.cls := findClass_of_methodNamed B.named
  have hlocks := B.notSynchronized
  have J3 : ∀ (n3 : Nat) (x1 : Int64) (x3 : Int32) (x4 : Int32) (x5 : Int32) (w : St) (H : Heap) (locs : List Loc) (ls : Array Slot), fX2_find_3 n3 x1 x3 x4 x5 w = some (r, u') → CX (wA ad ck) ck D tt (va_A (wA ad ck u) sz) s w H locs → lv_has ls 6 [(0, .ref (ad 1)), (1, .long x1), (3, .int x3), (4, .int x4), (5, .int x5)] → W p l e (headSpec wsX2_find rmX2_find).room s m ([.ref (ad 1), .long a1, .int a3, .int a4] : List Value).toArray below meth c H locs 0 0 (MQ below (QI (wA ad ck) D u sz r u') ([.ref (ad 1), .long a1, .int a3, .int a4] : List Value).toArray s 0 0 (va_A (wA ad ck u) sz)) (F0 m 3 ls []) := by
    intro n3
    induction n3 with
    | zero =>
      intro x1 x3 x4 x5 w H locs ls hf
      have hf : (none : Option (Int32 × St)) = some (r, u') := hf
      cases hf
    | succ n3 ih3 =>
      intro x1 x3 x4 x5 w H locs ls hf C hl
      rw [fX2_find_3] at hf
      refine lv_iload hx hb dX2_find_3 (lv_at hl 4 rfl) ?_
      refine lv_aload_n hx hb dX2_find_5 rfl (lv_at hl 0 rfl) ?_
      refine cx_get C hx hb (T := TX2) (N := 4) hts (by decide +kernel) hown 1 rfl rfl 3 (by decide) (hts (.fieldLink RX2 22 "AggregateRows$Terms" "count" "I") (by decide +kernel)) (fun _ h9 => h9) (v := .int (w.1 3)) rfl dX2_find_6 ?_
      refine lv_icmp_ge (tgt := 56) hx hb dX2_find_9 (by decide) (fun c_1 => ?_) (fun c_1 => ?_)
      · replace hf := (if_pos c_1).symm.trans hf
        refine lv_iconst (v := (-1)) hx hb dX2_find_56 (by decide) ?_
        exact cx_iret C hx hb hr hlocks hf dX2_find_57
      · replace hf := (if_neg c_1).symm.trans hf
        refine lv_aload_n hx hb dX2_find_12 rfl (lv_at hl 0 rfl) ?_
        refine cx_get C hx hb (T := TX2) (N := 4) hts (by decide +kernel) hown 1 rfl rfl 0 (by decide) (hts (.fieldLink RX2 9 "AggregateRows$Terms" "letters" "[J") (by decide +kernel)) (fun _ h9 => h9) (v := .ref (ad 2)) rfl dX2_find_13 ?_
        refine lv_iload hx hb dX2_find_16 (lv_at hl 4 rfl) ?_
        obtain ⟨g_2, hf⟩ := gd_some hf
        refine cx_lald C hx hb 2 rfl g_2 dX2_find_18 ?_
        refine lv_lload_n hx hb dX2_find_19 rfl (lv_at hl 1 rfl) ?_
        refine W.lcmp hx hb dX2_find_20 ?_
        refine lv_if_ne (tgt := 50) hx hb dX2_find_21 (by decide) (fun c_3 => ?_) (fun c_3 => ?_)
        · replace hf := (if_neg (fun q => c_3 ((lg_cmp_eq _ _).mpr q))).symm.trans hf
          obtain ⟨x5_4, ex5_4⟩ : ∃ y : Int32, y = x5 + 1 := ⟨_, rfl⟩
          replace hf := lt_at hf ex5_4
          refine lv_iinc (v := x5_4) (lv' := [(5, .int x5_4), (0, .ref (ad 1)), (1, .long x1), (3, .int x3), (4, .int x4)]) hx hb dX2_find_50 hl (k := 4) rfl (by rw [ex5_4]; rfl) (by decide) rfl (fun ls hl => ?_)
          refine lv_goto (tgt := 3) hx hb dX2_find_53 (by decide) ?_
          exact ih3 x1 x3 x4 x5_4 w _ _ _ hf C (lv_sub hl [1, 2, 3, 4, 0] rfl)
        · replace hf := (if_pos ((lg_cmp_eq _ _).mp c_3)).symm.trans hf
          refine lv_aload_n hx hb dX2_find_24 rfl (lv_at hl 0 rfl) ?_
          refine cx_get C hx hb (T := TX2) (N := 4) hts (by decide +kernel) hown 1 rfl rfl 1 (by decide) (hts (.fieldLink RX2 15 "AggregateRows$Terms" "units" "[I") (by decide +kernel)) (fun _ h9 => h9) (v := .ref (ad 3)) rfl dX2_find_25 ?_
          refine lv_iload hx hb dX2_find_28 (lv_at hl 4 rfl) ?_
          obtain ⟨g_5, hf⟩ := gd_some hf
          refine cx_iald C hx hb 3 rfl g_5 dX2_find_30 ?_
          refine lv_iload_n hx hb dX2_find_31 rfl (lv_at hl 2 rfl) ?_
          refine lv_icmp_ne (tgt := 50) hx hb dX2_find_32 (by decide) (fun c_6 => ?_) (fun c_6 => ?_)
          · replace hf := (if_neg c_6).symm.trans hf
            obtain ⟨x5_7, ex5_7⟩ : ∃ y : Int32, y = x5 + 1 := ⟨_, rfl⟩
            replace hf := lt_at hf ex5_7
            refine lv_iinc (v := x5_7) (lv' := [(5, .int x5_7), (0, .ref (ad 1)), (1, .long x1), (3, .int x3), (4, .int x4)]) hx hb dX2_find_50 hl (k := 4) rfl (by rw [ex5_7]; rfl) (by decide) rfl (fun ls hl => ?_)
            refine lv_goto (tgt := 3) hx hb dX2_find_53 (by decide) ?_
            exact ih3 x1 x3 x4 x5_7 w _ _ _ hf C (lv_sub hl [1, 2, 3, 4, 0] rfl)
          · replace hf := (if_pos c_6).symm.trans hf
            refine lv_aload_n hx hb dX2_find_35 rfl (lv_at hl 0 rfl) ?_
            refine cx_get C hx hb (T := TX2) (N := 4) hts (by decide +kernel) hown 1 rfl rfl 2 (by decide) (hts (.fieldLink RX2 19 "AggregateRows$Terms" "scales" "[I") (by decide +kernel)) (fun _ h9 => h9) (v := .ref (ad 4)) rfl dX2_find_36 ?_
            refine lv_iload hx hb dX2_find_39 (lv_at hl 4 rfl) ?_
            obtain ⟨g_8, hf⟩ := gd_some hf
            refine cx_iald C hx hb 4 rfl g_8 dX2_find_41 ?_
            refine lv_iload hx hb dX2_find_42 (lv_at hl 3 rfl) ?_
            refine lv_icmp_ne (tgt := 50) hx hb dX2_find_44 (by decide) (fun c_9 => ?_) (fun c_9 => ?_)
            · replace hf := (if_neg c_9).symm.trans hf
              obtain ⟨x5_10, ex5_10⟩ : ∃ y : Int32, y = x5 + 1 := ⟨_, rfl⟩
              replace hf := lt_at hf ex5_10
              refine lv_iinc (v := x5_10) (lv' := [(5, .int x5_10), (0, .ref (ad 1)), (1, .long x1), (3, .int x3), (4, .int x4)]) hx hb dX2_find_50 hl (k := 4) rfl (by rw [ex5_10]; rfl) (by decide) rfl (fun ls hl => ?_)
              refine lv_goto (tgt := 3) hx hb dX2_find_53 (by decide) ?_
              exact ih3 x1 x3 x4 x5_10 w _ _ _ hf C (lv_sub hl [1, 2, 3, 4, 0] rfl)
            · replace hf := (if_pos c_9).symm.trans hf
              refine lv_iload hx hb dX2_find_47 (lv_at hl 4 rfl) ?_
              exact cx_iret C hx hb hr hlocks hf dX2_find_49
  have hl := lv_entry ([.ref (ad 1), .long a1, .int a3, .int a4]) (n := 6) (Nat.le_of_ble_eq_true rfl)
  rw [lg_entry_eq]
  generalize (lg_sl ([.ref (ad 1), .long a1, .int a3, .int a4]) ++ List.replicate (6 - (lg_sl ([.ref (ad 1), .long a1, .int a3, .int a4])).length) Slot.unset).toArray = ls at hl ⊢
  have hl : lv_has ls 6 [(0, .ref (ad 1)), (1, .long a1), (3, .int a3), (4, .int a4)] := hl
  unfold fX2_find at hf
  refine lv_iconst (v := 0) hx hb dX2_find_0 (by decide) ?_
  refine lv_istore (lv' := [(5, .int 0), (0, .ref (ad 1)), (1, .long a1), (3, .int a3), (4, .int a4)]) hx hb dX2_find_1 hl (by decide) rfl (fun ls hl => ?_)
  exact J3 FU a1 a3 a4 0 u _ _ _ hf C (lv_sub hl [1, 2, 3, 4, 0] rfl)
/-! ===== X2_add ===== -/
def fX2_add (u : St) (a1 : Int64) (a3 : Int32) (a4 : Int32) : Option (Int32 × St) := lt_ (u.1 3) (fun x5_1 => gd (okI x5_1 60) (lt_ (sJ u 0 x5_1.toNatClampNeg a1) (fun u_3 => gd (okI x5_1 60) (lt_ (sI u_3 0 x5_1.toNatClampNeg a3) (fun u_5 => gd (okI x5_1 60) (lt_ (sI u_5 1 x5_1.toNatClampNeg a4) (fun u_7 => lt_ (sS u_7 3 ((u_7.1 3) + 1)) (fun u_8 => some (x5_1, u_8)))))))))
abbrev rmX2_add : Room := { frames := 0, cells := 0, slots := 0, locals := 0 }
set_option maxHeartbeats 4000000 in
set_option maxRecDepth 100000 in
theorem k_X2_add (l : Launch) (ad : Nat → Nat) (ck : Nat → ClassId) (D : va_G) (tt : Nat) {u : St} {a1 : Int64} {a3 : Int32} {a4 : Int32} {r : Int32} {u' : St} (hf : fX2_add u a1 a3 a4 = some (r, u')) : MI l yX2_add wsX2_add rmX2_add (wA ad ck) ck D tt [.ref (ad 1), .long a1, .int a3, .int a4] u r u' := by
  intro sz
  refine Met.ofW (cc := cX2_add) (maxL := 6) (ret := (some .int)) (by decide) rfl ?_
  intro p e s m args below meth c s₁ B hml hv
  obtain ⟨rfl, hsz, C⟩ := cx_entry hv
  have hx := B.exec
  have hb := B.bytes
  have hr := B.returns
  have hts := atoms_spec (ws := wsX2_add) B.pre
  have hown : s.vm.findClass RX2 = some m.cls := findClass_of_methodNamed B.named
  have hlocks := B.notSynchronized
  have hl := lv_entry ([.ref (ad 1), .long a1, .int a3, .int a4]) (n := 6) (Nat.le_of_ble_eq_true rfl)
  rw [lg_entry_eq]
  generalize (lg_sl ([.ref (ad 1), .long a1, .int a3, .int a4]) ++ List.replicate (6 - (lg_sl ([.ref (ad 1), .long a1, .int a3, .int a4])).length) Slot.unset).toArray = ls at hl ⊢
  have hl : lv_has ls 6 [(0, .ref (ad 1)), (1, .long a1), (3, .int a3), (4, .int a4)] := hl
  unfold fX2_add at hf
  refine lv_aload_n hx hb dX2_add_0 rfl (lv_at hl 0 rfl) ?_
  refine cx_get C hx hb (T := TX2) (N := 4) hts (by decide +kernel) hown 1 rfl rfl 3 (by decide) (hts (.fieldLink RX2 22 "AggregateRows$Terms" "count" "I") (by decide +kernel)) (fun _ h9 => h9) (v := .int (u.1 3)) rfl dX2_add_1 ?_
  refine lv_topi (fun x5_1 ex5_1 => ?_)
  replace hf := lt_at hf ex5_1
  refine lv_istore (lv' := [(5, .int x5_1), (0, .ref (ad 1)), (1, .long a1), (3, .int a3), (4, .int a4)]) hx hb dX2_add_4 hl (by decide) rfl (fun ls hl => ?_)
  refine lv_aload_n hx hb dX2_add_6 rfl (lv_at hl 1 rfl) ?_
  refine cx_get C hx hb (T := TX2) (N := 4) hts (by decide +kernel) hown 1 rfl rfl 0 (by decide) (hts (.fieldLink RX2 9 "AggregateRows$Terms" "letters" "[J") (by decide +kernel)) (fun _ h9 => h9) (v := .ref (ad 2)) rfl dX2_add_7 ?_
  refine lv_iload hx hb dX2_add_10 (lv_at hl 0 rfl) ?_
  refine lv_lload_n hx hb dX2_add_12 rfl (lv_at hl 2 rfl) ?_
  obtain ⟨g_2, hf⟩ := gd_some hf
  refine cx_last C hx hb 2 rfl g_2 (u1 := sJ u 0 x5_1.toNatClampNeg a1) rfl dX2_add_13 (fun u_3 H locs eu_3 C => ?_)
  replace hf := lt_at hf eu_3
  refine lv_aload_n hx hb dX2_add_14 rfl (lv_at hl 1 rfl) ?_
  refine cx_get C hx hb (T := TX2) (N := 4) hts (by decide +kernel) hown 1 rfl rfl 1 (by decide) (hts (.fieldLink RX2 15 "AggregateRows$Terms" "units" "[I") (by decide +kernel)) (fun _ h9 => h9) (v := .ref (ad 3)) rfl dX2_add_15 ?_
  refine lv_iload hx hb dX2_add_18 (lv_at hl 0 rfl) ?_
  refine lv_iload_n hx hb dX2_add_20 rfl (lv_at hl 3 rfl) ?_
  obtain ⟨g_4, hf⟩ := gd_some hf
  refine cx_iast C hx hb 3 rfl g_4 (u1 := sI u_3 0 x5_1.toNatClampNeg a3) rfl dX2_add_21 (fun u_5 H locs eu_5 C => ?_)
  replace hf := lt_at hf eu_5
  refine lv_aload_n hx hb dX2_add_22 rfl (lv_at hl 1 rfl) ?_
  refine cx_get C hx hb (T := TX2) (N := 4) hts (by decide +kernel) hown 1 rfl rfl 2 (by decide) (hts (.fieldLink RX2 19 "AggregateRows$Terms" "scales" "[I") (by decide +kernel)) (fun _ h9 => h9) (v := .ref (ad 4)) rfl dX2_add_23 ?_
  refine lv_iload hx hb dX2_add_26 (lv_at hl 0 rfl) ?_
  refine lv_iload hx hb dX2_add_28 (lv_at hl 4 rfl) ?_
  obtain ⟨g_6, hf⟩ := gd_some hf
  refine cx_iast C hx hb 4 rfl g_6 (u1 := sI u_5 1 x5_1.toNatClampNeg a4) rfl dX2_add_30 (fun u_7 H locs eu_7 C => ?_)
  replace hf := lt_at hf eu_7
  refine lv_aload_n hx hb dX2_add_31 rfl (lv_at hl 1 rfl) ?_
  refine lv_dup hx hb dX2_add_32 rfl ?_
  refine cx_get C hx hb (T := TX2) (N := 4) hts (by decide +kernel) hown 1 rfl rfl 3 (by decide) (hts (.fieldLink RX2 22 "AggregateRows$Terms" "count" "I") (by decide +kernel)) (fun _ h9 => h9) (v := .int (u_7.1 3)) rfl dX2_add_33 ?_
  refine lv_iconst (v := 1) hx hb dX2_add_36 (by decide) ?_
  refine lv_iadd hx hb dX2_add_37 ?_
  refine cx_puti C hx hb (T := TX2) (N := 4) hts (by decide +kernel) tyX2 tyX2_ok nmX2 hown 1 rfl rfl 3 (by decide) (hts (.fieldLink RX2 22 "AggregateRows$Terms" "count" "I") (by decide +kernel)) (fun _ h9 => h9) rfl (by decide +kernel) (Nat.le_of_ble_eq_true rfl) (u1 := sS u_7 3 ((u_7.1 3) + 1)) rfl dX2_add_38 (fun u_8 H locs eu_8 C => ?_)
  replace hf := lt_at hf eu_8
  refine lv_iload hx hb dX2_add_41 (lv_at hl 0 rfl) ?_
  exact cx_iret C hx hb hr hlocks hf dX2_add_43
