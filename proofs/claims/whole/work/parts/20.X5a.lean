/-! ===== X5_thrown ===== -/
def fX5_thrown (u : St)  : Option (Int32 × St) := some ((u.1 0), u)
abbrev rmX5_thrown : Room := { frames := 0, cells := 0, slots := 0, locals := 0 }
set_option maxHeartbeats 4000000 in
set_option maxRecDepth 100000 in
theorem k_X5_thrown (l : Launch) (ad : Nat → Nat) (ck : Nat → ClassId) (D : va_G) (tt : Nat) {u : St}  {r : Int32} {u' : St} (hf : fX5_thrown u = some (r, u')) : MI l yX5_thrown wsX5_thrown rmX5_thrown (wM ad ck) ck D tt [.ref (ad 0)] u r u' := by
  intro sz
  refine Met.ofW (cc := cX5_thrown) (maxL := 1) (ret := (some .int)) (by decide) rfl ?_
  intro p e s m args below meth c s₁ B hml hv
  obtain ⟨rfl, hsz, C⟩ := cx_entry hv
  have hx := B.exec
  have hb := B.bytes
  have hr := B.returns
  have hts := atoms_spec (ws := wsX5_thrown) B.pre
  have hown : s.vm.findClass RX5 = some m.cls := findClass_of_methodNamed B.named
  have hlocks := B.notSynchronized
  have hl := lv_entry ([.ref (ad 0)]) (n := 1) (Nat.le_of_ble_eq_true rfl)
  rw [lg_entry_eq]
  generalize (lg_sl ([.ref (ad 0)]) ++ List.replicate (1 - (lg_sl ([.ref (ad 0)])).length) Slot.unset).toArray = ls at hl ⊢
  have hl : lv_has ls 1 [(0, .ref (ad 0))] := hl
  unfold fX5_thrown at hf
  refine lv_aload_n hx hb dX5_thrown_0 rfl (lv_at hl 0 rfl) ?_
  refine cx_get C hx hb (T := TX5) (N := 28) hts (by decide +kernel) hown 0 rfl rfl 0 (by decide) (hts (.fieldLink RX5 72 "AggregateRowsModel" "fault" "I") (by decide +kernel)) (fun _ h9 => h9) (v := .int (u.1 0)) rfl dX5_thrown_1 ?_
  exact cx_iret C hx hb hr hlocks hf dX5_thrown_4
/-! ===== X5_within ===== -/
def fX5_within (u : St) (a0 : Int64) (a2 : Int64) (a4 : Int64) : Option (Int32 × St) := (if a0 < a2 then some (0, u) else (if a4 < a0 then some (0, u) else some (1, u)))
abbrev rmX5_within : Room := { frames := 0, cells := 0, slots := 0, locals := 0 }
set_option maxHeartbeats 4000000 in
set_option maxRecDepth 100000 in
theorem k_X5_within (l : Launch) (ad : Nat → Nat) (ck : Nat → ClassId) (D : va_G) (tt : Nat) {u : St} {a0 : Int64} {a2 : Int64} {a4 : Int64} {r : Int32} {u' : St} (hf : fX5_within u a0 a2 a4 = some (r, u')) : MI l yX5_within wsX5_within rmX5_within (wM ad ck) ck D tt [.long a0, .long a2, .long a4] u r u' := by
  intro sz
  refine Met.ofW (cc := cX5_within) (maxL := 6) (ret := (some .boolean)) (by decide) rfl ?_
  intro p e s m args below meth c s₁ B hml hv
  obtain ⟨rfl, hsz, C⟩ := cx_entry hv
  have hx := B.exec
  have hb := B.bytes
  have hr := B.returns
  have hts := atoms_spec (ws := wsX5_within) B.pre
  have hown : s.vm.findClass RX5 = some m.cls := findClass_of_methodNamed B.named
  have hlocks := B.notSynchronized
  have hl := lv_entry ([.long a0, .long a2, .long a4]) (n := 6) (Nat.le_of_ble_eq_true rfl)
  rw [lg_entry_eq]
  generalize (lg_sl ([.long a0, .long a2, .long a4]) ++ List.replicate (6 - (lg_sl ([.long a0, .long a2, .long a4])).length) Slot.unset).toArray = ls at hl ⊢
  have hl : lv_has ls 6 [(0, .long a0), (2, .long a2), (4, .long a4)] := hl
  unfold fX5_within at hf
  refine lv_lload_n hx hb dX5_within_0 rfl (lv_at hl 0 rfl) ?_
  refine lv_lload_n hx hb dX5_within_1 rfl (lv_at hl 1 rfl) ?_
  refine W.lcmp hx hb dX5_within_2 ?_
  refine lv_if_lt (tgt := 17) hx hb dX5_within_3 (by decide) (fun c_1 => ?_) (fun c_1 => ?_)
  · replace hf := (if_pos ((lg_cmp_lt _ _).mp c_1)).symm.trans hf
    refine lv_iconst (v := 0) hx hb dX5_within_17 (by decide) ?_
    exact cx_zret C hx hb hr (by decide) hlocks hf dX5_within_18
  · replace hf := (if_neg (fun q => c_1 ((lg_cmp_lt _ _).mpr q))).symm.trans hf
    refine lv_lload_n hx hb dX5_within_6 rfl (lv_at hl 0 rfl) ?_
    refine lv_lload hx hb dX5_within_7 (lv_at hl 2 rfl) ?_
    refine W.lcmp hx hb dX5_within_9 ?_
    refine lv_if_gt (tgt := 17) hx hb dX5_within_10 (by decide) (fun c_2 => ?_) (fun c_2 => ?_)
    · replace hf := (if_pos ((lg_cmp_gt _ _).mp c_2)).symm.trans hf
      refine lv_iconst (v := 0) hx hb dX5_within_17 (by decide) ?_
      exact cx_zret C hx hb hr (by decide) hlocks hf dX5_within_18
    · replace hf := (if_neg (fun q => c_2 ((lg_cmp_gt _ _).mpr q))).symm.trans hf
      refine lv_iconst (v := 1) hx hb dX5_within_13 (by decide) ?_
      refine lv_goto (tgt := 18) hx hb dX5_within_14 (by decide) ?_
      exact cx_zret C hx hb hr (by decide) hlocks hf dX5_within_18
/-! ===== X5_number ===== -/
def fX5_number_106  (x1 : Int32) (x2 : Int32) (y1 : Int32) (w : St) : Option (Int32 × St) := lt_ (sS w 0 y1) (fun u_1 => (if (u_1.1 0) ≤ 0 then gd (okI (u_1.1 1) 60) (lt_ (sI u_1 0 (u_1.1 1).toNatClampNeg (vp_nar .boolean 0)) (fun u_4 => gd (okI (u_4.1 1) 60) (lt_ (sI u_4 1 (u_4.1 1).toNatClampNeg x1) (fun u_6 => gd (okI (u_6.1 1) 60) (lt_ (sI u_6 2 (u_6.1 1).toNatClampNeg x2) (fun u_8 => lt_ (sS u_8 1 ((u_8.1 1) + 1)) (fun u_9 => some (((u_9.1 1) - 1), u_9)))))))) else some (0, u_1)))
def fX5_number_46  : Nat → Int32 → Int32 → Int32 → St → Option (Int32 × St)
  | 0, _, _, _, _ => none
  | n46 + 1, x1, x2, x3, w => (if (w.1 1) ≤ x3 then (if (w.1 1) = 60 then fX5_number_106 x1 x2 2 w else fX5_number_106 x1 x2 0 w) else gd (okI x3 60) ((if (w.2.1 0 x3.toNatClampNeg) = 0 then gd (okI x3 60) ((if (w.2.1 1 x3.toNatClampNeg) = x1 then gd (okI x3 60) ((if (w.2.1 2 x3.toNatClampNeg) = x2 then some (x3, w) else lt_ (x3 + 1) (fun x3_11 => fX5_number_46 n46 x1 x2 x3_11 w))) else lt_ (x3 + 1) (fun x3_8 => fX5_number_46 n46 x1 x2 x3_8 w))) else lt_ (x3 + 1) (fun x3_5 => fX5_number_46 n46 x1 x2 x3_5 w))))
def fX5_number_32  (x1 : Int32) (x2 : Int32) (y1 : Int32) (w : St) : Option (Int32 × St) := lt_ (sS w 0 y1) (fun u_1 => (if (u_1.1 0) ≤ 0 then fX5_number_46 FU x1 x2 0 u_1 else some (0, u_1)))
def fX5_number (u : St) (a1 : Int32) (a2 : Int32) : Option (Int32 × St) := bnd (fX5_within u (a1.toInt64) (-1000000) 1000000) (fun r_2 u_3 => (if r_2 = 0 then fX5_number_32 a1 a2 1 u_3 else bnd (fX5_within u_3 (a2.toInt64) 0 3) (fun r_6 u_7 => (if r_6 = 0 then fX5_number_32 a1 a2 1 u_7 else fX5_number_32 a1 a2 0 u_7))))
abbrev rmX5_number : Room := { frames := 1, cells := 0, slots := 0, locals := 25 }
set_option maxHeartbeats 4000000 in
set_option maxRecDepth 100000 in
theorem k_X5_number (l : Launch) (ad : Nat → Nat) (ck : Nat → ClassId) (D : va_G) (tt : Nat) {u : St} {a1 : Int32} {a2 : Int32} {r : Int32} {u' : St} (hf : fX5_number u a1 a2 = some (r, u')) : MI l yX5_number wsX5_number rmX5_number (wM ad ck) ck D tt [.ref (ad 0), .int a1, .int a2] u r u' := by
  intro sz
  refine Met.ofW (cc := cX5_number) (maxL := 4) (ret := (some .int)) (by decide) rfl ?_
  intro p e s m args below meth c s₁ B hml hv
  obtain ⟨rfl, hsz, C⟩ := cx_entry hv
  have hx := B.exec
  have hb := B.bytes
  have hr := B.returns
  have hts := atoms_spec (ws := wsX5_number) B.pre
  have hown : s.vm.findClass RX5 = some m.cls := findClass_of_methodNamed B.named
  have hlocks := B.notSynchronized
  have J106 : ∀ (x1 : Int32) (x2 : Int32) (y1 : Int32) (w : St) (H : Heap) (locs : List Loc) (ls : Array Slot), fX5_number_106 x1 x2 y1 w = some (r, u') → CX (wM ad ck) ck D tt (va_A (wM ad ck u) sz) s w H locs → lv_has ls 4 [(0, .ref (ad 0)), (1, .int x1), (2, .int x2)] → W p l e (headSpec wsX5_number rmX5_number).room s m ([.ref (ad 0), .int a1, .int a2] : List Value).toArray below meth c H locs 0 0 (MQ below (QI (wM ad ck) D u sz r u') ([.ref (ad 0), .int a1, .int a2] : List Value).toArray s 0 0 (va_A (wM ad ck u) sz)) (F0 m 106 ls [.int y1, .ref (ad 0)]) := by
    intro x1 x2 y1 w H locs ls hf C hl
    unfold fX5_number_106 at hf
    refine cx_puti C hx hb (T := TX5) (N := 28) hts (by decide +kernel) tyX5 tyX5_ok nmX5 hown 0 rfl rfl 0 (by decide) (hts (.fieldLink RX5 72 "AggregateRowsModel" "fault" "I") (by decide +kernel)) (fun _ h9 => h9) rfl (by decide +kernel) (Nat.le_of_ble_eq_true rfl) (u1 := sS w 0 y1) rfl dX5_number_106 (fun u_1 H locs eu_1 C => ?_)
    replace hf := lt_at hf eu_1
    refine lv_aload_n hx hb dX5_number_109 rfl (lv_at hl 0 rfl) ?_
    refine cx_get C hx hb (T := TX5) (N := 28) hts (by decide +kernel) hown 0 rfl rfl 0 (by decide) (hts (.fieldLink RX5 72 "AggregateRowsModel" "fault" "I") (by decide +kernel)) (fun _ h9 => h9) (v := .int (u_1.1 0)) rfl dX5_number_110 ?_
    refine lv_if_le (tgt := 118) hx hb dX5_number_113 (by decide) (fun c_2 => ?_) (fun c_2 => ?_)
    · replace hf := (if_pos c_2).symm.trans hf
      refine lv_aload_n hx hb dX5_number_118 rfl (lv_at hl 0 rfl) ?_
      refine cx_get C hx hb (T := TX5) (N := 28) hts (by decide +kernel) hown 0 rfl rfl 2 (by decide) (hts (.fieldLink RX5 7 "AggregateRowsModel" "isText" "[Z") (by decide +kernel)) (fun _ h9 => h9) (v := .ref (ad 1)) rfl dX5_number_119 ?_
      refine lv_aload_n hx hb dX5_number_122 rfl (lv_at hl 0 rfl) ?_
      refine cx_get C hx hb (T := TX5) (N := 28) hts (by decide +kernel) hown 0 rfl rfl 1 (by decide) (hts (.fieldLink RX5 86 "AggregateRowsModel" "terms" "I") (by decide +kernel)) (fun _ h9 => h9) (v := .int (u_1.1 1)) rfl dX5_number_123 ?_
      refine lv_iconst (v := 0) hx hb dX5_number_126 (by decide) ?_
      obtain ⟨g_3, hf⟩ := gd_some hf
      refine cx_zast C hx hb 1 rfl g_3 (u1 := sI u_1 0 (u_1.1 1).toNatClampNeg (vp_nar .boolean 0)) rfl dX5_number_127 (fun u_4 H locs eu_4 C => ?_)
      replace hf := lt_at hf eu_4
      refine lv_aload_n hx hb dX5_number_128 rfl (lv_at hl 0 rfl) ?_
      refine cx_get C hx hb (T := TX5) (N := 28) hts (by decide +kernel) hown 0 rfl rfl 3 (by decide) (hts (.fieldLink RX5 13 "AggregateRowsModel" "units" "[I") (by decide +kernel)) (fun _ h9 => h9) (v := .ref (ad 2)) rfl dX5_number_129 ?_
      refine lv_aload_n hx hb dX5_number_132 rfl (lv_at hl 0 rfl) ?_
      refine cx_get C hx hb (T := TX5) (N := 28) hts (by decide +kernel) hown 0 rfl rfl 1 (by decide) (hts (.fieldLink RX5 86 "AggregateRowsModel" "terms" "I") (by decide +kernel)) (fun _ h9 => h9) (v := .int (u_4.1 1)) rfl dX5_number_133 ?_
      refine lv_iload_n hx hb dX5_number_136 rfl (lv_at hl 1 rfl) ?_
      obtain ⟨g_5, hf⟩ := gd_some hf
      refine cx_iast C hx hb 2 rfl g_5 (u1 := sI u_4 1 (u_4.1 1).toNatClampNeg x1) rfl dX5_number_137 (fun u_6 H locs eu_6 C => ?_)
      replace hf := lt_at hf eu_6
      refine lv_aload_n hx hb dX5_number_138 rfl (lv_at hl 0 rfl) ?_
      refine cx_get C hx hb (T := TX5) (N := 28) hts (by decide +kernel) hown 0 rfl rfl 4 (by decide) (hts (.fieldLink RX5 17 "AggregateRowsModel" "scales" "[I") (by decide +kernel)) (fun _ h9 => h9) (v := .ref (ad 3)) rfl dX5_number_139 ?_
      refine lv_aload_n hx hb dX5_number_142 rfl (lv_at hl 0 rfl) ?_
      refine cx_get C hx hb (T := TX5) (N := 28) hts (by decide +kernel) hown 0 rfl rfl 1 (by decide) (hts (.fieldLink RX5 86 "AggregateRowsModel" "terms" "I") (by decide +kernel)) (fun _ h9 => h9) (v := .int (u_6.1 1)) rfl dX5_number_143 ?_
      refine lv_iload_n hx hb dX5_number_146 rfl (lv_at hl 2 rfl) ?_
      obtain ⟨g_7, hf⟩ := gd_some hf
      refine cx_iast C hx hb 3 rfl g_7 (u1 := sI u_6 2 (u_6.1 1).toNatClampNeg x2) rfl dX5_number_147 (fun u_8 H locs eu_8 C => ?_)
      replace hf := lt_at hf eu_8
      refine lv_aload_n hx hb dX5_number_148 rfl (lv_at hl 0 rfl) ?_
      refine lv_dup hx hb dX5_number_149 rfl ?_
      refine cx_get C hx hb (T := TX5) (N := 28) hts (by decide +kernel) hown 0 rfl rfl 1 (by decide) (hts (.fieldLink RX5 86 "AggregateRowsModel" "terms" "I") (by decide +kernel)) (fun _ h9 => h9) (v := .int (u_8.1 1)) rfl dX5_number_150 ?_
      refine lv_iconst (v := 1) hx hb dX5_number_153 (by decide) ?_
      refine lv_iadd hx hb dX5_number_154 ?_
      refine cx_puti C hx hb (T := TX5) (N := 28) hts (by decide +kernel) tyX5 tyX5_ok nmX5 hown 0 rfl rfl 1 (by decide) (hts (.fieldLink RX5 86 "AggregateRowsModel" "terms" "I") (by decide +kernel)) (fun _ h9 => h9) rfl (by decide +kernel) (Nat.le_of_ble_eq_true rfl) (u1 := sS u_8 1 ((u_8.1 1) + 1)) rfl dX5_number_155 (fun u_9 H locs eu_9 C => ?_)
      replace hf := lt_at hf eu_9
      refine lv_aload_n hx hb dX5_number_158 rfl (lv_at hl 0 rfl) ?_
      refine cx_get C hx hb (T := TX5) (N := 28) hts (by decide +kernel) hown 0 rfl rfl 1 (by decide) (hts (.fieldLink RX5 86 "AggregateRowsModel" "terms" "I") (by decide +kernel)) (fun _ h9 => h9) (v := .int (u_9.1 1)) rfl dX5_number_159 ?_
      refine lv_iconst (v := 1) hx hb dX5_number_162 (by decide) ?_
      refine lv_isub hx hb dX5_number_163 ?_
      exact cx_iret C hx hb hr hlocks hf dX5_number_164
    · replace hf := (if_neg c_2).symm.trans hf
      refine lv_iconst (v := 0) hx hb dX5_number_116 (by decide) ?_
      exact cx_iret C hx hb hr hlocks hf dX5_number_117
  have J46 : ∀ (n46 : Nat) (x1 : Int32) (x2 : Int32) (x3 : Int32) (w : St) (H : Heap) (locs : List Loc) (ls : Array Slot), fX5_number_46 n46 x1 x2 x3 w = some (r, u') → CX (wM ad ck) ck D tt (va_A (wM ad ck u) sz) s w H locs → lv_has ls 4 [(0, .ref (ad 0)), (1, .int x1), (2, .int x2), (3, .int x3)] → W p l e (headSpec wsX5_number rmX5_number).room s m ([.ref (ad 0), .int a1, .int a2] : List Value).toArray below meth c H locs 0 0 (MQ below (QI (wM ad ck) D u sz r u') ([.ref (ad 0), .int a1, .int a2] : List Value).toArray s 0 0 (va_A (wM ad ck u) sz)) (F0 m 46 ls []) := by
    intro n46
    induction n46 with
    | zero =>
      intro x1 x2 x3 w H locs ls hf
      have hf : (none : Option (Int32 × St)) = some (r, u') := hf
      cases hf
    | succ n46 ih46 =>
      intro x1 x2 x3 w H locs ls hf C hl
      rw [fX5_number_46] at hf
      refine lv_iload_n hx hb dX5_number_46 rfl (lv_at hl 3 rfl) ?_
      refine lv_aload_n hx hb dX5_number_47 rfl (lv_at hl 0 rfl) ?_
      refine cx_get C hx hb (T := TX5) (N := 28) hts (by decide +kernel) hown 0 rfl rfl 1 (by decide) (hts (.fieldLink RX5 86 "AggregateRowsModel" "terms" "I") (by decide +kernel)) (fun _ h9 => h9) (v := .int (w.1 1)) rfl dX5_number_48 ?_
      refine lv_icmp_ge (tgt := 91) hx hb dX5_number_51 (by decide) (fun c_1 => ?_) (fun c_1 => ?_)
      · replace hf := (if_pos c_1).symm.trans hf
        refine lv_aload_n hx hb dX5_number_91 rfl (lv_at hl 0 rfl) ?_
        refine lv_aload_n hx hb dX5_number_92 rfl (lv_at hl 0 rfl) ?_
        refine cx_get C hx hb (T := TX5) (N := 28) hts (by decide +kernel) hown 0 rfl rfl 1 (by decide) (hts (.fieldLink RX5 86 "AggregateRowsModel" "terms" "I") (by decide +kernel)) (fun _ h9 => h9) (v := .int (w.1 1)) rfl dX5_number_93 ?_
        refine lv_bipush (v := 60) hx hb dX5_number_96 (by decide) ?_
        refine lv_icmp_ne (tgt := 105) hx hb dX5_number_98 (by decide) (fun c_2 => ?_) (fun c_2 => ?_)
        · replace hf := (if_neg c_2).symm.trans hf
          refine lv_iconst (v := 0) hx hb dX5_number_105 (by decide) ?_
          exact J106 x1 x2 0 w _ _ _ hf C (lv_sub hl [0, 1, 2] rfl)
        · replace hf := (if_pos c_2).symm.trans hf
          refine lv_iconst (v := 2) hx hb dX5_number_101 (by decide) ?_
          refine lv_goto (tgt := 106) hx hb dX5_number_102 (by decide) ?_
          exact J106 x1 x2 2 w _ _ _ hf C (lv_sub hl [0, 1, 2] rfl)
      · replace hf := (if_neg c_1).symm.trans hf
        refine lv_aload_n hx hb dX5_number_54 rfl (lv_at hl 0 rfl) ?_
        refine cx_get C hx hb (T := TX5) (N := 28) hts (by decide +kernel) hown 0 rfl rfl 2 (by decide) (hts (.fieldLink RX5 7 "AggregateRowsModel" "isText" "[Z") (by decide +kernel)) (fun _ h9 => h9) (v := .ref (ad 1)) rfl dX5_number_55 ?_
        refine lv_iload_n hx hb dX5_number_58 rfl (lv_at hl 3 rfl) ?_
        obtain ⟨g_3, hf⟩ := gd_some hf
        refine cx_zald C hx hb 1 rfl g_3 dX5_number_59 ?_
        refine lv_if_ne (tgt := 85) hx hb dX5_number_60 (by decide) (fun c_4 => ?_) (fun c_4 => ?_)
        · replace hf := (if_neg c_4).symm.trans hf
          obtain ⟨x3_5, ex3_5⟩ : ∃ y : Int32, y = x3 + 1 := ⟨_, rfl⟩
          replace hf := lt_at hf ex3_5
          refine lv_iinc (v := x3_5) (lv' := [(3, .int x3_5), (0, .ref (ad 0)), (1, .int x1), (2, .int x2)]) hx hb dX5_number_85 hl (k := 3) rfl (by rw [ex3_5]; rfl) (by decide) rfl (fun ls hl => ?_)
          refine lv_goto (tgt := 46) hx hb dX5_number_88 (by decide) ?_
          exact ih46 x1 x2 x3_5 w _ _ _ hf C (lv_sub hl [1, 2, 3, 0] rfl)
        · replace hf := (if_pos c_4).symm.trans hf
          refine lv_aload_n hx hb dX5_number_63 rfl (lv_at hl 0 rfl) ?_
          refine cx_get C hx hb (T := TX5) (N := 28) hts (by decide +kernel) hown 0 rfl rfl 3 (by decide) (hts (.fieldLink RX5 13 "AggregateRowsModel" "units" "[I") (by decide +kernel)) (fun _ h9 => h9) (v := .ref (ad 2)) rfl dX5_number_64 ?_
          refine lv_iload_n hx hb dX5_number_67 rfl (lv_at hl 3 rfl) ?_
          obtain ⟨g_6, hf⟩ := gd_some hf
          refine cx_iald C hx hb 2 rfl g_6 dX5_number_68 ?_
          refine lv_iload_n hx hb dX5_number_69 rfl (lv_at hl 1 rfl) ?_
          refine lv_icmp_ne (tgt := 85) hx hb dX5_number_70 (by decide) (fun c_7 => ?_) (fun c_7 => ?_)
          · replace hf := (if_neg c_7).symm.trans hf
            obtain ⟨x3_8, ex3_8⟩ : ∃ y : Int32, y = x3 + 1 := ⟨_, rfl⟩
            replace hf := lt_at hf ex3_8
            refine lv_iinc (v := x3_8) (lv' := [(3, .int x3_8), (0, .ref (ad 0)), (1, .int x1), (2, .int x2)]) hx hb dX5_number_85 hl (k := 3) rfl (by rw [ex3_8]; rfl) (by decide) rfl (fun ls hl => ?_)
            refine lv_goto (tgt := 46) hx hb dX5_number_88 (by decide) ?_
            exact ih46 x1 x2 x3_8 w _ _ _ hf C (lv_sub hl [1, 2, 3, 0] rfl)
          · replace hf := (if_pos c_7).symm.trans hf
            refine lv_aload_n hx hb dX5_number_73 rfl (lv_at hl 0 rfl) ?_
            refine cx_get C hx hb (T := TX5) (N := 28) hts (by decide +kernel) hown 0 rfl rfl 4 (by decide) (hts (.fieldLink RX5 17 "AggregateRowsModel" "scales" "[I") (by decide +kernel)) (fun _ h9 => h9) (v := .ref (ad 3)) rfl dX5_number_74 ?_
            refine lv_iload_n hx hb dX5_number_77 rfl (lv_at hl 3 rfl) ?_
            obtain ⟨g_9, hf⟩ := gd_some hf
            refine cx_iald C hx hb 3 rfl g_9 dX5_number_78 ?_
            refine lv_iload_n hx hb dX5_number_79 rfl (lv_at hl 2 rfl) ?_
            refine lv_icmp_ne (tgt := 85) hx hb dX5_number_80 (by decide) (fun c_10 => ?_) (fun c_10 => ?_)
            · replace hf := (if_neg c_10).symm.trans hf
              obtain ⟨x3_11, ex3_11⟩ : ∃ y : Int32, y = x3 + 1 := ⟨_, rfl⟩
              replace hf := lt_at hf ex3_11
              refine lv_iinc (v := x3_11) (lv' := [(3, .int x3_11), (0, .ref (ad 0)), (1, .int x1), (2, .int x2)]) hx hb dX5_number_85 hl (k := 3) rfl (by rw [ex3_11]; rfl) (by decide) rfl (fun ls hl => ?_)
              refine lv_goto (tgt := 46) hx hb dX5_number_88 (by decide) ?_
              exact ih46 x1 x2 x3_11 w _ _ _ hf C (lv_sub hl [1, 2, 3, 0] rfl)
            · replace hf := (if_pos c_10).symm.trans hf
              refine lv_iload_n hx hb dX5_number_83 rfl (lv_at hl 3 rfl) ?_
              exact cx_iret C hx hb hr hlocks hf dX5_number_84
  have J32 : ∀ (x1 : Int32) (x2 : Int32) (y1 : Int32) (w : St) (H : Heap) (locs : List Loc) (ls : Array Slot), fX5_number_32 x1 x2 y1 w = some (r, u') → CX (wM ad ck) ck D tt (va_A (wM ad ck u) sz) s w H locs → lv_has ls 4 [(0, .ref (ad 0)), (1, .int x1), (2, .int x2)] → W p l e (headSpec wsX5_number rmX5_number).room s m ([.ref (ad 0), .int a1, .int a2] : List Value).toArray below meth c H locs 0 0 (MQ below (QI (wM ad ck) D u sz r u') ([.ref (ad 0), .int a1, .int a2] : List Value).toArray s 0 0 (va_A (wM ad ck u) sz)) (F0 m 32 ls [.int y1, .ref (ad 0)]) := by
    intro x1 x2 y1 w H locs ls hf C hl
    unfold fX5_number_32 at hf
    refine cx_puti C hx hb (T := TX5) (N := 28) hts (by decide +kernel) tyX5 tyX5_ok nmX5 hown 0 rfl rfl 0 (by decide) (hts (.fieldLink RX5 72 "AggregateRowsModel" "fault" "I") (by decide +kernel)) (fun _ h9 => h9) rfl (by decide +kernel) (Nat.le_of_ble_eq_true rfl) (u1 := sS w 0 y1) rfl dX5_number_32 (fun u_1 H locs eu_1 C => ?_)
    replace hf := lt_at hf eu_1
    refine lv_aload_n hx hb dX5_number_35 rfl (lv_at hl 0 rfl) ?_
    refine cx_get C hx hb (T := TX5) (N := 28) hts (by decide +kernel) hown 0 rfl rfl 0 (by decide) (hts (.fieldLink RX5 72 "AggregateRowsModel" "fault" "I") (by decide +kernel)) (fun _ h9 => h9) (v := .int (u_1.1 0)) rfl dX5_number_36 ?_
    refine lv_if_le (tgt := 44) hx hb dX5_number_39 (by decide) (fun c_2 => ?_) (fun c_2 => ?_)
    · replace hf := (if_pos c_2).symm.trans hf
      refine lv_iconst (v := 0) hx hb dX5_number_44 (by decide) ?_
      refine lv_istore_n (lv' := [(3, .int 0), (0, .ref (ad 0)), (1, .int x1), (2, .int x2)]) hx hb dX5_number_45 rfl hl (by decide) rfl (fun ls hl => ?_)
      exact J46 FU x1 x2 0 u_1 _ _ _ hf C (lv_sub hl [1, 2, 3, 0] rfl)
    · replace hf := (if_neg c_2).symm.trans hf
      refine lv_iconst (v := 0) hx hb dX5_number_42 (by decide) ?_
      exact cx_iret C hx hb hr hlocks hf dX5_number_43
  have hl := lv_entry ([.ref (ad 0), .int a1, .int a2]) (n := 4) (Nat.le_of_ble_eq_true rfl)
  rw [lg_entry_eq]
  generalize (lg_sl ([.ref (ad 0), .int a1, .int a2]) ++ List.replicate (4 - (lg_sl ([.ref (ad 0), .int a1, .int a2])).length) Slot.unset).toArray = ls at hl ⊢
  have hl : lv_has ls 4 [(0, .ref (ad 0)), (1, .int a1), (2, .int a2)] := hl
  unfold fX5_number at hf
  refine lv_aload_n hx hb dX5_number_0 rfl (lv_at hl 0 rfl) ?_
  refine lv_iload_n hx hb dX5_number_1 rfl (lv_at hl 1 rfl) ?_
  refine lv_i2l hx hb dX5_number_2 rfl ?_
  refine lv_ldc2 (v := (-1000000)) hx hb hown (hts (.constantLong RX5 76 (-1000000)) (by decide +kernel)) dX5_number_3 ?_
  refine lv_ldc2 (v := 1000000) hx hb hown (hts (.constantLong RX5 78 (1000000)) (by decide +kernel)) dX5_number_6 ?_
  obtain ⟨r_2, u_3, h_1, hf⟩ := bnd_some hf
  refine cx_calli C (va_runS (As := [.long (a1.toInt64), .long (-1000000), .long 1000000]) (rest := [.ref (ad 0)]) ⟨hx, hb, hml, hown, hts⟩ (k_X5_within l ad ck D tt h_1 _) (va_cwS 3 hts gX5_number_X5_within rfl rfl rfl (by decide +kernel) ⟨Nat.le_of_ble_eq_true rfl, Nat.le_of_ble_eq_true rfl⟩) (cx_preS C) rfl rfl hl.1 rfl (lv_room (Nat.le_of_ble_eq_true rfl)) dX5_number_9 ⟨Nat.zero_le _, Nat.zero_le _⟩) (fun H locs C => ?_)
  refine lv_if_eq (tgt := 31) hx hb dX5_number_12 (by decide) (fun c_4 => ?_) (fun c_4 => ?_)
  · replace hf := (if_pos c_4).symm.trans hf
    refine lv_iconst (v := 1) hx hb dX5_number_31 (by decide) ?_
    exact J32 a1 a2 1 u_3 _ _ _ hf C (lv_sub hl [0, 1, 2] rfl)
  · replace hf := (if_neg c_4).symm.trans hf
    refine lv_iload_n hx hb dX5_number_15 rfl (lv_at hl 2 rfl) ?_
    refine lv_i2l hx hb dX5_number_16 rfl ?_
    refine lv_lconst (v := 0) hx hb dX5_number_17 (by decide) ?_
    refine lv_ldc2 (v := 3) hx hb hown (hts (.constantLong RX5 84 (3)) (by decide +kernel)) dX5_number_18 ?_
    obtain ⟨r_6, u_7, h_5, hf⟩ := bnd_some hf
    refine cx_calli C (va_runS (As := [.long (a2.toInt64), .long 0, .long 3]) (rest := [.ref (ad 0)]) ⟨hx, hb, hml, hown, hts⟩ (k_X5_within l ad ck D tt h_5 _) (va_cwS 3 hts gX5_number_X5_within rfl rfl rfl (by decide +kernel) ⟨Nat.le_of_ble_eq_true rfl, Nat.le_of_ble_eq_true rfl⟩) (cx_preS C) rfl rfl hl.1 rfl (lv_room (Nat.le_of_ble_eq_true rfl)) dX5_number_21 ⟨Nat.zero_le _, Nat.zero_le _⟩) (fun H locs C => ?_)
    refine lv_if_eq (tgt := 31) hx hb dX5_number_24 (by decide) (fun c_8 => ?_) (fun c_8 => ?_)
    · replace hf := (if_pos c_8).symm.trans hf
      refine lv_iconst (v := 1) hx hb dX5_number_31 (by decide) ?_
      exact J32 a1 a2 1 u_7 _ _ _ hf C (lv_sub hl [0, 1, 2] rfl)
    · replace hf := (if_neg c_8).symm.trans hf
      refine lv_iconst (v := 0) hx hb dX5_number_27 (by decide) ?_
      refine lv_goto (tgt := 32) hx hb dX5_number_28 (by decide) ?_
      exact J32 a1 a2 0 u_7 _ _ _ hf C (lv_sub hl [0, 1, 2] rfl)
/-! ===== X5_isWord ===== -/
def fX5_isWord_72 (k10 : Int32 → Int64 → Int32 → Int32 → Int32 → St → Option (Int32 × St)) (x1 : Int32) (x2 : Int64) (x5 : Int32) (x6 : Int32) (y0 : Int32) (w : St) : Option (Int32 × St) := lt_ (x5 + 1) (fun x5_1 => lt_ (x6 + (-1)) (fun x6_2 => k10 x1 x2 y0 x5_1 x6_2 w))
def fX5_isWord_10  : Nat → Int32 → Int64 → Int32 → Int32 → Int32 → St → Option (Int32 × St)
  | 0, _, _, _, _, _, _ => none
  | n10 + 1, x1, x2, x4, x5, x6, w => (if x6 < 0 then (if x4 = 0 then some (0, w) else gd (okI x1 60) ((if x5 = (w.2.1 3 x1.toNatClampNeg) then some (1, w) else some (0, w)))) else lt_ (((lshr_ x2 (8 * x6)) &&& 255).toInt32) (fun x7_5 => (if x7_5 = 0 then lt_ (x6 + (-1)) (fun x6_7 => fX5_isWord_10 n10 x1 x2 x4 x5 x6_7 w) else (if x4 = 0 then fX5_isWord_72 (fX5_isWord_10 n10) x1 x2 x5 x6 0 w else gd (okI x1 60) ((if (w.2.1 3 x1.toNatClampNeg) ≤ x5 then fX5_isWord_72 (fX5_isWord_10 n10) x1 x2 x5 x6 0 w else gd (okI ((8 * x1) + x5) 480) ((if (w.2.1 4 ((8 * x1) + x5).toNatClampNeg) = x7_5 then fX5_isWord_72 (fX5_isWord_10 n10) x1 x2 x5 x6 1 w else fX5_isWord_72 (fX5_isWord_10 n10) x1 x2 x5 x6 0 w))))))))
def fX5_isWord (u : St) (a1 : Int32) (a2 : Int64) : Option (Int32 × St) := fX5_isWord_10 FU a1 a2 1 0 7 u
abbrev rmX5_isWord : Room := { frames := 0, cells := 0, slots := 0, locals := 0 }
set_option maxHeartbeats 4000000 in
set_option maxRecDepth 100000 in
theorem k_X5_isWord (l : Launch) (ad : Nat → Nat) (ck : Nat → ClassId) (D : va_G) (tt : Nat) {u : St} {a1 : Int32} {a2 : Int64} {r : Int32} {u' : St} (hf : fX5_isWord u a1 a2 = some (r, u')) : MI l yX5_isWord wsX5_isWord rmX5_isWord (wM ad ck) ck D tt [.ref (ad 0), .int a1, .long a2] u r u' := by
  intro sz
  refine Met.ofW (cc := cX5_isWord) (maxL := 8) (ret := (some .boolean)) (by decide) rfl ?_
  intro p e s m args below meth c s₁ B hml hv
  obtain ⟨rfl, hsz, C⟩ := cx_entry hv
  have hx := B.exec
  have hb := B.bytes
  have hr := B.returns
  have hts := atoms_spec (ws := wsX5_isWord) B.pre
  have hown : s.vm.findClass RX5 = some m.cls := findClass_of_methodNamed B.named
  have hlocks := B.notSynchronized
  have J10 : ∀ (n10 : Nat) (x1 : Int32) (x2 : Int64) (x4 : Int32) (x5 : Int32) (x6 : Int32) (w : St) (H : Heap) (locs : List Loc) (ls : Array Slot), fX5_isWord_10 n10 x1 x2 x4 x5 x6 w = some (r, u') → CX (wM ad ck) ck D tt (va_A (wM ad ck u) sz) s w H locs → lv_has ls 8 [(0, .ref (ad 0)), (1, .int x1), (2, .long x2), (4, .int x4), (5, .int x5), (6, .int x6)] → W p l e (headSpec wsX5_isWord rmX5_isWord).room s m ([.ref (ad 0), .int a1, .long a2] : List Value).toArray below meth c H locs 0 0 (MQ below (QI (wM ad ck) D u sz r u') ([.ref (ad 0), .int a1, .long a2] : List Value).toArray s 0 0 (va_A (wM ad ck u) sz)) (F0 m 10 ls []) := by
    intro n10
    induction n10 with
    | zero =>
      intro x1 x2 x4 x5 x6 w H locs ls hf
      have hf : (none : Option (Int32 × St)) = some (r, u') := hf
      cases hf
    | succ n10 ih10 =>
      intro x1 x2 x4 x5 x6 w H locs ls hf C hl
      rw [fX5_isWord_10] at hf
      have J72 : ∀ (x1 : Int32) (x2 : Int64) (x5 : Int32) (x6 : Int32) (y0 : Int32) (w : St) (H : Heap) (locs : List Loc) (ls : Array Slot), fX5_isWord_72 (fX5_isWord_10 n10) x1 x2 x5 x6 y0 w = some (r, u') → CX (wM ad ck) ck D tt (va_A (wM ad ck u) sz) s w H locs → lv_has ls 8 [(0, .ref (ad 0)), (1, .int x1), (2, .long x2), (5, .int x5), (6, .int x6)] → W p l e (headSpec wsX5_isWord rmX5_isWord).room s m ([.ref (ad 0), .int a1, .long a2] : List Value).toArray below meth c H locs 0 0 (MQ below (QI (wM ad ck) D u sz r u') ([.ref (ad 0), .int a1, .long a2] : List Value).toArray s 0 0 (va_A (wM ad ck u) sz)) (F0 m 72 ls [.int y0]) := by
        intro x1 x2 x5 x6 y0 w H locs ls hf C hl
        unfold fX5_isWord_72 at hf
        refine lv_istore (lv' := [(4, .int y0), (0, .ref (ad 0)), (1, .int x1), (2, .long x2), (5, .int x5), (6, .int x6)]) hx hb dX5_isWord_72 hl (by decide) rfl (fun ls hl => ?_)
        obtain ⟨x5_1, ex5_1⟩ : ∃ y : Int32, y = x5 + 1 := ⟨_, rfl⟩
        replace hf := lt_at hf ex5_1
        refine lv_iinc (v := x5_1) (lv' := [(5, .int x5_1), (4, .int y0), (0, .ref (ad 0)), (1, .int x1), (2, .long x2), (6, .int x6)]) hx hb dX5_isWord_74 hl (k := 4) rfl (by rw [ex5_1]; rfl) (by decide) rfl (fun ls hl => ?_)
        obtain ⟨x6_2, ex6_2⟩ : ∃ y : Int32, y = x6 + (-1) := ⟨_, rfl⟩
        replace hf := lt_at hf ex6_2
        refine lv_iinc (v := x6_2) (lv' := [(6, .int x6_2), (5, .int x5_1), (4, .int y0), (0, .ref (ad 0)), (1, .int x1), (2, .long x2)]) hx hb dX5_isWord_77 hl (k := 5) rfl (by rw [ex6_2]; rfl) (by decide) rfl (fun ls hl => ?_)
        refine lv_goto (tgt := 10) hx hb dX5_isWord_80 (by decide) ?_
        exact ih10 x1 x2 y0 x5_1 x6_2 w _ _ _ hf C (lv_sub hl [3, 4, 5, 2, 1, 0] rfl)
      refine lv_iload hx hb dX5_isWord_10 (lv_at hl 5 rfl) ?_
      refine lv_if_lt (tgt := 83) hx hb dX5_isWord_12 (by decide) (fun c_3 => ?_) (fun c_3 => ?_)
      · replace hf := (if_pos c_3).symm.trans hf
        refine lv_iload hx hb dX5_isWord_83 (lv_at hl 3 rfl) ?_
        refine lv_if_eq (tgt := 103) hx hb dX5_isWord_85 (by decide) (fun c_4 => ?_) (fun c_4 => ?_)
        · replace hf := (if_pos c_4).symm.trans hf
          refine lv_iconst (v := 0) hx hb dX5_isWord_103 (by decide) ?_
          exact cx_zret C hx hb hr (by decide) hlocks hf dX5_isWord_104
        · replace hf := (if_neg c_4).symm.trans hf
          refine lv_iload hx hb dX5_isWord_88 (lv_at hl 4 rfl) ?_
          refine lv_aload_n hx hb dX5_isWord_90 rfl (lv_at hl 0 rfl) ?_
          refine cx_get C hx hb (T := TX5) (N := 28) hts (by decide +kernel) hown 0 rfl rfl 5 (by decide) (hts (.fieldLink RX5 20 "AggregateRowsModel" "sizes" "[I") (by decide +kernel)) (fun _ h9 => h9) (v := .ref (ad 4)) rfl dX5_isWord_91 ?_
          refine lv_iload_n hx hb dX5_isWord_94 rfl (lv_at hl 1 rfl) ?_
          obtain ⟨g_5, hf⟩ := gd_some hf
          refine cx_iald C hx hb 4 rfl g_5 dX5_isWord_95 ?_
          refine lv_icmp_ne (tgt := 103) hx hb dX5_isWord_96 (by decide) (fun c_6 => ?_) (fun c_6 => ?_)
          · replace hf := (if_neg c_6).symm.trans hf
            refine lv_iconst (v := 0) hx hb dX5_isWord_103 (by decide) ?_
            exact cx_zret C hx hb hr (by decide) hlocks hf dX5_isWord_104
          · replace hf := (if_pos c_6).symm.trans hf
            refine lv_iconst (v := 1) hx hb dX5_isWord_99 (by decide) ?_
            refine lv_goto (tgt := 104) hx hb dX5_isWord_100 (by decide) ?_
            exact cx_zret C hx hb hr (by decide) hlocks hf dX5_isWord_104
      · replace hf := (if_neg c_3).symm.trans hf
        refine lv_lload_n hx hb dX5_isWord_15 rfl (lv_at hl 2 rfl) ?_
        refine lv_bipush (v := 8) hx hb dX5_isWord_16 (by decide) ?_
        refine lv_iload hx hb dX5_isWord_18 (lv_at hl 5 rfl) ?_
        refine lv_imul hx hb dX5_isWord_20 ?_
        refine lv_lshr (v := (lshr_ x2 (8 * x6))) hx hb dX5_isWord_21 rfl ?_
        refine lv_ldc2 (v := 255) hx hb hown (hts (.constantLong RX5 89 (255)) (by decide +kernel)) dX5_isWord_22 ?_
        refine lv_land hx hb dX5_isWord_25 ?_
        refine lv_l2i hx hb dX5_isWord_26 rfl ?_
        refine lv_topi (fun x7_7 ex7_7 => ?_)
        replace hf := lt_at hf ex7_7
        refine lv_istore (lv' := [(7, .int x7_7), (0, .ref (ad 0)), (1, .int x1), (2, .long x2), (4, .int x4), (5, .int x5), (6, .int x6)]) hx hb dX5_isWord_27 hl (by decide) rfl (fun ls hl => ?_)
        refine lv_iload hx hb dX5_isWord_29 (lv_at hl 0 rfl) ?_
        refine lv_if_eq (tgt := 77) hx hb dX5_isWord_31 (by decide) (fun c_8 => ?_) (fun c_8 => ?_)
        · replace hf := (if_pos c_8).symm.trans hf
          obtain ⟨x6_9, ex6_9⟩ : ∃ y : Int32, y = x6 + (-1) := ⟨_, rfl⟩
          replace hf := lt_at hf ex6_9
          refine lv_iinc (v := x6_9) (lv' := [(6, .int x6_9), (7, .int x7_7), (0, .ref (ad 0)), (1, .int x1), (2, .long x2), (4, .int x4), (5, .int x5)]) hx hb dX5_isWord_77 hl (k := 6) rfl (by rw [ex6_9]; rfl) (by decide) rfl (fun ls hl => ?_)
          refine lv_goto (tgt := 10) hx hb dX5_isWord_80 (by decide) ?_
          exact ih10 x1 x2 x4 x5 x6_9 w _ _ _ hf C (lv_sub hl [2, 3, 4, 5, 6, 0] rfl)
        · replace hf := (if_neg c_8).symm.trans hf
          refine lv_iload hx hb dX5_isWord_34 (lv_at hl 4 rfl) ?_
          refine lv_if_eq (tgt := 71) hx hb dX5_isWord_36 (by decide) (fun c_10 => ?_) (fun c_10 => ?_)
          · replace hf := (if_pos c_10).symm.trans hf
            refine lv_iconst (v := 0) hx hb dX5_isWord_71 (by decide) ?_
            exact J72 x1 x2 x5 x6 0 w _ _ _ hf C (lv_sub hl [1, 2, 3, 5, 6] rfl)
          · replace hf := (if_neg c_10).symm.trans hf
            refine lv_iload hx hb dX5_isWord_39 (lv_at hl 5 rfl) ?_
            refine lv_aload_n hx hb dX5_isWord_41 rfl (lv_at hl 1 rfl) ?_
            refine cx_get C hx hb (T := TX5) (N := 28) hts (by decide +kernel) hown 0 rfl rfl 5 (by decide) (hts (.fieldLink RX5 20 "AggregateRowsModel" "sizes" "[I") (by decide +kernel)) (fun _ h9 => h9) (v := .ref (ad 4)) rfl dX5_isWord_42 ?_
            refine lv_iload_n hx hb dX5_isWord_45 rfl (lv_at hl 2 rfl) ?_
            obtain ⟨g_11, hf⟩ := gd_some hf
            refine cx_iald C hx hb 4 rfl g_11 dX5_isWord_46 ?_
            refine lv_icmp_ge (tgt := 71) hx hb dX5_isWord_47 (by decide) (fun c_12 => ?_) (fun c_12 => ?_)
            · replace hf := (if_pos c_12).symm.trans hf
              refine lv_iconst (v := 0) hx hb dX5_isWord_71 (by decide) ?_
              exact J72 x1 x2 x5 x6 0 w _ _ _ hf C (lv_sub hl [1, 2, 3, 5, 6] rfl)
            · replace hf := (if_neg c_12).symm.trans hf
              refine lv_aload_n hx hb dX5_isWord_50 rfl (lv_at hl 1 rfl) ?_
              refine cx_get C hx hb (T := TX5) (N := 28) hts (by decide +kernel) hown 0 rfl rfl 6 (by decide) (hts (.fieldLink RX5 23 "AggregateRowsModel" "letters" "[I") (by decide +kernel)) (fun _ h9 => h9) (v := .ref (ad 5)) rfl dX5_isWord_51 ?_
              refine lv_bipush (v := 8) hx hb dX5_isWord_54 (by decide) ?_
              refine lv_iload_n hx hb dX5_isWord_56 rfl (lv_at hl 2 rfl) ?_
              refine lv_imul hx hb dX5_isWord_57 ?_
              refine lv_iload hx hb dX5_isWord_58 (lv_at hl 5 rfl) ?_
              refine lv_iadd hx hb dX5_isWord_60 ?_
              obtain ⟨g_13, hf⟩ := gd_some hf
              refine cx_iald C hx hb 5 rfl g_13 dX5_isWord_61 ?_
              refine lv_iload hx hb dX5_isWord_62 (lv_at hl 0 rfl) ?_
              refine lv_icmp_ne (tgt := 71) hx hb dX5_isWord_64 (by decide) (fun c_14 => ?_) (fun c_14 => ?_)
              · replace hf := (if_neg c_14).symm.trans hf
                refine lv_iconst (v := 0) hx hb dX5_isWord_71 (by decide) ?_
                exact J72 x1 x2 x5 x6 0 w _ _ _ hf C (lv_sub hl [1, 2, 3, 5, 6] rfl)
              · replace hf := (if_pos c_14).symm.trans hf
                refine lv_iconst (v := 1) hx hb dX5_isWord_67 (by decide) ?_
                refine lv_goto (tgt := 72) hx hb dX5_isWord_68 (by decide) ?_
                exact J72 x1 x2 x5 x6 1 w _ _ _ hf C (lv_sub hl [1, 2, 3, 5, 6] rfl)
  have hl := lv_entry ([.ref (ad 0), .int a1, .long a2]) (n := 8) (Nat.le_of_ble_eq_true rfl)
  rw [lg_entry_eq]
  generalize (lg_sl ([.ref (ad 0), .int a1, .long a2]) ++ List.replicate (8 - (lg_sl ([.ref (ad 0), .int a1, .long a2])).length) Slot.unset).toArray = ls at hl ⊢
  have hl : lv_has ls 8 [(0, .ref (ad 0)), (1, .int a1), (2, .long a2)] := hl
  unfold fX5_isWord at hf
  refine lv_iconst (v := 1) hx hb dX5_isWord_0 (by decide) ?_
  refine lv_istore (lv' := [(4, .int 1), (0, .ref (ad 0)), (1, .int a1), (2, .long a2)]) hx hb dX5_isWord_1 hl (by decide) rfl (fun ls hl => ?_)
  refine lv_iconst (v := 0) hx hb dX5_isWord_3 (by decide) ?_
  refine lv_istore (lv' := [(5, .int 0), (4, .int 1), (0, .ref (ad 0)), (1, .int a1), (2, .long a2)]) hx hb dX5_isWord_4 hl (by decide) rfl (fun ls hl => ?_)
  refine lv_bipush (v := 7) hx hb dX5_isWord_6 (by decide) ?_
  refine lv_istore (lv' := [(6, .int 7), (5, .int 0), (4, .int 1), (0, .ref (ad 0)), (1, .int a1), (2, .long a2)]) hx hb dX5_isWord_8 hl (by decide) rfl (fun ls hl => ?_)
  exact J10 FU a1 a2 1 0 7 u _ _ _ hf C (lv_sub hl [3, 4, 5, 2, 1, 0] rfl)
/-! ===== X5_text ===== -/
def fX5_text_211  : Nat → Int64 → Int32 → Int32 → Int32 → Int32 → St → Option (Int32 × St)
  | 0, _, _, _, _, _, _ => none
  | n211 + 1, x1, x3, x5, x6, x7, w => (if x7 < 0 then gd (okI x5 60) (lt_ (sI w 0 x5.toNatClampNeg (vp_nar .boolean 1)) (fun u_3 => gd (okI x5 60) (lt_ (sI u_3 3 x5.toNatClampNeg x3) (fun u_5 => lt_ (sS u_5 1 ((u_5.1 1) + 1)) (fun u_6 => some (x5, u_6)))))) else lt_ (((lshr_ x1 (8 * x7)) &&& 255).toInt32) (fun x8_7 => (if x8_7 = 0 then lt_ (x7 + (-1)) (fun x7_9 => fX5_text_211 n211 x1 x3 x5 x6 x7_9 w) else gd (okI ((8 * x5) + x6) 480) (lt_ (sI w 4 ((8 * x5) + x6).toNatClampNeg x8_7) (fun u_11 => lt_ (x6 + 1) (fun x6_12 => lt_ (x7 + (-1)) (fun x7_13 => fX5_text_211 n211 x1 x3 x5 x6_12 x7_13 u_11)))))))
def fX5_text_192  (x1 : Int64) (x3 : Int32) (x5 : Int32) (y1 : Int32) (w : St) : Option (Int32 × St) := lt_ (sS w 0 y1) (fun u_1 => (if (u_1.1 0) ≤ 0 then fX5_text_211 FU x1 x3 x5 0 7 u_1 else some (0, u_1)))
def fX5_text_128  : Nat → Int64 → Int32 → Int32 → Int32 → St → Option (Int32 × St)
  | 0, _, _, _, _, _ => none
  | n128 + 1, x1, x3, x5, x6, w => (if (w.1 1) ≤ x6 then (if (w.1 1) = 60 then fX5_text_192 x1 x3 x5 2 w else fX5_text_192 x1 x3 x5 0 w) else gd (okI x6 60) ((if (w.2.1 0 x6.toNatClampNeg) = 0 then lt_ (x6 + 1) (fun x6_5 => fX5_text_128 n128 x1 x3 x5 x6_5 w) else gd (okI x6 60) ((if (w.2.1 3 x6.toNatClampNeg) = x3 then bnd (fX5_isWord w x6 x1) (fun r_10 u_11 => (if r_10 = 0 then lt_ (x6 + 1) (fun x6_13 => fX5_text_128 n128 x1 x3 x5 x6_13 u_11) else some (x6, u_11))) else lt_ (x6 + 1) (fun x6_8 => fX5_text_128 n128 x1 x3 x5 x6_8 w))))))
def fX5_text_113  (x1 : Int64) (x3 : Int32) (x5 : Int32) (y1 : Int32) (w : St) : Option (Int32 × St) := lt_ (sS w 0 y1) (fun u_1 => (if (u_1.1 0) ≤ 0 then fX5_text_128 FU x1 x3 x5 0 u_1 else some (0, u_1)))
def fX5_text_90 (k29 : Int64 → Int32 → Int32 → Int32 → Int32 → St → Option (Int32 × St)) (x1 : Int64) (x4 : Int32) (x5 : Int32) (x6 : Int32) (y0 : Int32) (y1 : Int32) (w : St) : Option (Int32 × St) := lt_ (y0 + y1) (fun x3_1 => lt_ (x6 + (-1)) (fun x6_2 => k29 x1 x3_1 x4 x5 x6_2 w))
def fX5_text_77 (k29 : Int64 → Int32 → Int32 → Int32 → Int32 → St → Option (Int32 × St)) (x1 : Int64) (x3 : Int32) (x5 : Int32) (x6 : Int32) (x7 : Int32) (y0 : Int32) (w : St) : Option (Int32 × St) := (if x7 = 0 then fX5_text_90 (k29) x1 y0 x5 x6 x3 0 w else fX5_text_90 (k29) x1 y0 x5 x6 x3 1 w)
def fX5_text_29  : Nat → Int64 → Int32 → Int32 → Int32 → Int32 → St → Option (Int32 × St)
  | 0, _, _, _, _, _, _ => none
  | n29 + 1, x1, x3, x4, x5, x6, w => (if x6 < 0 then (if x4 = 0 then fX5_text_113 x1 x3 x5 1 w else (if x3 ≤ 0 then fX5_text_113 x1 x3 x5 1 w else fX5_text_113 x1 x3 x5 0 w)) else lt_ (((lshr_ x1 (8 * x6)) &&& 255).toInt32) (fun x7_4 => (if x4 = 0 then fX5_text_77 (fX5_text_29 n29) x1 x3 x5 x6 x7_4 0 w else (if x7_4 = 0 then fX5_text_77 (fX5_text_29 n29) x1 x3 x5 x6 x7_4 1 w else (if x7_4 < 97 then fX5_text_77 (fX5_text_29 n29) x1 x3 x5 x6 x7_4 0 w else (if 122 < x7_4 then fX5_text_77 (fX5_text_29 n29) x1 x3 x5 x6 x7_4 0 w else fX5_text_77 (fX5_text_29 n29) x1 x3 x5 x6 x7_4 1 w))))))
def fX5_text (u : St) (a1 : Int64) : Option (Int32 × St) := (if (u.1 1) = 60 then fX5_text_29 FU a1 0 1 59 7 u else lt_ (u.1 1) (fun x5_2 => fX5_text_29 FU a1 0 1 x5_2 7 u))
abbrev rmX5_text : Room := { frames := 1, cells := 0, slots := 0, locals := 27 }
set_option maxHeartbeats 4000000 in
set_option maxRecDepth 100000 in
theorem k_X5_text (l : Launch) (ad : Nat → Nat) (ck : Nat → ClassId) (D : va_G) (tt : Nat) {u : St} {a1 : Int64} {r : Int32} {u' : St} (hf : fX5_text u a1 = some (r, u')) : MI l yX5_text wsX5_text rmX5_text (wM ad ck) ck D tt [.ref (ad 0), .long a1] u r u' := by
  intro sz
  refine Met.ofW (cc := cX5_text) (maxL := 9) (ret := (some .int)) (by decide) rfl ?_
  intro p e s m args below meth c s₁ B hml hv
  obtain ⟨rfl, hsz, C⟩ := cx_entry hv
  have hx := B.exec
  have hb := B.bytes
  have hr := B.returns
  have hts := atoms_spec (ws := wsX5_text) B.pre
  have hown : s.vm.findClass RX5 = some m.cls := findClass_of_methodNamed B.named
  have hlocks := B.notSynchronized
  have J211 : ∀ (n211 : Nat) (x1 : Int64) (x3 : Int32) (x5 : Int32) (x6 : Int32) (x7 : Int32) (w : St) (H : Heap) (locs : List Loc) (ls : Array Slot), fX5_text_211 n211 x1 x3 x5 x6 x7 w = some (r, u') → CX (wM ad ck) ck D tt (va_A (wM ad ck u) sz) s w H locs → lv_has ls 9 [(0, .ref (ad 0)), (1, .long x1), (3, .int x3), (5, .int x5), (6, .int x6), (7, .int x7)] → W p l e (headSpec wsX5_text rmX5_text).room s m ([.ref (ad 0), .long a1] : List Value).toArray below meth c H locs 0 0 (MQ below (QI (wM ad ck) D u sz r u') ([.ref (ad 0), .long a1] : List Value).toArray s 0 0 (va_A (wM ad ck u) sz)) (F0 m 211 ls []) := by
    intro n211
    induction n211 with
    | zero =>
      intro x1 x3 x5 x6 x7 w H locs ls hf
      have hf : (none : Option (Int32 × St)) = some (r, u') := hf
      cases hf
    | succ n211 ih211 =>
      intro x1 x3 x5 x6 x7 w H locs ls hf C hl
      rw [fX5_text_211] at hf
      refine lv_iload hx hb dX5_text_211 (lv_at hl 5 rfl) ?_
      refine lv_if_lt (tgt := 259) hx hb dX5_text_213 (by decide) (fun c_1 => ?_) (fun c_1 => ?_)
      · replace hf := (if_pos c_1).symm.trans hf
        refine lv_aload_n hx hb dX5_text_259 rfl (lv_at hl 0 rfl) ?_
        refine cx_get C hx hb (T := TX5) (N := 28) hts (by decide +kernel) hown 0 rfl rfl 2 (by decide) (hts (.fieldLink RX5 7 "AggregateRowsModel" "isText" "[Z") (by decide +kernel)) (fun _ h9 => h9) (v := .ref (ad 1)) rfl dX5_text_260 ?_
        refine lv_iload hx hb dX5_text_263 (lv_at hl 3 rfl) ?_
        refine lv_iconst (v := 1) hx hb dX5_text_265 (by decide) ?_
        obtain ⟨g_2, hf⟩ := gd_some hf
        refine cx_zast C hx hb 1 rfl g_2 (u1 := sI w 0 x5.toNatClampNeg (vp_nar .boolean 1)) rfl dX5_text_266 (fun u_3 H locs eu_3 C => ?_)
        replace hf := lt_at hf eu_3
        refine lv_aload_n hx hb dX5_text_267 rfl (lv_at hl 0 rfl) ?_
        refine cx_get C hx hb (T := TX5) (N := 28) hts (by decide +kernel) hown 0 rfl rfl 5 (by decide) (hts (.fieldLink RX5 20 "AggregateRowsModel" "sizes" "[I") (by decide +kernel)) (fun _ h9 => h9) (v := .ref (ad 4)) rfl dX5_text_268 ?_
        refine lv_iload hx hb dX5_text_271 (lv_at hl 3 rfl) ?_
        refine lv_iload_n hx hb dX5_text_273 rfl (lv_at hl 2 rfl) ?_
        obtain ⟨g_4, hf⟩ := gd_some hf
        refine cx_iast C hx hb 4 rfl g_4 (u1 := sI u_3 3 x5.toNatClampNeg x3) rfl dX5_text_274 (fun u_5 H locs eu_5 C => ?_)
        replace hf := lt_at hf eu_5
        refine lv_aload_n hx hb dX5_text_275 rfl (lv_at hl 0 rfl) ?_
        refine lv_dup hx hb dX5_text_276 rfl ?_
        refine cx_get C hx hb (T := TX5) (N := 28) hts (by decide +kernel) hown 0 rfl rfl 1 (by decide) (hts (.fieldLink RX5 86 "AggregateRowsModel" "terms" "I") (by decide +kernel)) (fun _ h9 => h9) (v := .int (u_5.1 1)) rfl dX5_text_277 ?_
        refine lv_iconst (v := 1) hx hb dX5_text_280 (by decide) ?_
        refine lv_iadd hx hb dX5_text_281 ?_
        refine cx_puti C hx hb (T := TX5) (N := 28) hts (by decide +kernel) tyX5 tyX5_ok nmX5 hown 0 rfl rfl 1 (by decide) (hts (.fieldLink RX5 86 "AggregateRowsModel" "terms" "I") (by decide +kernel)) (fun _ h9 => h9) rfl (by decide +kernel) (Nat.le_of_ble_eq_true rfl) (u1 := sS u_5 1 ((u_5.1 1) + 1)) rfl dX5_text_282 (fun u_6 H locs eu_6 C => ?_)
        replace hf := lt_at hf eu_6
        refine lv_iload hx hb dX5_text_285 (lv_at hl 3 rfl) ?_
        exact cx_iret C hx hb hr hlocks hf dX5_text_287
      · replace hf := (if_neg c_1).symm.trans hf
        refine lv_lload_n hx hb dX5_text_216 rfl (lv_at hl 1 rfl) ?_
        refine lv_bipush (v := 8) hx hb dX5_text_217 (by decide) ?_
        refine lv_iload hx hb dX5_text_219 (lv_at hl 5 rfl) ?_
        refine lv_imul hx hb dX5_text_221 ?_
        refine lv_lshr (v := (lshr_ x1 (8 * x7))) hx hb dX5_text_222 rfl ?_
        refine lv_ldc2 (v := 255) hx hb hown (hts (.constantLong RX5 89 (255)) (by decide +kernel)) dX5_text_223 ?_
        refine lv_land hx hb dX5_text_226 ?_
        refine lv_l2i hx hb dX5_text_227 rfl ?_
        refine lv_topi (fun x8_7 ex8_7 => ?_)
        replace hf := lt_at hf ex8_7
        refine lv_istore (lv' := [(8, .int x8_7), (0, .ref (ad 0)), (1, .long x1), (3, .int x3), (5, .int x5), (6, .int x6), (7, .int x7)]) hx hb dX5_text_228 hl (by decide) rfl (fun ls hl => ?_)
        refine lv_iload hx hb dX5_text_230 (lv_at hl 0 rfl) ?_
        refine lv_if_eq (tgt := 253) hx hb dX5_text_232 (by decide) (fun c_8 => ?_) (fun c_8 => ?_)
        · replace hf := (if_pos c_8).symm.trans hf
          obtain ⟨x7_9, ex7_9⟩ : ∃ y : Int32, y = x7 + (-1) := ⟨_, rfl⟩
          replace hf := lt_at hf ex7_9
          refine lv_iinc (v := x7_9) (lv' := [(7, .int x7_9), (8, .int x8_7), (0, .ref (ad 0)), (1, .long x1), (3, .int x3), (5, .int x5), (6, .int x6)]) hx hb dX5_text_253 hl (k := 6) rfl (by rw [ex7_9]; rfl) (by decide) rfl (fun ls hl => ?_)
          refine lv_goto (tgt := 211) hx hb dX5_text_256 (by decide) ?_
          exact ih211 x1 x3 x5 x6 x7_9 w _ _ _ hf C (lv_sub hl [2, 3, 4, 5, 6, 0] rfl)
        · replace hf := (if_neg c_8).symm.trans hf
          refine lv_aload_n hx hb dX5_text_235 rfl (lv_at hl 1 rfl) ?_
          refine cx_get C hx hb (T := TX5) (N := 28) hts (by decide +kernel) hown 0 rfl rfl 6 (by decide) (hts (.fieldLink RX5 23 "AggregateRowsModel" "letters" "[I") (by decide +kernel)) (fun _ h9 => h9) (v := .ref (ad 5)) rfl dX5_text_236 ?_
          refine lv_bipush (v := 8) hx hb dX5_text_239 (by decide) ?_
          refine lv_iload hx hb dX5_text_241 (lv_at hl 4 rfl) ?_
          refine lv_imul hx hb dX5_text_243 ?_
          refine lv_iload hx hb dX5_text_244 (lv_at hl 5 rfl) ?_
          refine lv_iadd hx hb dX5_text_246 ?_
          refine lv_iload hx hb dX5_text_247 (lv_at hl 0 rfl) ?_
          obtain ⟨g_10, hf⟩ := gd_some hf
          refine cx_iast C hx hb 5 rfl g_10 (u1 := sI w 4 ((8 * x5) + x6).toNatClampNeg x8_7) rfl dX5_text_249 (fun u_11 H locs eu_11 C => ?_)
          replace hf := lt_at hf eu_11
          obtain ⟨x6_12, ex6_12⟩ : ∃ y : Int32, y = x6 + 1 := ⟨_, rfl⟩
          replace hf := lt_at hf ex6_12
          refine lv_iinc (v := x6_12) (lv' := [(6, .int x6_12), (8, .int x8_7), (0, .ref (ad 0)), (1, .long x1), (3, .int x3), (5, .int x5), (7, .int x7)]) hx hb dX5_text_250 hl (k := 5) rfl (by rw [ex6_12]; rfl) (by decide) rfl (fun ls hl => ?_)
          obtain ⟨x7_13, ex7_13⟩ : ∃ y : Int32, y = x7 + (-1) := ⟨_, rfl⟩
          replace hf := lt_at hf ex7_13
          refine lv_iinc (v := x7_13) (lv' := [(7, .int x7_13), (6, .int x6_12), (8, .int x8_7), (0, .ref (ad 0)), (1, .long x1), (3, .int x3), (5, .int x5)]) hx hb dX5_text_253 hl (k := 6) rfl (by rw [ex7_13]; rfl) (by decide) rfl (fun ls hl => ?_)
          refine lv_goto (tgt := 211) hx hb dX5_text_256 (by decide) ?_
          exact ih211 x1 x3 x5 x6_12 x7_13 u_11 _ _ _ hf C (lv_sub hl [3, 4, 5, 6, 1, 0] rfl)
  have J192 : ∀ (x1 : Int64) (x3 : Int32) (x5 : Int32) (y1 : Int32) (w : St) (H : Heap) (locs : List Loc) (ls : Array Slot), fX5_text_192 x1 x3 x5 y1 w = some (r, u') → CX (wM ad ck) ck D tt (va_A (wM ad ck u) sz) s w H locs → lv_has ls 9 [(0, .ref (ad 0)), (1, .long x1), (3, .int x3), (5, .int x5)] → W p l e (headSpec wsX5_text rmX5_text).room s m ([.ref (ad 0), .long a1] : List Value).toArray below meth c H locs 0 0 (MQ below (QI (wM ad ck) D u sz r u') ([.ref (ad 0), .long a1] : List Value).toArray s 0 0 (va_A (wM ad ck u) sz)) (F0 m 192 ls [.int y1, .ref (ad 0)]) := by
    intro x1 x3 x5 y1 w H locs ls hf C hl
    unfold fX5_text_192 at hf
    refine cx_puti C hx hb (T := TX5) (N := 28) hts (by decide +kernel) tyX5 tyX5_ok nmX5 hown 0 rfl rfl 0 (by decide) (hts (.fieldLink RX5 72 "AggregateRowsModel" "fault" "I") (by decide +kernel)) (fun _ h9 => h9) rfl (by decide +kernel) (Nat.le_of_ble_eq_true rfl) (u1 := sS w 0 y1) rfl dX5_text_192 (fun u_1 H locs eu_1 C => ?_)
    replace hf := lt_at hf eu_1
    refine lv_aload_n hx hb dX5_text_195 rfl (lv_at hl 0 rfl) ?_
    refine cx_get C hx hb (T := TX5) (N := 28) hts (by decide +kernel) hown 0 rfl rfl 0 (by decide) (hts (.fieldLink RX5 72 "AggregateRowsModel" "fault" "I") (by decide +kernel)) (fun _ h9 => h9) (v := .int (u_1.1 0)) rfl dX5_text_196 ?_
    refine lv_if_le (tgt := 204) hx hb dX5_text_199 (by decide) (fun c_2 => ?_) (fun c_2 => ?_)
    · replace hf := (if_pos c_2).symm.trans hf
      refine lv_iconst (v := 0) hx hb dX5_text_204 (by decide) ?_
      refine lv_istore (lv' := [(6, .int 0), (0, .ref (ad 0)), (1, .long x1), (3, .int x3), (5, .int x5)]) hx hb dX5_text_205 hl (by decide) rfl (fun ls hl => ?_)
      refine lv_bipush (v := 7) hx hb dX5_text_207 (by decide) ?_
      refine lv_istore (lv' := [(7, .int 7), (6, .int 0), (0, .ref (ad 0)), (1, .long x1), (3, .int x3), (5, .int x5)]) hx hb dX5_text_209 hl (by decide) rfl (fun ls hl => ?_)
      exact J211 FU x1 x3 x5 0 7 u_1 _ _ _ hf C (lv_sub hl [2, 3, 4, 5, 1, 0] rfl)
    · replace hf := (if_neg c_2).symm.trans hf
      refine lv_iconst (v := 0) hx hb dX5_text_202 (by decide) ?_
      exact cx_iret C hx hb hr hlocks hf dX5_text_203
  have J128 : ∀ (n128 : Nat) (x1 : Int64) (x3 : Int32) (x5 : Int32) (x6 : Int32) (w : St) (H : Heap) (locs : List Loc) (ls : Array Slot), fX5_text_128 n128 x1 x3 x5 x6 w = some (r, u') → CX (wM ad ck) ck D tt (va_A (wM ad ck u) sz) s w H locs → lv_has ls 9 [(0, .ref (ad 0)), (1, .long x1), (3, .int x3), (5, .int x5), (6, .int x6)] → W p l e (headSpec wsX5_text rmX5_text).room s m ([.ref (ad 0), .long a1] : List Value).toArray below meth c H locs 0 0 (MQ below (QI (wM ad ck) D u sz r u') ([.ref (ad 0), .long a1] : List Value).toArray s 0 0 (va_A (wM ad ck u) sz)) (F0 m 128 ls []) := by
    intro n128
    induction n128 with
    | zero =>
      intro x1 x3 x5 x6 w H locs ls hf
      have hf : (none : Option (Int32 × St)) = some (r, u') := hf
      cases hf
    | succ n128 ih128 =>
      intro x1 x3 x5 x6 w H locs ls hf C hl
      rw [fX5_text_128] at hf
      refine lv_iload hx hb dX5_text_128 (lv_at hl 4 rfl) ?_
      refine lv_aload_n hx hb dX5_text_130 rfl (lv_at hl 0 rfl) ?_
      refine cx_get C hx hb (T := TX5) (N := 28) hts (by decide +kernel) hown 0 rfl rfl 1 (by decide) (hts (.fieldLink RX5 86 "AggregateRowsModel" "terms" "I") (by decide +kernel)) (fun _ h9 => h9) (v := .int (w.1 1)) rfl dX5_text_131 ?_
      refine lv_icmp_ge (tgt := 177) hx hb dX5_text_134 (by decide) (fun c_1 => ?_) (fun c_1 => ?_)
      · replace hf := (if_pos c_1).symm.trans hf
        refine lv_aload_n hx hb dX5_text_177 rfl (lv_at hl 0 rfl) ?_
        refine lv_aload_n hx hb dX5_text_178 rfl (lv_at hl 0 rfl) ?_
        refine cx_get C hx hb (T := TX5) (N := 28) hts (by decide +kernel) hown 0 rfl rfl 1 (by decide) (hts (.fieldLink RX5 86 "AggregateRowsModel" "terms" "I") (by decide +kernel)) (fun _ h9 => h9) (v := .int (w.1 1)) rfl dX5_text_179 ?_
        refine lv_bipush (v := 60) hx hb dX5_text_182 (by decide) ?_
        refine lv_icmp_ne (tgt := 191) hx hb dX5_text_184 (by decide) (fun c_2 => ?_) (fun c_2 => ?_)
        · replace hf := (if_neg c_2).symm.trans hf
          refine lv_iconst (v := 0) hx hb dX5_text_191 (by decide) ?_
          exact J192 x1 x3 x5 0 w _ _ _ hf C (lv_sub hl [0, 1, 2, 3] rfl)
        · replace hf := (if_pos c_2).symm.trans hf
          refine lv_iconst (v := 2) hx hb dX5_text_187 (by decide) ?_
          refine lv_goto (tgt := 192) hx hb dX5_text_188 (by decide) ?_
          exact J192 x1 x3 x5 2 w _ _ _ hf C (lv_sub hl [0, 1, 2, 3] rfl)
      · replace hf := (if_neg c_1).symm.trans hf
        refine lv_aload_n hx hb dX5_text_137 rfl (lv_at hl 0 rfl) ?_
        refine cx_get C hx hb (T := TX5) (N := 28) hts (by decide +kernel) hown 0 rfl rfl 2 (by decide) (hts (.fieldLink RX5 7 "AggregateRowsModel" "isText" "[Z") (by decide +kernel)) (fun _ h9 => h9) (v := .ref (ad 1)) rfl dX5_text_138 ?_
        refine lv_iload hx hb dX5_text_141 (lv_at hl 4 rfl) ?_
        obtain ⟨g_3, hf⟩ := gd_some hf
        refine cx_zald C hx hb 1 rfl g_3 dX5_text_143 ?_
        refine lv_if_eq (tgt := 171) hx hb dX5_text_144 (by decide) (fun c_4 => ?_) (fun c_4 => ?_)
        · replace hf := (if_pos c_4).symm.trans hf
          obtain ⟨x6_5, ex6_5⟩ : ∃ y : Int32, y = x6 + 1 := ⟨_, rfl⟩
          replace hf := lt_at hf ex6_5
          refine lv_iinc (v := x6_5) (lv' := [(6, .int x6_5), (0, .ref (ad 0)), (1, .long x1), (3, .int x3), (5, .int x5)]) hx hb dX5_text_171 hl (k := 4) rfl (by rw [ex6_5]; rfl) (by decide) rfl (fun ls hl => ?_)
          refine lv_goto (tgt := 128) hx hb dX5_text_174 (by decide) ?_
          exact ih128 x1 x3 x5 x6_5 w _ _ _ hf C (lv_sub hl [1, 2, 3, 4, 0] rfl)
        · replace hf := (if_neg c_4).symm.trans hf
          refine lv_aload_n hx hb dX5_text_147 rfl (lv_at hl 0 rfl) ?_
          refine cx_get C hx hb (T := TX5) (N := 28) hts (by decide +kernel) hown 0 rfl rfl 5 (by decide) (hts (.fieldLink RX5 20 "AggregateRowsModel" "sizes" "[I") (by decide +kernel)) (fun _ h9 => h9) (v := .ref (ad 4)) rfl dX5_text_148 ?_
          refine lv_iload hx hb dX5_text_151 (lv_at hl 4 rfl) ?_
          obtain ⟨g_6, hf⟩ := gd_some hf
          refine cx_iald C hx hb 4 rfl g_6 dX5_text_153 ?_
          refine lv_iload_n hx hb dX5_text_154 rfl (lv_at hl 2 rfl) ?_
          refine lv_icmp_ne (tgt := 171) hx hb dX5_text_155 (by decide) (fun c_7 => ?_) (fun c_7 => ?_)
          · replace hf := (if_neg c_7).symm.trans hf
            obtain ⟨x6_8, ex6_8⟩ : ∃ y : Int32, y = x6 + 1 := ⟨_, rfl⟩
            replace hf := lt_at hf ex6_8
            refine lv_iinc (v := x6_8) (lv' := [(6, .int x6_8), (0, .ref (ad 0)), (1, .long x1), (3, .int x3), (5, .int x5)]) hx hb dX5_text_171 hl (k := 4) rfl (by rw [ex6_8]; rfl) (by decide) rfl (fun ls hl => ?_)
            refine lv_goto (tgt := 128) hx hb dX5_text_174 (by decide) ?_
            exact ih128 x1 x3 x5 x6_8 w _ _ _ hf C (lv_sub hl [1, 2, 3, 4, 0] rfl)
          · replace hf := (if_pos c_7).symm.trans hf
            refine lv_aload_n hx hb dX5_text_158 rfl (lv_at hl 0 rfl) ?_
            refine lv_iload hx hb dX5_text_159 (lv_at hl 4 rfl) ?_
            refine lv_lload_n hx hb dX5_text_161 rfl (lv_at hl 1 rfl) ?_
            obtain ⟨r_10, u_11, h_9, hf⟩ := bnd_some hf
            refine cx_calli C (va_runV (As := [.int x6, .long x1]) (rest := []) ⟨hx, hb, hml, hown, hts⟩ (k_X5_isWord l ad ck D tt h_9 _) (cwV 2 hts gX5_text_X5_isWord rfl rfl rfl (by decide +kernel) ⟨Nat.le_of_ble_eq_true rfl, Nat.le_of_ble_eq_true rfl⟩) (cx_preV C (q0 := 0) (ci := 5) rfl rfl) rfl rfl hl.1 rfl (lv_room (Nat.le_of_ble_eq_true rfl)) dX5_text_162 ⟨Nat.zero_le _, Nat.zero_le _⟩) (fun H locs C => ?_)
            refine lv_if_eq (tgt := 171) hx hb dX5_text_165 (by decide) (fun c_12 => ?_) (fun c_12 => ?_)
            · replace hf := (if_pos c_12).symm.trans hf
              obtain ⟨x6_13, ex6_13⟩ : ∃ y : Int32, y = x6 + 1 := ⟨_, rfl⟩
              replace hf := lt_at hf ex6_13
              refine lv_iinc (v := x6_13) (lv' := [(6, .int x6_13), (0, .ref (ad 0)), (1, .long x1), (3, .int x3), (5, .int x5)]) hx hb dX5_text_171 hl (k := 4) rfl (by rw [ex6_13]; rfl) (by decide) rfl (fun ls hl => ?_)
              refine lv_goto (tgt := 128) hx hb dX5_text_174 (by decide) ?_
              exact ih128 x1 x3 x5 x6_13 u_11 _ _ _ hf C (lv_sub hl [1, 2, 3, 4, 0] rfl)
            · replace hf := (if_neg c_12).symm.trans hf
              refine lv_iload hx hb dX5_text_168 (lv_at hl 4 rfl) ?_
              exact cx_iret C hx hb hr hlocks hf dX5_text_170
  have J113 : ∀ (x1 : Int64) (x3 : Int32) (x5 : Int32) (y1 : Int32) (w : St) (H : Heap) (locs : List Loc) (ls : Array Slot), fX5_text_113 x1 x3 x5 y1 w = some (r, u') → CX (wM ad ck) ck D tt (va_A (wM ad ck u) sz) s w H locs → lv_has ls 9 [(0, .ref (ad 0)), (1, .long x1), (3, .int x3), (5, .int x5)] → W p l e (headSpec wsX5_text rmX5_text).room s m ([.ref (ad 0), .long a1] : List Value).toArray below meth c H locs 0 0 (MQ below (QI (wM ad ck) D u sz r u') ([.ref (ad 0), .long a1] : List Value).toArray s 0 0 (va_A (wM ad ck u) sz)) (F0 m 113 ls [.int y1, .ref (ad 0)]) := by
    intro x1 x3 x5 y1 w H locs ls hf C hl
    unfold fX5_text_113 at hf
    refine cx_puti C hx hb (T := TX5) (N := 28) hts (by decide +kernel) tyX5 tyX5_ok nmX5 hown 0 rfl rfl 0 (by decide) (hts (.fieldLink RX5 72 "AggregateRowsModel" "fault" "I") (by decide +kernel)) (fun _ h9 => h9) rfl (by decide +kernel) (Nat.le_of_ble_eq_true rfl) (u1 := sS w 0 y1) rfl dX5_text_113 (fun u_1 H locs eu_1 C => ?_)
    replace hf := lt_at hf eu_1
    refine lv_aload_n hx hb dX5_text_116 rfl (lv_at hl 0 rfl) ?_
    refine cx_get C hx hb (T := TX5) (N := 28) hts (by decide +kernel) hown 0 rfl rfl 0 (by decide) (hts (.fieldLink RX5 72 "AggregateRowsModel" "fault" "I") (by decide +kernel)) (fun _ h9 => h9) (v := .int (u_1.1 0)) rfl dX5_text_117 ?_
    refine lv_if_le (tgt := 125) hx hb dX5_text_120 (by decide) (fun c_2 => ?_) (fun c_2 => ?_)
    · replace hf := (if_pos c_2).symm.trans hf
      refine lv_iconst (v := 0) hx hb dX5_text_125 (by decide) ?_
      refine lv_istore (lv' := [(6, .int 0), (0, .ref (ad 0)), (1, .long x1), (3, .int x3), (5, .int x5)]) hx hb dX5_text_126 hl (by decide) rfl (fun ls hl => ?_)
      exact J128 FU x1 x3 x5 0 u_1 _ _ _ hf C (lv_sub hl [1, 2, 3, 4, 0] rfl)
    · replace hf := (if_neg c_2).symm.trans hf
      refine lv_iconst (v := 0) hx hb dX5_text_123 (by decide) ?_
      exact cx_iret C hx hb hr hlocks hf dX5_text_124
  have J29 : ∀ (n29 : Nat) (x1 : Int64) (x3 : Int32) (x4 : Int32) (x5 : Int32) (x6 : Int32) (w : St) (H : Heap) (locs : List Loc) (ls : Array Slot), fX5_text_29 n29 x1 x3 x4 x5 x6 w = some (r, u') → CX (wM ad ck) ck D tt (va_A (wM ad ck u) sz) s w H locs → lv_has ls 9 [(0, .ref (ad 0)), (1, .long x1), (3, .int x3), (4, .int x4), (5, .int x5), (6, .int x6)] → W p l e (headSpec wsX5_text rmX5_text).room s m ([.ref (ad 0), .long a1] : List Value).toArray below meth c H locs 0 0 (MQ below (QI (wM ad ck) D u sz r u') ([.ref (ad 0), .long a1] : List Value).toArray s 0 0 (va_A (wM ad ck u) sz)) (F0 m 29 ls []) := by
    intro n29
    induction n29 with
    | zero =>
      intro x1 x3 x4 x5 x6 w H locs ls hf
      have hf : (none : Option (Int32 × St)) = some (r, u') := hf
      cases hf
    | succ n29 ih29 =>
      intro x1 x3 x4 x5 x6 w H locs ls hf C hl
      rw [fX5_text_29] at hf
      have J90 : ∀ (x1 : Int64) (x4 : Int32) (x5 : Int32) (x6 : Int32) (y0 : Int32) (y1 : Int32) (w : St) (H : Heap) (locs : List Loc) (ls : Array Slot), fX5_text_90 (fX5_text_29 n29) x1 x4 x5 x6 y0 y1 w = some (r, u') → CX (wM ad ck) ck D tt (va_A (wM ad ck u) sz) s w H locs → lv_has ls 9 [(0, .ref (ad 0)), (1, .long x1), (4, .int x4), (5, .int x5), (6, .int x6)] → W p l e (headSpec wsX5_text rmX5_text).room s m ([.ref (ad 0), .long a1] : List Value).toArray below meth c H locs 0 0 (MQ below (QI (wM ad ck) D u sz r u') ([.ref (ad 0), .long a1] : List Value).toArray s 0 0 (va_A (wM ad ck u) sz)) (F0 m 90 ls [.int y1, .int y0]) := by
        intro x1 x4 x5 x6 y0 y1 w H locs ls hf C hl
        unfold fX5_text_90 at hf
        refine lv_iadd hx hb dX5_text_90 ?_
        refine lv_topi (fun x3_1 ex3_1 => ?_)
        replace hf := lt_at hf ex3_1
        refine lv_istore_n (lv' := [(3, .int x3_1), (0, .ref (ad 0)), (1, .long x1), (4, .int x4), (5, .int x5), (6, .int x6)]) hx hb dX5_text_91 rfl hl (by decide) rfl (fun ls hl => ?_)
        obtain ⟨x6_2, ex6_2⟩ : ∃ y : Int32, y = x6 + (-1) := ⟨_, rfl⟩
        replace hf := lt_at hf ex6_2
        refine lv_iinc (v := x6_2) (lv' := [(6, .int x6_2), (3, .int x3_1), (0, .ref (ad 0)), (1, .long x1), (4, .int x4), (5, .int x5)]) hx hb dX5_text_92 hl (k := 5) rfl (by rw [ex6_2]; rfl) (by decide) rfl (fun ls hl => ?_)
        refine lv_goto (tgt := 29) hx hb dX5_text_95 (by decide) ?_
        exact ih29 x1 x3_1 x4 x5 x6_2 w _ _ _ hf C (lv_sub hl [2, 3, 1, 4, 5, 0] rfl)
      have J77 : ∀ (x1 : Int64) (x3 : Int32) (x5 : Int32) (x6 : Int32) (x7 : Int32) (y0 : Int32) (w : St) (H : Heap) (locs : List Loc) (ls : Array Slot), fX5_text_77 (fX5_text_29 n29) x1 x3 x5 x6 x7 y0 w = some (r, u') → CX (wM ad ck) ck D tt (va_A (wM ad ck u) sz) s w H locs → lv_has ls 9 [(0, .ref (ad 0)), (1, .long x1), (3, .int x3), (5, .int x5), (6, .int x6), (7, .int x7)] → W p l e (headSpec wsX5_text rmX5_text).room s m ([.ref (ad 0), .long a1] : List Value).toArray below meth c H locs 0 0 (MQ below (QI (wM ad ck) D u sz r u') ([.ref (ad 0), .long a1] : List Value).toArray s 0 0 (va_A (wM ad ck u) sz)) (F0 m 77 ls [.int y0]) := by
        intro x1 x3 x5 x6 x7 y0 w H locs ls hf C hl
        unfold fX5_text_77 at hf
        refine lv_istore (lv' := [(4, .int y0), (0, .ref (ad 0)), (1, .long x1), (3, .int x3), (5, .int x5), (6, .int x6), (7, .int x7)]) hx hb dX5_text_77 hl (by decide) rfl (fun ls hl => ?_)
        refine lv_iload_n hx hb dX5_text_79 rfl (lv_at hl 3 rfl) ?_
        refine lv_iload hx hb dX5_text_80 (lv_at hl 6 rfl) ?_
        refine lv_if_ne (tgt := 89) hx hb dX5_text_82 (by decide) (fun c_1 => ?_) (fun c_1 => ?_)
        · replace hf := (if_neg c_1).symm.trans hf
          refine lv_iconst (v := 1) hx hb dX5_text_89 (by decide) ?_
          exact J90 x1 y0 x5 x6 x3 1 w _ _ _ hf C (lv_sub hl [1, 2, 0, 4, 5] rfl)
        · replace hf := (if_pos c_1).symm.trans hf
          refine lv_iconst (v := 0) hx hb dX5_text_85 (by decide) ?_
          refine lv_goto (tgt := 90) hx hb dX5_text_86 (by decide) ?_
          exact J90 x1 y0 x5 x6 x3 0 w _ _ _ hf C (lv_sub hl [1, 2, 0, 4, 5] rfl)
      refine lv_iload hx hb dX5_text_29 (lv_at hl 5 rfl) ?_
      refine lv_if_lt (tgt := 98) hx hb dX5_text_31 (by decide) (fun c_2 => ?_) (fun c_2 => ?_)
      · replace hf := (if_pos c_2).symm.trans hf
        refine lv_aload_n hx hb dX5_text_98 rfl (lv_at hl 0 rfl) ?_
        refine lv_iload hx hb dX5_text_99 (lv_at hl 3 rfl) ?_
        refine lv_if_eq (tgt := 112) hx hb dX5_text_101 (by decide) (fun c_3 => ?_) (fun c_3 => ?_)
        · replace hf := (if_pos c_3).symm.trans hf
          refine lv_iconst (v := 1) hx hb dX5_text_112 (by decide) ?_
          exact J113 x1 x3 x5 1 w _ _ _ hf C (lv_sub hl [0, 1, 2, 4] rfl)
        · replace hf := (if_neg c_3).symm.trans hf
          refine lv_iload_n hx hb dX5_text_104 rfl (lv_at hl 2 rfl) ?_
          refine lv_if_le (tgt := 112) hx hb dX5_text_105 (by decide) (fun c_4 => ?_) (fun c_4 => ?_)
          · replace hf := (if_pos c_4).symm.trans hf
            refine lv_iconst (v := 1) hx hb dX5_text_112 (by decide) ?_
            exact J113 x1 x3 x5 1 w _ _ _ hf C (lv_sub hl [0, 1, 2, 4] rfl)
          · replace hf := (if_neg c_4).symm.trans hf
            refine lv_iconst (v := 0) hx hb dX5_text_108 (by decide) ?_
            refine lv_goto (tgt := 113) hx hb dX5_text_109 (by decide) ?_
            exact J113 x1 x3 x5 0 w _ _ _ hf C (lv_sub hl [0, 1, 2, 4] rfl)
      · replace hf := (if_neg c_2).symm.trans hf
        refine lv_lload_n hx hb dX5_text_34 rfl (lv_at hl 1 rfl) ?_
        refine lv_bipush (v := 8) hx hb dX5_text_35 (by decide) ?_
        refine lv_iload hx hb dX5_text_37 (lv_at hl 5 rfl) ?_
        refine lv_imul hx hb dX5_text_39 ?_
        refine lv_lshr (v := (lshr_ x1 (8 * x6))) hx hb dX5_text_40 rfl ?_
        refine lv_ldc2 (v := 255) hx hb hown (hts (.constantLong RX5 89 (255)) (by decide +kernel)) dX5_text_41 ?_
        refine lv_land hx hb dX5_text_44 ?_
        refine lv_l2i hx hb dX5_text_45 rfl ?_
        refine lv_topi (fun x7_5 ex7_5 => ?_)
        replace hf := lt_at hf ex7_5
        refine lv_istore (lv' := [(7, .int x7_5), (0, .ref (ad 0)), (1, .long x1), (3, .int x3), (4, .int x4), (5, .int x5), (6, .int x6)]) hx hb dX5_text_46 hl (by decide) rfl (fun ls hl => ?_)
        refine lv_iload hx hb dX5_text_48 (lv_at hl 4 rfl) ?_
        refine lv_if_eq (tgt := 76) hx hb dX5_text_50 (by decide) (fun c_6 => ?_) (fun c_6 => ?_)
        · replace hf := (if_pos c_6).symm.trans hf
          refine lv_iconst (v := 0) hx hb dX5_text_76 (by decide) ?_
          exact J77 x1 x3 x5 x6 x7_5 0 w _ _ _ hf C (lv_sub hl [1, 2, 3, 5, 6, 0] rfl)
        · replace hf := (if_neg c_6).symm.trans hf
          refine lv_iload hx hb dX5_text_53 (lv_at hl 0 rfl) ?_
          refine lv_if_eq (tgt := 72) hx hb dX5_text_55 (by decide) (fun c_7 => ?_) (fun c_7 => ?_)
          · replace hf := (if_pos c_7).symm.trans hf
            refine lv_iconst (v := 1) hx hb dX5_text_72 (by decide) ?_
            refine lv_goto (tgt := 77) hx hb dX5_text_73 (by decide) ?_
            exact J77 x1 x3 x5 x6 x7_5 1 w _ _ _ hf C (lv_sub hl [1, 2, 3, 5, 6, 0] rfl)
          · replace hf := (if_neg c_7).symm.trans hf
            refine lv_iload hx hb dX5_text_58 (lv_at hl 0 rfl) ?_
            refine lv_bipush (v := 97) hx hb dX5_text_60 (by decide) ?_
            refine lv_icmp_lt (tgt := 76) hx hb dX5_text_62 (by decide) (fun c_8 => ?_) (fun c_8 => ?_)
            · replace hf := (if_pos c_8).symm.trans hf
              refine lv_iconst (v := 0) hx hb dX5_text_76 (by decide) ?_
              exact J77 x1 x3 x5 x6 x7_5 0 w _ _ _ hf C (lv_sub hl [1, 2, 3, 5, 6, 0] rfl)
            · replace hf := (if_neg c_8).symm.trans hf
              refine lv_iload hx hb dX5_text_65 (lv_at hl 0 rfl) ?_
              refine lv_bipush (v := 122) hx hb dX5_text_67 (by decide) ?_
              refine lv_icmp_gt (tgt := 76) hx hb dX5_text_69 (by decide) (fun c_9 => ?_) (fun c_9 => ?_)
              · replace hf := (if_pos c_9).symm.trans hf
                refine lv_iconst (v := 0) hx hb dX5_text_76 (by decide) ?_
                exact J77 x1 x3 x5 x6 x7_5 0 w _ _ _ hf C (lv_sub hl [1, 2, 3, 5, 6, 0] rfl)
              · replace hf := (if_neg c_9).symm.trans hf
                refine lv_iconst (v := 1) hx hb dX5_text_72 (by decide) ?_
                refine lv_goto (tgt := 77) hx hb dX5_text_73 (by decide) ?_
                exact J77 x1 x3 x5 x6 x7_5 1 w _ _ _ hf C (lv_sub hl [1, 2, 3, 5, 6, 0] rfl)
  have hl := lv_entry ([.ref (ad 0), .long a1]) (n := 9) (Nat.le_of_ble_eq_true rfl)
  rw [lg_entry_eq]
  generalize (lg_sl ([.ref (ad 0), .long a1]) ++ List.replicate (9 - (lg_sl ([.ref (ad 0), .long a1])).length) Slot.unset).toArray = ls at hl ⊢
  have hl : lv_has ls 9 [(0, .ref (ad 0)), (1, .long a1)] := hl
  unfold fX5_text at hf
  refine lv_iconst (v := 0) hx hb dX5_text_0 (by decide) ?_
  refine lv_istore_n (lv' := [(3, .int 0), (0, .ref (ad 0)), (1, .long a1)]) hx hb dX5_text_1 rfl hl (by decide) rfl (fun ls hl => ?_)
  refine lv_iconst (v := 1) hx hb dX5_text_2 (by decide) ?_
  refine lv_istore (lv' := [(4, .int 1), (3, .int 0), (0, .ref (ad 0)), (1, .long a1)]) hx hb dX5_text_3 hl (by decide) rfl (fun ls hl => ?_)
  refine lv_aload_n hx hb dX5_text_5 rfl (lv_at hl 2 rfl) ?_
  refine cx_get C hx hb (T := TX5) (N := 28) hts (by decide +kernel) hown 0 rfl rfl 1 (by decide) (hts (.fieldLink RX5 86 "AggregateRowsModel" "terms" "I") (by decide +kernel)) (fun _ h9 => h9) (v := .int (u.1 1)) rfl dX5_text_6 ?_
  refine lv_bipush (v := 60) hx hb dX5_text_9 (by decide) ?_
  refine lv_icmp_ne (tgt := 19) hx hb dX5_text_11 (by decide) (fun c_1 => ?_) (fun c_1 => ?_)
  · replace hf := (if_neg c_1).symm.trans hf
    refine lv_aload_n hx hb dX5_text_19 rfl (lv_at hl 2 rfl) ?_
    refine cx_get C hx hb (T := TX5) (N := 28) hts (by decide +kernel) hown 0 rfl rfl 1 (by decide) (hts (.fieldLink RX5 86 "AggregateRowsModel" "terms" "I") (by decide +kernel)) (fun _ h9 => h9) (v := .int (u.1 1)) rfl dX5_text_20 ?_
    refine lv_topi (fun x5_2 ex5_2 => ?_)
    replace hf := lt_at hf ex5_2
    refine lv_istore (lv' := [(5, .int x5_2), (4, .int 1), (3, .int 0), (0, .ref (ad 0)), (1, .long a1)]) hx hb dX5_text_23 hl (by decide) rfl (fun ls hl => ?_)
    refine lv_bipush (v := 7) hx hb dX5_text_25 (by decide) ?_
    refine lv_istore (lv' := [(6, .int 7), (5, .int x5_2), (4, .int 1), (3, .int 0), (0, .ref (ad 0)), (1, .long a1)]) hx hb dX5_text_27 hl (by decide) rfl (fun ls hl => ?_)
    exact J29 FU a1 0 1 x5_2 7 u _ _ _ hf C (lv_sub hl [4, 5, 3, 2, 1, 0] rfl)
  · replace hf := (if_pos c_1).symm.trans hf
    refine lv_bipush (v := 59) hx hb dX5_text_14 (by decide) ?_
    refine lv_goto (tgt := 23) hx hb dX5_text_16 (by decide) ?_
    refine lv_istore (lv' := [(5, .int 59), (4, .int 1), (3, .int 0), (0, .ref (ad 0)), (1, .long a1)]) hx hb dX5_text_23 hl (by decide) rfl (fun ls hl => ?_)
    refine lv_bipush (v := 7) hx hb dX5_text_25 (by decide) ?_
    refine lv_istore (lv' := [(6, .int 7), (5, .int 59), (4, .int 1), (3, .int 0), (0, .ref (ad 0)), (1, .long a1)]) hx hb dX5_text_27 hl (by decide) rfl (fun ls hl => ?_)
    exact J29 FU a1 0 1 59 7 u _ _ _ hf C (lv_sub hl [4, 5, 3, 2, 1, 0] rfl)
