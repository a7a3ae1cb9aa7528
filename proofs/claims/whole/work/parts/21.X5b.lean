/-! ===== X5_thousandths ===== -/
def fX5_thousandths_16  : Nat → Int64 → Int32 → St → Option (Int64 × St)
  | 0, _, _, _ => none
  | n16 + 1, x2, x4, w => (if 3 ≤ x4 then some (x2, w) else lt_ (x2 * 10) (fun x2_2 => lt_ (x4 + 1) (fun x4_3 => fX5_thousandths_16 n16 x2_2 x4_3 w)))
def fX5_thousandths (u : St) (a1 : Int32) : Option (Int64 × St) := gd (okI a1 60) (lt_ ((u.2.1 1 a1.toNatClampNeg).toInt64) (fun x2_2 => gd (okI a1 60) (lt_ (u.2.1 2 a1.toNatClampNeg) (fun x4_4 => fX5_thousandths_16 FU x2_2 x4_4 u))))
abbrev rmX5_thousandths : Room := { frames := 0, cells := 0, slots := 0, locals := 0 }
set_option maxHeartbeats 4000000 in
set_option maxRecDepth 100000 in
theorem k_X5_thousandths (l : Launch) (ad : Nat → Nat) (ck : Nat → ClassId) (D : va_G) (tt : Nat) {u : St} {a1 : Int32} {r : Int64} {u' : St} (hf : fX5_thousandths u a1 = some (r, u')) : ML l yX5_thousandths wsX5_thousandths rmX5_thousandths (wM ad ck) ck D tt [.ref (ad 0), .int a1] u r u' := by
  intro sz
  refine Met.ofW (cc := cX5_thousandths) (maxL := 5) (ret := (some .long)) (by decide) rfl ?_
  intro p e s m args below meth c s₁ B hml hv
  obtain ⟨rfl, hsz, C⟩ := cx_entry hv
  have hx := B.exec
  have hb := B.bytes
  have hr := B.returns
  have hts := atoms_spec (ws := wsX5_thousandths) B.pre
  have hown : s.vm.findClass RX5 = some m.cls := findClass_of_methodNamed B.named
  have hlocks := B.notSynchronized
  have J16 : ∀ (n16 : Nat) (x2 : Int64) (x4 : Int32) (w : St) (H : Heap) (locs : List Loc) (ls : Array Slot), fX5_thousandths_16 n16 x2 x4 w = some (r, u') → CX (wM ad ck) ck D tt (va_A (wM ad ck u) sz) s w H locs → lv_has ls 5 [(2, .long x2), (4, .int x4)] → W p l e (headSpec wsX5_thousandths rmX5_thousandths).room s m ([.ref (ad 0), .int a1] : List Value).toArray below meth c H locs 0 0 (MQ below (QL (wM ad ck) D u sz r u') ([.ref (ad 0), .int a1] : List Value).toArray s 0 0 (va_A (wM ad ck u) sz)) (F0 m 16 ls []) := by
    intro n16
    induction n16 with
    | zero =>
      intro x2 x4 w H locs ls hf
      have hf : (none : Option (Int64 × St)) = some (r, u') := hf
      cases hf
    | succ n16 ih16 =>
      intro x2 x4 w H locs ls hf C hl
      rw [fX5_thousandths_16] at hf
      refine lv_iload hx hb dX5_thousandths_16 (lv_at hl 1 rfl) ?_
      refine lv_iconst (v := 3) hx hb dX5_thousandths_18 (by decide) ?_
      refine lv_icmp_ge (tgt := 34) hx hb dX5_thousandths_19 (by decide) (fun c_1 => ?_) (fun c_1 => ?_)
      · replace hf := (if_pos c_1).symm.trans hf
        refine lv_lload_n hx hb dX5_thousandths_34 rfl (lv_at hl 0 rfl) ?_
        exact cx_lret C hx hb hr hlocks hf dX5_thousandths_35
      · replace hf := (if_neg c_1).symm.trans hf
        refine lv_lload_n hx hb dX5_thousandths_22 rfl (lv_at hl 0 rfl) ?_
        refine lv_ldc2 (v := 10) hx hb hown (hts (.constantLong RX5 95 (10)) (by decide +kernel)) dX5_thousandths_23 ?_
        refine lv_lmul hx hb dX5_thousandths_26 ?_
        refine lv_topl (fun x2_2 ex2_2 => ?_)
        replace hf := lt_at hf ex2_2
        refine lv_lstore_n (lv' := [(2, .long x2_2), (4, .int x4)]) hx hb dX5_thousandths_27 rfl hl (by decide) rfl (fun ls hl => ?_)
        obtain ⟨x4_3, ex4_3⟩ : ∃ y : Int32, y = x4 + 1 := ⟨_, rfl⟩
        replace hf := lt_at hf ex4_3
        refine lv_iinc (v := x4_3) (lv' := [(4, .int x4_3), (2, .long x2_2)]) hx hb dX5_thousandths_28 hl (k := 1) rfl (by rw [ex4_3]; rfl) (by decide) rfl (fun ls hl => ?_)
        refine lv_goto (tgt := 16) hx hb dX5_thousandths_31 (by decide) ?_
        exact ih16 x2_2 x4_3 w _ _ _ hf C (lv_sub hl [1, 0] rfl)
  have hl := lv_entry ([.ref (ad 0), .int a1]) (n := 5) (Nat.le_of_ble_eq_true rfl)
  rw [lg_entry_eq]
  generalize (lg_sl ([.ref (ad 0), .int a1]) ++ List.replicate (5 - (lg_sl ([.ref (ad 0), .int a1])).length) Slot.unset).toArray = ls at hl ⊢
  have hl : lv_has ls 5 [(0, .ref (ad 0)), (1, .int a1)] := hl
  unfold fX5_thousandths at hf
  refine lv_aload_n hx hb dX5_thousandths_0 rfl (lv_at hl 0 rfl) ?_
  refine cx_get C hx hb (T := TX5) (N := 28) hts (by decide +kernel) hown 0 rfl rfl 3 (by decide) (hts (.fieldLink RX5 13 "AggregateRowsModel" "units" "[I") (by decide +kernel)) (fun _ h9 => h9) (v := .ref (ad 2)) rfl dX5_thousandths_1 ?_
  refine lv_iload_n hx hb dX5_thousandths_4 rfl (lv_at hl 1 rfl) ?_
  obtain ⟨g_1, hf⟩ := gd_some hf
  refine cx_iald C hx hb 2 rfl g_1 dX5_thousandths_5 ?_
  refine lv_i2l hx hb dX5_thousandths_6 rfl ?_
  refine lv_topl (fun x2_2 ex2_2 => ?_)
  replace hf := lt_at hf ex2_2
  refine lv_lstore_n (lv' := [(2, .long x2_2), (0, .ref (ad 0)), (1, .int a1)]) hx hb dX5_thousandths_7 rfl hl (by decide) rfl (fun ls hl => ?_)
  refine lv_aload_n hx hb dX5_thousandths_8 rfl (lv_at hl 1 rfl) ?_
  refine cx_get C hx hb (T := TX5) (N := 28) hts (by decide +kernel) hown 0 rfl rfl 4 (by decide) (hts (.fieldLink RX5 17 "AggregateRowsModel" "scales" "[I") (by decide +kernel)) (fun _ h9 => h9) (v := .ref (ad 3)) rfl dX5_thousandths_9 ?_
  refine lv_iload_n hx hb dX5_thousandths_12 rfl (lv_at hl 2 rfl) ?_
  obtain ⟨g_3, hf⟩ := gd_some hf
  refine cx_iald C hx hb 3 rfl g_3 dX5_thousandths_13 ?_
  refine lv_topi (fun x4_4 ex4_4 => ?_)
  replace hf := lt_at hf ex4_4
  refine lv_istore (lv' := [(4, .int x4_4), (2, .long x2_2), (0, .ref (ad 0)), (1, .int a1)]) hx hb dX5_thousandths_14 hl (by decide) rfl (fun ls hl => ?_)
  exact J16 FU x2_2 x4_4 u _ _ _ hf C (lv_sub hl [1, 0] rfl)
/-! ===== X5_compare ===== -/
def fX5_compare_153  (x1 : Int32) (x2 : Int32) (w : St) : Option (Int32 × St) := gd (okI x1 60) (gd (okI x2 60) (some (((w.2.1 3 x1.toNatClampNeg) - (w.2.1 3 x2.toNatClampNeg)), w)))
def fX5_compare_78  : Nat → Int32 → Int32 → Int32 → St → Option (Int32 × St)
  | 0, _, _, _, _ => none
  | n78 + 1, x1, x2, x3, w => gd (okI x1 60) ((if (w.2.1 3 x1.toNatClampNeg) ≤ x3 then fX5_compare_153 x1 x2 w else gd (okI x2 60) ((if (w.2.1 3 x2.toNatClampNeg) ≤ x3 then fX5_compare_153 x1 x2 w else gd (okI ((8 * x1) + x3) 480) (gd (okI ((8 * x2) + x3) 480) ((if (w.2.1 4 ((8 * x1) + x3).toNatClampNeg) = (w.2.1 4 ((8 * x2) + x3).toNatClampNeg) then lt_ (x3 + 1) (fun x3_8 => fX5_compare_78 n78 x1 x2 x3_8 w) else gd (okI ((8 * x1) + x3) 480) (gd (okI ((8 * x2) + x3) 480) (some (((w.2.1 4 ((8 * x1) + x3).toNatClampNeg) - (w.2.1 4 ((8 * x2) + x3).toNatClampNeg)), w))))))))))
def fX5_compare (u : St) (a1 : Int32) (a2 : Int32) : Option (Int32 × St) := gd (okI a1 60) (gd (okI a2 60) ((if (u.2.1 0 a1.toNatClampNeg) = (u.2.1 0 a2.toNatClampNeg) then gd (okI a1 60) ((if (u.2.1 0 a1.toNatClampNeg) = 0 then bnd (fX5_thousandths u a1) (fun r_7 u_8 => bnd (fX5_thousandths u_8 a2) (fun r_10 u_11 => (if r_10 ≤ r_7 then (if r_7 ≤ r_10 then some (0, u_11) else some (1, u_11)) else some ((-1), u_11)))) else fX5_compare_78 FU a1 a2 0 u)) else gd (okI a2 60) ((if (u.2.1 0 a2.toNatClampNeg) = 0 then some (1, u) else some ((-1), u))))))
abbrev rmX5_compare : Room := { frames := 1, cells := 0, slots := 0, locals := 24 }
set_option maxHeartbeats 4000000 in
set_option maxRecDepth 100000 in
theorem k_X5_compare (l : Launch) (ad : Nat → Nat) (ck : Nat → ClassId) (D : va_G) (tt : Nat) {u : St} {a1 : Int32} {a2 : Int32} {r : Int32} {u' : St} (hf : fX5_compare u a1 a2 = some (r, u')) : MI l yX5_compare wsX5_compare rmX5_compare (wM ad ck) ck D tt [.ref (ad 0), .int a1, .int a2] u r u' := by
  intro sz
  refine Met.ofW (cc := cX5_compare) (maxL := 7) (ret := (some .int)) (by decide) rfl ?_
  intro p e s m args below meth c s₁ B hml hv
  obtain ⟨rfl, hsz, C⟩ := cx_entry hv
  have hx := B.exec
  have hb := B.bytes
  have hr := B.returns
  have hts := atoms_spec (ws := wsX5_compare) B.pre
  have hown : s.vm.findClass RX5 = some m.cls := findClass_of_methodNamed B.named
  have hlocks := B.notSynchronized
  have J153 : ∀ (x1 : Int32) (x2 : Int32) (w : St) (H : Heap) (locs : List Loc) (ls : Array Slot), fX5_compare_153 x1 x2 w = some (r, u') → CX (wM ad ck) ck D tt (va_A (wM ad ck u) sz) s w H locs → lv_has ls 7 [(0, .ref (ad 0)), (1, .int x1), (2, .int x2)] → W p l e (headSpec wsX5_compare rmX5_compare).room s m ([.ref (ad 0), .int a1, .int a2] : List Value).toArray below meth c H locs 0 0 (MQ below (QI (wM ad ck) D u sz r u') ([.ref (ad 0), .int a1, .int a2] : List Value).toArray s 0 0 (va_A (wM ad ck u) sz)) (F0 m 153 ls []) := by
    intro x1 x2 w H locs ls hf C hl
    unfold fX5_compare_153 at hf
    refine lv_aload_n hx hb dX5_compare_153 rfl (lv_at hl 0 rfl) ?_
    refine cx_get C hx hb (T := TX5) (N := 28) hts (by decide +kernel) hown 0 rfl rfl 5 (by decide) (hts (.fieldLink RX5 20 "AggregateRowsModel" "sizes" "[I") (by decide +kernel)) (fun _ h9 => h9) (v := .ref (ad 4)) rfl dX5_compare_154 ?_
    refine lv_iload_n hx hb dX5_compare_157 rfl (lv_at hl 1 rfl) ?_
    obtain ⟨g_1, hf⟩ := gd_some hf
    refine cx_iald C hx hb 4 rfl g_1 dX5_compare_158 ?_
    refine lv_aload_n hx hb dX5_compare_159 rfl (lv_at hl 0 rfl) ?_
    refine cx_get C hx hb (T := TX5) (N := 28) hts (by decide +kernel) hown 0 rfl rfl 5 (by decide) (hts (.fieldLink RX5 20 "AggregateRowsModel" "sizes" "[I") (by decide +kernel)) (fun _ h9 => h9) (v := .ref (ad 4)) rfl dX5_compare_160 ?_
    refine lv_iload_n hx hb dX5_compare_163 rfl (lv_at hl 2 rfl) ?_
    obtain ⟨g_2, hf⟩ := gd_some hf
    refine cx_iald C hx hb 4 rfl g_2 dX5_compare_164 ?_
    refine lv_isub hx hb dX5_compare_165 ?_
    exact cx_iret C hx hb hr hlocks hf dX5_compare_166
  have J78 : ∀ (n78 : Nat) (x1 : Int32) (x2 : Int32) (x3 : Int32) (w : St) (H : Heap) (locs : List Loc) (ls : Array Slot), fX5_compare_78 n78 x1 x2 x3 w = some (r, u') → CX (wM ad ck) ck D tt (va_A (wM ad ck u) sz) s w H locs → lv_has ls 7 [(0, .ref (ad 0)), (1, .int x1), (2, .int x2), (3, .int x3)] → W p l e (headSpec wsX5_compare rmX5_compare).room s m ([.ref (ad 0), .int a1, .int a2] : List Value).toArray below meth c H locs 0 0 (MQ below (QI (wM ad ck) D u sz r u') ([.ref (ad 0), .int a1, .int a2] : List Value).toArray s 0 0 (va_A (wM ad ck u) sz)) (F0 m 78 ls []) := by
    intro n78
    induction n78 with
    | zero =>
      intro x1 x2 x3 w H locs ls hf
      have hf : (none : Option (Int32 × St)) = some (r, u') := hf
      cases hf
    | succ n78 ih78 =>
      intro x1 x2 x3 w H locs ls hf C hl
      rw [fX5_compare_78] at hf
      refine lv_iload_n hx hb dX5_compare_78 rfl (lv_at hl 3 rfl) ?_
      refine lv_aload_n hx hb dX5_compare_79 rfl (lv_at hl 0 rfl) ?_
      refine cx_get C hx hb (T := TX5) (N := 28) hts (by decide +kernel) hown 0 rfl rfl 5 (by decide) (hts (.fieldLink RX5 20 "AggregateRowsModel" "sizes" "[I") (by decide +kernel)) (fun _ h9 => h9) (v := .ref (ad 4)) rfl dX5_compare_80 ?_
      refine lv_iload_n hx hb dX5_compare_83 rfl (lv_at hl 1 rfl) ?_
      obtain ⟨g_1, hf⟩ := gd_some hf
      refine cx_iald C hx hb 4 rfl g_1 dX5_compare_84 ?_
      refine lv_icmp_ge (tgt := 153) hx hb dX5_compare_85 (by decide) (fun c_2 => ?_) (fun c_2 => ?_)
      · replace hf := (if_pos c_2).symm.trans hf
        exact J153 x1 x2 w _ _ _ hf C (lv_sub hl [0, 1, 2] rfl)
      · replace hf := (if_neg c_2).symm.trans hf
        refine lv_iload_n hx hb dX5_compare_88 rfl (lv_at hl 3 rfl) ?_
        refine lv_aload_n hx hb dX5_compare_89 rfl (lv_at hl 0 rfl) ?_
        refine cx_get C hx hb (T := TX5) (N := 28) hts (by decide +kernel) hown 0 rfl rfl 5 (by decide) (hts (.fieldLink RX5 20 "AggregateRowsModel" "sizes" "[I") (by decide +kernel)) (fun _ h9 => h9) (v := .ref (ad 4)) rfl dX5_compare_90 ?_
        refine lv_iload_n hx hb dX5_compare_93 rfl (lv_at hl 2 rfl) ?_
        obtain ⟨g_3, hf⟩ := gd_some hf
        refine cx_iald C hx hb 4 rfl g_3 dX5_compare_94 ?_
        refine lv_icmp_ge (tgt := 153) hx hb dX5_compare_95 (by decide) (fun c_4 => ?_) (fun c_4 => ?_)
        · replace hf := (if_pos c_4).symm.trans hf
          exact J153 x1 x2 w _ _ _ hf C (lv_sub hl [0, 1, 2] rfl)
        · replace hf := (if_neg c_4).symm.trans hf
          refine lv_aload_n hx hb dX5_compare_98 rfl (lv_at hl 0 rfl) ?_
          refine cx_get C hx hb (T := TX5) (N := 28) hts (by decide +kernel) hown 0 rfl rfl 6 (by decide) (hts (.fieldLink RX5 23 "AggregateRowsModel" "letters" "[I") (by decide +kernel)) (fun _ h9 => h9) (v := .ref (ad 5)) rfl dX5_compare_99 ?_
          refine lv_bipush (v := 8) hx hb dX5_compare_102 (by decide) ?_
          refine lv_iload_n hx hb dX5_compare_104 rfl (lv_at hl 1 rfl) ?_
          refine lv_imul hx hb dX5_compare_105 ?_
          refine lv_iload_n hx hb dX5_compare_106 rfl (lv_at hl 3 rfl) ?_
          refine lv_iadd hx hb dX5_compare_107 ?_
          obtain ⟨g_5, hf⟩ := gd_some hf
          refine cx_iald C hx hb 5 rfl g_5 dX5_compare_108 ?_
          refine lv_aload_n hx hb dX5_compare_109 rfl (lv_at hl 0 rfl) ?_
          refine cx_get C hx hb (T := TX5) (N := 28) hts (by decide +kernel) hown 0 rfl rfl 6 (by decide) (hts (.fieldLink RX5 23 "AggregateRowsModel" "letters" "[I") (by decide +kernel)) (fun _ h9 => h9) (v := .ref (ad 5)) rfl dX5_compare_110 ?_
          refine lv_bipush (v := 8) hx hb dX5_compare_113 (by decide) ?_
          refine lv_iload_n hx hb dX5_compare_115 rfl (lv_at hl 2 rfl) ?_
          refine lv_imul hx hb dX5_compare_116 ?_
          refine lv_iload_n hx hb dX5_compare_117 rfl (lv_at hl 3 rfl) ?_
          refine lv_iadd hx hb dX5_compare_118 ?_
          obtain ⟨g_6, hf⟩ := gd_some hf
          refine cx_iald C hx hb 5 rfl g_6 dX5_compare_119 ?_
          refine lv_icmp_eq (tgt := 147) hx hb dX5_compare_120 (by decide) (fun c_7 => ?_) (fun c_7 => ?_)
          · replace hf := (if_pos c_7).symm.trans hf
            obtain ⟨x3_8, ex3_8⟩ : ∃ y : Int32, y = x3 + 1 := ⟨_, rfl⟩
            replace hf := lt_at hf ex3_8
            refine lv_iinc (v := x3_8) (lv' := [(3, .int x3_8), (0, .ref (ad 0)), (1, .int x1), (2, .int x2)]) hx hb dX5_compare_147 hl (k := 3) rfl (by rw [ex3_8]; rfl) (by decide) rfl (fun ls hl => ?_)
            refine lv_goto (tgt := 78) hx hb dX5_compare_150 (by decide) ?_
            exact ih78 x1 x2 x3_8 w _ _ _ hf C (lv_sub hl [1, 2, 3, 0] rfl)
          · replace hf := (if_neg c_7).symm.trans hf
            refine lv_aload_n hx hb dX5_compare_123 rfl (lv_at hl 0 rfl) ?_
            refine cx_get C hx hb (T := TX5) (N := 28) hts (by decide +kernel) hown 0 rfl rfl 6 (by decide) (hts (.fieldLink RX5 23 "AggregateRowsModel" "letters" "[I") (by decide +kernel)) (fun _ h9 => h9) (v := .ref (ad 5)) rfl dX5_compare_124 ?_
            refine lv_bipush (v := 8) hx hb dX5_compare_127 (by decide) ?_
            refine lv_iload_n hx hb dX5_compare_129 rfl (lv_at hl 1 rfl) ?_
            refine lv_imul hx hb dX5_compare_130 ?_
            refine lv_iload_n hx hb dX5_compare_131 rfl (lv_at hl 3 rfl) ?_
            refine lv_iadd hx hb dX5_compare_132 ?_
            obtain ⟨g_9, hf⟩ := gd_some hf
            refine cx_iald C hx hb 5 rfl g_9 dX5_compare_133 ?_
            refine lv_aload_n hx hb dX5_compare_134 rfl (lv_at hl 0 rfl) ?_
            refine cx_get C hx hb (T := TX5) (N := 28) hts (by decide +kernel) hown 0 rfl rfl 6 (by decide) (hts (.fieldLink RX5 23 "AggregateRowsModel" "letters" "[I") (by decide +kernel)) (fun _ h9 => h9) (v := .ref (ad 5)) rfl dX5_compare_135 ?_
            refine lv_bipush (v := 8) hx hb dX5_compare_138 (by decide) ?_
            refine lv_iload_n hx hb dX5_compare_140 rfl (lv_at hl 2 rfl) ?_
            refine lv_imul hx hb dX5_compare_141 ?_
            refine lv_iload_n hx hb dX5_compare_142 rfl (lv_at hl 3 rfl) ?_
            refine lv_iadd hx hb dX5_compare_143 ?_
            obtain ⟨g_10, hf⟩ := gd_some hf
            refine cx_iald C hx hb 5 rfl g_10 dX5_compare_144 ?_
            refine lv_isub hx hb dX5_compare_145 ?_
            exact cx_iret C hx hb hr hlocks hf dX5_compare_146
  have hl := lv_entry ([.ref (ad 0), .int a1, .int a2]) (n := 7) (Nat.le_of_ble_eq_true rfl)
  rw [lg_entry_eq]
  generalize (lg_sl ([.ref (ad 0), .int a1, .int a2]) ++ List.replicate (7 - (lg_sl ([.ref (ad 0), .int a1, .int a2])).length) Slot.unset).toArray = ls at hl ⊢
  have hl : lv_has ls 7 [(0, .ref (ad 0)), (1, .int a1), (2, .int a2)] := hl
  unfold fX5_compare at hf
  refine lv_aload_n hx hb dX5_compare_0 rfl (lv_at hl 0 rfl) ?_
  refine cx_get C hx hb (T := TX5) (N := 28) hts (by decide +kernel) hown 0 rfl rfl 2 (by decide) (hts (.fieldLink RX5 7 "AggregateRowsModel" "isText" "[Z") (by decide +kernel)) (fun _ h9 => h9) (v := .ref (ad 1)) rfl dX5_compare_1 ?_
  refine lv_iload_n hx hb dX5_compare_4 rfl (lv_at hl 1 rfl) ?_
  obtain ⟨g_1, hf⟩ := gd_some hf
  refine cx_zald C hx hb 1 rfl g_1 dX5_compare_5 ?_
  refine lv_aload_n hx hb dX5_compare_6 rfl (lv_at hl 0 rfl) ?_
  refine cx_get C hx hb (T := TX5) (N := 28) hts (by decide +kernel) hown 0 rfl rfl 2 (by decide) (hts (.fieldLink RX5 7 "AggregateRowsModel" "isText" "[Z") (by decide +kernel)) (fun _ h9 => h9) (v := .ref (ad 1)) rfl dX5_compare_7 ?_
  refine lv_iload_n hx hb dX5_compare_10 rfl (lv_at hl 2 rfl) ?_
  obtain ⟨g_2, hf⟩ := gd_some hf
  refine cx_zald C hx hb 1 rfl g_2 dX5_compare_11 ?_
  refine lv_icmp_eq (tgt := 30) hx hb dX5_compare_12 (by decide) (fun c_3 => ?_) (fun c_3 => ?_)
  · replace hf := (if_pos c_3).symm.trans hf
    refine lv_aload_n hx hb dX5_compare_30 rfl (lv_at hl 0 rfl) ?_
    refine cx_get C hx hb (T := TX5) (N := 28) hts (by decide +kernel) hown 0 rfl rfl 2 (by decide) (hts (.fieldLink RX5 7 "AggregateRowsModel" "isText" "[Z") (by decide +kernel)) (fun _ h9 => h9) (v := .ref (ad 1)) rfl dX5_compare_31 ?_
    refine lv_iload_n hx hb dX5_compare_34 rfl (lv_at hl 1 rfl) ?_
    obtain ⟨g_4, hf⟩ := gd_some hf
    refine cx_zald C hx hb 1 rfl g_4 dX5_compare_35 ?_
    refine lv_if_ne (tgt := 76) hx hb dX5_compare_36 (by decide) (fun c_5 => ?_) (fun c_5 => ?_)
    · replace hf := (if_neg c_5).symm.trans hf
      refine lv_iconst (v := 0) hx hb dX5_compare_76 (by decide) ?_
      refine lv_istore_n (lv' := [(3, .int 0), (0, .ref (ad 0)), (1, .int a1), (2, .int a2)]) hx hb dX5_compare_77 rfl hl (by decide) rfl (fun ls hl => ?_)
      exact J78 FU a1 a2 0 u _ _ _ hf C (lv_sub hl [1, 2, 3, 0] rfl)
    · replace hf := (if_pos c_5).symm.trans hf
      refine lv_aload_n hx hb dX5_compare_39 rfl (lv_at hl 0 rfl) ?_
      refine lv_iload_n hx hb dX5_compare_40 rfl (lv_at hl 1 rfl) ?_
      obtain ⟨r_7, u_8, h_6, hf⟩ := bnd_some hf
      refine cx_calll C (va_runV (As := [.int a1]) (rest := []) ⟨hx, hb, hml, hown, hts⟩ (k_X5_thousandths l ad ck D tt h_6 _) (cwV 1 hts gX5_compare_X5_thousandths rfl rfl rfl (by decide +kernel) ⟨Nat.le_of_ble_eq_true rfl, Nat.le_of_ble_eq_true rfl⟩) (cx_preV C (q0 := 0) (ci := 5) rfl rfl) rfl rfl hl.1 rfl (lv_room (Nat.le_of_ble_eq_true rfl)) dX5_compare_41 ⟨Nat.zero_le _, Nat.zero_le _⟩) (fun H locs C => ?_)
      refine lv_lstore_n (lv' := [(3, .long r_7), (0, .ref (ad 0)), (1, .int a1), (2, .int a2)]) hx hb dX5_compare_44 rfl hl (by decide) rfl (fun ls hl => ?_)
      refine lv_aload_n hx hb dX5_compare_45 rfl (lv_at hl 1 rfl) ?_
      refine lv_iload_n hx hb dX5_compare_46 rfl (lv_at hl 3 rfl) ?_
      obtain ⟨r_10, u_11, h_9, hf⟩ := bnd_some hf
      refine cx_calll C (va_runV (As := [.int a2]) (rest := []) ⟨hx, hb, hml, hown, hts⟩ (k_X5_thousandths l ad ck D tt h_9 _) (cwV 1 hts gX5_compare_X5_thousandths rfl rfl rfl (by decide +kernel) ⟨Nat.le_of_ble_eq_true rfl, Nat.le_of_ble_eq_true rfl⟩) (cx_preV C (q0 := 0) (ci := 5) rfl rfl) rfl rfl hl.1 rfl (lv_room (Nat.le_of_ble_eq_true rfl)) dX5_compare_47 ⟨Nat.zero_le _, Nat.zero_le _⟩) (fun H locs C => ?_)
      refine lv_lstore (lv' := [(5, .long r_10), (3, .long r_7), (0, .ref (ad 0)), (1, .int a1), (2, .int a2)]) hx hb dX5_compare_50 hl (by decide) rfl (fun ls hl => ?_)
      refine lv_lload_n hx hb dX5_compare_52 rfl (lv_at hl 1 rfl) ?_
      refine lv_lload hx hb dX5_compare_53 (lv_at hl 0 rfl) ?_
      refine W.lcmp hx hb dX5_compare_55 ?_
      refine lv_if_ge (tgt := 63) hx hb dX5_compare_56 (by decide) (fun c_12 => ?_) (fun c_12 => ?_)
      · replace hf := (if_pos ((lg_cmp_ge _ _).mp c_12)).symm.trans hf
        refine lv_lload_n hx hb dX5_compare_63 rfl (lv_at hl 1 rfl) ?_
        refine lv_lload hx hb dX5_compare_64 (lv_at hl 0 rfl) ?_
        refine W.lcmp hx hb dX5_compare_66 ?_
        refine lv_if_le (tgt := 74) hx hb dX5_compare_67 (by decide) (fun c_13 => ?_) (fun c_13 => ?_)
        · replace hf := (if_pos ((lg_cmp_le _ _).mp c_13)).symm.trans hf
          refine lv_iconst (v := 0) hx hb dX5_compare_74 (by decide) ?_
          exact cx_iret C hx hb hr hlocks hf dX5_compare_75
        · replace hf := (if_neg (fun q => c_13 ((lg_cmp_le _ _).mpr q))).symm.trans hf
          refine lv_iconst (v := 1) hx hb dX5_compare_70 (by decide) ?_
          refine lv_goto (tgt := 75) hx hb dX5_compare_71 (by decide) ?_
          exact cx_iret C hx hb hr hlocks hf dX5_compare_75
      · replace hf := (if_neg (fun q => c_12 ((lg_cmp_ge _ _).mpr q))).symm.trans hf
        refine lv_iconst (v := (-1)) hx hb dX5_compare_59 (by decide) ?_
        refine lv_goto (tgt := 75) hx hb dX5_compare_60 (by decide) ?_
        exact cx_iret C hx hb hr hlocks hf dX5_compare_75
  · replace hf := (if_neg c_3).symm.trans hf
    refine lv_aload_n hx hb dX5_compare_15 rfl (lv_at hl 0 rfl) ?_
    refine cx_get C hx hb (T := TX5) (N := 28) hts (by decide +kernel) hown 0 rfl rfl 2 (by decide) (hts (.fieldLink RX5 7 "AggregateRowsModel" "isText" "[Z") (by decide +kernel)) (fun _ h9 => h9) (v := .ref (ad 1)) rfl dX5_compare_16 ?_
    refine lv_iload_n hx hb dX5_compare_19 rfl (lv_at hl 2 rfl) ?_
    obtain ⟨g_14, hf⟩ := gd_some hf
    refine cx_zald C hx hb 1 rfl g_14 dX5_compare_20 ?_
    refine lv_if_eq (tgt := 28) hx hb dX5_compare_21 (by decide) (fun c_15 => ?_) (fun c_15 => ?_)
    · replace hf := (if_pos c_15).symm.trans hf
      refine lv_iconst (v := 1) hx hb dX5_compare_28 (by decide) ?_
      exact cx_iret C hx hb hr hlocks hf dX5_compare_29
    · replace hf := (if_neg c_15).symm.trans hf
      refine lv_iconst (v := (-1)) hx hb dX5_compare_24 (by decide) ?_
      refine lv_goto (tgt := 29) hx hb dX5_compare_25 (by decide) ?_
      exact cx_iret C hx hb hr hlocks hf dX5_compare_29
/-! ===== X5_isTerm ===== -/
def fX5_isTerm (u : St) (a1 : Int32) : Option (Int32 × St) := (if a1 < 0 then some (0, u) else (if (u.1 1) ≤ a1 then some (0, u) else some (1, u)))
abbrev rmX5_isTerm : Room := { frames := 0, cells := 0, slots := 0, locals := 0 }
set_option maxHeartbeats 4000000 in
set_option maxRecDepth 100000 in
theorem k_X5_isTerm (l : Launch) (ad : Nat → Nat) (ck : Nat → ClassId) (D : va_G) (tt : Nat) {u : St} {a1 : Int32} {r : Int32} {u' : St} (hf : fX5_isTerm u a1 = some (r, u')) : MI l yX5_isTerm wsX5_isTerm rmX5_isTerm (wM ad ck) ck D tt [.ref (ad 0), .int a1] u r u' := by
  intro sz
  refine Met.ofW (cc := cX5_isTerm) (maxL := 2) (ret := (some .boolean)) (by decide) rfl ?_
  intro p e s m args below meth c s₁ B hml hv
  obtain ⟨rfl, hsz, C⟩ := cx_entry hv
  have hx := B.exec
  have hb := B.bytes
  have hr := B.returns
  have hts := atoms_spec (ws := wsX5_isTerm) B.pre
  have hown : s.vm.findClass RX5 = some m.cls := findClass_of_methodNamed B.named
  have hlocks := B.notSynchronized
  have hl := lv_entry ([.ref (ad 0), .int a1]) (n := 2) (Nat.le_of_ble_eq_true rfl)
  rw [lg_entry_eq]
  generalize (lg_sl ([.ref (ad 0), .int a1]) ++ List.replicate (2 - (lg_sl ([.ref (ad 0), .int a1])).length) Slot.unset).toArray = ls at hl ⊢
  have hl : lv_has ls 2 [(0, .ref (ad 0)), (1, .int a1)] := hl
  unfold fX5_isTerm at hf
  refine lv_iload_n hx hb dX5_isTerm_0 rfl (lv_at hl 1 rfl) ?_
  refine lv_if_lt (tgt := 16) hx hb dX5_isTerm_1 (by decide) (fun c_1 => ?_) (fun c_1 => ?_)
  · replace hf := (if_pos c_1).symm.trans hf
    refine lv_iconst (v := 0) hx hb dX5_isTerm_16 (by decide) ?_
    exact cx_zret C hx hb hr (by decide) hlocks hf dX5_isTerm_17
  · replace hf := (if_neg c_1).symm.trans hf
    refine lv_iload_n hx hb dX5_isTerm_4 rfl (lv_at hl 1 rfl) ?_
    refine lv_aload_n hx hb dX5_isTerm_5 rfl (lv_at hl 0 rfl) ?_
    refine cx_get C hx hb (T := TX5) (N := 28) hts (by decide +kernel) hown 0 rfl rfl 1 (by decide) (hts (.fieldLink RX5 86 "AggregateRowsModel" "terms" "I") (by decide +kernel)) (fun _ h9 => h9) (v := .int (u.1 1)) rfl dX5_isTerm_6 ?_
    refine lv_icmp_ge (tgt := 16) hx hb dX5_isTerm_9 (by decide) (fun c_2 => ?_) (fun c_2 => ?_)
    · replace hf := (if_pos c_2).symm.trans hf
      refine lv_iconst (v := 0) hx hb dX5_isTerm_16 (by decide) ?_
      exact cx_zret C hx hb hr (by decide) hlocks hf dX5_isTerm_17
    · replace hf := (if_neg c_2).symm.trans hf
      refine lv_iconst (v := 1) hx hb dX5_isTerm_12 (by decide) ?_
      refine lv_goto (tgt := 17) hx hb dX5_isTerm_13 (by decide) ?_
      exact cx_zret C hx hb hr (by decide) hlocks hf dX5_isTerm_17
/-! ===== X5_row ===== -/
def fX5_row_52  (x1 : Int32) (x2 : Int32) (x3 : Int32) (y1 : Int32) (w : St) : Option (Int32 × St) := lt_ (sS w 0 y1) (fun u_1 => (if (u_1.1 0) ≤ 0 then gd (okI (u_1.1 2) 60) (lt_ (sI u_1 5 (u_1.1 2).toNatClampNeg x1) (fun u_4 => gd (okI (u_4.1 2) 60) (lt_ (sI u_4 6 (u_4.1 2).toNatClampNeg x2) (fun u_6 => gd (okI (u_6.1 2) 60) (lt_ (sI u_6 7 (u_6.1 2).toNatClampNeg x3) (fun u_8 => lt_ (sS u_8 2 ((u_8.1 2) + 1)) (fun u_9 => some ((u_9.1 2), u_9)))))))) else some (0, u_1)))
def fX5_row_38  (x1 : Int32) (x2 : Int32) (x3 : Int32) (w : St) : Option (Int32 × St) := (if (w.1 2) = 60 then fX5_row_52 x1 x2 x3 2 w else fX5_row_52 x1 x2 x3 0 w)
def fX5_row (u : St) (a1 : Int32) (a2 : Int32) (a3 : Int32) : Option (Int32 × St) := bnd (fX5_within u (a1.toInt64) 0 2) (fun r_2 u_3 => (if r_2 = 0 then fX5_row_52 a1 a2 a3 1 u_3 else bnd (fX5_isTerm u_3 a2) (fun r_6 u_7 => (if r_6 = 0 then fX5_row_52 a1 a2 a3 1 u_7 else (if a3 = (-1) then fX5_row_38 a1 a2 a3 u_7 else bnd (fX5_isTerm u_7 a3) (fun r_11 u_12 => (if r_11 = 0 then fX5_row_52 a1 a2 a3 1 u_12 else fX5_row_38 a1 a2 a3 u_12)))))))
abbrev rmX5_row : Room := { frames := 1, cells := 0, slots := 0, locals := 25 }
set_option maxHeartbeats 4000000 in
set_option maxRecDepth 100000 in
theorem k_X5_row (l : Launch) (ad : Nat → Nat) (ck : Nat → ClassId) (D : va_G) (tt : Nat) {u : St} {a1 : Int32} {a2 : Int32} {a3 : Int32} {r : Int32} {u' : St} (hf : fX5_row u a1 a2 a3 = some (r, u')) : MI l yX5_row wsX5_row rmX5_row (wM ad ck) ck D tt [.ref (ad 0), .int a1, .int a2, .int a3] u r u' := by
  intro sz
  refine Met.ofW (cc := cX5_row) (maxL := 4) (ret := (some .int)) (by decide) rfl ?_
  intro p e s m args below meth c s₁ B hml hv
  obtain ⟨rfl, hsz, C⟩ := cx_entry hv
  have hx := B.exec
  have hb := B.bytes
  have hr := B.returns
  have hts := atoms_spec (ws := wsX5_row) B.pre
  have hown : s.vm.findClass RX5 = some m.cls := findClass_of_methodNamed B.named
  have hlocks := B.notSynchronized
  have J52 : ∀ (x1 : Int32) (x2 : Int32) (x3 : Int32) (y1 : Int32) (w : St) (H : Heap) (locs : List Loc) (ls : Array Slot), fX5_row_52 x1 x2 x3 y1 w = some (r, u') → CX (wM ad ck) ck D tt (va_A (wM ad ck u) sz) s w H locs → lv_has ls 4 [(0, .ref (ad 0)), (1, .int x1), (2, .int x2), (3, .int x3)] → W p l e (headSpec wsX5_row rmX5_row).room s m ([.ref (ad 0), .int a1, .int a2, .int a3] : List Value).toArray below meth c H locs 0 0 (MQ below (QI (wM ad ck) D u sz r u') ([.ref (ad 0), .int a1, .int a2, .int a3] : List Value).toArray s 0 0 (va_A (wM ad ck u) sz)) (F0 m 52 ls [.int y1, .ref (ad 0)]) := by
    intro x1 x2 x3 y1 w H locs ls hf C hl
    unfold fX5_row_52 at hf
    refine cx_puti C hx hb (T := TX5) (N := 28) hts (by decide +kernel) tyX5 tyX5_ok nmX5 hown 0 rfl rfl 0 (by decide) (hts (.fieldLink RX5 72 "AggregateRowsModel" "fault" "I") (by decide +kernel)) (fun _ h9 => h9) rfl (by decide +kernel) (Nat.le_of_ble_eq_true rfl) (u1 := sS w 0 y1) rfl dX5_row_52 (fun u_1 H locs eu_1 C => ?_)
    replace hf := lt_at hf eu_1
    refine lv_aload_n hx hb dX5_row_55 rfl (lv_at hl 0 rfl) ?_
    refine cx_get C hx hb (T := TX5) (N := 28) hts (by decide +kernel) hown 0 rfl rfl 0 (by decide) (hts (.fieldLink RX5 72 "AggregateRowsModel" "fault" "I") (by decide +kernel)) (fun _ h9 => h9) (v := .int (u_1.1 0)) rfl dX5_row_56 ?_
    refine lv_if_le (tgt := 64) hx hb dX5_row_59 (by decide) (fun c_2 => ?_) (fun c_2 => ?_)
    · replace hf := (if_pos c_2).symm.trans hf
      refine lv_aload_n hx hb dX5_row_64 rfl (lv_at hl 0 rfl) ?_
      refine cx_get C hx hb (T := TX5) (N := 28) hts (by decide +kernel) hown 0 rfl rfl 8 (by decide) (hts (.fieldLink RX5 26 "AggregateRowsModel" "parts" "[I") (by decide +kernel)) (fun _ h9 => h9) (v := .ref (ad 6)) rfl dX5_row_65 ?_
      refine lv_aload_n hx hb dX5_row_68 rfl (lv_at hl 0 rfl) ?_
      refine cx_get C hx hb (T := TX5) (N := 28) hts (by decide +kernel) hown 0 rfl rfl 7 (by decide) (hts (.fieldLink RX5 107 "AggregateRowsModel" "all" "I") (by decide +kernel)) (fun _ h9 => h9) (v := .int (u_1.1 2)) rfl dX5_row_69 ?_
      refine lv_iload_n hx hb dX5_row_72 rfl (lv_at hl 1 rfl) ?_
      obtain ⟨g_3, hf⟩ := gd_some hf
      refine cx_iast C hx hb 6 rfl g_3 (u1 := sI u_1 5 (u_1.1 2).toNatClampNeg x1) rfl dX5_row_73 (fun u_4 H locs eu_4 C => ?_)
      replace hf := lt_at hf eu_4
      refine lv_aload_n hx hb dX5_row_74 rfl (lv_at hl 0 rfl) ?_
      refine cx_get C hx hb (T := TX5) (N := 28) hts (by decide +kernel) hown 0 rfl rfl 9 (by decide) (hts (.fieldLink RX5 29 "AggregateRowsModel" "keys" "[I") (by decide +kernel)) (fun _ h9 => h9) (v := .ref (ad 7)) rfl dX5_row_75 ?_
      refine lv_aload_n hx hb dX5_row_78 rfl (lv_at hl 0 rfl) ?_
      refine cx_get C hx hb (T := TX5) (N := 28) hts (by decide +kernel) hown 0 rfl rfl 7 (by decide) (hts (.fieldLink RX5 107 "AggregateRowsModel" "all" "I") (by decide +kernel)) (fun _ h9 => h9) (v := .int (u_4.1 2)) rfl dX5_row_79 ?_
      refine lv_iload_n hx hb dX5_row_82 rfl (lv_at hl 2 rfl) ?_
      obtain ⟨g_5, hf⟩ := gd_some hf
      refine cx_iast C hx hb 7 rfl g_5 (u1 := sI u_4 6 (u_4.1 2).toNatClampNeg x2) rfl dX5_row_83 (fun u_6 H locs eu_6 C => ?_)
      replace hf := lt_at hf eu_6
      refine lv_aload_n hx hb dX5_row_84 rfl (lv_at hl 0 rfl) ?_
      refine cx_get C hx hb (T := TX5) (N := 28) hts (by decide +kernel) hown 0 rfl rfl 10 (by decide) (hts (.fieldLink RX5 32 "AggregateRowsModel" "values" "[I") (by decide +kernel)) (fun _ h9 => h9) (v := .ref (ad 8)) rfl dX5_row_85 ?_
      refine lv_aload_n hx hb dX5_row_88 rfl (lv_at hl 0 rfl) ?_
      refine cx_get C hx hb (T := TX5) (N := 28) hts (by decide +kernel) hown 0 rfl rfl 7 (by decide) (hts (.fieldLink RX5 107 "AggregateRowsModel" "all" "I") (by decide +kernel)) (fun _ h9 => h9) (v := .int (u_6.1 2)) rfl dX5_row_89 ?_
      refine lv_iload_n hx hb dX5_row_92 rfl (lv_at hl 3 rfl) ?_
      obtain ⟨g_7, hf⟩ := gd_some hf
      refine cx_iast C hx hb 8 rfl g_7 (u1 := sI u_6 7 (u_6.1 2).toNatClampNeg x3) rfl dX5_row_93 (fun u_8 H locs eu_8 C => ?_)
      replace hf := lt_at hf eu_8
      refine lv_aload_n hx hb dX5_row_94 rfl (lv_at hl 0 rfl) ?_
      refine lv_dup hx hb dX5_row_95 rfl ?_
      refine cx_get C hx hb (T := TX5) (N := 28) hts (by decide +kernel) hown 0 rfl rfl 7 (by decide) (hts (.fieldLink RX5 107 "AggregateRowsModel" "all" "I") (by decide +kernel)) (fun _ h9 => h9) (v := .int (u_8.1 2)) rfl dX5_row_96 ?_
      refine lv_iconst (v := 1) hx hb dX5_row_99 (by decide) ?_
      refine lv_iadd hx hb dX5_row_100 ?_
      refine cx_puti C hx hb (T := TX5) (N := 28) hts (by decide +kernel) tyX5 tyX5_ok nmX5 hown 0 rfl rfl 7 (by decide) (hts (.fieldLink RX5 107 "AggregateRowsModel" "all" "I") (by decide +kernel)) (fun _ h9 => h9) rfl (by decide +kernel) (Nat.le_of_ble_eq_true rfl) (u1 := sS u_8 2 ((u_8.1 2) + 1)) rfl dX5_row_101 (fun u_9 H locs eu_9 C => ?_)
      replace hf := lt_at hf eu_9
      refine lv_aload_n hx hb dX5_row_104 rfl (lv_at hl 0 rfl) ?_
      refine cx_get C hx hb (T := TX5) (N := 28) hts (by decide +kernel) hown 0 rfl rfl 7 (by decide) (hts (.fieldLink RX5 107 "AggregateRowsModel" "all" "I") (by decide +kernel)) (fun _ h9 => h9) (v := .int (u_9.1 2)) rfl dX5_row_105 ?_
      exact cx_iret C hx hb hr hlocks hf dX5_row_108
    · replace hf := (if_neg c_2).symm.trans hf
      refine lv_iconst (v := 0) hx hb dX5_row_62 (by decide) ?_
      exact cx_iret C hx hb hr hlocks hf dX5_row_63
  have J38 : ∀ (x1 : Int32) (x2 : Int32) (x3 : Int32) (w : St) (H : Heap) (locs : List Loc) (ls : Array Slot), fX5_row_38 x1 x2 x3 w = some (r, u') → CX (wM ad ck) ck D tt (va_A (wM ad ck u) sz) s w H locs → lv_has ls 4 [(0, .ref (ad 0)), (1, .int x1), (2, .int x2), (3, .int x3)] → W p l e (headSpec wsX5_row rmX5_row).room s m ([.ref (ad 0), .int a1, .int a2, .int a3] : List Value).toArray below meth c H locs 0 0 (MQ below (QI (wM ad ck) D u sz r u') ([.ref (ad 0), .int a1, .int a2, .int a3] : List Value).toArray s 0 0 (va_A (wM ad ck u) sz)) (F0 m 38 ls [.ref (ad 0)]) := by
    intro x1 x2 x3 w H locs ls hf C hl
    unfold fX5_row_38 at hf
    refine lv_aload_n hx hb dX5_row_38 rfl (lv_at hl 0 rfl) ?_
    refine cx_get C hx hb (T := TX5) (N := 28) hts (by decide +kernel) hown 0 rfl rfl 7 (by decide) (hts (.fieldLink RX5 107 "AggregateRowsModel" "all" "I") (by decide +kernel)) (fun _ h9 => h9) (v := .int (w.1 2)) rfl dX5_row_39 ?_
    refine lv_bipush (v := 60) hx hb dX5_row_42 (by decide) ?_
    refine lv_icmp_ne (tgt := 51) hx hb dX5_row_44 (by decide) (fun c_1 => ?_) (fun c_1 => ?_)
    · replace hf := (if_neg c_1).symm.trans hf
      refine lv_iconst (v := 0) hx hb dX5_row_51 (by decide) ?_
      exact J52 x1 x2 x3 0 w _ _ _ hf C (lv_sub hl [0, 1, 2, 3] rfl)
    · replace hf := (if_pos c_1).symm.trans hf
      refine lv_iconst (v := 2) hx hb dX5_row_47 (by decide) ?_
      refine lv_goto (tgt := 52) hx hb dX5_row_48 (by decide) ?_
      exact J52 x1 x2 x3 2 w _ _ _ hf C (lv_sub hl [0, 1, 2, 3] rfl)
  have hl := lv_entry ([.ref (ad 0), .int a1, .int a2, .int a3]) (n := 4) (Nat.le_of_ble_eq_true rfl)
  rw [lg_entry_eq]
  generalize (lg_sl ([.ref (ad 0), .int a1, .int a2, .int a3]) ++ List.replicate (4 - (lg_sl ([.ref (ad 0), .int a1, .int a2, .int a3])).length) Slot.unset).toArray = ls at hl ⊢
  have hl : lv_has ls 4 [(0, .ref (ad 0)), (1, .int a1), (2, .int a2), (3, .int a3)] := hl
  unfold fX5_row at hf
  refine lv_aload_n hx hb dX5_row_0 rfl (lv_at hl 0 rfl) ?_
  refine lv_iload_n hx hb dX5_row_1 rfl (lv_at hl 1 rfl) ?_
  refine lv_i2l hx hb dX5_row_2 rfl ?_
  refine lv_lconst (v := 0) hx hb dX5_row_3 (by decide) ?_
  refine lv_ldc2 (v := 2) hx hb hown (hts (.constantLong RX5 101 (2)) (by decide +kernel)) dX5_row_4 ?_
  obtain ⟨r_2, u_3, h_1, hf⟩ := bnd_some hf
  refine cx_calli C (va_runS (As := [.long (a1.toInt64), .long 0, .long 2]) (rest := [.ref (ad 0)]) ⟨hx, hb, hml, hown, hts⟩ (k_X5_within l ad ck D tt h_1 _) (va_cwS 3 hts gX5_row_X5_within rfl rfl rfl (by decide +kernel) ⟨Nat.le_of_ble_eq_true rfl, Nat.le_of_ble_eq_true rfl⟩) (cx_preS C) rfl rfl hl.1 rfl (lv_room (Nat.le_of_ble_eq_true rfl)) dX5_row_7 ⟨Nat.zero_le _, Nat.zero_le _⟩) (fun H locs C => ?_)
  refine lv_if_eq (tgt := 34) hx hb dX5_row_10 (by decide) (fun c_4 => ?_) (fun c_4 => ?_)
  · replace hf := (if_pos c_4).symm.trans hf
    refine lv_iconst (v := 1) hx hb dX5_row_34 (by decide) ?_
    refine lv_goto (tgt := 52) hx hb dX5_row_35 (by decide) ?_
    exact J52 a1 a2 a3 1 u_3 _ _ _ hf C (lv_sub hl [0, 1, 2, 3] rfl)
  · replace hf := (if_neg c_4).symm.trans hf
    refine lv_aload_n hx hb dX5_row_13 rfl (lv_at hl 0 rfl) ?_
    refine lv_iload_n hx hb dX5_row_14 rfl (lv_at hl 2 rfl) ?_
    obtain ⟨r_6, u_7, h_5, hf⟩ := bnd_some hf
    refine cx_calli C (va_runV (As := [.int a2]) (rest := [.ref (ad 0)]) ⟨hx, hb, hml, hown, hts⟩ (k_X5_isTerm l ad ck D tt h_5 _) (cwV 1 hts gX5_row_X5_isTerm rfl rfl rfl (by decide +kernel) ⟨Nat.le_of_ble_eq_true rfl, Nat.le_of_ble_eq_true rfl⟩) (cx_preV C (q0 := 0) (ci := 5) rfl rfl) rfl rfl hl.1 rfl (lv_room (Nat.le_of_ble_eq_true rfl)) dX5_row_15 ⟨Nat.zero_le _, Nat.zero_le _⟩) (fun H locs C => ?_)
    refine lv_if_eq (tgt := 34) hx hb dX5_row_18 (by decide) (fun c_8 => ?_) (fun c_8 => ?_)
    · replace hf := (if_pos c_8).symm.trans hf
      refine lv_iconst (v := 1) hx hb dX5_row_34 (by decide) ?_
      refine lv_goto (tgt := 52) hx hb dX5_row_35 (by decide) ?_
      exact J52 a1 a2 a3 1 u_7 _ _ _ hf C (lv_sub hl [0, 1, 2, 3] rfl)
    · replace hf := (if_neg c_8).symm.trans hf
      refine lv_iload_n hx hb dX5_row_21 rfl (lv_at hl 3 rfl) ?_
      refine lv_iconst (v := (-1)) hx hb dX5_row_22 (by decide) ?_
      refine lv_icmp_eq (tgt := 38) hx hb dX5_row_23 (by decide) (fun c_9 => ?_) (fun c_9 => ?_)
      · replace hf := (if_pos c_9).symm.trans hf
        exact J38 a1 a2 a3 u_7 _ _ _ hf C (lv_sub hl [0, 1, 2, 3] rfl)
      · replace hf := (if_neg c_9).symm.trans hf
        refine lv_aload_n hx hb dX5_row_26 rfl (lv_at hl 0 rfl) ?_
        refine lv_iload_n hx hb dX5_row_27 rfl (lv_at hl 3 rfl) ?_
        obtain ⟨r_11, u_12, h_10, hf⟩ := bnd_some hf
        refine cx_calli C (va_runV (As := [.int a3]) (rest := [.ref (ad 0)]) ⟨hx, hb, hml, hown, hts⟩ (k_X5_isTerm l ad ck D tt h_10 _) (cwV 1 hts gX5_row_X5_isTerm rfl rfl rfl (by decide +kernel) ⟨Nat.le_of_ble_eq_true rfl, Nat.le_of_ble_eq_true rfl⟩) (cx_preV C (q0 := 0) (ci := 5) rfl rfl) rfl rfl hl.1 rfl (lv_room (Nat.le_of_ble_eq_true rfl)) dX5_row_28 ⟨Nat.zero_le _, Nat.zero_le _⟩) (fun H locs C => ?_)
        refine lv_if_ne (tgt := 38) hx hb dX5_row_31 (by decide) (fun c_13 => ?_) (fun c_13 => ?_)
        · replace hf := (if_neg c_13).symm.trans hf
          exact J38 a1 a2 a3 u_12 _ _ _ hf C (lv_sub hl [0, 1, 2, 3] rfl)
        · replace hf := (if_pos c_13).symm.trans hf
          refine lv_iconst (v := 1) hx hb dX5_row_34 (by decide) ?_
          refine lv_goto (tgt := 52) hx hb dX5_row_35 (by decide) ?_
          exact J52 a1 a2 a3 1 u_12 _ _ _ hf C (lv_sub hl [0, 1, 2, 3] rfl)
/-! ===== X5_by ===== -/
def fX5_by_42  (x2 : Int32) (y1 : Int32) (w : St) : Option (Int32 × St) := lt_ (sS w 3 y1) (fun u_1 => (if (u_1.1 0) = 0 then some (x2, u_1) else some (0, u_1)))
def fX5_by_18  (x1 : Int32) (y1 : Int32) (w : St) : Option (Int32 × St) := lt_ (sS w 0 y1) (fun u_1 => lt_ (u_1.1 3) (fun x2_2 => (if (u_1.1 0) = 0 then fX5_by_42 x2_2 x1 u_1 else fX5_by_42 x2_2 (u_1.1 3) u_1)))
def fX5_by (u : St) (a1 : Int32) : Option (Int32 × St) := bnd (fX5_within u (a1.toInt64) 0 2) (fun r_2 u_3 => (if r_2 = 0 then fX5_by_18 a1 1 u_3 else fX5_by_18 a1 0 u_3))
abbrev rmX5_by : Room := { frames := 1, cells := 0, slots := 0, locals := 25 }
set_option maxHeartbeats 4000000 in
set_option maxRecDepth 100000 in
theorem k_X5_by (l : Launch) (ad : Nat → Nat) (ck : Nat → ClassId) (D : va_G) (tt : Nat) {u : St} {a1 : Int32} {r : Int32} {u' : St} (hf : fX5_by u a1 = some (r, u')) : MI l yX5_by wsX5_by rmX5_by (wM ad ck) ck D tt [.ref (ad 0), .int a1] u r u' := by
  intro sz
  refine Met.ofW (cc := cX5_by) (maxL := 3) (ret := (some .int)) (by decide) rfl ?_
  intro p e s m args below meth c s₁ B hml hv
  obtain ⟨rfl, hsz, C⟩ := cx_entry hv
  have hx := B.exec
  have hb := B.bytes
  have hr := B.returns
  have hts := atoms_spec (ws := wsX5_by) B.pre
  have hown : s.vm.findClass RX5 = some m.cls := findClass_of_methodNamed B.named
  have hlocks := B.notSynchronized
  have J42 : ∀ (x2 : Int32) (y1 : Int32) (w : St) (H : Heap) (locs : List Loc) (ls : Array Slot), fX5_by_42 x2 y1 w = some (r, u') → CX (wM ad ck) ck D tt (va_A (wM ad ck u) sz) s w H locs → lv_has ls 3 [(0, .ref (ad 0)), (2, .int x2)] → W p l e (headSpec wsX5_by rmX5_by).room s m ([.ref (ad 0), .int a1] : List Value).toArray below meth c H locs 0 0 (MQ below (QI (wM ad ck) D u sz r u') ([.ref (ad 0), .int a1] : List Value).toArray s 0 0 (va_A (wM ad ck u) sz)) (F0 m 42 ls [.int y1, .ref (ad 0)]) := by
    intro x2 y1 w H locs ls hf C hl
    unfold fX5_by_42 at hf
    refine cx_puti C hx hb (T := TX5) (N := 28) hts (by decide +kernel) tyX5 tyX5_ok nmX5 hown 0 rfl rfl 11 (by decide) (hts (.fieldLink RX5 110 "AggregateRowsModel" "by" "I") (by decide +kernel)) (fun _ h9 => h9) rfl (by decide +kernel) (Nat.le_of_ble_eq_true rfl) (u1 := sS w 3 y1) rfl dX5_by_42 (fun u_1 H locs eu_1 C => ?_)
    replace hf := lt_at hf eu_1
    refine lv_aload_n hx hb dX5_by_45 rfl (lv_at hl 0 rfl) ?_
    refine cx_get C hx hb (T := TX5) (N := 28) hts (by decide +kernel) hown 0 rfl rfl 0 (by decide) (hts (.fieldLink RX5 72 "AggregateRowsModel" "fault" "I") (by decide +kernel)) (fun _ h9 => h9) (v := .int (u_1.1 0)) rfl dX5_by_46 ?_
    refine lv_if_ne (tgt := 56) hx hb dX5_by_49 (by decide) (fun c_2 => ?_) (fun c_2 => ?_)
    · replace hf := (if_neg c_2).symm.trans hf
      refine lv_iconst (v := 0) hx hb dX5_by_56 (by decide) ?_
      exact cx_iret C hx hb hr hlocks hf dX5_by_57
    · replace hf := (if_pos c_2).symm.trans hf
      refine lv_iload_n hx hb dX5_by_52 rfl (lv_at hl 1 rfl) ?_
      refine lv_goto (tgt := 57) hx hb dX5_by_53 (by decide) ?_
      exact cx_iret C hx hb hr hlocks hf dX5_by_57
  have J18 : ∀ (x1 : Int32) (y1 : Int32) (w : St) (H : Heap) (locs : List Loc) (ls : Array Slot), fX5_by_18 x1 y1 w = some (r, u') → CX (wM ad ck) ck D tt (va_A (wM ad ck u) sz) s w H locs → lv_has ls 3 [(0, .ref (ad 0)), (1, .int x1)] → W p l e (headSpec wsX5_by rmX5_by).room s m ([.ref (ad 0), .int a1] : List Value).toArray below meth c H locs 0 0 (MQ below (QI (wM ad ck) D u sz r u') ([.ref (ad 0), .int a1] : List Value).toArray s 0 0 (va_A (wM ad ck u) sz)) (F0 m 18 ls [.int y1, .ref (ad 0)]) := by
    intro x1 y1 w H locs ls hf C hl
    unfold fX5_by_18 at hf
    refine cx_puti C hx hb (T := TX5) (N := 28) hts (by decide +kernel) tyX5 tyX5_ok nmX5 hown 0 rfl rfl 0 (by decide) (hts (.fieldLink RX5 72 "AggregateRowsModel" "fault" "I") (by decide +kernel)) (fun _ h9 => h9) rfl (by decide +kernel) (Nat.le_of_ble_eq_true rfl) (u1 := sS w 0 y1) rfl dX5_by_18 (fun u_1 H locs eu_1 C => ?_)
    replace hf := lt_at hf eu_1
    refine lv_aload_n hx hb dX5_by_21 rfl (lv_at hl 0 rfl) ?_
    refine cx_get C hx hb (T := TX5) (N := 28) hts (by decide +kernel) hown 0 rfl rfl 11 (by decide) (hts (.fieldLink RX5 110 "AggregateRowsModel" "by" "I") (by decide +kernel)) (fun _ h9 => h9) (v := .int (u_1.1 3)) rfl dX5_by_22 ?_
    refine lv_topi (fun x2_2 ex2_2 => ?_)
    replace hf := lt_at hf ex2_2
    refine lv_istore_n (lv' := [(2, .int x2_2), (0, .ref (ad 0)), (1, .int x1)]) hx hb dX5_by_25 rfl hl (by decide) rfl (fun ls hl => ?_)
    refine lv_aload_n hx hb dX5_by_26 rfl (lv_at hl 1 rfl) ?_
    refine lv_aload_n hx hb dX5_by_27 rfl (lv_at hl 1 rfl) ?_
    refine cx_get C hx hb (T := TX5) (N := 28) hts (by decide +kernel) hown 0 rfl rfl 0 (by decide) (hts (.fieldLink RX5 72 "AggregateRowsModel" "fault" "I") (by decide +kernel)) (fun _ h9 => h9) (v := .int (u_1.1 0)) rfl dX5_by_28 ?_
    refine lv_if_ne (tgt := 38) hx hb dX5_by_31 (by decide) (fun c_3 => ?_) (fun c_3 => ?_)
    · replace hf := (if_neg c_3).symm.trans hf
      refine lv_aload_n hx hb dX5_by_38 rfl (lv_at hl 1 rfl) ?_
      refine cx_get C hx hb (T := TX5) (N := 28) hts (by decide +kernel) hown 0 rfl rfl 11 (by decide) (hts (.fieldLink RX5 110 "AggregateRowsModel" "by" "I") (by decide +kernel)) (fun _ h9 => h9) (v := .int (u_1.1 3)) rfl dX5_by_39 ?_
      exact J42 x2_2 (u_1.1 3) u_1 _ _ _ hf C (lv_sub hl [1, 0] rfl)
    · replace hf := (if_pos c_3).symm.trans hf
      refine lv_iload_n hx hb dX5_by_34 rfl (lv_at hl 2 rfl) ?_
      refine lv_goto (tgt := 42) hx hb dX5_by_35 (by decide) ?_
      exact J42 x2_2 x1 u_1 _ _ _ hf C (lv_sub hl [1, 0] rfl)
  have hl := lv_entry ([.ref (ad 0), .int a1]) (n := 3) (Nat.le_of_ble_eq_true rfl)
  rw [lg_entry_eq]
  generalize (lg_sl ([.ref (ad 0), .int a1]) ++ List.replicate (3 - (lg_sl ([.ref (ad 0), .int a1])).length) Slot.unset).toArray = ls at hl ⊢
  have hl : lv_has ls 3 [(0, .ref (ad 0)), (1, .int a1)] := hl
  unfold fX5_by at hf
  refine lv_aload_n hx hb dX5_by_0 rfl (lv_at hl 0 rfl) ?_
  refine lv_iload_n hx hb dX5_by_1 rfl (lv_at hl 1 rfl) ?_
  refine lv_i2l hx hb dX5_by_2 rfl ?_
  refine lv_lconst (v := 0) hx hb dX5_by_3 (by decide) ?_
  refine lv_ldc2 (v := 2) hx hb hown (hts (.constantLong RX5 101 (2)) (by decide +kernel)) dX5_by_4 ?_
  obtain ⟨r_2, u_3, h_1, hf⟩ := bnd_some hf
  refine cx_calli C (va_runS (As := [.long (a1.toInt64), .long 0, .long 2]) (rest := [.ref (ad 0)]) ⟨hx, hb, hml, hown, hts⟩ (k_X5_within l ad ck D tt h_1 _) (va_cwS 3 hts gX5_by_X5_within rfl rfl rfl (by decide +kernel) ⟨Nat.le_of_ble_eq_true rfl, Nat.le_of_ble_eq_true rfl⟩) (cx_preS C) rfl rfl hl.1 rfl (lv_room (Nat.le_of_ble_eq_true rfl)) dX5_by_7 ⟨Nat.zero_le _, Nat.zero_le _⟩) (fun H locs C => ?_)
  refine lv_if_eq (tgt := 17) hx hb dX5_by_10 (by decide) (fun c_4 => ?_) (fun c_4 => ?_)
  · replace hf := (if_pos c_4).symm.trans hf
    refine lv_iconst (v := 1) hx hb dX5_by_17 (by decide) ?_
    exact J18 a1 1 u_3 _ _ _ hf C (lv_sub hl [0, 1] rfl)
  · replace hf := (if_neg c_4).symm.trans hf
    refine lv_iconst (v := 0) hx hb dX5_by_13 (by decide) ?_
    refine lv_goto (tgt := 18) hx hb dX5_by_14 (by decide) ?_
    exact J18 a1 0 u_3 _ _ _ hf C (lv_sub hl [0, 1] rfl)
/-! ===== X5_separator ===== -/
def fX5_separator_48  (x2 : Int32) (y1 : Int32) (w : St) : Option (Int32 × St) := lt_ (sS w 4 y1) (fun u_1 => (if (u_1.1 0) = 0 then some (x2, u_1) else some (0, u_1)))
def fX5_separator_24  (x1 : Int32) (y1 : Int32) (w : St) : Option (Int32 × St) := lt_ (sS w 0 y1) (fun u_1 => lt_ (u_1.1 4) (fun x2_2 => (if (u_1.1 0) = 0 then fX5_separator_48 x2_2 x1 u_1 else fX5_separator_48 x2_2 (u_1.1 4) u_1)))
def fX5_separator (u : St) (a1 : Int32) : Option (Int32 × St) := (if a1 = 0 then fX5_separator_24 a1 0 u else bnd (fX5_within u (a1.toInt64) 32 126) (fun r_3 u_4 => (if r_3 = 0 then fX5_separator_24 a1 1 u_4 else fX5_separator_24 a1 0 u_4)))
abbrev rmX5_separator : Room := { frames := 1, cells := 0, slots := 0, locals := 25 }
set_option maxHeartbeats 4000000 in
set_option maxRecDepth 100000 in
theorem k_X5_separator (l : Launch) (ad : Nat → Nat) (ck : Nat → ClassId) (D : va_G) (tt : Nat) {u : St} {a1 : Int32} {r : Int32} {u' : St} (hf : fX5_separator u a1 = some (r, u')) : MI l yX5_separator wsX5_separator rmX5_separator (wM ad ck) ck D tt [.ref (ad 0), .int a1] u r u' := by
  intro sz
  refine Met.ofW (cc := cX5_separator) (maxL := 3) (ret := (some .int)) (by decide) rfl ?_
  intro p e s m args below meth c s₁ B hml hv
  obtain ⟨rfl, hsz, C⟩ := cx_entry hv
  have hx := B.exec
  have hb := B.bytes
  have hr := B.returns
  have hts := atoms_spec (ws := wsX5_separator) B.pre
  have hown : s.vm.findClass RX5 = some m.cls := findClass_of_methodNamed B.named
  have hlocks := B.notSynchronized
  have J48 : ∀ (x2 : Int32) (y1 : Int32) (w : St) (H : Heap) (locs : List Loc) (ls : Array Slot), fX5_separator_48 x2 y1 w = some (r, u') → CX (wM ad ck) ck D tt (va_A (wM ad ck u) sz) s w H locs → lv_has ls 3 [(0, .ref (ad 0)), (2, .int x2)] → W p l e (headSpec wsX5_separator rmX5_separator).room s m ([.ref (ad 0), .int a1] : List Value).toArray below meth c H locs 0 0 (MQ below (QI (wM ad ck) D u sz r u') ([.ref (ad 0), .int a1] : List Value).toArray s 0 0 (va_A (wM ad ck u) sz)) (F0 m 48 ls [.int y1, .ref (ad 0)]) := by
    intro x2 y1 w H locs ls hf C hl
    unfold fX5_separator_48 at hf
    refine cx_puti C hx hb (T := TX5) (N := 28) hts (by decide +kernel) tyX5 tyX5_ok nmX5 hown 0 rfl rfl 12 (by decide) (hts (.fieldLink RX5 117 "AggregateRowsModel" "separator" "I") (by decide +kernel)) (fun _ h9 => h9) rfl (by decide +kernel) (Nat.le_of_ble_eq_true rfl) (u1 := sS w 4 y1) rfl dX5_separator_48 (fun u_1 H locs eu_1 C => ?_)
    replace hf := lt_at hf eu_1
    refine lv_aload_n hx hb dX5_separator_51 rfl (lv_at hl 0 rfl) ?_
    refine cx_get C hx hb (T := TX5) (N := 28) hts (by decide +kernel) hown 0 rfl rfl 0 (by decide) (hts (.fieldLink RX5 72 "AggregateRowsModel" "fault" "I") (by decide +kernel)) (fun _ h9 => h9) (v := .int (u_1.1 0)) rfl dX5_separator_52 ?_
    refine lv_if_ne (tgt := 62) hx hb dX5_separator_55 (by decide) (fun c_2 => ?_) (fun c_2 => ?_)
    · replace hf := (if_neg c_2).symm.trans hf
      refine lv_iconst (v := 0) hx hb dX5_separator_62 (by decide) ?_
      exact cx_iret C hx hb hr hlocks hf dX5_separator_63
    · replace hf := (if_pos c_2).symm.trans hf
      refine lv_iload_n hx hb dX5_separator_58 rfl (lv_at hl 1 rfl) ?_
      refine lv_goto (tgt := 63) hx hb dX5_separator_59 (by decide) ?_
      exact cx_iret C hx hb hr hlocks hf dX5_separator_63
  have J24 : ∀ (x1 : Int32) (y1 : Int32) (w : St) (H : Heap) (locs : List Loc) (ls : Array Slot), fX5_separator_24 x1 y1 w = some (r, u') → CX (wM ad ck) ck D tt (va_A (wM ad ck u) sz) s w H locs → lv_has ls 3 [(0, .ref (ad 0)), (1, .int x1)] → W p l e (headSpec wsX5_separator rmX5_separator).room s m ([.ref (ad 0), .int a1] : List Value).toArray below meth c H locs 0 0 (MQ below (QI (wM ad ck) D u sz r u') ([.ref (ad 0), .int a1] : List Value).toArray s 0 0 (va_A (wM ad ck u) sz)) (F0 m 24 ls [.int y1, .ref (ad 0)]) := by
    intro x1 y1 w H locs ls hf C hl
    unfold fX5_separator_24 at hf
    refine cx_puti C hx hb (T := TX5) (N := 28) hts (by decide +kernel) tyX5 tyX5_ok nmX5 hown 0 rfl rfl 0 (by decide) (hts (.fieldLink RX5 72 "AggregateRowsModel" "fault" "I") (by decide +kernel)) (fun _ h9 => h9) rfl (by decide +kernel) (Nat.le_of_ble_eq_true rfl) (u1 := sS w 0 y1) rfl dX5_separator_24 (fun u_1 H locs eu_1 C => ?_)
    replace hf := lt_at hf eu_1
    refine lv_aload_n hx hb dX5_separator_27 rfl (lv_at hl 0 rfl) ?_
    refine cx_get C hx hb (T := TX5) (N := 28) hts (by decide +kernel) hown 0 rfl rfl 12 (by decide) (hts (.fieldLink RX5 117 "AggregateRowsModel" "separator" "I") (by decide +kernel)) (fun _ h9 => h9) (v := .int (u_1.1 4)) rfl dX5_separator_28 ?_
    refine lv_topi (fun x2_2 ex2_2 => ?_)
    replace hf := lt_at hf ex2_2
    refine lv_istore_n (lv' := [(2, .int x2_2), (0, .ref (ad 0)), (1, .int x1)]) hx hb dX5_separator_31 rfl hl (by decide) rfl (fun ls hl => ?_)
    refine lv_aload_n hx hb dX5_separator_32 rfl (lv_at hl 1 rfl) ?_
    refine lv_aload_n hx hb dX5_separator_33 rfl (lv_at hl 1 rfl) ?_
    refine cx_get C hx hb (T := TX5) (N := 28) hts (by decide +kernel) hown 0 rfl rfl 0 (by decide) (hts (.fieldLink RX5 72 "AggregateRowsModel" "fault" "I") (by decide +kernel)) (fun _ h9 => h9) (v := .int (u_1.1 0)) rfl dX5_separator_34 ?_
    refine lv_if_ne (tgt := 44) hx hb dX5_separator_37 (by decide) (fun c_3 => ?_) (fun c_3 => ?_)
    · replace hf := (if_neg c_3).symm.trans hf
      refine lv_aload_n hx hb dX5_separator_44 rfl (lv_at hl 1 rfl) ?_
      refine cx_get C hx hb (T := TX5) (N := 28) hts (by decide +kernel) hown 0 rfl rfl 12 (by decide) (hts (.fieldLink RX5 117 "AggregateRowsModel" "separator" "I") (by decide +kernel)) (fun _ h9 => h9) (v := .int (u_1.1 4)) rfl dX5_separator_45 ?_
      exact J48 x2_2 (u_1.1 4) u_1 _ _ _ hf C (lv_sub hl [1, 0] rfl)
    · replace hf := (if_pos c_3).symm.trans hf
      refine lv_iload_n hx hb dX5_separator_40 rfl (lv_at hl 2 rfl) ?_
      refine lv_goto (tgt := 48) hx hb dX5_separator_41 (by decide) ?_
      exact J48 x2_2 x1 u_1 _ _ _ hf C (lv_sub hl [1, 0] rfl)
  have hl := lv_entry ([.ref (ad 0), .int a1]) (n := 3) (Nat.le_of_ble_eq_true rfl)
  rw [lg_entry_eq]
  generalize (lg_sl ([.ref (ad 0), .int a1]) ++ List.replicate (3 - (lg_sl ([.ref (ad 0), .int a1])).length) Slot.unset).toArray = ls at hl ⊢
  have hl : lv_has ls 3 [(0, .ref (ad 0)), (1, .int a1)] := hl
  unfold fX5_separator at hf
  refine lv_aload_n hx hb dX5_separator_0 rfl (lv_at hl 0 rfl) ?_
  refine lv_iload_n hx hb dX5_separator_1 rfl (lv_at hl 1 rfl) ?_
  refine lv_if_eq (tgt := 19) hx hb dX5_separator_2 (by decide) (fun c_1 => ?_) (fun c_1 => ?_)
  · replace hf := (if_pos c_1).symm.trans hf
    refine lv_iconst (v := 0) hx hb dX5_separator_19 (by decide) ?_
    refine lv_goto (tgt := 24) hx hb dX5_separator_20 (by decide) ?_
    exact J24 a1 0 u _ _ _ hf C (lv_sub hl [0, 1] rfl)
  · replace hf := (if_neg c_1).symm.trans hf
    refine lv_iload_n hx hb dX5_separator_5 rfl (lv_at hl 1 rfl) ?_
    refine lv_i2l hx hb dX5_separator_6 rfl ?_
    refine lv_ldc2 (v := 32) hx hb hown (hts (.constantLong RX5 113 (32)) (by decide +kernel)) dX5_separator_7 ?_
    refine lv_ldc2 (v := 126) hx hb hown (hts (.constantLong RX5 115 (126)) (by decide +kernel)) dX5_separator_10 ?_
    obtain ⟨r_3, u_4, h_2, hf⟩ := bnd_some hf
    refine cx_calli C (va_runS (As := [.long (a1.toInt64), .long 32, .long 126]) (rest := [.ref (ad 0)]) ⟨hx, hb, hml, hown, hts⟩ (k_X5_within l ad ck D tt h_2 _) (va_cwS 3 hts gX5_separator_X5_within rfl rfl rfl (by decide +kernel) ⟨Nat.le_of_ble_eq_true rfl, Nat.le_of_ble_eq_true rfl⟩) (cx_preS C) rfl rfl hl.1 rfl (lv_room (Nat.le_of_ble_eq_true rfl)) dX5_separator_13 ⟨Nat.zero_le _, Nat.zero_le _⟩) (fun H locs C => ?_)
    refine lv_if_eq (tgt := 23) hx hb dX5_separator_16 (by decide) (fun c_5 => ?_) (fun c_5 => ?_)
    · replace hf := (if_pos c_5).symm.trans hf
      refine lv_iconst (v := 1) hx hb dX5_separator_23 (by decide) ?_
      exact J24 a1 1 u_4 _ _ _ hf C (lv_sub hl [0, 1] rfl)
    · replace hf := (if_neg c_5).symm.trans hf
      refine lv_iconst (v := 0) hx hb dX5_separator_19 (by decide) ?_
      refine lv_goto (tgt := 24) hx hb dX5_separator_20 (by decide) ?_
      exact J24 a1 0 u_4 _ _ _ hf C (lv_sub hl [0, 1] rfl)
/-! ===== X5_own ===== -/
def fX5_own_42  (x2 : Int32) (y1 : Int32) (w : St) : Option (Int32 × St) := lt_ (sS w 5 y1) (fun u_1 => (if (u_1.1 0) = 0 then some (x2, u_1) else some (0, u_1)))
def fX5_own_18  (x1 : Int32) (y1 : Int32) (w : St) : Option (Int32 × St) := lt_ (sS w 0 y1) (fun u_1 => lt_ (u_1.1 5) (fun x2_2 => (if (u_1.1 0) = 0 then fX5_own_42 x2_2 x1 u_1 else fX5_own_42 x2_2 (u_1.1 5) u_1)))
def fX5_own (u : St) (a1 : Int32) : Option (Int32 × St) := bnd (fX5_within u (a1.toInt64) 0 2) (fun r_2 u_3 => (if r_2 = 0 then fX5_own_18 a1 1 u_3 else fX5_own_18 a1 0 u_3))
abbrev rmX5_own : Room := { frames := 1, cells := 0, slots := 0, locals := 25 }
set_option maxHeartbeats 4000000 in
set_option maxRecDepth 100000 in
theorem k_X5_own (l : Launch) (ad : Nat → Nat) (ck : Nat → ClassId) (D : va_G) (tt : Nat) {u : St} {a1 : Int32} {r : Int32} {u' : St} (hf : fX5_own u a1 = some (r, u')) : MI l yX5_own wsX5_own rmX5_own (wM ad ck) ck D tt [.ref (ad 0), .int a1] u r u' := by
  intro sz
  refine Met.ofW (cc := cX5_own) (maxL := 3) (ret := (some .int)) (by decide) rfl ?_
  intro p e s m args below meth c s₁ B hml hv
  obtain ⟨rfl, hsz, C⟩ := cx_entry hv
  have hx := B.exec
  have hb := B.bytes
  have hr := B.returns
  have hts := atoms_spec (ws := wsX5_own) B.pre
  have hown : s.vm.findClass RX5 = some m.cls := findClass_of_methodNamed B.named
  have hlocks := B.notSynchronized
  have J42 : ∀ (x2 : Int32) (y1 : Int32) (w : St) (H : Heap) (locs : List Loc) (ls : Array Slot), fX5_own_42 x2 y1 w = some (r, u') → CX (wM ad ck) ck D tt (va_A (wM ad ck u) sz) s w H locs → lv_has ls 3 [(0, .ref (ad 0)), (2, .int x2)] → W p l e (headSpec wsX5_own rmX5_own).room s m ([.ref (ad 0), .int a1] : List Value).toArray below meth c H locs 0 0 (MQ below (QI (wM ad ck) D u sz r u') ([.ref (ad 0), .int a1] : List Value).toArray s 0 0 (va_A (wM ad ck u) sz)) (F0 m 42 ls [.int y1, .ref (ad 0)]) := by
    intro x2 y1 w H locs ls hf C hl
    unfold fX5_own_42 at hf
    refine cx_puti C hx hb (T := TX5) (N := 28) hts (by decide +kernel) tyX5 tyX5_ok nmX5 hown 0 rfl rfl 13 (by decide) (hts (.fieldLink RX5 120 "AggregateRowsModel" "own" "I") (by decide +kernel)) (fun _ h9 => h9) rfl (by decide +kernel) (Nat.le_of_ble_eq_true rfl) (u1 := sS w 5 y1) rfl dX5_own_42 (fun u_1 H locs eu_1 C => ?_)
    replace hf := lt_at hf eu_1
    refine lv_aload_n hx hb dX5_own_45 rfl (lv_at hl 0 rfl) ?_
    refine cx_get C hx hb (T := TX5) (N := 28) hts (by decide +kernel) hown 0 rfl rfl 0 (by decide) (hts (.fieldLink RX5 72 "AggregateRowsModel" "fault" "I") (by decide +kernel)) (fun _ h9 => h9) (v := .int (u_1.1 0)) rfl dX5_own_46 ?_
    refine lv_if_ne (tgt := 56) hx hb dX5_own_49 (by decide) (fun c_2 => ?_) (fun c_2 => ?_)
    · replace hf := (if_neg c_2).symm.trans hf
      refine lv_iconst (v := 0) hx hb dX5_own_56 (by decide) ?_
      exact cx_iret C hx hb hr hlocks hf dX5_own_57
    · replace hf := (if_pos c_2).symm.trans hf
      refine lv_iload_n hx hb dX5_own_52 rfl (lv_at hl 1 rfl) ?_
      refine lv_goto (tgt := 57) hx hb dX5_own_53 (by decide) ?_
      exact cx_iret C hx hb hr hlocks hf dX5_own_57
  have J18 : ∀ (x1 : Int32) (y1 : Int32) (w : St) (H : Heap) (locs : List Loc) (ls : Array Slot), fX5_own_18 x1 y1 w = some (r, u') → CX (wM ad ck) ck D tt (va_A (wM ad ck u) sz) s w H locs → lv_has ls 3 [(0, .ref (ad 0)), (1, .int x1)] → W p l e (headSpec wsX5_own rmX5_own).room s m ([.ref (ad 0), .int a1] : List Value).toArray below meth c H locs 0 0 (MQ below (QI (wM ad ck) D u sz r u') ([.ref (ad 0), .int a1] : List Value).toArray s 0 0 (va_A (wM ad ck u) sz)) (F0 m 18 ls [.int y1, .ref (ad 0)]) := by
    intro x1 y1 w H locs ls hf C hl
    unfold fX5_own_18 at hf
    refine cx_puti C hx hb (T := TX5) (N := 28) hts (by decide +kernel) tyX5 tyX5_ok nmX5 hown 0 rfl rfl 0 (by decide) (hts (.fieldLink RX5 72 "AggregateRowsModel" "fault" "I") (by decide +kernel)) (fun _ h9 => h9) rfl (by decide +kernel) (Nat.le_of_ble_eq_true rfl) (u1 := sS w 0 y1) rfl dX5_own_18 (fun u_1 H locs eu_1 C => ?_)
    replace hf := lt_at hf eu_1
    refine lv_aload_n hx hb dX5_own_21 rfl (lv_at hl 0 rfl) ?_
    refine cx_get C hx hb (T := TX5) (N := 28) hts (by decide +kernel) hown 0 rfl rfl 13 (by decide) (hts (.fieldLink RX5 120 "AggregateRowsModel" "own" "I") (by decide +kernel)) (fun _ h9 => h9) (v := .int (u_1.1 5)) rfl dX5_own_22 ?_
    refine lv_topi (fun x2_2 ex2_2 => ?_)
    replace hf := lt_at hf ex2_2
    refine lv_istore_n (lv' := [(2, .int x2_2), (0, .ref (ad 0)), (1, .int x1)]) hx hb dX5_own_25 rfl hl (by decide) rfl (fun ls hl => ?_)
    refine lv_aload_n hx hb dX5_own_26 rfl (lv_at hl 1 rfl) ?_
    refine lv_aload_n hx hb dX5_own_27 rfl (lv_at hl 1 rfl) ?_
    refine cx_get C hx hb (T := TX5) (N := 28) hts (by decide +kernel) hown 0 rfl rfl 0 (by decide) (hts (.fieldLink RX5 72 "AggregateRowsModel" "fault" "I") (by decide +kernel)) (fun _ h9 => h9) (v := .int (u_1.1 0)) rfl dX5_own_28 ?_
    refine lv_if_ne (tgt := 38) hx hb dX5_own_31 (by decide) (fun c_3 => ?_) (fun c_3 => ?_)
    · replace hf := (if_neg c_3).symm.trans hf
      refine lv_aload_n hx hb dX5_own_38 rfl (lv_at hl 1 rfl) ?_
      refine cx_get C hx hb (T := TX5) (N := 28) hts (by decide +kernel) hown 0 rfl rfl 13 (by decide) (hts (.fieldLink RX5 120 "AggregateRowsModel" "own" "I") (by decide +kernel)) (fun _ h9 => h9) (v := .int (u_1.1 5)) rfl dX5_own_39 ?_
      exact J42 x2_2 (u_1.1 5) u_1 _ _ _ hf C (lv_sub hl [1, 0] rfl)
    · replace hf := (if_pos c_3).symm.trans hf
      refine lv_iload_n hx hb dX5_own_34 rfl (lv_at hl 2 rfl) ?_
      refine lv_goto (tgt := 42) hx hb dX5_own_35 (by decide) ?_
      exact J42 x2_2 x1 u_1 _ _ _ hf C (lv_sub hl [1, 0] rfl)
  have hl := lv_entry ([.ref (ad 0), .int a1]) (n := 3) (Nat.le_of_ble_eq_true rfl)
  rw [lg_entry_eq]
  generalize (lg_sl ([.ref (ad 0), .int a1]) ++ List.replicate (3 - (lg_sl ([.ref (ad 0), .int a1])).length) Slot.unset).toArray = ls at hl ⊢
  have hl : lv_has ls 3 [(0, .ref (ad 0)), (1, .int a1)] := hl
  unfold fX5_own at hf
  refine lv_aload_n hx hb dX5_own_0 rfl (lv_at hl 0 rfl) ?_
  refine lv_iload_n hx hb dX5_own_1 rfl (lv_at hl 1 rfl) ?_
  refine lv_i2l hx hb dX5_own_2 rfl ?_
  refine lv_lconst (v := 0) hx hb dX5_own_3 (by decide) ?_
  refine lv_ldc2 (v := 2) hx hb hown (hts (.constantLong RX5 101 (2)) (by decide +kernel)) dX5_own_4 ?_
  obtain ⟨r_2, u_3, h_1, hf⟩ := bnd_some hf
  refine cx_calli C (va_runS (As := [.long (a1.toInt64), .long 0, .long 2]) (rest := [.ref (ad 0)]) ⟨hx, hb, hml, hown, hts⟩ (k_X5_within l ad ck D tt h_1 _) (va_cwS 3 hts gX5_own_X5_within rfl rfl rfl (by decide +kernel) ⟨Nat.le_of_ble_eq_true rfl, Nat.le_of_ble_eq_true rfl⟩) (cx_preS C) rfl rfl hl.1 rfl (lv_room (Nat.le_of_ble_eq_true rfl)) dX5_own_7 ⟨Nat.zero_le _, Nat.zero_le _⟩) (fun H locs C => ?_)
  refine lv_if_eq (tgt := 17) hx hb dX5_own_10 (by decide) (fun c_4 => ?_) (fun c_4 => ?_)
  · replace hf := (if_pos c_4).symm.trans hf
    refine lv_iconst (v := 1) hx hb dX5_own_17 (by decide) ?_
    exact J18 a1 1 u_3 _ _ _ hf C (lv_sub hl [0, 1] rfl)
  · replace hf := (if_neg c_4).symm.trans hf
    refine lv_iconst (v := 0) hx hb dX5_own_13 (by decide) ?_
    refine lv_goto (tgt := 18) hx hb dX5_own_14 (by decide) ?_
    exact J18 a1 0 u_3 _ _ _ hf C (lv_sub hl [0, 1] rfl)
/-! ===== X5_lineUp ===== -/
def fX5_lineUp_11 (k4 : Int32 → Int32 → St → Option (Unit × St)) : Nat → Int32 → Int32 → Int32 → St → Option (Unit × St)
  | 0, _, _, _, _ => none
  | n11 + 1, x1, x2, x3, w => (if (w.1 2) ≤ x3 then lt_ (x2 + 1) (fun x2_2 => k4 x1 x2_2 w) else gd (okI x3 60) ((if (w.2.1 5 x3.toNatClampNeg) = x2 then gd (okI x1 60) (lt_ (sI w 15 x1.toNatClampNeg x3) (fun u_7 => lt_ (x1 + 1) (fun x1_8 => lt_ (x3 + 1) (fun x3_9 => fX5_lineUp_11 k4 n11 x1_8 x2 x3_9 u_7)))) else lt_ (x3 + 1) (fun x3_5 => fX5_lineUp_11 k4 n11 x1 x2 x3_5 w))))
def fX5_lineUp_4  : Nat → Int32 → Int32 → St → Option (Unit × St)
  | 0, _, _, _ => none
  | n4 + 1, x1, x2, w => (if 3 ≤ x2 then some ((), w) else fX5_lineUp_11 (fX5_lineUp_4 n4) FU x1 x2 0 w)
def fX5_lineUp (u : St)  : Option (Unit × St) := fX5_lineUp_4 FU 0 0 u
abbrev rmX5_lineUp : Room := { frames := 0, cells := 0, slots := 0, locals := 0 }
set_option maxHeartbeats 4000000 in
set_option maxRecDepth 100000 in
theorem k_X5_lineUp (l : Launch) (ad : Nat → Nat) (ck : Nat → ClassId) (D : va_G) (tt : Nat) {u : St}  {u' : St} (hf : fX5_lineUp u = some ((), u')) : MV l yX5_lineUp wsX5_lineUp rmX5_lineUp (wM ad ck) ck D tt [.ref (ad 0)] u u' := by
  intro sz
  refine Met.ofW (cc := cX5_lineUp) (maxL := 4) (ret := none) (by decide) rfl ?_
  intro p e s m args below meth c s₁ B hml hv
  obtain ⟨rfl, hsz, C⟩ := cx_entry hv
  have hx := B.exec
  have hb := B.bytes
  have hr := B.returns
  have hts := atoms_spec (ws := wsX5_lineUp) B.pre
  have hown : s.vm.findClass RX5 = some m.cls := findClass_of_methodNamed B.named
  have hlocks := B.notSynchronized
  have J4 : ∀ (n4 : Nat) (x1 : Int32) (x2 : Int32) (w : St) (H : Heap) (locs : List Loc) (ls : Array Slot), fX5_lineUp_4 n4 x1 x2 w = some ((), u') → CX (wM ad ck) ck D tt (va_A (wM ad ck u) sz) s w H locs → lv_has ls 4 [(0, .ref (ad 0)), (1, .int x1), (2, .int x2)] → W p l e (headSpec wsX5_lineUp rmX5_lineUp).room s m ([.ref (ad 0)] : List Value).toArray below meth c H locs 0 0 (MQ below (QV (wM ad ck) D u sz u') ([.ref (ad 0)] : List Value).toArray s 0 0 (va_A (wM ad ck u) sz)) (F0 m 4 ls []) := by
    intro n4
    induction n4 with
    | zero =>
      intro x1 x2 w H locs ls hf
      have hf : (none : Option (Unit × St)) = some ((), u') := hf
      cases hf
    | succ n4 ih4 =>
      intro x1 x2 w H locs ls hf C hl
      rw [fX5_lineUp_4] at hf
      have J11 : ∀ (n11 : Nat) (x1 : Int32) (x2 : Int32) (x3 : Int32) (w : St) (H : Heap) (locs : List Loc) (ls : Array Slot), fX5_lineUp_11 (fX5_lineUp_4 n4) n11 x1 x2 x3 w = some ((), u') → CX (wM ad ck) ck D tt (va_A (wM ad ck u) sz) s w H locs → lv_has ls 4 [(0, .ref (ad 0)), (1, .int x1), (2, .int x2), (3, .int x3)] → W p l e (headSpec wsX5_lineUp rmX5_lineUp).room s m ([.ref (ad 0)] : List Value).toArray below meth c H locs 0 0 (MQ below (QV (wM ad ck) D u sz u') ([.ref (ad 0)] : List Value).toArray s 0 0 (va_A (wM ad ck u) sz)) (F0 m 11 ls []) := by
        intro n11
        induction n11 with
        | zero =>
          intro x1 x2 x3 w H locs ls hf
          have hf : (none : Option (Unit × St)) = some ((), u') := hf
          cases hf
        | succ n11 ih11 =>
          intro x1 x2 x3 w H locs ls hf C hl
          rw [fX5_lineUp_11] at hf
          refine lv_iload_n hx hb dX5_lineUp_11 rfl (lv_at hl 3 rfl) ?_
          refine lv_aload_n hx hb dX5_lineUp_12 rfl (lv_at hl 0 rfl) ?_
          refine cx_get C hx hb (T := TX5) (N := 28) hts (by decide +kernel) hown 0 rfl rfl 7 (by decide) (hts (.fieldLink RX5 107 "AggregateRowsModel" "all" "I") (by decide +kernel)) (fun _ h9 => h9) (v := .int (w.1 2)) rfl dX5_lineUp_13 ?_
          refine lv_icmp_ge (tgt := 45) hx hb dX5_lineUp_16 (by decide) (fun c_1 => ?_) (fun c_1 => ?_)
          · replace hf := (if_pos c_1).symm.trans hf
            obtain ⟨x2_2, ex2_2⟩ : ∃ y : Int32, y = x2 + 1 := ⟨_, rfl⟩
            replace hf := lt_at hf ex2_2
            refine lv_iinc (v := x2_2) (lv' := [(2, .int x2_2), (0, .ref (ad 0)), (1, .int x1), (3, .int x3)]) hx hb dX5_lineUp_45 hl (k := 2) rfl (by rw [ex2_2]; rfl) (by decide) rfl (fun ls hl => ?_)
            refine lv_goto (tgt := 4) hx hb dX5_lineUp_48 (by decide) ?_
            exact ih4 x1 x2_2 w _ _ _ hf C (lv_sub hl [1, 2, 0] rfl)
          · replace hf := (if_neg c_1).symm.trans hf
            refine lv_aload_n hx hb dX5_lineUp_19 rfl (lv_at hl 0 rfl) ?_
            refine cx_get C hx hb (T := TX5) (N := 28) hts (by decide +kernel) hown 0 rfl rfl 8 (by decide) (hts (.fieldLink RX5 26 "AggregateRowsModel" "parts" "[I") (by decide +kernel)) (fun _ h9 => h9) (v := .ref (ad 6)) rfl dX5_lineUp_20 ?_
            refine lv_iload_n hx hb dX5_lineUp_23 rfl (lv_at hl 3 rfl) ?_
            obtain ⟨g_3, hf⟩ := gd_some hf
            refine cx_iald C hx hb 6 rfl g_3 dX5_lineUp_24 ?_
            refine lv_iload_n hx hb dX5_lineUp_25 rfl (lv_at hl 2 rfl) ?_
            refine lv_icmp_ne (tgt := 39) hx hb dX5_lineUp_26 (by decide) (fun c_4 => ?_) (fun c_4 => ?_)
            · replace hf := (if_neg c_4).symm.trans hf
              obtain ⟨x3_5, ex3_5⟩ : ∃ y : Int32, y = x3 + 1 := ⟨_, rfl⟩
              replace hf := lt_at hf ex3_5
              refine lv_iinc (v := x3_5) (lv' := [(3, .int x3_5), (0, .ref (ad 0)), (1, .int x1), (2, .int x2)]) hx hb dX5_lineUp_39 hl (k := 3) rfl (by rw [ex3_5]; rfl) (by decide) rfl (fun ls hl => ?_)
              refine lv_goto (tgt := 11) hx hb dX5_lineUp_42 (by decide) ?_
              exact ih11 x1 x2 x3_5 w _ _ _ hf C (lv_sub hl [1, 2, 3, 0] rfl)
            · replace hf := (if_pos c_4).symm.trans hf
              refine lv_aload_n hx hb dX5_lineUp_29 rfl (lv_at hl 0 rfl) ?_
              refine cx_get C hx hb (T := TX5) (N := 28) hts (by decide +kernel) hown 0 rfl rfl 24 (by decide) (hts (.fieldLink RX5 63 "AggregateRowsModel" "order" "[I") (by decide +kernel)) (fun _ h9 => h9) (v := .ref (ad 18)) rfl dX5_lineUp_30 ?_
              refine lv_iload_n hx hb dX5_lineUp_33 rfl (lv_at hl 1 rfl) ?_
              refine lv_iload_n hx hb dX5_lineUp_34 rfl (lv_at hl 3 rfl) ?_
              obtain ⟨g_6, hf⟩ := gd_some hf
              refine cx_iast C hx hb 18 rfl g_6 (u1 := sI w 15 x1.toNatClampNeg x3) rfl dX5_lineUp_35 (fun u_7 H locs eu_7 C => ?_)
              replace hf := lt_at hf eu_7
              obtain ⟨x1_8, ex1_8⟩ : ∃ y : Int32, y = x1 + 1 := ⟨_, rfl⟩
              replace hf := lt_at hf ex1_8
              refine lv_iinc (v := x1_8) (lv' := [(1, .int x1_8), (0, .ref (ad 0)), (2, .int x2), (3, .int x3)]) hx hb dX5_lineUp_36 hl (k := 1) rfl (by rw [ex1_8]; rfl) (by decide) rfl (fun ls hl => ?_)
              obtain ⟨x3_9, ex3_9⟩ : ∃ y : Int32, y = x3 + 1 := ⟨_, rfl⟩
              replace hf := lt_at hf ex3_9
              refine lv_iinc (v := x3_9) (lv' := [(3, .int x3_9), (1, .int x1_8), (0, .ref (ad 0)), (2, .int x2)]) hx hb dX5_lineUp_39 hl (k := 3) rfl (by rw [ex3_9]; rfl) (by decide) rfl (fun ls hl => ?_)
              refine lv_goto (tgt := 11) hx hb dX5_lineUp_42 (by decide) ?_
              exact ih11 x1_8 x2 x3_9 u_7 _ _ _ hf C (lv_sub hl [2, 1, 3, 0] rfl)
      refine lv_iload_n hx hb dX5_lineUp_4 rfl (lv_at hl 2 rfl) ?_
      refine lv_iconst (v := 3) hx hb dX5_lineUp_5 (by decide) ?_
      refine lv_icmp_ge (tgt := 51) hx hb dX5_lineUp_6 (by decide) (fun c_10 => ?_) (fun c_10 => ?_)
      · replace hf := (if_pos c_10).symm.trans hf
        exact cx_vret C hx hb hr hlocks hf dX5_lineUp_51
      · replace hf := (if_neg c_10).symm.trans hf
        refine lv_iconst (v := 0) hx hb dX5_lineUp_9 (by decide) ?_
        refine lv_istore_n (lv' := [(3, .int 0), (0, .ref (ad 0)), (1, .int x1), (2, .int x2)]) hx hb dX5_lineUp_10 rfl hl (by decide) rfl (fun ls hl => ?_)
        exact J11 FU x1 x2 0 w _ _ _ hf C (lv_sub hl [1, 2, 3, 0] rfl)
  have hl := lv_entry ([.ref (ad 0)]) (n := 4) (Nat.le_of_ble_eq_true rfl)
  rw [lg_entry_eq]
  generalize (lg_sl ([.ref (ad 0)]) ++ List.replicate (4 - (lg_sl ([.ref (ad 0)])).length) Slot.unset).toArray = ls at hl ⊢
  have hl : lv_has ls 4 [(0, .ref (ad 0))] := hl
  unfold fX5_lineUp at hf
  refine lv_iconst (v := 0) hx hb dX5_lineUp_0 (by decide) ?_
  refine lv_istore_n (lv' := [(1, .int 0), (0, .ref (ad 0))]) hx hb dX5_lineUp_1 rfl hl (by decide) rfl (fun ls hl => ?_)
  refine lv_iconst (v := 0) hx hb dX5_lineUp_2 (by decide) ?_
  refine lv_istore_n (lv' := [(2, .int 0), (1, .int 0), (0, .ref (ad 0))]) hx hb dX5_lineUp_3 rfl hl (by decide) rfl (fun ls hl => ?_)
  exact J4 FU 0 0 u _ _ _ hf C (lv_sub hl [2, 1, 0] rfl)
/-! ===== X5_isSameKey ===== -/
def fX5_isSameKey (u : St) (a1 : Int32) (a2 : Int32) : Option (Int32 × St) := (if (u.1 3) = 2 then some (1, u) else (if (u.1 3) = 1 then bnd (fX5_compare u a1 a2) (fun r_5 u_6 => (if r_5 = 0 then some (1, u_6) else some (0, u_6))) else (if a1 = a2 then some (1, u) else some (0, u))))
abbrev rmX5_isSameKey : Room := { frames := 2, cells := 0, slots := 0, locals := 50 }
set_option maxHeartbeats 4000000 in
set_option maxRecDepth 100000 in
theorem k_X5_isSameKey (l : Launch) (ad : Nat → Nat) (ck : Nat → ClassId) (D : va_G) (tt : Nat) {u : St} {a1 : Int32} {a2 : Int32} {r : Int32} {u' : St} (hf : fX5_isSameKey u a1 a2 = some (r, u')) : MI l yX5_isSameKey wsX5_isSameKey rmX5_isSameKey (wM ad ck) ck D tt [.ref (ad 0), .int a1, .int a2] u r u' := by
  intro sz
  refine Met.ofW (cc := cX5_isSameKey) (maxL := 3) (ret := (some .boolean)) (by decide) rfl ?_
  intro p e s m args below meth c s₁ B hml hv
  obtain ⟨rfl, hsz, C⟩ := cx_entry hv
  have hx := B.exec
  have hb := B.bytes
  have hr := B.returns
  have hts := atoms_spec (ws := wsX5_isSameKey) B.pre
  have hown : s.vm.findClass RX5 = some m.cls := findClass_of_methodNamed B.named
  have hlocks := B.notSynchronized
  have hl := lv_entry ([.ref (ad 0), .int a1, .int a2]) (n := 3) (Nat.le_of_ble_eq_true rfl)
  rw [lg_entry_eq]
  generalize (lg_sl ([.ref (ad 0), .int a1, .int a2]) ++ List.replicate (3 - (lg_sl ([.ref (ad 0), .int a1, .int a2])).length) Slot.unset).toArray = ls at hl ⊢
  have hl : lv_has ls 3 [(0, .ref (ad 0)), (1, .int a1), (2, .int a2)] := hl
  unfold fX5_isSameKey at hf
  refine lv_aload_n hx hb dX5_isSameKey_0 rfl (lv_at hl 0 rfl) ?_
  refine cx_get C hx hb (T := TX5) (N := 28) hts (by decide +kernel) hown 0 rfl rfl 11 (by decide) (hts (.fieldLink RX5 110 "AggregateRowsModel" "by" "I") (by decide +kernel)) (fun _ h9 => h9) (v := .int (u.1 3)) rfl dX5_isSameKey_1 ?_
  refine lv_iconst (v := 2) hx hb dX5_isSameKey_4 (by decide) ?_
  refine lv_icmp_eq (tgt := 33) hx hb dX5_isSameKey_5 (by decide) (fun c_1 => ?_) (fun c_1 => ?_)
  · replace hf := (if_pos c_1).symm.trans hf
    refine lv_iconst (v := 1) hx hb dX5_isSameKey_33 (by decide) ?_
    refine lv_goto (tgt := 38) hx hb dX5_isSameKey_34 (by decide) ?_
    exact cx_zret C hx hb hr (by decide) hlocks hf dX5_isSameKey_38
  · replace hf := (if_neg c_1).symm.trans hf
    refine lv_aload_n hx hb dX5_isSameKey_8 rfl (lv_at hl 0 rfl) ?_
    refine cx_get C hx hb (T := TX5) (N := 28) hts (by decide +kernel) hown 0 rfl rfl 11 (by decide) (hts (.fieldLink RX5 110 "AggregateRowsModel" "by" "I") (by decide +kernel)) (fun _ h9 => h9) (v := .int (u.1 3)) rfl dX5_isSameKey_9 ?_
    refine lv_iconst (v := 1) hx hb dX5_isSameKey_12 (by decide) ?_
    refine lv_icmp_ne (tgt := 28) hx hb dX5_isSameKey_13 (by decide) (fun c_2 => ?_) (fun c_2 => ?_)
    · replace hf := (if_neg c_2).symm.trans hf
      refine lv_iload_n hx hb dX5_isSameKey_28 rfl (lv_at hl 1 rfl) ?_
      refine lv_iload_n hx hb dX5_isSameKey_29 rfl (lv_at hl 2 rfl) ?_
      refine lv_icmp_ne (tgt := 37) hx hb dX5_isSameKey_30 (by decide) (fun c_3 => ?_) (fun c_3 => ?_)
      · replace hf := (if_neg c_3).symm.trans hf
        refine lv_iconst (v := 0) hx hb dX5_isSameKey_37 (by decide) ?_
        exact cx_zret C hx hb hr (by decide) hlocks hf dX5_isSameKey_38
      · replace hf := (if_pos c_3).symm.trans hf
        refine lv_iconst (v := 1) hx hb dX5_isSameKey_33 (by decide) ?_
        refine lv_goto (tgt := 38) hx hb dX5_isSameKey_34 (by decide) ?_
        exact cx_zret C hx hb hr (by decide) hlocks hf dX5_isSameKey_38
    · replace hf := (if_pos c_2).symm.trans hf
      refine lv_aload_n hx hb dX5_isSameKey_16 rfl (lv_at hl 0 rfl) ?_
      refine lv_iload_n hx hb dX5_isSameKey_17 rfl (lv_at hl 1 rfl) ?_
      refine lv_iload_n hx hb dX5_isSameKey_18 rfl (lv_at hl 2 rfl) ?_
      obtain ⟨r_5, u_6, h_4, hf⟩ := bnd_some hf
      refine cx_calli C (va_runV (As := [.int a1, .int a2]) (rest := []) ⟨hx, hb, hml, hown, hts⟩ (k_X5_compare l ad ck D tt h_4 _) (cwV 2 hts gX5_isSameKey_X5_compare rfl rfl rfl (by decide +kernel) ⟨Nat.le_of_ble_eq_true rfl, Nat.le_of_ble_eq_true rfl⟩) (cx_preV C (q0 := 0) (ci := 5) rfl rfl) rfl rfl hl.1 rfl (lv_room (Nat.le_of_ble_eq_true rfl)) dX5_isSameKey_19 ⟨Nat.zero_le _, Nat.zero_le _⟩) (fun H locs C => ?_)
      refine lv_if_ne (tgt := 37) hx hb dX5_isSameKey_22 (by decide) (fun c_7 => ?_) (fun c_7 => ?_)
      · replace hf := (if_neg c_7).symm.trans hf
        refine lv_iconst (v := 0) hx hb dX5_isSameKey_37 (by decide) ?_
        exact cx_zret C hx hb hr (by decide) hlocks hf dX5_isSameKey_38
      · replace hf := (if_pos c_7).symm.trans hf
        refine lv_goto (tgt := 33) hx hb dX5_isSameKey_25 (by decide) ?_
        refine lv_iconst (v := 1) hx hb dX5_isSameKey_33 (by decide) ?_
        refine lv_goto (tgt := 38) hx hb dX5_isSameKey_34 (by decide) ?_
        exact cx_zret C hx hb hr (by decide) hlocks hf dX5_isSameKey_38
/-! ===== X5_findGroups ===== -/
def fX5_findGroups_153 (k33 : Int32 → St → Option (Unit × St)) (x1 : Int32) (x3 : Int32) (w : St) : Option (Unit × St) := gd (okI x3 60) (gd (okI x3 60) (lt_ (sI w 9 x3.toNatClampNeg ((w.2.1 9 x3.toNatClampNeg) + 1)) (fun u_3 => gd (okI x1 60) (lt_ (sI u_3 16 x1.toNatClampNeg x3) (fun u_5 => lt_ (x1 + 1) (fun x1_6 => k33 x1_6 u_5))))))
def fX5_findGroups_131 (k33 : Int32 → St → Option (Unit × St)) (x1 : Int32) (x2 : Int32) (x3 : Int32) (y1 : Int32) (w : St) : Option (Unit × St) := lt_ (sS w 6 y1) (fun u_1 => gd (okI x2 60) (gd (okI x3 60) (lt_ (sI u_1 8 x3.toNatClampNeg (u_1.2.1 6 x2.toNatClampNeg)) (fun u_4 => gd (okI x3 60) (lt_ (sI u_4 9 x3.toNatClampNeg 0) (fun u_6 => fX5_findGroups_153 (k33) x1 x3 u_6))))))
def fX5_findGroups_109 (k33 : Int32 → St → Option (Unit × St)) (x1 : Int32) (x2 : Int32) (x3 : Int32) (w : St) : Option (Unit × St) := (if x3 = (w.1 6) then fX5_findGroups_131 (k33) x1 x2 x3 ((w.1 6) + 1) w else fX5_findGroups_131 (k33) x1 x2 x3 (w.1 6) w)
def fX5_findGroups_92 (k33 : Int32 → St → Option (Unit × St)) (x1 : Int32) (x2 : Int32) (x3 : Int32) (w : St) : Option (Unit × St) := (if x3 = (w.1 6) then fX5_findGroups_109 (k33) x1 x2 x3 w else gd (okI x3 60) ((if (w.2.1 9 x3.toNatClampNeg) = 0 then fX5_findGroups_109 (k33) x1 x2 x3 w else fX5_findGroups_153 (k33) x1 x3 w)))
def fX5_findGroups_50 (k33 : Int32 → St → Option (Unit × St)) : Nat → Int32 → Int32 → Int32 → St → Option (Unit × St)
  | 0, _, _, _, _ => none
  | n50 + 1, x1, x2, x3, w => (if (w.1 6) ≤ x3 then fX5_findGroups_92 (k33) x1 x2 x3 w else gd (okI x3 60) ((if (w.2.1 9 x3.toNatClampNeg) ≤ 0 then fX5_findGroups_92 (k33) x1 x2 x3 w else gd (okI x3 60) (gd (okI x2 60) (bnd (fX5_isSameKey w (w.2.1 8 x3.toNatClampNeg) (w.2.1 6 x2.toNatClampNeg)) (fun r_7 u_8 => (if r_7 = 0 then lt_ (x3 + 1) (fun x3_10 => fX5_findGroups_50 k33 n50 x1 x2 x3_10 u_8) else fX5_findGroups_92 (k33) x1 x2 x3 u_8)))))))
def fX5_findGroups_33  : Nat → Int32 → St → Option (Unit × St)
  | 0, _, _ => none
  | n33 + 1, x1, w => (if (w.1 2) ≤ x1 then some ((), w) else gd (okI x1 60) (lt_ (w.2.1 15 x1.toNatClampNeg) (fun x2_3 => fX5_findGroups_50 (fX5_findGroups_33 n33) FU x1 x2_3 0 w)))
def fX5_findGroups_14  (y1 : Int32) (w : St) : Option (Unit × St) := lt_ (sS w 6 y1) (fun u_1 => gd (okI 0 60) (lt_ (sI u_1 8 (0 : Int32).toNatClampNeg (-1)) (fun u_3 => gd (okI 0 60) (lt_ (sI u_3 9 (0 : Int32).toNatClampNeg 0) (fun u_5 => fX5_findGroups_33 FU 0 u_5)))))
def fX5_findGroups (u : St)  : Option (Unit × St) := (if (u.1 3) = 2 then fX5_findGroups_14 1 u else fX5_findGroups_14 0 u)
abbrev rmX5_findGroups : Room := { frames := 3, cells := 0, slots := 0, locals := 72 }
set_option maxHeartbeats 4000000 in
set_option maxRecDepth 100000 in
theorem k_X5_findGroups (l : Launch) (ad : Nat → Nat) (ck : Nat → ClassId) (D : va_G) (tt : Nat) {u : St}  {u' : St} (hf : fX5_findGroups u = some ((), u')) : MV l yX5_findGroups wsX5_findGroups rmX5_findGroups (wM ad ck) ck D tt [.ref (ad 0)] u u' := by
  intro sz
  refine Met.ofW (cc := cX5_findGroups) (maxL := 4) (ret := none) (by decide) rfl ?_
  intro p e s m args below meth c s₁ B hml hv
  obtain ⟨rfl, hsz, C⟩ := cx_entry hv
  have hx := B.exec
  have hb := B.bytes
  have hr := B.returns
  have hts := atoms_spec (ws := wsX5_findGroups) B.pre
  have hown : s.vm.findClass RX5 = some m.cls := findClass_of_methodNamed B.named
  have hlocks := B.notSynchronized
  have J33 : ∀ (n33 : Nat) (x1 : Int32) (w : St) (H : Heap) (locs : List Loc) (ls : Array Slot), fX5_findGroups_33 n33 x1 w = some ((), u') → CX (wM ad ck) ck D tt (va_A (wM ad ck u) sz) s w H locs → lv_has ls 4 [(0, .ref (ad 0)), (1, .int x1)] → W p l e (headSpec wsX5_findGroups rmX5_findGroups).room s m ([.ref (ad 0)] : List Value).toArray below meth c H locs 0 0 (MQ below (QV (wM ad ck) D u sz u') ([.ref (ad 0)] : List Value).toArray s 0 0 (va_A (wM ad ck u) sz)) (F0 m 33 ls []) := by
    intro n33
    induction n33 with
    | zero =>
      intro x1 w H locs ls hf
      have hf : (none : Option (Unit × St)) = some ((), u') := hf
      cases hf
    | succ n33 ih33 =>
      intro x1 w H locs ls hf C hl
      rw [fX5_findGroups_33] at hf
      have J153 : ∀ (x1 : Int32) (x3 : Int32) (w : St) (H : Heap) (locs : List Loc) (ls : Array Slot), fX5_findGroups_153 (fX5_findGroups_33 n33) x1 x3 w = some ((), u') → CX (wM ad ck) ck D tt (va_A (wM ad ck u) sz) s w H locs → lv_has ls 4 [(0, .ref (ad 0)), (1, .int x1), (3, .int x3)] → W p l e (headSpec wsX5_findGroups rmX5_findGroups).room s m ([.ref (ad 0)] : List Value).toArray below meth c H locs 0 0 (MQ below (QV (wM ad ck) D u sz u') ([.ref (ad 0)] : List Value).toArray s 0 0 (va_A (wM ad ck u) sz)) (F0 m 153 ls []) := by
        intro x1 x3 w H locs ls hf C hl
        unfold fX5_findGroups_153 at hf
        refine lv_aload_n hx hb dX5_findGroups_153 rfl (lv_at hl 0 rfl) ?_
        refine cx_get C hx hb (T := TX5) (N := 28) hts (by decide +kernel) hown 0 rfl rfl 16 (by decide) (hts (.fieldLink RX5 38 "AggregateRowsModel" "groupRows" "[I") (by decide +kernel)) (fun _ h9 => h9) (v := .ref (ad 10)) rfl dX5_findGroups_154 ?_
        refine lv_iload_n hx hb dX5_findGroups_157 rfl (lv_at hl 2 rfl) ?_
        refine lv_dup2_11 hx hb dX5_findGroups_158 rfl rfl ?_
        obtain ⟨g_1, hf⟩ := gd_some hf
        refine cx_iald C hx hb 10 rfl g_1 dX5_findGroups_159 ?_
        refine lv_iconst (v := 1) hx hb dX5_findGroups_160 (by decide) ?_
        refine lv_iadd hx hb dX5_findGroups_161 ?_
        obtain ⟨g_2, hf⟩ := gd_some hf
        refine cx_iast C hx hb 10 rfl g_2 (u1 := sI w 9 x3.toNatClampNeg ((w.2.1 9 x3.toNatClampNeg) + 1)) rfl dX5_findGroups_162 (fun u_3 H locs eu_3 C => ?_)
        replace hf := lt_at hf eu_3
        refine lv_aload_n hx hb dX5_findGroups_163 rfl (lv_at hl 0 rfl) ?_
        refine cx_get C hx hb (T := TX5) (N := 28) hts (by decide +kernel) hown 0 rfl rfl 25 (by decide) (hts (.fieldLink RX5 66 "AggregateRowsModel" "groupOf" "[I") (by decide +kernel)) (fun _ h9 => h9) (v := .ref (ad 19)) rfl dX5_findGroups_164 ?_
        refine lv_iload_n hx hb dX5_findGroups_167 rfl (lv_at hl 1 rfl) ?_
        refine lv_iload_n hx hb dX5_findGroups_168 rfl (lv_at hl 2 rfl) ?_
        obtain ⟨g_4, hf⟩ := gd_some hf
        refine cx_iast C hx hb 19 rfl g_4 (u1 := sI u_3 16 x1.toNatClampNeg x3) rfl dX5_findGroups_169 (fun u_5 H locs eu_5 C => ?_)
        replace hf := lt_at hf eu_5
        obtain ⟨x1_6, ex1_6⟩ : ∃ y : Int32, y = x1 + 1 := ⟨_, rfl⟩
        replace hf := lt_at hf ex1_6
        refine lv_iinc (v := x1_6) (lv' := [(1, .int x1_6), (0, .ref (ad 0)), (3, .int x3)]) hx hb dX5_findGroups_170 hl (k := 1) rfl (by rw [ex1_6]; rfl) (by decide) rfl (fun ls hl => ?_)
        refine lv_goto (tgt := 33) hx hb dX5_findGroups_173 (by decide) ?_
        exact ih33 x1_6 u_5 _ _ _ hf C (lv_sub hl [1, 0] rfl)
      have J131 : ∀ (x1 : Int32) (x2 : Int32) (x3 : Int32) (y1 : Int32) (w : St) (H : Heap) (locs : List Loc) (ls : Array Slot), fX5_findGroups_131 (fX5_findGroups_33 n33) x1 x2 x3 y1 w = some ((), u') → CX (wM ad ck) ck D tt (va_A (wM ad ck u) sz) s w H locs → lv_has ls 4 [(0, .ref (ad 0)), (1, .int x1), (2, .int x2), (3, .int x3)] → W p l e (headSpec wsX5_findGroups rmX5_findGroups).room s m ([.ref (ad 0)] : List Value).toArray below meth c H locs 0 0 (MQ below (QV (wM ad ck) D u sz u') ([.ref (ad 0)] : List Value).toArray s 0 0 (va_A (wM ad ck u) sz)) (F0 m 131 ls [.int y1, .ref (ad 0)]) := by
        intro x1 x2 x3 y1 w H locs ls hf C hl
        unfold fX5_findGroups_131 at hf
        refine cx_puti C hx hb (T := TX5) (N := 28) hts (by decide +kernel) tyX5 tyX5_ok nmX5 hown 0 rfl rfl 14 (by decide) (hts (.fieldLink RX5 127 "AggregateRowsModel" "groups" "I") (by decide +kernel)) (fun _ h9 => h9) rfl (by decide +kernel) (Nat.le_of_ble_eq_true rfl) (u1 := sS w 6 y1) rfl dX5_findGroups_131 (fun u_1 H locs eu_1 C => ?_)
        replace hf := lt_at hf eu_1
        refine lv_aload_n hx hb dX5_findGroups_134 rfl (lv_at hl 0 rfl) ?_
        refine cx_get C hx hb (T := TX5) (N := 28) hts (by decide +kernel) hown 0 rfl rfl 15 (by decide) (hts (.fieldLink RX5 35 "AggregateRowsModel" "groupKey" "[I") (by decide +kernel)) (fun _ h9 => h9) (v := .ref (ad 9)) rfl dX5_findGroups_135 ?_
        refine lv_iload_n hx hb dX5_findGroups_138 rfl (lv_at hl 3 rfl) ?_
        refine lv_aload_n hx hb dX5_findGroups_139 rfl (lv_at hl 0 rfl) ?_
        refine cx_get C hx hb (T := TX5) (N := 28) hts (by decide +kernel) hown 0 rfl rfl 9 (by decide) (hts (.fieldLink RX5 29 "AggregateRowsModel" "keys" "[I") (by decide +kernel)) (fun _ h9 => h9) (v := .ref (ad 7)) rfl dX5_findGroups_140 ?_
        refine lv_iload_n hx hb dX5_findGroups_143 rfl (lv_at hl 2 rfl) ?_
        obtain ⟨g_2, hf⟩ := gd_some hf
        refine cx_iald C hx hb 7 rfl g_2 dX5_findGroups_144 ?_
        obtain ⟨g_3, hf⟩ := gd_some hf
        refine cx_iast C hx hb 9 rfl g_3 (u1 := sI u_1 8 x3.toNatClampNeg (u_1.2.1 6 x2.toNatClampNeg)) rfl dX5_findGroups_145 (fun u_4 H locs eu_4 C => ?_)
        replace hf := lt_at hf eu_4
        refine lv_aload_n hx hb dX5_findGroups_146 rfl (lv_at hl 0 rfl) ?_
        refine cx_get C hx hb (T := TX5) (N := 28) hts (by decide +kernel) hown 0 rfl rfl 16 (by decide) (hts (.fieldLink RX5 38 "AggregateRowsModel" "groupRows" "[I") (by decide +kernel)) (fun _ h9 => h9) (v := .ref (ad 10)) rfl dX5_findGroups_147 ?_
        refine lv_iload_n hx hb dX5_findGroups_150 rfl (lv_at hl 3 rfl) ?_
        refine lv_iconst (v := 0) hx hb dX5_findGroups_151 (by decide) ?_
        obtain ⟨g_5, hf⟩ := gd_some hf
        refine cx_iast C hx hb 10 rfl g_5 (u1 := sI u_4 9 x3.toNatClampNeg 0) rfl dX5_findGroups_152 (fun u_6 H locs eu_6 C => ?_)
        replace hf := lt_at hf eu_6
        exact J153 x1 x3 u_6 _ _ _ hf C (lv_sub hl [0, 1, 3] rfl)
      have J109 : ∀ (x1 : Int32) (x2 : Int32) (x3 : Int32) (w : St) (H : Heap) (locs : List Loc) (ls : Array Slot), fX5_findGroups_109 (fX5_findGroups_33 n33) x1 x2 x3 w = some ((), u') → CX (wM ad ck) ck D tt (va_A (wM ad ck u) sz) s w H locs → lv_has ls 4 [(0, .ref (ad 0)), (1, .int x1), (2, .int x2), (3, .int x3)] → W p l e (headSpec wsX5_findGroups rmX5_findGroups).room s m ([.ref (ad 0)] : List Value).toArray below meth c H locs 0 0 (MQ below (QV (wM ad ck) D u sz u') ([.ref (ad 0)] : List Value).toArray s 0 0 (va_A (wM ad ck u) sz)) (F0 m 109 ls []) := by
        intro x1 x2 x3 w H locs ls hf C hl
        unfold fX5_findGroups_109 at hf
        refine lv_aload_n hx hb dX5_findGroups_109 rfl (lv_at hl 0 rfl) ?_
        refine lv_iload_n hx hb dX5_findGroups_110 rfl (lv_at hl 3 rfl) ?_
        refine lv_aload_n hx hb dX5_findGroups_111 rfl (lv_at hl 0 rfl) ?_
        refine cx_get C hx hb (T := TX5) (N := 28) hts (by decide +kernel) hown 0 rfl rfl 14 (by decide) (hts (.fieldLink RX5 127 "AggregateRowsModel" "groups" "I") (by decide +kernel)) (fun _ h9 => h9) (v := .int (w.1 6)) rfl dX5_findGroups_112 ?_
        refine lv_icmp_ne (tgt := 127) hx hb dX5_findGroups_115 (by decide) (fun c_1 => ?_) (fun c_1 => ?_)
        · replace hf := (if_neg c_1).symm.trans hf
          refine lv_aload_n hx hb dX5_findGroups_127 rfl (lv_at hl 0 rfl) ?_
          refine cx_get C hx hb (T := TX5) (N := 28) hts (by decide +kernel) hown 0 rfl rfl 14 (by decide) (hts (.fieldLink RX5 127 "AggregateRowsModel" "groups" "I") (by decide +kernel)) (fun _ h9 => h9) (v := .int (w.1 6)) rfl dX5_findGroups_128 ?_
          exact J131 x1 x2 x3 (w.1 6) w _ _ _ hf C (lv_sub hl [0, 1, 2, 3] rfl)
        · replace hf := (if_pos c_1).symm.trans hf
          refine lv_aload_n hx hb dX5_findGroups_118 rfl (lv_at hl 0 rfl) ?_
          refine cx_get C hx hb (T := TX5) (N := 28) hts (by decide +kernel) hown 0 rfl rfl 14 (by decide) (hts (.fieldLink RX5 127 "AggregateRowsModel" "groups" "I") (by decide +kernel)) (fun _ h9 => h9) (v := .int (w.1 6)) rfl dX5_findGroups_119 ?_
          refine lv_iconst (v := 1) hx hb dX5_findGroups_122 (by decide) ?_
          refine lv_iadd hx hb dX5_findGroups_123 ?_
          refine lv_goto (tgt := 131) hx hb dX5_findGroups_124 (by decide) ?_
          exact J131 x1 x2 x3 ((w.1 6) + 1) w _ _ _ hf C (lv_sub hl [0, 1, 2, 3] rfl)
      have J92 : ∀ (x1 : Int32) (x2 : Int32) (x3 : Int32) (w : St) (H : Heap) (locs : List Loc) (ls : Array Slot), fX5_findGroups_92 (fX5_findGroups_33 n33) x1 x2 x3 w = some ((), u') → CX (wM ad ck) ck D tt (va_A (wM ad ck u) sz) s w H locs → lv_has ls 4 [(0, .ref (ad 0)), (1, .int x1), (2, .int x2), (3, .int x3)] → W p l e (headSpec wsX5_findGroups rmX5_findGroups).room s m ([.ref (ad 0)] : List Value).toArray below meth c H locs 0 0 (MQ below (QV (wM ad ck) D u sz u') ([.ref (ad 0)] : List Value).toArray s 0 0 (va_A (wM ad ck u) sz)) (F0 m 92 ls []) := by
        intro x1 x2 x3 w H locs ls hf C hl
        unfold fX5_findGroups_92 at hf
        refine lv_iload_n hx hb dX5_findGroups_92 rfl (lv_at hl 3 rfl) ?_
        refine lv_aload_n hx hb dX5_findGroups_93 rfl (lv_at hl 0 rfl) ?_
        refine cx_get C hx hb (T := TX5) (N := 28) hts (by decide +kernel) hown 0 rfl rfl 14 (by decide) (hts (.fieldLink RX5 127 "AggregateRowsModel" "groups" "I") (by decide +kernel)) (fun _ h9 => h9) (v := .int (w.1 6)) rfl dX5_findGroups_94 ?_
        refine lv_icmp_eq (tgt := 109) hx hb dX5_findGroups_97 (by decide) (fun c_1 => ?_) (fun c_1 => ?_)
        · replace hf := (if_pos c_1).symm.trans hf
          exact J109 x1 x2 x3 w _ _ _ hf C (lv_sub hl [0, 1, 2, 3] rfl)
        · replace hf := (if_neg c_1).symm.trans hf
          refine lv_aload_n hx hb dX5_findGroups_100 rfl (lv_at hl 0 rfl) ?_
          refine cx_get C hx hb (T := TX5) (N := 28) hts (by decide +kernel) hown 0 rfl rfl 16 (by decide) (hts (.fieldLink RX5 38 "AggregateRowsModel" "groupRows" "[I") (by decide +kernel)) (fun _ h9 => h9) (v := .ref (ad 10)) rfl dX5_findGroups_101 ?_
          refine lv_iload_n hx hb dX5_findGroups_104 rfl (lv_at hl 3 rfl) ?_
          obtain ⟨g_2, hf⟩ := gd_some hf
          refine cx_iald C hx hb 10 rfl g_2 dX5_findGroups_105 ?_
          refine lv_if_ne (tgt := 153) hx hb dX5_findGroups_106 (by decide) (fun c_3 => ?_) (fun c_3 => ?_)
          · replace hf := (if_neg c_3).symm.trans hf
            exact J153 x1 x3 w _ _ _ hf C (lv_sub hl [0, 1, 3] rfl)
          · replace hf := (if_pos c_3).symm.trans hf
            exact J109 x1 x2 x3 w _ _ _ hf C (lv_sub hl [0, 1, 2, 3] rfl)
      have J50 : ∀ (n50 : Nat) (x1 : Int32) (x2 : Int32) (x3 : Int32) (w : St) (H : Heap) (locs : List Loc) (ls : Array Slot), fX5_findGroups_50 (fX5_findGroups_33 n33) n50 x1 x2 x3 w = some ((), u') → CX (wM ad ck) ck D tt (va_A (wM ad ck u) sz) s w H locs → lv_has ls 4 [(0, .ref (ad 0)), (1, .int x1), (2, .int x2), (3, .int x3)] → W p l e (headSpec wsX5_findGroups rmX5_findGroups).room s m ([.ref (ad 0)] : List Value).toArray below meth c H locs 0 0 (MQ below (QV (wM ad ck) D u sz u') ([.ref (ad 0)] : List Value).toArray s 0 0 (va_A (wM ad ck u) sz)) (F0 m 50 ls []) := by
        intro n50
        induction n50 with
        | zero =>
          intro x1 x2 x3 w H locs ls hf
          have hf : (none : Option (Unit × St)) = some ((), u') := hf
          cases hf
        | succ n50 ih50 =>
          intro x1 x2 x3 w H locs ls hf C hl
          rw [fX5_findGroups_50] at hf
          refine lv_iload_n hx hb dX5_findGroups_50 rfl (lv_at hl 3 rfl) ?_
          refine lv_aload_n hx hb dX5_findGroups_51 rfl (lv_at hl 0 rfl) ?_
          refine cx_get C hx hb (T := TX5) (N := 28) hts (by decide +kernel) hown 0 rfl rfl 14 (by decide) (hts (.fieldLink RX5 127 "AggregateRowsModel" "groups" "I") (by decide +kernel)) (fun _ h9 => h9) (v := .int (w.1 6)) rfl dX5_findGroups_52 ?_
          refine lv_icmp_ge (tgt := 92) hx hb dX5_findGroups_55 (by decide) (fun c_1 => ?_) (fun c_1 => ?_)
          · replace hf := (if_pos c_1).symm.trans hf
            exact J92 x1 x2 x3 w _ _ _ hf C (lv_sub hl [0, 1, 2, 3] rfl)
          · replace hf := (if_neg c_1).symm.trans hf
            refine lv_aload_n hx hb dX5_findGroups_58 rfl (lv_at hl 0 rfl) ?_
            refine cx_get C hx hb (T := TX5) (N := 28) hts (by decide +kernel) hown 0 rfl rfl 16 (by decide) (hts (.fieldLink RX5 38 "AggregateRowsModel" "groupRows" "[I") (by decide +kernel)) (fun _ h9 => h9) (v := .ref (ad 10)) rfl dX5_findGroups_59 ?_
            refine lv_iload_n hx hb dX5_findGroups_62 rfl (lv_at hl 3 rfl) ?_
            obtain ⟨g_2, hf⟩ := gd_some hf
            refine cx_iald C hx hb 10 rfl g_2 dX5_findGroups_63 ?_
            refine lv_if_le (tgt := 92) hx hb dX5_findGroups_64 (by decide) (fun c_3 => ?_) (fun c_3 => ?_)
            · replace hf := (if_pos c_3).symm.trans hf
              exact J92 x1 x2 x3 w _ _ _ hf C (lv_sub hl [0, 1, 2, 3] rfl)
            · replace hf := (if_neg c_3).symm.trans hf
              refine lv_aload_n hx hb dX5_findGroups_67 rfl (lv_at hl 0 rfl) ?_
              refine lv_aload_n hx hb dX5_findGroups_68 rfl (lv_at hl 0 rfl) ?_
              refine cx_get C hx hb (T := TX5) (N := 28) hts (by decide +kernel) hown 0 rfl rfl 15 (by decide) (hts (.fieldLink RX5 35 "AggregateRowsModel" "groupKey" "[I") (by decide +kernel)) (fun _ h9 => h9) (v := .ref (ad 9)) rfl dX5_findGroups_69 ?_
              refine lv_iload_n hx hb dX5_findGroups_72 rfl (lv_at hl 3 rfl) ?_
              obtain ⟨g_4, hf⟩ := gd_some hf
              refine cx_iald C hx hb 9 rfl g_4 dX5_findGroups_73 ?_
              refine lv_aload_n hx hb dX5_findGroups_74 rfl (lv_at hl 0 rfl) ?_
              refine cx_get C hx hb (T := TX5) (N := 28) hts (by decide +kernel) hown 0 rfl rfl 9 (by decide) (hts (.fieldLink RX5 29 "AggregateRowsModel" "keys" "[I") (by decide +kernel)) (fun _ h9 => h9) (v := .ref (ad 7)) rfl dX5_findGroups_75 ?_
              refine lv_iload_n hx hb dX5_findGroups_78 rfl (lv_at hl 2 rfl) ?_
              obtain ⟨g_5, hf⟩ := gd_some hf
              refine cx_iald C hx hb 7 rfl g_5 dX5_findGroups_79 ?_
              obtain ⟨r_7, u_8, h_6, hf⟩ := bnd_some hf
              refine cx_calli C (va_runV (As := [.int (w.2.1 8 x3.toNatClampNeg), .int (w.2.1 6 x2.toNatClampNeg)]) (rest := []) ⟨hx, hb, hml, hown, hts⟩ (k_X5_isSameKey l ad ck D tt h_6 _) (cwV 2 hts gX5_findGroups_X5_isSameKey rfl rfl rfl (by decide +kernel) ⟨Nat.le_of_ble_eq_true rfl, Nat.le_of_ble_eq_true rfl⟩) (cx_preV C (q0 := 0) (ci := 5) rfl rfl) rfl rfl hl.1 rfl (lv_room (Nat.le_of_ble_eq_true rfl)) dX5_findGroups_80 ⟨Nat.zero_le _, Nat.zero_le _⟩) (fun H locs C => ?_)
              refine lv_if_ne (tgt := 92) hx hb dX5_findGroups_83 (by decide) (fun c_9 => ?_) (fun c_9 => ?_)
              · replace hf := (if_neg c_9).symm.trans hf
                exact J92 x1 x2 x3 u_8 _ _ _ hf C (lv_sub hl [0, 1, 2, 3] rfl)
              · replace hf := (if_pos c_9).symm.trans hf
                obtain ⟨x3_10, ex3_10⟩ : ∃ y : Int32, y = x3 + 1 := ⟨_, rfl⟩
                replace hf := lt_at hf ex3_10
                refine lv_iinc (v := x3_10) (lv' := [(3, .int x3_10), (0, .ref (ad 0)), (1, .int x1), (2, .int x2)]) hx hb dX5_findGroups_86 hl (k := 3) rfl (by rw [ex3_10]; rfl) (by decide) rfl (fun ls hl => ?_)
                refine lv_goto (tgt := 50) hx hb dX5_findGroups_89 (by decide) ?_
                exact ih50 x1 x2 x3_10 u_8 _ _ _ hf C (lv_sub hl [1, 2, 3, 0] rfl)
      refine lv_iload_n hx hb dX5_findGroups_33 rfl (lv_at hl 1 rfl) ?_
      refine lv_aload_n hx hb dX5_findGroups_34 rfl (lv_at hl 0 rfl) ?_
      refine cx_get C hx hb (T := TX5) (N := 28) hts (by decide +kernel) hown 0 rfl rfl 7 (by decide) (hts (.fieldLink RX5 107 "AggregateRowsModel" "all" "I") (by decide +kernel)) (fun _ h9 => h9) (v := .int (w.1 2)) rfl dX5_findGroups_35 ?_
      refine lv_icmp_ge (tgt := 176) hx hb dX5_findGroups_38 (by decide) (fun c_11 => ?_) (fun c_11 => ?_)
      · replace hf := (if_pos c_11).symm.trans hf
        exact cx_vret C hx hb hr hlocks hf dX5_findGroups_176
      · replace hf := (if_neg c_11).symm.trans hf
        refine lv_aload_n hx hb dX5_findGroups_41 rfl (lv_at hl 0 rfl) ?_
        refine cx_get C hx hb (T := TX5) (N := 28) hts (by decide +kernel) hown 0 rfl rfl 24 (by decide) (hts (.fieldLink RX5 63 "AggregateRowsModel" "order" "[I") (by decide +kernel)) (fun _ h9 => h9) (v := .ref (ad 18)) rfl dX5_findGroups_42 ?_
        refine lv_iload_n hx hb dX5_findGroups_45 rfl (lv_at hl 1 rfl) ?_
        obtain ⟨g_12, hf⟩ := gd_some hf
        refine cx_iald C hx hb 18 rfl g_12 dX5_findGroups_46 ?_
        refine lv_topi (fun x2_13 ex2_13 => ?_)
        replace hf := lt_at hf ex2_13
        refine lv_istore_n (lv' := [(2, .int x2_13), (0, .ref (ad 0)), (1, .int x1)]) hx hb dX5_findGroups_47 rfl hl (by decide) rfl (fun ls hl => ?_)
        refine lv_iconst (v := 0) hx hb dX5_findGroups_48 (by decide) ?_
        refine lv_istore_n (lv' := [(3, .int 0), (2, .int x2_13), (0, .ref (ad 0)), (1, .int x1)]) hx hb dX5_findGroups_49 rfl hl (by decide) rfl (fun ls hl => ?_)
        exact J50 FU x1 x2_13 0 w _ _ _ hf C (lv_sub hl [2, 3, 1, 0] rfl)
  have J14 : ∀ (y1 : Int32) (w : St) (H : Heap) (locs : List Loc) (ls : Array Slot), fX5_findGroups_14 y1 w = some ((), u') → CX (wM ad ck) ck D tt (va_A (wM ad ck u) sz) s w H locs → lv_has ls 4 [(0, .ref (ad 0))] → W p l e (headSpec wsX5_findGroups rmX5_findGroups).room s m ([.ref (ad 0)] : List Value).toArray below meth c H locs 0 0 (MQ below (QV (wM ad ck) D u sz u') ([.ref (ad 0)] : List Value).toArray s 0 0 (va_A (wM ad ck u) sz)) (F0 m 14 ls [.int y1, .ref (ad 0)]) := by
    intro y1 w H locs ls hf C hl
    unfold fX5_findGroups_14 at hf
    refine cx_puti C hx hb (T := TX5) (N := 28) hts (by decide +kernel) tyX5 tyX5_ok nmX5 hown 0 rfl rfl 14 (by decide) (hts (.fieldLink RX5 127 "AggregateRowsModel" "groups" "I") (by decide +kernel)) (fun _ h9 => h9) rfl (by decide +kernel) (Nat.le_of_ble_eq_true rfl) (u1 := sS w 6 y1) rfl dX5_findGroups_14 (fun u_1 H locs eu_1 C => ?_)
    replace hf := lt_at hf eu_1
    refine lv_aload_n hx hb dX5_findGroups_17 rfl (lv_at hl 0 rfl) ?_
    refine cx_get C hx hb (T := TX5) (N := 28) hts (by decide +kernel) hown 0 rfl rfl 15 (by decide) (hts (.fieldLink RX5 35 "AggregateRowsModel" "groupKey" "[I") (by decide +kernel)) (fun _ h9 => h9) (v := .ref (ad 9)) rfl dX5_findGroups_18 ?_
    refine lv_iconst (v := 0) hx hb dX5_findGroups_21 (by decide) ?_
    refine lv_iconst (v := (-1)) hx hb dX5_findGroups_22 (by decide) ?_
    obtain ⟨g_2, hf⟩ := gd_some hf
    refine cx_iast C hx hb 9 rfl g_2 (u1 := sI u_1 8 (0 : Int32).toNatClampNeg (-1)) rfl dX5_findGroups_23 (fun u_3 H locs eu_3 C => ?_)
    replace hf := lt_at hf eu_3
    refine lv_aload_n hx hb dX5_findGroups_24 rfl (lv_at hl 0 rfl) ?_
    refine cx_get C hx hb (T := TX5) (N := 28) hts (by decide +kernel) hown 0 rfl rfl 16 (by decide) (hts (.fieldLink RX5 38 "AggregateRowsModel" "groupRows" "[I") (by decide +kernel)) (fun _ h9 => h9) (v := .ref (ad 10)) rfl dX5_findGroups_25 ?_
    refine lv_iconst (v := 0) hx hb dX5_findGroups_28 (by decide) ?_
    refine lv_iconst (v := 0) hx hb dX5_findGroups_29 (by decide) ?_
    obtain ⟨g_4, hf⟩ := gd_some hf
    refine cx_iast C hx hb 10 rfl g_4 (u1 := sI u_3 9 (0 : Int32).toNatClampNeg 0) rfl dX5_findGroups_30 (fun u_5 H locs eu_5 C => ?_)
    replace hf := lt_at hf eu_5
    refine lv_iconst (v := 0) hx hb dX5_findGroups_31 (by decide) ?_
    refine lv_istore_n (lv' := [(1, .int 0), (0, .ref (ad 0))]) hx hb dX5_findGroups_32 rfl hl (by decide) rfl (fun ls hl => ?_)
    exact J33 FU 0 u_5 _ _ _ hf C (lv_sub hl [1, 0] rfl)
  have hl := lv_entry ([.ref (ad 0)]) (n := 4) (Nat.le_of_ble_eq_true rfl)
  rw [lg_entry_eq]
  generalize (lg_sl ([.ref (ad 0)]) ++ List.replicate (4 - (lg_sl ([.ref (ad 0)])).length) Slot.unset).toArray = ls at hl ⊢
  have hl : lv_has ls 4 [(0, .ref (ad 0))] := hl
  unfold fX5_findGroups at hf
  refine lv_aload_n hx hb dX5_findGroups_0 rfl (lv_at hl 0 rfl) ?_
  refine lv_aload_n hx hb dX5_findGroups_1 rfl (lv_at hl 0 rfl) ?_
  refine cx_get C hx hb (T := TX5) (N := 28) hts (by decide +kernel) hown 0 rfl rfl 11 (by decide) (hts (.fieldLink RX5 110 "AggregateRowsModel" "by" "I") (by decide +kernel)) (fun _ h9 => h9) (v := .int (u.1 3)) rfl dX5_findGroups_2 ?_
  refine lv_iconst (v := 2) hx hb dX5_findGroups_5 (by decide) ?_
  refine lv_icmp_ne (tgt := 13) hx hb dX5_findGroups_6 (by decide) (fun c_1 => ?_) (fun c_1 => ?_)
  · replace hf := (if_neg c_1).symm.trans hf
    refine lv_iconst (v := 0) hx hb dX5_findGroups_13 (by decide) ?_
    exact J14 0 u _ _ _ hf C (lv_sub hl [0] rfl)
  · replace hf := (if_pos c_1).symm.trans hf
    refine lv_iconst (v := 1) hx hb dX5_findGroups_9 (by decide) ?_
    refine lv_goto (tgt := 14) hx hb dX5_findGroups_10 (by decide) ?_
    exact J14 1 u _ _ _ hf C (lv_sub hl [0] rfl)
