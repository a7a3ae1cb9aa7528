/-! ===== J13_compare_74951 ===== -/
def fJ13_compare_74951 (u : St) (a0 : Int64) (a2 : Int64) : Option (Int32 × St) := (if a2 ≤ a0 then (if a0 = a2 then some (0, u) else some (1, u)) else some ((-1), u))
abbrev rmJ13_compare_74951 : Room := { frames := 0, cells := 0, slots := 0, locals := 0 }
set_option maxHeartbeats 4000000 in
set_option maxRecDepth 100000 in
theorem k_J13_compare_74951 (l : Launch) (ad : Nat → Nat) (ck : Nat → ClassId) (D : va_G) (tt : Nat) {u : St} {a0 : Int64} {a2 : Int64} {r : Int32} {u' : St} (hf : fJ13_compare_74951 u a0 a2 = some (r, u')) : MI l yJ13_compare_74951 wsJ13_compare_74951 rmJ13_compare_74951 (wA ad ck) ck D tt [.long a0, .long a2] u r u' := by
  intro sz
  refine Met.ofW (cc := cJ13_compare_74951) (maxL := 4) (ret := (some .int)) (by decide) rfl ?_
  intro p e s m args below meth c s₁ B hml hv
  obtain ⟨rfl, hsz, C⟩ := cx_entry hv
  have hx := B.exec
  have hb := B.bytes
  have hr := B.returns
  have hts := atoms_spec (ws := wsJ13_compare_74951) B.pre
  have hown : s.vm.findClass RJ13 = some m.cls := findClass_of_methodNamed B.named
  have hlocks := B.notSynchronized
  have hl := lv_entry ([.long a0, .long a2]) (n := 4) (Nat.le_of_ble_eq_true rfl)
  rw [lg_entry_eq]
  generalize (lg_sl ([.long a0, .long a2]) ++ List.replicate (4 - (lg_sl ([.long a0, .long a2])).length) Slot.unset).toArray = ls at hl ⊢
  have hl : lv_has ls 4 [(0, .long a0), (2, .long a2)] := hl
  unfold fJ13_compare_74951 at hf
  refine lv_lload_n hx hb dJ13_compare_74951_0 rfl (lv_at hl 0 rfl) ?_
  refine lv_lload_n hx hb dJ13_compare_74951_1 rfl (lv_at hl 1 rfl) ?_
  refine W.lcmp hx hb dJ13_compare_74951_2 ?_
  refine lv_if_ge (tgt := 10) hx hb dJ13_compare_74951_3 (by decide) (fun c_1 => ?_) (fun c_1 => ?_)
  · replace hf := (if_pos ((lg_cmp_ge _ _).mp c_1)).symm.trans hf
    refine lv_lload_n hx hb dJ13_compare_74951_10 rfl (lv_at hl 0 rfl) ?_
    refine lv_lload_n hx hb dJ13_compare_74951_11 rfl (lv_at hl 1 rfl) ?_
    refine W.lcmp hx hb dJ13_compare_74951_12 ?_
    refine lv_if_ne (tgt := 20) hx hb dJ13_compare_74951_13 (by decide) (fun c_2 => ?_) (fun c_2 => ?_)
    · replace hf := (if_neg (fun q => c_2 ((lg_cmp_eq _ _).mpr q))).symm.trans hf
      refine lv_iconst (v := 1) hx hb dJ13_compare_74951_20 (by decide) ?_
      exact cx_iret C hx hb hr hlocks hf dJ13_compare_74951_21
    · replace hf := (if_pos ((lg_cmp_eq _ _).mp c_2)).symm.trans hf
      refine lv_iconst (v := 0) hx hb dJ13_compare_74951_16 (by decide) ?_
      refine lv_goto (tgt := 21) hx hb dJ13_compare_74951_17 (by decide) ?_
      exact cx_iret C hx hb hr hlocks hf dJ13_compare_74951_21
  · replace hf := (if_neg (fun q => c_1 ((lg_cmp_ge _ _).mpr q))).symm.trans hf
    refine lv_iconst (v := (-1)) hx hb dJ13_compare_74951_6 (by decide) ?_
    refine lv_goto (tgt := 21) hx hb dJ13_compare_74951_7 (by decide) ?_
    exact cx_iret C hx hb hr hlocks hf dJ13_compare_74951_21
/-! ===== X2_aligned ===== -/
def fX2_aligned_10  : Nat → Int64 → Int64 → Int32 → Int32 → St → Option (Int64 × St)
  | 0, _, _, _, _, _ => none
  | n10 + 1, x0, x2, x4, x5, w => (if x5 < 0 then some (x2, w) else lt_ ((lushr_ x0 x5) &&& 255) (fun x6_2 => (if x6_2 = 0 then lt_ (x5 + (-8)) (fun x5_4 => fX2_aligned_10 n10 x0 x2 x4 x5_4 w) else (if x6_2 < 97 then some (0, w) else (if x6_2 ≤ 122 then lt_ (x2 ||| (lshl_ x6_2 x4)) (fun x2_7 => lt_ (x4 + (-8)) (fun x4_8 => lt_ (x5 + (-8)) (fun x5_9 => fX2_aligned_10 n10 x0 x2_7 x4_8 x5_9 w))) else some (0, w))))))
def fX2_aligned (u : St) (a0 : Int64) : Option (Int64 × St) := fX2_aligned_10 FU a0 0 56 56 u
abbrev rmX2_aligned : Room := { frames := 0, cells := 0, slots := 0, locals := 0 }
set_option maxHeartbeats 4000000 in
set_option maxRecDepth 100000 in
theorem k_X2_aligned (l : Launch) (ad : Nat → Nat) (ck : Nat → ClassId) (D : va_G) (tt : Nat) {u : St} {a0 : Int64} {r : Int64} {u' : St} (hf : fX2_aligned u a0 = some (r, u')) : ML l yX2_aligned wsX2_aligned rmX2_aligned (wA ad ck) ck D tt [.long a0] u r u' := by
  intro sz
  refine Met.ofW (cc := cX2_aligned) (maxL := 8) (ret := (some .long)) (by decide) rfl ?_
  intro p e s m args below meth c s₁ B hml hv
  obtain ⟨rfl, hsz, C⟩ := cx_entry hv
  have hx := B.exec
  have hb := B.bytes
  have hr := B.returns
  have hts := atoms_spec (ws := wsX2_aligned) B.pre
  have hown : s.vm.findClass RX2 = some m.cls := findClass_of_methodNamed B.named
  have hlocks := B.notSynchronized
  have J10 : ∀ (n10 : Nat) (x0 : Int64) (x2 : Int64) (x4 : Int32) (x5 : Int32) (w : St) (H : Heap) (locs : List Loc) (ls : Array Slot), fX2_aligned_10 n10 x0 x2 x4 x5 w = some (r, u') → CX (wA ad ck) ck D tt (va_A (wA ad ck u) sz) s w H locs → lv_has ls 8 [(0, .long x0), (2, .long x2), (4, .int x4), (5, .int x5)] → W p l e (headSpec wsX2_aligned rmX2_aligned).room s m ([.long a0] : List Value).toArray below meth c H locs 0 0 (MQ below (QL (wA ad ck) D u sz r u') ([.long a0] : List Value).toArray s 0 0 (va_A (wA ad ck u) sz)) (F0 m 10 ls []) := by
    intro n10
    induction n10 with
    | zero =>
      intro x0 x2 x4 x5 w H locs ls hf
      have hf : (none : Option (Int64 × St)) = some (r, u') := hf
      cases hf
    | succ n10 ih10 =>
      intro x0 x2 x4 x5 w H locs ls hf C hl
      rw [fX2_aligned_10] at hf
      refine lv_iload hx hb dX2_aligned_10 (lv_at hl 3 rfl) ?_
      refine lv_if_lt (tgt := 69) hx hb dX2_aligned_12 (by decide) (fun c_1 => ?_) (fun c_1 => ?_)
      · replace hf := (if_pos c_1).symm.trans hf
        refine lv_lload_n hx hb dX2_aligned_69 rfl (lv_at hl 1 rfl) ?_
        exact cx_lret C hx hb hr hlocks hf dX2_aligned_70
      · replace hf := (if_neg c_1).symm.trans hf
        refine lv_lload_n hx hb dX2_aligned_15 rfl (lv_at hl 0 rfl) ?_
        refine lv_iload hx hb dX2_aligned_16 (lv_at hl 3 rfl) ?_
        refine lv_lushr (v := (lushr_ x0 x5)) hx hb dX2_aligned_18 rfl ?_
        refine lv_ldc2 (v := 255) hx hb hown (hts (.constantLong RX2 26 (255)) (by decide +kernel)) dX2_aligned_19 ?_
        refine lv_land hx hb dX2_aligned_22 ?_
        refine lv_topl (fun x6_2 ex6_2 => ?_)
        replace hf := lt_at hf ex6_2
        refine lv_lstore (lv' := [(6, .long x6_2), (0, .long x0), (2, .long x2), (4, .int x4), (5, .int x5)]) hx hb dX2_aligned_23 hl (by decide) rfl (fun ls hl => ?_)
        refine lv_lload hx hb dX2_aligned_25 (lv_at hl 0 rfl) ?_
        refine lv_lconst (v := 0) hx hb dX2_aligned_27 (by decide) ?_
        refine W.lcmp hx hb dX2_aligned_28 ?_
        refine lv_if_eq (tgt := 63) hx hb dX2_aligned_29 (by decide) (fun c_3 => ?_) (fun c_3 => ?_)
        · replace hf := (if_pos ((lg_cmp_eq _ _).mp c_3)).symm.trans hf
          obtain ⟨x5_4, ex5_4⟩ : ∃ y : Int32, y = x5 + (-8) := ⟨_, rfl⟩
          replace hf := lt_at hf ex5_4
          refine lv_iinc (v := x5_4) (lv' := [(5, .int x5_4), (6, .long x6_2), (0, .long x0), (2, .long x2), (4, .int x4)]) hx hb dX2_aligned_63 hl (k := 4) rfl (by rw [ex5_4]; rfl) (by decide) rfl (fun ls hl => ?_)
          refine lv_goto (tgt := 10) hx hb dX2_aligned_66 (by decide) ?_
          exact ih10 x0 x2 x4 x5_4 w _ _ _ hf C (lv_sub hl [2, 3, 4, 0] rfl)
        · replace hf := (if_neg (fun q => c_3 ((lg_cmp_eq _ _).mpr q))).symm.trans hf
          refine lv_lload hx hb dX2_aligned_32 (lv_at hl 0 rfl) ?_
          refine lv_ldc2 (v := 97) hx hb hown (hts (.constantLong RX2 28 (97)) (by decide +kernel)) dX2_aligned_34 ?_
          refine W.lcmp hx hb dX2_aligned_37 ?_
          refine lv_if_lt (tgt := 50) hx hb dX2_aligned_38 (by decide) (fun c_5 => ?_) (fun c_5 => ?_)
          · replace hf := (if_pos ((lg_cmp_lt _ _).mp c_5)).symm.trans hf
            refine lv_lconst (v := 0) hx hb dX2_aligned_50 (by decide) ?_
            exact cx_lret C hx hb hr hlocks hf dX2_aligned_51
          · replace hf := (if_neg (fun q => c_5 ((lg_cmp_lt _ _).mpr q))).symm.trans hf
            refine lv_lload hx hb dX2_aligned_41 (lv_at hl 0 rfl) ?_
            refine lv_ldc2 (v := 122) hx hb hown (hts (.constantLong RX2 30 (122)) (by decide +kernel)) dX2_aligned_43 ?_
            refine W.lcmp hx hb dX2_aligned_46 ?_
            refine lv_if_le (tgt := 52) hx hb dX2_aligned_47 (by decide) (fun c_6 => ?_) (fun c_6 => ?_)
            · replace hf := (if_pos ((lg_cmp_le _ _).mp c_6)).symm.trans hf
              refine lv_lload_n hx hb dX2_aligned_52 rfl (lv_at hl 2 rfl) ?_
              refine lv_lload hx hb dX2_aligned_53 (lv_at hl 0 rfl) ?_
              refine lv_iload hx hb dX2_aligned_55 (lv_at hl 3 rfl) ?_
              refine lv_lshl (v := (lshl_ x6_2 x4)) hx hb dX2_aligned_57 rfl ?_
              refine lv_lor hx hb dX2_aligned_58 ?_
              refine lv_topl (fun x2_7 ex2_7 => ?_)
              replace hf := lt_at hf ex2_7
              refine lv_lstore_n (lv' := [(2, .long x2_7), (6, .long x6_2), (0, .long x0), (4, .int x4), (5, .int x5)]) hx hb dX2_aligned_59 rfl hl (by decide) rfl (fun ls hl => ?_)
              obtain ⟨x4_8, ex4_8⟩ : ∃ y : Int32, y = x4 + (-8) := ⟨_, rfl⟩
              replace hf := lt_at hf ex4_8
              refine lv_iinc (v := x4_8) (lv' := [(4, .int x4_8), (2, .long x2_7), (6, .long x6_2), (0, .long x0), (5, .int x5)]) hx hb dX2_aligned_60 hl (k := 3) rfl (by rw [ex4_8]; rfl) (by decide) rfl (fun ls hl => ?_)
              obtain ⟨x5_9, ex5_9⟩ : ∃ y : Int32, y = x5 + (-8) := ⟨_, rfl⟩
              replace hf := lt_at hf ex5_9
              refine lv_iinc (v := x5_9) (lv' := [(5, .int x5_9), (4, .int x4_8), (2, .long x2_7), (6, .long x6_2), (0, .long x0)]) hx hb dX2_aligned_63 hl (k := 4) rfl (by rw [ex5_9]; rfl) (by decide) rfl (fun ls hl => ?_)
              refine lv_goto (tgt := 10) hx hb dX2_aligned_66 (by decide) ?_
              exact ih10 x0 x2_7 x4_8 x5_9 w _ _ _ hf C (lv_sub hl [4, 2, 1, 0] rfl)
            · replace hf := (if_neg (fun q => c_6 ((lg_cmp_le _ _).mpr q))).symm.trans hf
              refine lv_lconst (v := 0) hx hb dX2_aligned_50 (by decide) ?_
              exact cx_lret C hx hb hr hlocks hf dX2_aligned_51
  have hl := lv_entry ([.long a0]) (n := 8) (Nat.le_of_ble_eq_true rfl)
  rw [lg_entry_eq]
  generalize (lg_sl ([.long a0]) ++ List.replicate (8 - (lg_sl ([.long a0])).length) Slot.unset).toArray = ls at hl ⊢
  have hl : lv_has ls 8 [(0, .long a0)] := hl
  unfold fX2_aligned at hf
  refine lv_lconst (v := 0) hx hb dX2_aligned_0 (by decide) ?_
  refine lv_lstore_n (lv' := [(2, .long 0), (0, .long a0)]) hx hb dX2_aligned_1 rfl hl (by decide) rfl (fun ls hl => ?_)
  refine lv_bipush (v := 56) hx hb dX2_aligned_2 (by decide) ?_
  refine lv_istore (lv' := [(4, .int 56), (2, .long 0), (0, .long a0)]) hx hb dX2_aligned_4 hl (by decide) rfl (fun ls hl => ?_)
  refine lv_bipush (v := 56) hx hb dX2_aligned_6 (by decide) ?_
  refine lv_istore (lv' := [(5, .int 56), (4, .int 56), (2, .long 0), (0, .long a0)]) hx hb dX2_aligned_8 hl (by decide) rfl (fun ls hl => ?_)
  exact J10 FU a0 0 56 56 u _ _ _ hf C (lv_sub hl [3, 2, 1, 0] rfl)
/-! ===== X2_thousandths ===== -/
def fX2_thousandths (u : St) (a1 : Int32) : Option (Int64 × St) := gd (okI a1 60) (gd (okI a1 60) (gd (okI (3 - (u.2.1 1 a1.toNatClampNeg)) 7) (some ((((u.2.1 0 a1.toNatClampNeg).toInt64) * ((tens (3 - (u.2.1 1 a1.toNatClampNeg)).toNatClampNeg).toInt64)), u))))
abbrev rmX2_thousandths : Room := { frames := 0, cells := 0, slots := 0, locals := 0 }
set_option maxHeartbeats 4000000 in
set_option maxRecDepth 100000 in
theorem k_X2_thousandths (l : Launch) (ad : Nat → Nat) (ck : Nat → ClassId) (D : va_G) (tt : Nat) {u : St} {a1 : Int32} {r : Int64} {u' : St} (hf : fX2_thousandths u a1 = some (r, u')) : ML l yX2_thousandths wsX2_thousandths rmX2_thousandths (wA ad ck) ck D tt [.ref (ad 1), .int a1] u r u' := by
  intro sz
  refine Met.ofW (cc := cX2_thousandths) (maxL := 2) (ret := (some .long)) (by decide) rfl ?_
  intro p e s m args below meth c s₁ B hml hv
  obtain ⟨rfl, hsz, C⟩ := cx_entry hv
  have hx := B.exec
  have hb := B.bytes
  have hr := B.returns
  have hts := atoms_spec (ws := wsX2_thousandths) B.pre
  have hown : s.vm.findClass RX2 = some m.cls := findClass_of_methodNamed B.named
  have hlocks := B.notSynchronized
  have hl := lv_entry ([.ref (ad 1), .int a1]) (n := 2) (Nat.le_of_ble_eq_true rfl)
  rw [lg_entry_eq]
  generalize (lg_sl ([.ref (ad 1), .int a1]) ++ List.replicate (2 - (lg_sl ([.ref (ad 1), .int a1])).length) Slot.unset).toArray = ls at hl ⊢
  have hl : lv_has ls 2 [(0, .ref (ad 1)), (1, .int a1)] := hl
  unfold fX2_thousandths at hf
  refine lv_aload_n hx hb dX2_thousandths_0 rfl (lv_at hl 0 rfl) ?_
  refine cx_get C hx hb (T := TX2) (N := 4) hts (by decide +kernel) hown 1 rfl rfl 1 (by decide) (hts (.fieldLink RX2 15 "AggregateRows$Terms" "units" "[I") (by decide +kernel)) (fun _ h9 => h9) (v := .ref (ad 3)) rfl dX2_thousandths_1 ?_
  refine lv_iload_n hx hb dX2_thousandths_4 rfl (lv_at hl 1 rfl) ?_
  obtain ⟨g_1, hf⟩ := gd_some hf
  refine cx_iald C hx hb 3 rfl g_1 dX2_thousandths_5 ?_
  refine lv_i2l hx hb dX2_thousandths_6 rfl ?_
  refine cx_tens C hx hb hown (hts (.fieldLink RX2 32 "AggregateRows$Terms" "TENS" "[I") (by decide +kernel)) dX2_thousandths_7 ?_
  refine lv_iconst (v := 3) hx hb dX2_thousandths_10 (by decide) ?_
  refine lv_aload_n hx hb dX2_thousandths_11 rfl (lv_at hl 0 rfl) ?_
  refine cx_get C hx hb (T := TX2) (N := 4) hts (by decide +kernel) hown 1 rfl rfl 2 (by decide) (hts (.fieldLink RX2 19 "AggregateRows$Terms" "scales" "[I") (by decide +kernel)) (fun _ h9 => h9) (v := .ref (ad 4)) rfl dX2_thousandths_12 ?_
  refine lv_iload_n hx hb dX2_thousandths_15 rfl (lv_at hl 1 rfl) ?_
  obtain ⟨g_2, hf⟩ := gd_some hf
  refine cx_iald C hx hb 4 rfl g_2 dX2_thousandths_16 ?_
  refine lv_isub hx hb dX2_thousandths_17 ?_
  obtain ⟨g_3, hf⟩ := gd_some hf
  refine cx_tald C hx hb g_3 dX2_thousandths_18 ?_
  refine lv_i2l hx hb dX2_thousandths_19 rfl ?_
  refine lv_lmul hx hb dX2_thousandths_20 ?_
  exact cx_lret C hx hb hr hlocks hf dX2_thousandths_21
/-! ===== X2_order ===== -/
def fX2_order (u : St) (a1 : Int32) (a2 : Int32) : Option (Int32 × St) := gd (okI a1 60) (gd (okI a2 60) ((if (u.2.2 0 a1.toNatClampNeg) = (u.2.2 0 a2.toNatClampNeg) then bnd (fX2_thousandths u a1) (fun r_5 u_6 => bnd (fX2_thousandths u_6 a2) (fun r_8 u_9 => bnd (fJ13_compare_74951 u_9 r_5 r_8) (fun r_11 u_12 => some (r_11, u_12)))) else gd (okI a1 60) (gd (okI a2 60) ((if (u.2.2 0 a2.toNatClampNeg) ≤ (u.2.2 0 a1.toNatClampNeg) then some (1, u) else some ((-1), u)))))))
abbrev rmX2_order : Room := { frames := 1, cells := 0, slots := 0, locals := 23 }
set_option maxHeartbeats 4000000 in
set_option maxRecDepth 100000 in
theorem k_X2_order (l : Launch) (ad : Nat → Nat) (ck : Nat → ClassId) (D : va_G) (tt : Nat) {u : St} {a1 : Int32} {a2 : Int32} {r : Int32} {u' : St} (hf : fX2_order u a1 a2 = some (r, u')) : MI l yX2_order wsX2_order rmX2_order (wA ad ck) ck D tt [.ref (ad 1), .int a1, .int a2] u r u' := by
  intro sz
  refine Met.ofW (cc := cX2_order) (maxL := 3) (ret := (some .int)) (by decide) rfl ?_
  intro p e s m args below meth c s₁ B hml hv
  obtain ⟨rfl, hsz, C⟩ := cx_entry hv
  have hx := B.exec
  have hb := B.bytes
  have hr := B.returns
  have hts := atoms_spec (ws := wsX2_order) B.pre
  have hown : s.vm.findClass RX2 = some m.cls := findClass_of_methodNamed B.named
  have hlocks := B.notSynchronized
  have hl := lv_entry ([.ref (ad 1), .int a1, .int a2]) (n := 3) (Nat.le_of_ble_eq_true rfl)
  rw [lg_entry_eq]
  generalize (lg_sl ([.ref (ad 1), .int a1, .int a2]) ++ List.replicate (3 - (lg_sl ([.ref (ad 1), .int a1, .int a2])).length) Slot.unset).toArray = ls at hl ⊢
  have hl : lv_has ls 3 [(0, .ref (ad 1)), (1, .int a1), (2, .int a2)] := hl
  unfold fX2_order at hf
  refine lv_aload_n hx hb dX2_order_0 rfl (lv_at hl 0 rfl) ?_
  refine cx_get C hx hb (T := TX2) (N := 4) hts (by decide +kernel) hown 1 rfl rfl 0 (by decide) (hts (.fieldLink RX2 9 "AggregateRows$Terms" "letters" "[J") (by decide +kernel)) (fun _ h9 => h9) (v := .ref (ad 2)) rfl dX2_order_1 ?_
  refine lv_iload_n hx hb dX2_order_4 rfl (lv_at hl 1 rfl) ?_
  obtain ⟨g_1, hf⟩ := gd_some hf
  refine cx_lald C hx hb 2 rfl g_1 dX2_order_5 ?_
  refine lv_aload_n hx hb dX2_order_6 rfl (lv_at hl 0 rfl) ?_
  refine cx_get C hx hb (T := TX2) (N := 4) hts (by decide +kernel) hown 1 rfl rfl 0 (by decide) (hts (.fieldLink RX2 9 "AggregateRows$Terms" "letters" "[J") (by decide +kernel)) (fun _ h9 => h9) (v := .ref (ad 2)) rfl dX2_order_7 ?_
  refine lv_iload_n hx hb dX2_order_10 rfl (lv_at hl 2 rfl) ?_
  obtain ⟨g_2, hf⟩ := gd_some hf
  refine cx_lald C hx hb 2 rfl g_2 dX2_order_11 ?_
  refine W.lcmp hx hb dX2_order_12 ?_
  refine lv_if_eq (tgt := 38) hx hb dX2_order_13 (by decide) (fun c_3 => ?_) (fun c_3 => ?_)
  · replace hf := (if_pos ((lg_cmp_eq _ _).mp c_3)).symm.trans hf
    refine lv_aload_n hx hb dX2_order_38 rfl (lv_at hl 0 rfl) ?_
    refine lv_iload_n hx hb dX2_order_39 rfl (lv_at hl 1 rfl) ?_
    obtain ⟨r_5, u_6, h_4, hf⟩ := bnd_some hf
    refine cx_calll C (va_runV (As := [.int a1]) (rest := []) ⟨hx, hb, hml, hown, hts⟩ (k_X2_thousandths l ad ck D tt h_4 _) (cwV 1 hts gX2_order_X2_thousandths rfl rfl rfl (by decide +kernel) ⟨Nat.le_of_ble_eq_true rfl, Nat.le_of_ble_eq_true rfl⟩) (cx_preV C (q0 := 1) (ci := 2) rfl rfl) rfl rfl hl.1 rfl (lv_room (Nat.le_of_ble_eq_true rfl)) dX2_order_40 ⟨Nat.zero_le _, Nat.zero_le _⟩) (fun H locs C => ?_)
    refine lv_aload_n hx hb dX2_order_43 rfl (lv_at hl 0 rfl) ?_
    refine lv_iload_n hx hb dX2_order_44 rfl (lv_at hl 2 rfl) ?_
    obtain ⟨r_8, u_9, h_7, hf⟩ := bnd_some hf
    refine cx_calll C (va_runV (As := [.int a2]) (rest := [.long r_5]) ⟨hx, hb, hml, hown, hts⟩ (k_X2_thousandths l ad ck D tt h_7 _) (cwV 1 hts gX2_order_X2_thousandths rfl rfl rfl (by decide +kernel) ⟨Nat.le_of_ble_eq_true rfl, Nat.le_of_ble_eq_true rfl⟩) (cx_preV C (q0 := 1) (ci := 2) rfl rfl) rfl rfl hl.1 rfl (lv_room (Nat.le_of_ble_eq_true rfl)) dX2_order_45 ⟨Nat.zero_le _, Nat.zero_le _⟩) (fun H locs C => ?_)
    obtain ⟨r_11, u_12, h_10, hf⟩ := bnd_some hf
    refine cx_calli C (va_runS (As := [.long r_5, .long r_8]) (rest := []) ⟨hx, hb, hml, hown, hts⟩ (k_J13_compare_74951 l ad ck D tt h_10 _) (va_cwS 2 hts gX2_order_J13_compare_74951 rfl rfl rfl (by decide +kernel) ⟨Nat.le_of_ble_eq_true rfl, Nat.le_of_ble_eq_true rfl⟩) (cx_preS C) rfl rfl hl.1 rfl (lv_room (Nat.le_of_ble_eq_true rfl)) dX2_order_48 ⟨Nat.zero_le _, Nat.zero_le _⟩) (fun H locs C => ?_)
    exact cx_iret C hx hb hr hlocks hf dX2_order_51
  · replace hf := (if_neg (fun q => c_3 ((lg_cmp_eq _ _).mpr q))).symm.trans hf
    refine lv_aload_n hx hb dX2_order_16 rfl (lv_at hl 0 rfl) ?_
    refine cx_get C hx hb (T := TX2) (N := 4) hts (by decide +kernel) hown 1 rfl rfl 0 (by decide) (hts (.fieldLink RX2 9 "AggregateRows$Terms" "letters" "[J") (by decide +kernel)) (fun _ h9 => h9) (v := .ref (ad 2)) rfl dX2_order_17 ?_
    refine lv_iload_n hx hb dX2_order_20 rfl (lv_at hl 1 rfl) ?_
    obtain ⟨g_13, hf⟩ := gd_some hf
    refine cx_lald C hx hb 2 rfl g_13 dX2_order_21 ?_
    refine lv_aload_n hx hb dX2_order_22 rfl (lv_at hl 0 rfl) ?_
    refine cx_get C hx hb (T := TX2) (N := 4) hts (by decide +kernel) hown 1 rfl rfl 0 (by decide) (hts (.fieldLink RX2 9 "AggregateRows$Terms" "letters" "[J") (by decide +kernel)) (fun _ h9 => h9) (v := .ref (ad 2)) rfl dX2_order_23 ?_
    refine lv_iload_n hx hb dX2_order_26 rfl (lv_at hl 2 rfl) ?_
    obtain ⟨g_14, hf⟩ := gd_some hf
    refine cx_lald C hx hb 2 rfl g_14 dX2_order_27 ?_
    refine W.lcmp hx hb dX2_order_28 ?_
    refine lv_if_ge (tgt := 36) hx hb dX2_order_29 (by decide) (fun c_15 => ?_) (fun c_15 => ?_)
    · replace hf := (if_pos ((lg_cmp_ge _ _).mp c_15)).symm.trans hf
      refine lv_iconst (v := 1) hx hb dX2_order_36 (by decide) ?_
      exact cx_iret C hx hb hr hlocks hf dX2_order_37
    · replace hf := (if_neg (fun q => c_15 ((lg_cmp_ge _ _).mpr q))).symm.trans hf
      refine lv_iconst (v := (-1)) hx hb dX2_order_32 (by decide) ?_
      refine lv_goto (tgt := 37) hx hb dX2_order_33 (by decide) ?_
      exact cx_iret C hx hb hr hlocks hf dX2_order_37
