/-! ===== X5_gather ===== -/
def fX5_gather_100 (k7 : Int32 → Int32 → Int32 → St → Option (Unit × St)) (x1 : Int32) (x2 : Int32) (x3 : Int32) (x4 : Int32) (x5 : Int32) (w : St) : Option (Unit × St) := (if x5 = 0 then gd (okI (w.1 7) 60) (lt_ (sI w 17 (w.1 7).toNatClampNeg x4) (fun u_4 => lt_ (sS u_4 7 ((u_4.1 7) + 1)) (fun u_5 => lt_ (x3 + 1) (fun x3_6 => k7 x1 x2 x3_6 u_5)))) else lt_ (x3 + 1) (fun x3_2 => k7 x1 x2 x3_2 w))
def fX5_gather_87 (k7 : Int32 → Int32 → Int32 → St → Option (Unit × St)) (k53 : Int32 → Int32 → Int32 → Int32 → Int32 → Int32 → St → Option (Unit × St)) (x1 : Int32) (x2 : Int32) (x3 : Int32) (x4 : Int32) (x6 : Int32) (w : St) : Option (Unit × St) := lt_ (x6 + 1) (fun x6_1 => k53 x1 x2 x3 x4 1 x6_1 w)
def fX5_gather_53 (k7 : Int32 → Int32 → Int32 → St → Option (Unit × St)) : Nat → Int32 → Int32 → Int32 → Int32 → Int32 → Int32 → St → Option (Unit × St)
  | 0, _, _, _, _, _, _, _ => none
  | n53 + 1, x1, x2, x3, x4, x5, x6, w => (if (w.1 7) ≤ x6 then fX5_gather_100 (k7) x1 x2 x3 x4 x5 w else (if x2 = 0 then fX5_gather_100 (k7) x1 x2 x3 x4 x5 w else (if x5 = 0 then gd (okI x6 60) (bnd (fX5_compare w (w.2.1 17 x6.toNatClampNeg) x4) (fun r_6 u_7 => (if r_6 = 0 then fX5_gather_87 (k7) (fX5_gather_53 k7 n53) x1 x2 x3 x4 x6 u_7 else lt_ (x6 + 1) (fun x6_9 => fX5_gather_53 k7 n53 x1 x2 x3 x4 0 x6_9 u_7)))) else fX5_gather_87 (k7) (fX5_gather_53 k7 n53) x1 x2 x3 x4 x6 w)))
def fX5_gather_7  : Nat → Int32 → Int32 → Int32 → St → Option (Unit × St)
  | 0, _, _, _, _ => none
  | n7 + 1, x1, x2, x3, w => (if (w.1 2) ≤ x3 then some ((), w) else gd (okI x3 60) (gd (okI (w.2.1 15 x3.toNatClampNeg) 60) (lt_ (w.2.1 7 (w.2.1 15 x3.toNatClampNeg).toNatClampNeg) (fun x4_4 => gd (okI x3 60) ((if (w.2.1 16 x3.toNatClampNeg) = x1 then (if x4_4 = (-1) then lt_ (x3 + 1) (fun x3_9 => fX5_gather_7 n7 x1 x2 x3_9 w) else fX5_gather_53 (fX5_gather_7 n7) FU x1 x2 x3 x4_4 0 0 w) else lt_ (x3 + 1) (fun x3_7 => fX5_gather_7 n7 x1 x2 x3_7 w)))))))
def fX5_gather (u : St) (a1 : Int32) (a2 : Int32) : Option (Unit × St) := lt_ (sS u 7 0) (fun u_1 => fX5_gather_7 FU a1 a2 0 u_1)
abbrev rmX5_gather : Room := { frames := 2, cells := 0, slots := 0, locals := 50 }
set_option maxHeartbeats 4000000 in
set_option maxRecDepth 100000 in
theorem k_X5_gather (l : Launch) (ad : Nat → Nat) (ck : Nat → ClassId) (D : va_G) (tt : Nat) {u : St} {a1 : Int32} {a2 : Int32} {u' : St} (hf : fX5_gather u a1 a2 = some ((), u')) : MV l yX5_gather wsX5_gather rmX5_gather (wM ad ck) ck D tt [.ref (ad 0), .int a1, .int a2] u u' := by
  intro sz
  refine Met.ofW (cc := cX5_gather) (maxL := 7) (ret := none) (by decide) rfl ?_
  intro p e s m args below meth c s₁ B hml hv
  obtain ⟨rfl, hsz, C⟩ := cx_entry hv
  have hx := B.exec
  have hb := B.bytes
  have hr := B.returns
  have hts := atoms_spec (ws := wsX5_gather) B.pre
  have hown : s.vm.findClass RX5 = some m.cls := findClass_of_methodNamed B.named
  have hlocks := B.notSynchronized
  have J7 : ∀ (n7 : Nat) (x1 : Int32) (x2 : Int32) (x3 : Int32) (w : St) (H : Heap) (locs : List Loc) (ls : Array Slot), fX5_gather_7 n7 x1 x2 x3 w = some ((), u') → CX (wM ad ck) ck D tt (va_A (wM ad ck u) sz) s w H locs → lv_has ls 7 [(0, .ref (ad 0)), (1, .int x1), (2, .int x2), (3, .int x3)] → W p l e (headSpec wsX5_gather rmX5_gather).room s m ([.ref (ad 0), .int a1, .int a2] : List Value).toArray below meth c H locs 0 0 (MQ below (QV (wM ad ck) D u sz u') ([.ref (ad 0), .int a1, .int a2] : List Value).toArray s 0 0 (va_A (wM ad ck u) sz)) (F0 m 7 ls []) := by
    intro n7
    induction n7 with
    | zero =>
      intro x1 x2 x3 w H locs ls hf
      have hf : (none : Option (Unit × St)) = some ((), u') := hf
      cases hf
    | succ n7 ih7 =>
      intro x1 x2 x3 w H locs ls hf C hl
      rw [fX5_gather_7] at hf
      have J100 : ∀ (x1 : Int32) (x2 : Int32) (x3 : Int32) (x4 : Int32) (x5 : Int32) (w : St) (H : Heap) (locs : List Loc) (ls : Array Slot), fX5_gather_100 (fX5_gather_7 n7) x1 x2 x3 x4 x5 w = some ((), u') → CX (wM ad ck) ck D tt (va_A (wM ad ck u) sz) s w H locs → lv_has ls 7 [(0, .ref (ad 0)), (1, .int x1), (2, .int x2), (3, .int x3), (4, .int x4), (5, .int x5)] → W p l e (headSpec wsX5_gather rmX5_gather).room s m ([.ref (ad 0), .int a1, .int a2] : List Value).toArray below meth c H locs 0 0 (MQ below (QV (wM ad ck) D u sz u') ([.ref (ad 0), .int a1, .int a2] : List Value).toArray s 0 0 (va_A (wM ad ck u) sz)) (F0 m 100 ls []) := by
        intro x1 x2 x3 x4 x5 w H locs ls hf C hl
        unfold fX5_gather_100 at hf
        refine lv_iload hx hb dX5_gather_100 (lv_at hl 5 rfl) ?_
        refine lv_if_ne (tgt := 126) hx hb dX5_gather_102 (by decide) (fun c_1 => ?_) (fun c_1 => ?_)
        · replace hf := (if_neg c_1).symm.trans hf
          obtain ⟨x3_2, ex3_2⟩ : ∃ y : Int32, y = x3 + 1 := ⟨_, rfl⟩
          replace hf := lt_at hf ex3_2
          refine lv_iinc (v := x3_2) (lv' := [(3, .int x3_2), (0, .ref (ad 0)), (1, .int x1), (2, .int x2), (4, .int x4), (5, .int x5)]) hx hb dX5_gather_126 hl (k := 3) rfl (by rw [ex3_2]; rfl) (by decide) rfl (fun ls hl => ?_)
          refine lv_goto (tgt := 7) hx hb dX5_gather_129 (by decide) ?_
          exact ih7 x1 x2 x3_2 w _ _ _ hf C (lv_sub hl [1, 2, 3, 0] rfl)
        · replace hf := (if_pos c_1).symm.trans hf
          refine lv_aload_n hx hb dX5_gather_105 rfl (lv_at hl 0 rfl) ?_
          refine cx_get C hx hb (T := TX5) (N := 28) hts (by decide +kernel) hown 0 rfl rfl 27 (by decide) (hts (.fieldLink RX5 69 "AggregateRowsModel" "list" "[I") (by decide +kernel)) (fun _ h9 => h9) (v := .ref (ad 20)) rfl dX5_gather_106 ?_
          refine lv_aload_n hx hb dX5_gather_109 rfl (lv_at hl 0 rfl) ?_
          refine cx_get C hx hb (T := TX5) (N := 28) hts (by decide +kernel) hown 0 rfl rfl 26 (by decide) (hts (.fieldLink RX5 134 "AggregateRowsModel" "many" "I") (by decide +kernel)) (fun _ h9 => h9) (v := .int (w.1 7)) rfl dX5_gather_110 ?_
          refine lv_iload hx hb dX5_gather_113 (lv_at hl 4 rfl) ?_
          obtain ⟨g_3, hf⟩ := gd_some hf
          refine cx_iast C hx hb 20 rfl g_3 (u1 := sI w 17 (w.1 7).toNatClampNeg x4) rfl dX5_gather_115 (fun u_4 H locs eu_4 C => ?_)
          replace hf := lt_at hf eu_4
          refine lv_aload_n hx hb dX5_gather_116 rfl (lv_at hl 0 rfl) ?_
          refine lv_dup hx hb dX5_gather_117 rfl ?_
          refine cx_get C hx hb (T := TX5) (N := 28) hts (by decide +kernel) hown 0 rfl rfl 26 (by decide) (hts (.fieldLink RX5 134 "AggregateRowsModel" "many" "I") (by decide +kernel)) (fun _ h9 => h9) (v := .int (u_4.1 7)) rfl dX5_gather_118 ?_
          refine lv_iconst (v := 1) hx hb dX5_gather_121 (by decide) ?_
          refine lv_iadd hx hb dX5_gather_122 ?_
          refine cx_puti C hx hb (T := TX5) (N := 28) hts (by decide +kernel) tyX5 tyX5_ok nmX5 hown 0 rfl rfl 26 (by decide) (hts (.fieldLink RX5 134 "AggregateRowsModel" "many" "I") (by decide +kernel)) (fun _ h9 => h9) rfl (by decide +kernel) (Nat.le_of_ble_eq_true rfl) (u1 := sS u_4 7 ((u_4.1 7) + 1)) rfl dX5_gather_123 (fun u_5 H locs eu_5 C => ?_)
          replace hf := lt_at hf eu_5
          obtain ⟨x3_6, ex3_6⟩ : ∃ y : Int32, y = x3 + 1 := ⟨_, rfl⟩
          replace hf := lt_at hf ex3_6
          refine lv_iinc (v := x3_6) (lv' := [(3, .int x3_6), (0, .ref (ad 0)), (1, .int x1), (2, .int x2), (4, .int x4), (5, .int x5)]) hx hb dX5_gather_126 hl (k := 3) rfl (by rw [ex3_6]; rfl) (by decide) rfl (fun ls hl => ?_)
          refine lv_goto (tgt := 7) hx hb dX5_gather_129 (by decide) ?_
          exact ih7 x1 x2 x3_6 u_5 _ _ _ hf C (lv_sub hl [1, 2, 3, 0] rfl)
      have J53 : ∀ (n53 : Nat) (x1 : Int32) (x2 : Int32) (x3 : Int32) (x4 : Int32) (x5 : Int32) (x6 : Int32) (w : St) (H : Heap) (locs : List Loc) (ls : Array Slot), fX5_gather_53 (fX5_gather_7 n7) n53 x1 x2 x3 x4 x5 x6 w = some ((), u') → CX (wM ad ck) ck D tt (va_A (wM ad ck u) sz) s w H locs → lv_has ls 7 [(0, .ref (ad 0)), (1, .int x1), (2, .int x2), (3, .int x3), (4, .int x4), (5, .int x5), (6, .int x6)] → W p l e (headSpec wsX5_gather rmX5_gather).room s m ([.ref (ad 0), .int a1, .int a2] : List Value).toArray below meth c H locs 0 0 (MQ below (QV (wM ad ck) D u sz u') ([.ref (ad 0), .int a1, .int a2] : List Value).toArray s 0 0 (va_A (wM ad ck u) sz)) (F0 m 53 ls []) := by
        intro n53
        induction n53 with
        | zero =>
          intro x1 x2 x3 x4 x5 x6 w H locs ls hf
          have hf : (none : Option (Unit × St)) = some ((), u') := hf
          cases hf
        | succ n53 ih53 =>
          intro x1 x2 x3 x4 x5 x6 w H locs ls hf C hl
          rw [fX5_gather_53] at hf
          have J87 : ∀ (x1 : Int32) (x2 : Int32) (x3 : Int32) (x4 : Int32) (x6 : Int32) (w : St) (H : Heap) (locs : List Loc) (ls : Array Slot), fX5_gather_87 (fX5_gather_7 n7) (fX5_gather_53 (fX5_gather_7 n7) n53) x1 x2 x3 x4 x6 w = some ((), u') → CX (wM ad ck) ck D tt (va_A (wM ad ck u) sz) s w H locs → lv_has ls 7 [(0, .ref (ad 0)), (1, .int x1), (2, .int x2), (3, .int x3), (4, .int x4), (6, .int x6)] → W p l e (headSpec wsX5_gather rmX5_gather).room s m ([.ref (ad 0), .int a1, .int a2] : List Value).toArray below meth c H locs 0 0 (MQ below (QV (wM ad ck) D u sz u') ([.ref (ad 0), .int a1, .int a2] : List Value).toArray s 0 0 (va_A (wM ad ck u) sz)) (F0 m 87 ls []) := by
            intro x1 x2 x3 x4 x6 w H locs ls hf C hl
            unfold fX5_gather_87 at hf
            refine lv_iconst (v := 1) hx hb dX5_gather_87 (by decide) ?_
            refine lv_goto (tgt := 92) hx hb dX5_gather_88 (by decide) ?_
            refine lv_istore (lv' := [(5, .int 1), (0, .ref (ad 0)), (1, .int x1), (2, .int x2), (3, .int x3), (4, .int x4), (6, .int x6)]) hx hb dX5_gather_92 hl (by decide) rfl (fun ls hl => ?_)
            obtain ⟨x6_1, ex6_1⟩ : ∃ y : Int32, y = x6 + 1 := ⟨_, rfl⟩
            replace hf := lt_at hf ex6_1
            refine lv_iinc (v := x6_1) (lv' := [(6, .int x6_1), (5, .int 1), (0, .ref (ad 0)), (1, .int x1), (2, .int x2), (3, .int x3), (4, .int x4)]) hx hb dX5_gather_94 hl (k := 6) rfl (by rw [ex6_1]; rfl) (by decide) rfl (fun ls hl => ?_)
            refine lv_goto (tgt := 53) hx hb dX5_gather_97 (by decide) ?_
            exact ih53 x1 x2 x3 x4 1 x6_1 w _ _ _ hf C (lv_sub hl [2, 3, 4, 5, 6, 1, 0] rfl)
          refine lv_iload hx hb dX5_gather_53 (lv_at hl 6 rfl) ?_
          refine lv_aload_n hx hb dX5_gather_55 rfl (lv_at hl 0 rfl) ?_
          refine cx_get C hx hb (T := TX5) (N := 28) hts (by decide +kernel) hown 0 rfl rfl 26 (by decide) (hts (.fieldLink RX5 134 "AggregateRowsModel" "many" "I") (by decide +kernel)) (fun _ h9 => h9) (v := .int (w.1 7)) rfl dX5_gather_56 ?_
          refine lv_icmp_ge (tgt := 100) hx hb dX5_gather_59 (by decide) (fun c_2 => ?_) (fun c_2 => ?_)
          · replace hf := (if_pos c_2).symm.trans hf
            exact J100 x1 x2 x3 x4 x5 w _ _ _ hf C (lv_sub hl [0, 1, 2, 3, 4, 5] rfl)
          · replace hf := (if_neg c_2).symm.trans hf
            refine lv_iload_n hx hb dX5_gather_62 rfl (lv_at hl 2 rfl) ?_
            refine lv_if_eq (tgt := 100) hx hb dX5_gather_63 (by decide) (fun c_3 => ?_) (fun c_3 => ?_)
            · replace hf := (if_pos c_3).symm.trans hf
              exact J100 x1 x2 x3 x4 x5 w _ _ _ hf C (lv_sub hl [0, 1, 2, 3, 4, 5] rfl)
            · replace hf := (if_neg c_3).symm.trans hf
              refine lv_iload hx hb dX5_gather_66 (lv_at hl 5 rfl) ?_
              refine lv_if_ne (tgt := 87) hx hb dX5_gather_68 (by decide) (fun c_4 => ?_) (fun c_4 => ?_)
              · replace hf := (if_neg c_4).symm.trans hf
                exact J87 x1 x2 x3 x4 x6 w _ _ _ hf C (lv_sub hl [0, 1, 2, 3, 4, 6] rfl)
              · replace hf := (if_pos c_4).symm.trans hf
                refine lv_aload_n hx hb dX5_gather_71 rfl (lv_at hl 0 rfl) ?_
                refine lv_aload_n hx hb dX5_gather_72 rfl (lv_at hl 0 rfl) ?_
                refine cx_get C hx hb (T := TX5) (N := 28) hts (by decide +kernel) hown 0 rfl rfl 27 (by decide) (hts (.fieldLink RX5 69 "AggregateRowsModel" "list" "[I") (by decide +kernel)) (fun _ h9 => h9) (v := .ref (ad 20)) rfl dX5_gather_73 ?_
                refine lv_iload hx hb dX5_gather_76 (lv_at hl 6 rfl) ?_
                obtain ⟨g_5, hf⟩ := gd_some hf
                refine cx_iald C hx hb 20 rfl g_5 dX5_gather_78 ?_
                refine lv_iload hx hb dX5_gather_79 (lv_at hl 4 rfl) ?_
                obtain ⟨r_7, u_8, h_6, hf⟩ := bnd_some hf
                refine cx_calli C (va_runV (As := [.int (w.2.1 17 x6.toNatClampNeg), .int x4]) (rest := []) ⟨hx, hb, hml, hown, hts⟩ (k_X5_compare l ad ck D tt h_6 _) (cwV 2 hts gX5_gather_X5_compare rfl rfl rfl (by decide +kernel) ⟨Nat.le_of_ble_eq_true rfl, Nat.le_of_ble_eq_true rfl⟩) (cx_preV C (q0 := 0) (ci := 5) rfl rfl) rfl rfl hl.1 rfl (lv_room (Nat.le_of_ble_eq_true rfl)) dX5_gather_81 ⟨Nat.zero_le _, Nat.zero_le _⟩) (fun H locs C => ?_)
                refine lv_if_ne (tgt := 91) hx hb dX5_gather_84 (by decide) (fun c_9 => ?_) (fun c_9 => ?_)
                · replace hf := (if_neg c_9).symm.trans hf
                  refine lv_iconst (v := 0) hx hb dX5_gather_91 (by decide) ?_
                  refine lv_istore (lv' := [(5, .int 0), (0, .ref (ad 0)), (1, .int x1), (2, .int x2), (3, .int x3), (4, .int x4), (6, .int x6)]) hx hb dX5_gather_92 hl (by decide) rfl (fun ls hl => ?_)
                  obtain ⟨x6_10, ex6_10⟩ : ∃ y : Int32, y = x6 + 1 := ⟨_, rfl⟩
                  replace hf := lt_at hf ex6_10
                  refine lv_iinc (v := x6_10) (lv' := [(6, .int x6_10), (5, .int 0), (0, .ref (ad 0)), (1, .int x1), (2, .int x2), (3, .int x3), (4, .int x4)]) hx hb dX5_gather_94 hl (k := 6) rfl (by rw [ex6_10]; rfl) (by decide) rfl (fun ls hl => ?_)
                  refine lv_goto (tgt := 53) hx hb dX5_gather_97 (by decide) ?_
                  exact ih53 x1 x2 x3 x4 0 x6_10 u_8 _ _ _ hf C (lv_sub hl [2, 3, 4, 5, 6, 1, 0] rfl)
                · replace hf := (if_pos c_9).symm.trans hf
                  exact J87 x1 x2 x3 x4 x6 u_8 _ _ _ hf C (lv_sub hl [0, 1, 2, 3, 4, 6] rfl)
      refine lv_iload_n hx hb dX5_gather_7 rfl (lv_at hl 3 rfl) ?_
      refine lv_aload_n hx hb dX5_gather_8 rfl (lv_at hl 0 rfl) ?_
      refine cx_get C hx hb (T := TX5) (N := 28) hts (by decide +kernel) hown 0 rfl rfl 7 (by decide) (hts (.fieldLink RX5 107 "AggregateRowsModel" "all" "I") (by decide +kernel)) (fun _ h9 => h9) (v := .int (w.1 2)) rfl dX5_gather_9 ?_
      refine lv_icmp_ge (tgt := 132) hx hb dX5_gather_12 (by decide) (fun c_11 => ?_) (fun c_11 => ?_)
      · replace hf := (if_pos c_11).symm.trans hf
        exact cx_vret C hx hb hr hlocks hf dX5_gather_132
      · replace hf := (if_neg c_11).symm.trans hf
        refine lv_aload_n hx hb dX5_gather_15 rfl (lv_at hl 0 rfl) ?_
        refine cx_get C hx hb (T := TX5) (N := 28) hts (by decide +kernel) hown 0 rfl rfl 10 (by decide) (hts (.fieldLink RX5 32 "AggregateRowsModel" "values" "[I") (by decide +kernel)) (fun _ h9 => h9) (v := .ref (ad 8)) rfl dX5_gather_16 ?_
        refine lv_aload_n hx hb dX5_gather_19 rfl (lv_at hl 0 rfl) ?_
        refine cx_get C hx hb (T := TX5) (N := 28) hts (by decide +kernel) hown 0 rfl rfl 24 (by decide) (hts (.fieldLink RX5 63 "AggregateRowsModel" "order" "[I") (by decide +kernel)) (fun _ h9 => h9) (v := .ref (ad 18)) rfl dX5_gather_20 ?_
        refine lv_iload_n hx hb dX5_gather_23 rfl (lv_at hl 3 rfl) ?_
        obtain ⟨g_12, hf⟩ := gd_some hf
        refine cx_iald C hx hb 18 rfl g_12 dX5_gather_24 ?_
        obtain ⟨g_13, hf⟩ := gd_some hf
        refine cx_iald C hx hb 8 rfl g_13 dX5_gather_25 ?_
        refine lv_topi (fun x4_14 ex4_14 => ?_)
        replace hf := lt_at hf ex4_14
        refine lv_istore (lv' := [(4, .int x4_14), (0, .ref (ad 0)), (1, .int x1), (2, .int x2), (3, .int x3)]) hx hb dX5_gather_26 hl (by decide) rfl (fun ls hl => ?_)
        refine lv_aload_n hx hb dX5_gather_28 rfl (lv_at hl 1 rfl) ?_
        refine cx_get C hx hb (T := TX5) (N := 28) hts (by decide +kernel) hown 0 rfl rfl 25 (by decide) (hts (.fieldLink RX5 66 "AggregateRowsModel" "groupOf" "[I") (by decide +kernel)) (fun _ h9 => h9) (v := .ref (ad 19)) rfl dX5_gather_29 ?_
        refine lv_iload_n hx hb dX5_gather_32 rfl (lv_at hl 4 rfl) ?_
        obtain ⟨g_15, hf⟩ := gd_some hf
        refine cx_iald C hx hb 19 rfl g_15 dX5_gather_33 ?_
        refine lv_iload_n hx hb dX5_gather_34 rfl (lv_at hl 2 rfl) ?_
        refine lv_icmp_ne (tgt := 126) hx hb dX5_gather_35 (by decide) (fun c_16 => ?_) (fun c_16 => ?_)
        · replace hf := (if_neg c_16).symm.trans hf
          obtain ⟨x3_17, ex3_17⟩ : ∃ y : Int32, y = x3 + 1 := ⟨_, rfl⟩
          replace hf := lt_at hf ex3_17
          refine lv_iinc (v := x3_17) (lv' := [(3, .int x3_17), (4, .int x4_14), (0, .ref (ad 0)), (1, .int x1), (2, .int x2)]) hx hb dX5_gather_126 hl (k := 4) rfl (by rw [ex3_17]; rfl) (by decide) rfl (fun ls hl => ?_)
          refine lv_goto (tgt := 7) hx hb dX5_gather_129 (by decide) ?_
          exact ih7 x1 x2 x3_17 w _ _ _ hf C (lv_sub hl [2, 3, 4, 0] rfl)
        · replace hf := (if_pos c_16).symm.trans hf
          refine lv_iload hx hb dX5_gather_38 (lv_at hl 0 rfl) ?_
          refine lv_iconst (v := (-1)) hx hb dX5_gather_40 (by decide) ?_
          refine lv_icmp_ne (tgt := 47) hx hb dX5_gather_41 (by decide) (fun c_18 => ?_) (fun c_18 => ?_)
          · replace hf := (if_neg c_18).symm.trans hf
            refine lv_iconst (v := 0) hx hb dX5_gather_47 (by decide) ?_
            refine lv_istore (lv' := [(5, .int 0), (4, .int x4_14), (0, .ref (ad 0)), (1, .int x1), (2, .int x2), (3, .int x3)]) hx hb dX5_gather_48 hl (by decide) rfl (fun ls hl => ?_)
            refine lv_iconst (v := 0) hx hb dX5_gather_50 (by decide) ?_
            refine lv_istore (lv' := [(6, .int 0), (5, .int 0), (4, .int x4_14), (0, .ref (ad 0)), (1, .int x1), (2, .int x2), (3, .int x3)]) hx hb dX5_gather_51 hl (by decide) rfl (fun ls hl => ?_)
            exact J53 FU x1 x2 x3 x4_14 0 0 w _ _ _ hf C (lv_sub hl [3, 4, 5, 6, 2, 1, 0] rfl)
          · replace hf := (if_pos c_18).symm.trans hf
            refine lv_goto (tgt := 126) hx hb dX5_gather_44 (by decide) ?_
            obtain ⟨x3_19, ex3_19⟩ : ∃ y : Int32, y = x3 + 1 := ⟨_, rfl⟩
            replace hf := lt_at hf ex3_19
            refine lv_iinc (v := x3_19) (lv' := [(3, .int x3_19), (4, .int x4_14), (0, .ref (ad 0)), (1, .int x1), (2, .int x2)]) hx hb dX5_gather_126 hl (k := 4) rfl (by rw [ex3_19]; rfl) (by decide) rfl (fun ls hl => ?_)
            refine lv_goto (tgt := 7) hx hb dX5_gather_129 (by decide) ?_
            exact ih7 x1 x2 x3_19 w _ _ _ hf C (lv_sub hl [2, 3, 4, 0] rfl)
  have hl := lv_entry ([.ref (ad 0), .int a1, .int a2]) (n := 7) (Nat.le_of_ble_eq_true rfl)
  rw [lg_entry_eq]
  generalize (lg_sl ([.ref (ad 0), .int a1, .int a2]) ++ List.replicate (7 - (lg_sl ([.ref (ad 0), .int a1, .int a2])).length) Slot.unset).toArray = ls at hl ⊢
  have hl : lv_has ls 7 [(0, .ref (ad 0)), (1, .int a1), (2, .int a2)] := hl
  unfold fX5_gather at hf
  refine lv_aload_n hx hb dX5_gather_0 rfl (lv_at hl 0 rfl) ?_
  refine lv_iconst (v := 0) hx hb dX5_gather_1 (by decide) ?_
  refine cx_puti C hx hb (T := TX5) (N := 28) hts (by decide +kernel) tyX5 tyX5_ok nmX5 hown 0 rfl rfl 26 (by decide) (hts (.fieldLink RX5 134 "AggregateRowsModel" "many" "I") (by decide +kernel)) (fun _ h9 => h9) rfl (by decide +kernel) (Nat.le_of_ble_eq_true rfl) (u1 := sS u 7 0) rfl dX5_gather_2 (fun u_1 H locs eu_1 C => ?_)
  replace hf := lt_at hf eu_1
  refine lv_iconst (v := 0) hx hb dX5_gather_5 (by decide) ?_
  refine lv_istore_n (lv' := [(3, .int 0), (0, .ref (ad 0)), (1, .int a1), (2, .int a2)]) hx hb dX5_gather_6 rfl hl (by decide) rfl (fun ls hl => ?_)
  exact J7 FU a1 a2 0 u_1 _ _ _ hf C (lv_sub hl [1, 2, 3, 0] rfl)
/-! ===== X5_hasText ===== -/
def fX5_hasText_30 (k4 : Int32 → Int32 → St → Option (Int32 × St)) (x2 : Int32) (w : St) : Option (Int32 × St) := lt_ (x2 + 1) (fun x2_1 => k4 1 x2_1 w)
def fX5_hasText_4  : Nat → Int32 → Int32 → St → Option (Int32 × St)
  | 0, _, _, _ => none
  | n4 + 1, x1, x2, w => (if (w.1 7) ≤ x2 then gd (okZ x1) (some (x1, w)) else (if x1 = 0 then gd (okI x2 60) (gd (okI (w.2.1 17 x2.toNatClampNeg) 60) ((if (w.2.1 0 (w.2.1 17 x2.toNatClampNeg).toNatClampNeg) = 0 then lt_ (x2 + 1) (fun x2_7 => fX5_hasText_4 n4 0 x2_7 w) else fX5_hasText_30 (fX5_hasText_4 n4) x2 w))) else fX5_hasText_30 (fX5_hasText_4 n4) x2 w))
def fX5_hasText (u : St)  : Option (Int32 × St) := fX5_hasText_4 FU 0 0 u
abbrev rmX5_hasText : Room := { frames := 0, cells := 0, slots := 0, locals := 0 }
set_option maxHeartbeats 4000000 in
set_option maxRecDepth 100000 in
theorem k_X5_hasText (l : Launch) (ad : Nat → Nat) (ck : Nat → ClassId) (D : va_G) (tt : Nat) {u : St}  {r : Int32} {u' : St} (hf : fX5_hasText u = some (r, u')) : MI l yX5_hasText wsX5_hasText rmX5_hasText (wM ad ck) ck D tt [.ref (ad 0)] u r u' := by
  intro sz
  refine Met.ofW (cc := cX5_hasText) (maxL := 3) (ret := (some .boolean)) (by decide) rfl ?_
  intro p e s m args below meth c s₁ B hml hv
  obtain ⟨rfl, hsz, C⟩ := cx_entry hv
  have hx := B.exec
  have hb := B.bytes
  have hr := B.returns
  have hts := atoms_spec (ws := wsX5_hasText) B.pre
  have hown : s.vm.findClass RX5 = some m.cls := findClass_of_methodNamed B.named
  have hlocks := B.notSynchronized
  have J4 : ∀ (n4 : Nat) (x1 : Int32) (x2 : Int32) (w : St) (H : Heap) (locs : List Loc) (ls : Array Slot), fX5_hasText_4 n4 x1 x2 w = some (r, u') → CX (wM ad ck) ck D tt (va_A (wM ad ck u) sz) s w H locs → lv_has ls 3 [(0, .ref (ad 0)), (1, .int x1), (2, .int x2)] → W p l e (headSpec wsX5_hasText rmX5_hasText).room s m ([.ref (ad 0)] : List Value).toArray below meth c H locs 0 0 (MQ below (QI (wM ad ck) D u sz r u') ([.ref (ad 0)] : List Value).toArray s 0 0 (va_A (wM ad ck u) sz)) (F0 m 4 ls []) := by
    intro n4
    induction n4 with
    | zero =>
      intro x1 x2 w H locs ls hf
      have hf : (none : Option (Int32 × St)) = some (r, u') := hf
      cases hf
    | succ n4 ih4 =>
      intro x1 x2 w H locs ls hf C hl
      rw [fX5_hasText_4] at hf
      have J30 : ∀ (x2 : Int32) (w : St) (H : Heap) (locs : List Loc) (ls : Array Slot), fX5_hasText_30 (fX5_hasText_4 n4) x2 w = some (r, u') → CX (wM ad ck) ck D tt (va_A (wM ad ck u) sz) s w H locs → lv_has ls 3 [(0, .ref (ad 0)), (2, .int x2)] → W p l e (headSpec wsX5_hasText rmX5_hasText).room s m ([.ref (ad 0)] : List Value).toArray below meth c H locs 0 0 (MQ below (QI (wM ad ck) D u sz r u') ([.ref (ad 0)] : List Value).toArray s 0 0 (va_A (wM ad ck u) sz)) (F0 m 30 ls []) := by
        intro x2 w H locs ls hf C hl
        unfold fX5_hasText_30 at hf
        refine lv_iconst (v := 1) hx hb dX5_hasText_30 (by decide) ?_
        refine lv_goto (tgt := 35) hx hb dX5_hasText_31 (by decide) ?_
        refine lv_istore_n (lv' := [(1, .int 1), (0, .ref (ad 0)), (2, .int x2)]) hx hb dX5_hasText_35 rfl hl (by decide) rfl (fun ls hl => ?_)
        obtain ⟨x2_1, ex2_1⟩ : ∃ y : Int32, y = x2 + 1 := ⟨_, rfl⟩
        replace hf := lt_at hf ex2_1
        refine lv_iinc (v := x2_1) (lv' := [(2, .int x2_1), (1, .int 1), (0, .ref (ad 0))]) hx hb dX5_hasText_36 hl (k := 2) rfl (by rw [ex2_1]; rfl) (by decide) rfl (fun ls hl => ?_)
        refine lv_goto (tgt := 4) hx hb dX5_hasText_39 (by decide) ?_
        exact ih4 1 x2_1 w _ _ _ hf C (lv_sub hl [2, 1, 0] rfl)
      refine lv_iload_n hx hb dX5_hasText_4 rfl (lv_at hl 2 rfl) ?_
      refine lv_aload_n hx hb dX5_hasText_5 rfl (lv_at hl 0 rfl) ?_
      refine cx_get C hx hb (T := TX5) (N := 28) hts (by decide +kernel) hown 0 rfl rfl 26 (by decide) (hts (.fieldLink RX5 134 "AggregateRowsModel" "many" "I") (by decide +kernel)) (fun _ h9 => h9) (v := .int (w.1 7)) rfl dX5_hasText_6 ?_
      refine lv_icmp_ge (tgt := 42) hx hb dX5_hasText_9 (by decide) (fun c_2 => ?_) (fun c_2 => ?_)
      · replace hf := (if_pos c_2).symm.trans hf
        refine lv_iload_n hx hb dX5_hasText_42 rfl (lv_at hl 1 rfl) ?_
        obtain ⟨g_3, hf⟩ := gd_some hf
        exact cx_zret C hx hb hr (okZ_n g_3) hlocks hf dX5_hasText_43
      · replace hf := (if_neg c_2).symm.trans hf
        refine lv_iload_n hx hb dX5_hasText_12 rfl (lv_at hl 1 rfl) ?_
        refine lv_if_ne (tgt := 30) hx hb dX5_hasText_13 (by decide) (fun c_4 => ?_) (fun c_4 => ?_)
        · replace hf := (if_neg c_4).symm.trans hf
          exact J30 x2 w _ _ _ hf C (lv_sub hl [0, 2] rfl)
        · replace hf := (if_pos c_4).symm.trans hf
          refine lv_aload_n hx hb dX5_hasText_16 rfl (lv_at hl 0 rfl) ?_
          refine cx_get C hx hb (T := TX5) (N := 28) hts (by decide +kernel) hown 0 rfl rfl 2 (by decide) (hts (.fieldLink RX5 7 "AggregateRowsModel" "isText" "[Z") (by decide +kernel)) (fun _ h9 => h9) (v := .ref (ad 1)) rfl dX5_hasText_17 ?_
          refine lv_aload_n hx hb dX5_hasText_20 rfl (lv_at hl 0 rfl) ?_
          refine cx_get C hx hb (T := TX5) (N := 28) hts (by decide +kernel) hown 0 rfl rfl 27 (by decide) (hts (.fieldLink RX5 69 "AggregateRowsModel" "list" "[I") (by decide +kernel)) (fun _ h9 => h9) (v := .ref (ad 20)) rfl dX5_hasText_21 ?_
          refine lv_iload_n hx hb dX5_hasText_24 rfl (lv_at hl 2 rfl) ?_
          obtain ⟨g_5, hf⟩ := gd_some hf
          refine cx_iald C hx hb 20 rfl g_5 dX5_hasText_25 ?_
          obtain ⟨g_6, hf⟩ := gd_some hf
          refine cx_zald C hx hb 1 rfl g_6 dX5_hasText_26 ?_
          refine lv_if_eq (tgt := 34) hx hb dX5_hasText_27 (by decide) (fun c_7 => ?_) (fun c_7 => ?_)
          · replace hf := (if_pos c_7).symm.trans hf
            refine lv_iconst (v := 0) hx hb dX5_hasText_34 (by decide) ?_
            refine lv_istore_n (lv' := [(1, .int 0), (0, .ref (ad 0)), (2, .int x2)]) hx hb dX5_hasText_35 rfl hl (by decide) rfl (fun ls hl => ?_)
            obtain ⟨x2_8, ex2_8⟩ : ∃ y : Int32, y = x2 + 1 := ⟨_, rfl⟩
            replace hf := lt_at hf ex2_8
            refine lv_iinc (v := x2_8) (lv' := [(2, .int x2_8), (1, .int 0), (0, .ref (ad 0))]) hx hb dX5_hasText_36 hl (k := 2) rfl (by rw [ex2_8]; rfl) (by decide) rfl (fun ls hl => ?_)
            refine lv_goto (tgt := 4) hx hb dX5_hasText_39 (by decide) ?_
            exact ih4 0 x2_8 w _ _ _ hf C (lv_sub hl [2, 1, 0] rfl)
          · replace hf := (if_neg c_7).symm.trans hf
            exact J30 x2 w _ _ _ hf C (lv_sub hl [0, 2] rfl)
  have hl := lv_entry ([.ref (ad 0)]) (n := 3) (Nat.le_of_ble_eq_true rfl)
  rw [lg_entry_eq]
  generalize (lg_sl ([.ref (ad 0)]) ++ List.replicate (3 - (lg_sl ([.ref (ad 0)])).length) Slot.unset).toArray = ls at hl ⊢
  have hl : lv_has ls 3 [(0, .ref (ad 0))] := hl
  unfold fX5_hasText at hf
  refine lv_iconst (v := 0) hx hb dX5_hasText_0 (by decide) ?_
  refine lv_istore_n (lv' := [(1, .int 0), (0, .ref (ad 0))]) hx hb dX5_hasText_1 rfl hl (by decide) rfl (fun ls hl => ?_)
  refine lv_iconst (v := 0) hx hb dX5_hasText_2 (by decide) ?_
  refine lv_istore_n (lv' := [(2, .int 0), (1, .int 0), (0, .ref (ad 0))]) hx hb dX5_hasText_3 rfl hl (by decide) rfl (fun ls hl => ?_)
  exact J4 FU 0 0 u _ _ _ hf C (lv_sub hl [2, 1, 0] rfl)
/-! ===== X5_tellNumber ===== -/
def fX5_tellNumber_18  : Nat → Int32 → Int64 → Int64 → Int64 → Int64 → St → Option (Unit × St)
  | 0, _, _, _, _, _, _ => none
  | n18 + 1, x1, x2, x4, x6, x8, w => (if x8 = 0 then gd (okI x1 60) (lt_ (sI w 10 x1.toNatClampNeg 0) (fun u_3 => gd (decide (¬ x6 = 0)) (gd (okI x1 60) (lt_ (sJ u_3 0 x1.toNatClampNeg (x2 / x6)) (fun u_6 => gd (decide (¬ x6 = 0)) (gd (okI x1 60) (lt_ (sJ u_6 1 x1.toNatClampNeg (x4 / x6)) (fun u_9 => some ((), u_9))))))))) else gd (decide (¬ x8 = 0)) (lt_ (x6 - x6 / x8 * x8) (fun x10_11 => fX5_tellNumber_18 n18 x1 x2 x4 x8 x10_11 w)))
def fX5_tellNumber (u : St) (a1 : Int32) (a2 : Int64) (a4 : Int64) : Option (Unit × St) := (if 0 ≤ a2 then fX5_tellNumber_18 FU a1 a2 a4 a2 a4 u else lt_ (-a2) (fun x6_2 => fX5_tellNumber_18 FU a1 a2 a4 x6_2 a4 u))
abbrev rmX5_tellNumber : Room := { frames := 0, cells := 0, slots := 0, locals := 0 }
set_option maxHeartbeats 4000000 in
set_option maxRecDepth 100000 in
theorem k_X5_tellNumber (l : Launch) (ad : Nat → Nat) (ck : Nat → ClassId) (D : va_G) (tt : Nat) {u : St} {a1 : Int32} {a2 : Int64} {a4 : Int64} {u' : St} (hf : fX5_tellNumber u a1 a2 a4 = some ((), u')) : MV l yX5_tellNumber wsX5_tellNumber rmX5_tellNumber (wM ad ck) ck D tt [.ref (ad 0), .int a1, .long a2, .long a4] u u' := by
  intro sz
  refine Met.ofW (cc := cX5_tellNumber) (maxL := 12) (ret := none) (by decide) rfl ?_
  intro p e s m args below meth c s₁ B hml hv
  obtain ⟨rfl, hsz, C⟩ := cx_entry hv
  have hx := B.exec
  have hb := B.bytes
  have hr := B.returns
  have hts := atoms_spec (ws := wsX5_tellNumber) B.pre
  have hown : s.vm.findClass RX5 = some m.cls := findClass_of_methodNamed B.named
  have hlocks := B.notSynchronized
  have J18 : ∀ (n18 : Nat) (x1 : Int32) (x2 : Int64) (x4 : Int64) (x6 : Int64) (x8 : Int64) (w : St) (H : Heap) (locs : List Loc) (ls : Array Slot), fX5_tellNumber_18 n18 x1 x2 x4 x6 x8 w = some ((), u') → CX (wM ad ck) ck D tt (va_A (wM ad ck u) sz) s w H locs → lv_has ls 12 [(0, .ref (ad 0)), (1, .int x1), (2, .long x2), (4, .long x4), (6, .long x6), (8, .long x8)] → W p l e (headSpec wsX5_tellNumber rmX5_tellNumber).room s m ([.ref (ad 0), .int a1, .long a2, .long a4] : List Value).toArray below meth c H locs 0 0 (MQ below (QV (wM ad ck) D u sz u') ([.ref (ad 0), .int a1, .long a2, .long a4] : List Value).toArray s 0 0 (va_A (wM ad ck u) sz)) (F0 m 18 ls []) := by
    intro n18
    induction n18 with
    | zero =>
      intro x1 x2 x4 x6 x8 w H locs ls hf
      have hf : (none : Option (Unit × St)) = some ((), u') := hf
      cases hf
    | succ n18 ih18 =>
      intro x1 x2 x4 x6 x8 w H locs ls hf C hl
      rw [fX5_tellNumber_18] at hf
      refine lv_lload hx hb dX5_tellNumber_18 (lv_at hl 5 rfl) ?_
      refine lv_lconst (v := 0) hx hb dX5_tellNumber_20 (by decide) ?_
      refine W.lcmp hx hb dX5_tellNumber_21 ?_
      refine lv_if_eq (tgt := 43) hx hb dX5_tellNumber_22 (by decide) (fun c_1 => ?_) (fun c_1 => ?_)
      · replace hf := (if_pos ((lg_cmp_eq _ _).mp c_1)).symm.trans hf
        refine lv_aload_n hx hb dX5_tellNumber_43 rfl (lv_at hl 0 rfl) ?_
        refine cx_get C hx hb (T := TX5) (N := 28) hts (by decide +kernel) hown 0 rfl rfl 17 (by decide) (hts (.fieldLink RX5 41 "AggregateRowsModel" "groupSort" "[I") (by decide +kernel)) (fun _ h9 => h9) (v := .ref (ad 11)) rfl dX5_tellNumber_44 ?_
        refine lv_iload_n hx hb dX5_tellNumber_47 rfl (lv_at hl 1 rfl) ?_
        refine lv_iconst (v := 0) hx hb dX5_tellNumber_48 (by decide) ?_
        obtain ⟨g_2, hf⟩ := gd_some hf
        refine cx_iast C hx hb 11 rfl g_2 (u1 := sI w 10 x1.toNatClampNeg 0) rfl dX5_tellNumber_49 (fun u_3 H locs eu_3 C => ?_)
        replace hf := lt_at hf eu_3
        refine lv_aload_n hx hb dX5_tellNumber_50 rfl (lv_at hl 0 rfl) ?_
        refine cx_get C hx hb (T := TX5) (N := 28) hts (by decide +kernel) hown 0 rfl rfl 19 (by decide) (hts (.fieldLink RX5 47 "AggregateRowsModel" "groupUpper" "[J") (by decide +kernel)) (fun _ h9 => h9) (v := .ref (ad 13)) rfl dX5_tellNumber_51 ?_
        refine lv_iload_n hx hb dX5_tellNumber_54 rfl (lv_at hl 1 rfl) ?_
        refine lv_lload_n hx hb dX5_tellNumber_55 rfl (lv_at hl 2 rfl) ?_
        refine lv_lload hx hb dX5_tellNumber_56 (lv_at hl 4 rfl) ?_
        obtain ⟨g_4, hf⟩ := gd_some hf
        refine lv_ldiv hx hb dX5_tellNumber_58 (of_decide_eq_true g_4) ?_
        obtain ⟨g_5, hf⟩ := gd_some hf
        refine cx_last C hx hb 13 rfl g_5 (u1 := sJ u_3 0 x1.toNatClampNeg (x2 / x6)) rfl dX5_tellNumber_59 (fun u_6 H locs eu_6 C => ?_)
        replace hf := lt_at hf eu_6
        refine lv_aload_n hx hb dX5_tellNumber_60 rfl (lv_at hl 0 rfl) ?_
        refine cx_get C hx hb (T := TX5) (N := 28) hts (by decide +kernel) hown 0 rfl rfl 20 (by decide) (hts (.fieldLink RX5 51 "AggregateRowsModel" "groupLower" "[J") (by decide +kernel)) (fun _ h9 => h9) (v := .ref (ad 14)) rfl dX5_tellNumber_61 ?_
        refine lv_iload_n hx hb dX5_tellNumber_64 rfl (lv_at hl 1 rfl) ?_
        refine lv_lload hx hb dX5_tellNumber_65 (lv_at hl 3 rfl) ?_
        refine lv_lload hx hb dX5_tellNumber_67 (lv_at hl 4 rfl) ?_
        obtain ⟨g_7, hf⟩ := gd_some hf
        refine lv_ldiv hx hb dX5_tellNumber_69 (of_decide_eq_true g_7) ?_
        obtain ⟨g_8, hf⟩ := gd_some hf
        refine cx_last C hx hb 14 rfl g_8 (u1 := sJ u_6 1 x1.toNatClampNeg (x4 / x6)) rfl dX5_tellNumber_70 (fun u_9 H locs eu_9 C => ?_)
        replace hf := lt_at hf eu_9
        exact cx_vret C hx hb hr hlocks hf dX5_tellNumber_71
      · replace hf := (if_neg (fun q => c_1 ((lg_cmp_eq _ _).mpr q))).symm.trans hf
        refine lv_lload hx hb dX5_tellNumber_25 (lv_at hl 4 rfl) ?_
        refine lv_lload hx hb dX5_tellNumber_27 (lv_at hl 5 rfl) ?_
        obtain ⟨g_10, hf⟩ := gd_some hf
        refine lv_lrem hx hb dX5_tellNumber_29 (of_decide_eq_true g_10) ?_
        refine lv_topl (fun x10_11 ex10_11 => ?_)
        replace hf := lt_at hf ex10_11
        refine lv_lstore (lv' := [(10, .long x10_11), (0, .ref (ad 0)), (1, .int x1), (2, .long x2), (4, .long x4), (6, .long x6), (8, .long x8)]) hx hb dX5_tellNumber_30 hl (by decide) rfl (fun ls hl => ?_)
        refine lv_lload hx hb dX5_tellNumber_32 (lv_at hl 6 rfl) ?_
        refine lv_lstore (lv' := [(6, .long x8), (10, .long x10_11), (0, .ref (ad 0)), (1, .int x1), (2, .long x2), (4, .long x4), (8, .long x8)]) hx hb dX5_tellNumber_34 hl (by decide) rfl (fun ls hl => ?_)
        refine lv_lload hx hb dX5_tellNumber_36 (lv_at hl 1 rfl) ?_
        refine lv_lstore (lv' := [(8, .long x10_11), (6, .long x8), (10, .long x10_11), (0, .ref (ad 0)), (1, .int x1), (2, .long x2), (4, .long x4)]) hx hb dX5_tellNumber_38 hl (by decide) rfl (fun ls hl => ?_)
        refine lv_goto (tgt := 18) hx hb dX5_tellNumber_40 (by decide) ?_
        exact ih18 x1 x2 x4 x8 x10_11 w _ _ _ hf C (lv_sub hl [3, 4, 5, 6, 1, 0] rfl)
  have hl := lv_entry ([.ref (ad 0), .int a1, .long a2, .long a4]) (n := 12) (Nat.le_of_ble_eq_true rfl)
  rw [lg_entry_eq]
  generalize (lg_sl ([.ref (ad 0), .int a1, .long a2, .long a4]) ++ List.replicate (12 - (lg_sl ([.ref (ad 0), .int a1, .long a2, .long a4])).length) Slot.unset).toArray = ls at hl ⊢
  have hl : lv_has ls 12 [(0, .ref (ad 0)), (1, .int a1), (2, .long a2), (4, .long a4)] := hl
  unfold fX5_tellNumber at hf
  refine lv_lload_n hx hb dX5_tellNumber_0 rfl (lv_at hl 2 rfl) ?_
  refine lv_lconst (v := 0) hx hb dX5_tellNumber_1 (by decide) ?_
  refine W.lcmp hx hb dX5_tellNumber_2 ?_
  refine lv_if_ge (tgt := 11) hx hb dX5_tellNumber_3 (by decide) (fun c_1 => ?_) (fun c_1 => ?_)
  · replace hf := (if_pos ((lg_cmp_ge _ _).mp c_1)).symm.trans hf
    refine lv_lload_n hx hb dX5_tellNumber_11 rfl (lv_at hl 2 rfl) ?_
    refine lv_lstore (lv' := [(6, .long a2), (0, .ref (ad 0)), (1, .int a1), (2, .long a2), (4, .long a4)]) hx hb dX5_tellNumber_12 hl (by decide) rfl (fun ls hl => ?_)
    refine lv_lload hx hb dX5_tellNumber_14 (lv_at hl 4 rfl) ?_
    refine lv_lstore (lv' := [(8, .long a4), (6, .long a2), (0, .ref (ad 0)), (1, .int a1), (2, .long a2), (4, .long a4)]) hx hb dX5_tellNumber_16 hl (by decide) rfl (fun ls hl => ?_)
    exact J18 FU a1 a2 a4 a2 a4 u _ _ _ hf C (lv_sub hl [2, 3, 4, 5, 1, 0] rfl)
  · replace hf := (if_neg (fun q => c_1 ((lg_cmp_ge _ _).mpr q))).symm.trans hf
    refine lv_lload_n hx hb dX5_tellNumber_6 rfl (lv_at hl 2 rfl) ?_
    refine lv_lneg hx hb dX5_tellNumber_7 ?_
    refine lv_goto (tgt := 12) hx hb dX5_tellNumber_8 (by decide) ?_
    refine lv_topl (fun x6_2 ex6_2 => ?_)
    replace hf := lt_at hf ex6_2
    refine lv_lstore (lv' := [(6, .long x6_2), (0, .ref (ad 0)), (1, .int a1), (2, .long a2), (4, .long a4)]) hx hb dX5_tellNumber_12 hl (by decide) rfl (fun ls hl => ?_)
    refine lv_lload hx hb dX5_tellNumber_14 (lv_at hl 4 rfl) ?_
    refine lv_lstore (lv' := [(8, .long a4), (6, .long x6_2), (0, .ref (ad 0)), (1, .int a1), (2, .long a2), (4, .long a4)]) hx hb dX5_tellNumber_16 hl (by decide) rfl (fun ls hl => ?_)
    exact J18 FU a1 a2 a4 x6_2 a4 u _ _ _ hf C (lv_sub hl [2, 3, 4, 5, 1, 0] rfl)
/-! ===== X5_fail ===== -/
def fX5_fail (u : St) (a1 : Int32) (a2 : Int32) : Option (Unit × St) := gd (okI a1 60) (lt_ (sI u 10 a1.toNatClampNeg 2) (fun u_2 => gd (okI a1 60) (lt_ (sI u_2 11 a1.toNatClampNeg a2) (fun u_4 => some ((), u_4)))))
abbrev rmX5_fail : Room := { frames := 0, cells := 0, slots := 0, locals := 0 }
set_option maxHeartbeats 4000000 in
set_option maxRecDepth 100000 in
theorem k_X5_fail (l : Launch) (ad : Nat → Nat) (ck : Nat → ClassId) (D : va_G) (tt : Nat) {u : St} {a1 : Int32} {a2 : Int32} {u' : St} (hf : fX5_fail u a1 a2 = some ((), u')) : MV l yX5_fail wsX5_fail rmX5_fail (wM ad ck) ck D tt [.ref (ad 0), .int a1, .int a2] u u' := by
  intro sz
  refine Met.ofW (cc := cX5_fail) (maxL := 3) (ret := none) (by decide) rfl ?_
  intro p e s m args below meth c s₁ B hml hv
  obtain ⟨rfl, hsz, C⟩ := cx_entry hv
  have hx := B.exec
  have hb := B.bytes
  have hr := B.returns
  have hts := atoms_spec (ws := wsX5_fail) B.pre
  have hown : s.vm.findClass RX5 = some m.cls := findClass_of_methodNamed B.named
  have hlocks := B.notSynchronized
  have hl := lv_entry ([.ref (ad 0), .int a1, .int a2]) (n := 3) (Nat.le_of_ble_eq_true rfl)
  rw [lg_entry_eq]
  generalize (lg_sl ([.ref (ad 0), .int a1, .int a2]) ++ List.replicate (3 - (lg_sl ([.ref (ad 0), .int a1, .int a2])).length) Slot.unset).toArray = ls at hl ⊢
  have hl : lv_has ls 3 [(0, .ref (ad 0)), (1, .int a1), (2, .int a2)] := hl
  unfold fX5_fail at hf
  refine lv_aload_n hx hb dX5_fail_0 rfl (lv_at hl 0 rfl) ?_
  refine cx_get C hx hb (T := TX5) (N := 28) hts (by decide +kernel) hown 0 rfl rfl 17 (by decide) (hts (.fieldLink RX5 41 "AggregateRowsModel" "groupSort" "[I") (by decide +kernel)) (fun _ h9 => h9) (v := .ref (ad 11)) rfl dX5_fail_1 ?_
  refine lv_iload_n hx hb dX5_fail_4 rfl (lv_at hl 1 rfl) ?_
  refine lv_iconst (v := 2) hx hb dX5_fail_5 (by decide) ?_
  obtain ⟨g_1, hf⟩ := gd_some hf
  refine cx_iast C hx hb 11 rfl g_1 (u1 := sI u 10 a1.toNatClampNeg 2) rfl dX5_fail_6 (fun u_2 H locs eu_2 C => ?_)
  replace hf := lt_at hf eu_2
  refine lv_aload_n hx hb dX5_fail_7 rfl (lv_at hl 0 rfl) ?_
  refine cx_get C hx hb (T := TX5) (N := 28) hts (by decide +kernel) hown 0 rfl rfl 18 (by decide) (hts (.fieldLink RX5 44 "AggregateRowsModel" "groupWhy" "[I") (by decide +kernel)) (fun _ h9 => h9) (v := .ref (ad 12)) rfl dX5_fail_8 ?_
  refine lv_iload_n hx hb dX5_fail_11 rfl (lv_at hl 1 rfl) ?_
  refine lv_iload_n hx hb dX5_fail_12 rfl (lv_at hl 2 rfl) ?_
  obtain ⟨g_3, hf⟩ := gd_some hf
  refine cx_iast C hx hb 12 rfl g_3 (u1 := sI u_2 11 a1.toNatClampNeg a2) rfl dX5_fail_13 (fun u_4 H locs eu_4 C => ?_)
  replace hf := lt_at hf eu_4
  exact cx_vret C hx hb hr hlocks hf dX5_fail_14
/-! ===== X5_say ===== -/
def fX5_say_28  (x1 : Int32) (w : St) : Option (Unit × St) := gd (okI x1 60) (gd (okI x1 60) (lt_ (sI w 13 x1.toNatClampNeg ((w.2.1 13 x1.toNatClampNeg) + 1)) (fun u_3 => some ((), u_3))))
def fX5_say (u : St) (a1 : Int32) (a2 : Int32) : Option (Unit × St) := gd (okI a1 60) ((if 80 ≤ (u.2.1 13 a1.toNatClampNeg) then fX5_say_28 a1 u else gd (okI a1 60) (gd (okI ((80 * a1) + (u.2.1 13 a1.toNatClampNeg)) 4800) (lt_ (sI u 14 ((80 * a1) + (u.2.1 13 a1.toNatClampNeg)).toNatClampNeg a2) (fun u_5 => fX5_say_28 a1 u_5)))))
abbrev rmX5_say : Room := { frames := 0, cells := 0, slots := 0, locals := 0 }
set_option maxHeartbeats 4000000 in
set_option maxRecDepth 100000 in
theorem k_X5_say (l : Launch) (ad : Nat → Nat) (ck : Nat → ClassId) (D : va_G) (tt : Nat) {u : St} {a1 : Int32} {a2 : Int32} {u' : St} (hf : fX5_say u a1 a2 = some ((), u')) : MV l yX5_say wsX5_say rmX5_say (wM ad ck) ck D tt [.ref (ad 0), .int a1, .int a2] u u' := by
  intro sz
  refine Met.ofW (cc := cX5_say) (maxL := 3) (ret := none) (by decide) rfl ?_
  intro p e s m args below meth c s₁ B hml hv
  obtain ⟨rfl, hsz, C⟩ := cx_entry hv
  have hx := B.exec
  have hb := B.bytes
  have hr := B.returns
  have hts := atoms_spec (ws := wsX5_say) B.pre
  have hown : s.vm.findClass RX5 = some m.cls := findClass_of_methodNamed B.named
  have hlocks := B.notSynchronized
  have J28 : ∀ (x1 : Int32) (w : St) (H : Heap) (locs : List Loc) (ls : Array Slot), fX5_say_28 x1 w = some ((), u') → CX (wM ad ck) ck D tt (va_A (wM ad ck u) sz) s w H locs → lv_has ls 3 [(0, .ref (ad 0)), (1, .int x1)] → W p l e (headSpec wsX5_say rmX5_say).room s m ([.ref (ad 0), .int a1, .int a2] : List Value).toArray below meth c H locs 0 0 (MQ below (QV (wM ad ck) D u sz u') ([.ref (ad 0), .int a1, .int a2] : List Value).toArray s 0 0 (va_A (wM ad ck u) sz)) (F0 m 28 ls []) := by
    intro x1 w H locs ls hf C hl
    unfold fX5_say_28 at hf
    refine lv_aload_n hx hb dX5_say_28 rfl (lv_at hl 0 rfl) ?_
    refine cx_get C hx hb (T := TX5) (N := 28) hts (by decide +kernel) hown 0 rfl rfl 22 (by decide) (hts (.fieldLink RX5 57 "AggregateRowsModel" "groupSize" "[I") (by decide +kernel)) (fun _ h9 => h9) (v := .ref (ad 16)) rfl dX5_say_29 ?_
    refine lv_iload_n hx hb dX5_say_32 rfl (lv_at hl 1 rfl) ?_
    refine lv_dup2_11 hx hb dX5_say_33 rfl rfl ?_
    obtain ⟨g_1, hf⟩ := gd_some hf
    refine cx_iald C hx hb 16 rfl g_1 dX5_say_34 ?_
    refine lv_iconst (v := 1) hx hb dX5_say_35 (by decide) ?_
    refine lv_iadd hx hb dX5_say_36 ?_
    obtain ⟨g_2, hf⟩ := gd_some hf
    refine cx_iast C hx hb 16 rfl g_2 (u1 := sI w 13 x1.toNatClampNeg ((w.2.1 13 x1.toNatClampNeg) + 1)) rfl dX5_say_37 (fun u_3 H locs eu_3 C => ?_)
    replace hf := lt_at hf eu_3
    exact cx_vret C hx hb hr hlocks hf dX5_say_38
  have hl := lv_entry ([.ref (ad 0), .int a1, .int a2]) (n := 3) (Nat.le_of_ble_eq_true rfl)
  rw [lg_entry_eq]
  generalize (lg_sl ([.ref (ad 0), .int a1, .int a2]) ++ List.replicate (3 - (lg_sl ([.ref (ad 0), .int a1, .int a2])).length) Slot.unset).toArray = ls at hl ⊢
  have hl : lv_has ls 3 [(0, .ref (ad 0)), (1, .int a1), (2, .int a2)] := hl
  unfold fX5_say at hf
  refine lv_aload_n hx hb dX5_say_0 rfl (lv_at hl 0 rfl) ?_
  refine cx_get C hx hb (T := TX5) (N := 28) hts (by decide +kernel) hown 0 rfl rfl 22 (by decide) (hts (.fieldLink RX5 57 "AggregateRowsModel" "groupSize" "[I") (by decide +kernel)) (fun _ h9 => h9) (v := .ref (ad 16)) rfl dX5_say_1 ?_
  refine lv_iload_n hx hb dX5_say_4 rfl (lv_at hl 1 rfl) ?_
  obtain ⟨g_1, hf⟩ := gd_some hf
  refine cx_iald C hx hb 16 rfl g_1 dX5_say_5 ?_
  refine lv_bipush (v := 80) hx hb dX5_say_6 (by decide) ?_
  refine lv_icmp_ge (tgt := 28) hx hb dX5_say_8 (by decide) (fun c_2 => ?_) (fun c_2 => ?_)
  · replace hf := (if_pos c_2).symm.trans hf
    exact J28 a1 u _ _ _ hf C (lv_sub hl [0, 1] rfl)
  · replace hf := (if_neg c_2).symm.trans hf
    refine lv_aload_n hx hb dX5_say_11 rfl (lv_at hl 0 rfl) ?_
    refine cx_get C hx hb (T := TX5) (N := 28) hts (by decide +kernel) hown 0 rfl rfl 23 (by decide) (hts (.fieldLink RX5 60 "AggregateRowsModel" "groupText" "[I") (by decide +kernel)) (fun _ h9 => h9) (v := .ref (ad 17)) rfl dX5_say_12 ?_
    refine lv_bipush (v := 80) hx hb dX5_say_15 (by decide) ?_
    refine lv_iload_n hx hb dX5_say_17 rfl (lv_at hl 1 rfl) ?_
    refine lv_imul hx hb dX5_say_18 ?_
    refine lv_aload_n hx hb dX5_say_19 rfl (lv_at hl 0 rfl) ?_
    refine cx_get C hx hb (T := TX5) (N := 28) hts (by decide +kernel) hown 0 rfl rfl 22 (by decide) (hts (.fieldLink RX5 57 "AggregateRowsModel" "groupSize" "[I") (by decide +kernel)) (fun _ h9 => h9) (v := .ref (ad 16)) rfl dX5_say_20 ?_
    refine lv_iload_n hx hb dX5_say_23 rfl (lv_at hl 1 rfl) ?_
    obtain ⟨g_3, hf⟩ := gd_some hf
    refine cx_iald C hx hb 16 rfl g_3 dX5_say_24 ?_
    refine lv_iadd hx hb dX5_say_25 ?_
    refine lv_iload_n hx hb dX5_say_26 rfl (lv_at hl 2 rfl) ?_
    obtain ⟨g_4, hf⟩ := gd_some hf
    refine cx_iast C hx hb 17 rfl g_4 (u1 := sI u 14 ((80 * a1) + (u.2.1 13 a1.toNatClampNeg)).toNatClampNeg a2) rfl dX5_say_27 (fun u_5 H locs eu_5 C => ?_)
    replace hf := lt_at hf eu_5
    exact J28 a1 u_5 _ _ _ hf C (lv_sub hl [0, 1] rfl)
/-! ===== X5_sayTerm ===== -/
def fX5_sayTerm_199  : Nat → Int32 → Int32 → Int32 → St → Option (Unit × St)
  | 0, _, _, _, _ => none
  | n199 + 1, x1, x3, x7, w => (if x7 ≤ 0 then some ((), w) else gd (decide (¬ x7 = 0)) (bnd (fX5_say w x1 (48 + ((x3 / x7) - (x3 / x7) / 10 * 10))) (fun _ u_5 => lt_ (x7 / 10) (fun x7_6 => fX5_sayTerm_199 n199 x1 x3 x7_6 u_5))))
def fX5_sayTerm_192  (x1 : Int32) (x3 : Int32) (x4 : Int32) (w : St) : Option (Unit × St) := lt_ (x4 / 10) (fun x7_1 => fX5_sayTerm_199 FU x1 x3 x7_1 w)
def fX5_sayTerm_145  : Nat → Int32 → Int32 → Int32 → Int32 → Int32 → Int32 → St → Option (Unit × St)
  | 0, _, _, _, _, _, _, _ => none
  | n145 + 1, x1, x2, x3, x4, x5, x6, w => (if x6 ≤ 0 then gd (okI x2 60) ((if (w.2.1 2 x2.toNatClampNeg) ≤ 0 then fX5_sayTerm_192 x1 x3 x4 w else bnd (fX5_say w x1 46) (fun _ u_6 => fX5_sayTerm_192 x1 x3 x4 u_6))) else gd (decide (¬ x6 = 0)) (bnd (fX5_say w x1 (48 + ((x5 / x6) - (x5 / x6) / 10 * 10))) (fun _ u_10 => lt_ (x6 / 10) (fun x6_11 => fX5_sayTerm_145 n145 x1 x2 x3 x4 x5 x6_11 u_10))))
def fX5_sayTerm_125  : Nat → Int32 → Int32 → Int32 → Int32 → Int32 → Int32 → St → Option (Unit × St)
  | 0, _, _, _, _, _, _, _ => none
  | n125 + 1, x1, x2, x3, x4, x5, x6, w => gd (decide (¬ x6 = 0)) ((if (x5 / x6) ≤ 9 then fX5_sayTerm_145 FU x1 x2 x3 x4 x5 x6 w else lt_ (x6 * 10) (fun x6_3 => fX5_sayTerm_125 n125 x1 x2 x3 x4 x5 x6_3 w)))
def fX5_sayTerm_92  : Nat → Int32 → Int32 → Int32 → Int32 → Int32 → St → Option (Unit × St)
  | 0, _, _, _, _, _, _ => none
  | n92 + 1, x1, x2, x3, x4, x5, w => gd (okI x2 60) ((if (w.2.1 2 x2.toNatClampNeg) ≤ x5 then gd (decide (¬ x4 = 0)) (lt_ (x3 / x4) (fun x5_4 => fX5_sayTerm_125 FU x1 x2 x3 x4 x5_4 1 w)) else lt_ (x4 * 10) (fun x4_5 => lt_ (x5 + 1) (fun x5_6 => fX5_sayTerm_92 n92 x1 x2 x3 x4_5 x5_6 w))))
def fX5_sayTerm_86  (x1 : Int32) (x2 : Int32) (x3 : Int32) (w : St) : Option (Unit × St) := fX5_sayTerm_92 FU x1 x2 x3 1 0 w
def fX5_sayTerm_69  (x1 : Int32) (x2 : Int32) (y0 : Int32) (w : St) : Option (Unit × St) := gd (okI x2 60) ((if 0 ≤ (w.2.1 1 x2.toNatClampNeg) then fX5_sayTerm_86 x1 x2 y0 w else bnd (fX5_say w x1 45) (fun _ u_5 => fX5_sayTerm_86 x1 x2 y0 u_5)))
def fX5_sayTerm_11  : Nat → Int32 → Int32 → Int32 → St → Option (Unit × St)
  | 0, _, _, _, _ => none
  | n11 + 1, x1, x2, x3, w => gd (okI x2 60) ((if (w.2.1 3 x2.toNatClampNeg) ≤ x3 then some ((), w) else gd (okI ((8 * x2) + x3) 480) (bnd (fX5_say w x1 (w.2.1 4 ((8 * x2) + x3).toNatClampNeg)) (fun _ u_6 => lt_ (x3 + 1) (fun x3_7 => fX5_sayTerm_11 n11 x1 x2 x3_7 u_6)))))
def fX5_sayTerm (u : St) (a1 : Int32) (a2 : Int32) : Option (Unit × St) := gd (okI a2 60) ((if (u.2.1 0 a2.toNatClampNeg) = 0 then gd (okI a2 60) ((if 0 ≤ (u.2.1 1 a2.toNatClampNeg) then gd (okI a2 60) (fX5_sayTerm_69 a1 a2 (u.2.1 1 a2.toNatClampNeg) u) else gd (okI a2 60) (fX5_sayTerm_69 a1 a2 (-(u.2.1 1 a2.toNatClampNeg)) u))) else fX5_sayTerm_11 FU a1 a2 0 u))
abbrev rmX5_sayTerm : Room := { frames := 1, cells := 0, slots := 0, locals := 22 }
set_option maxHeartbeats 4000000 in
set_option maxRecDepth 100000 in
theorem k_X5_sayTerm (l : Launch) (ad : Nat → Nat) (ck : Nat → ClassId) (D : va_G) (tt : Nat) {u : St} {a1 : Int32} {a2 : Int32} {u' : St} (hf : fX5_sayTerm u a1 a2 = some ((), u')) : MV l yX5_sayTerm wsX5_sayTerm rmX5_sayTerm (wM ad ck) ck D tt [.ref (ad 0), .int a1, .int a2] u u' := by
  intro sz
  refine Met.ofW (cc := cX5_sayTerm) (maxL := 8) (ret := none) (by decide) rfl ?_
  intro p e s m args below meth c s₁ B hml hv
  obtain ⟨rfl, hsz, C⟩ := cx_entry hv
  have hx := B.exec
  have hb := B.bytes
  have hr := B.returns
  have hts := atoms_spec (ws := wsX5_sayTerm) B.pre
  have hown : s.vm.findClass RX5 = some m.cls := findClass_of_methodNamed B.named
  have hlocks := B.notSynchronized
  have J199 : ∀ (n199 : Nat) (x1 : Int32) (x3 : Int32) (x7 : Int32) (w : St) (H : Heap) (locs : List Loc) (ls : Array Slot), fX5_sayTerm_199 n199 x1 x3 x7 w = some ((), u') → CX (wM ad ck) ck D tt (va_A (wM ad ck u) sz) s w H locs → lv_has ls 8 [(0, .ref (ad 0)), (1, .int x1), (3, .int x3), (7, .int x7)] → W p l e (headSpec wsX5_sayTerm rmX5_sayTerm).room s m ([.ref (ad 0), .int a1, .int a2] : List Value).toArray below meth c H locs 0 0 (MQ below (QV (wM ad ck) D u sz u') ([.ref (ad 0), .int a1, .int a2] : List Value).toArray s 0 0 (va_A (wM ad ck u) sz)) (F0 m 199 ls []) := by
    intro n199
    induction n199 with
    | zero =>
      intro x1 x3 x7 w H locs ls hf
      have hf : (none : Option (Unit × St)) = some ((), u') := hf
      cases hf
    | succ n199 ih199 =>
      intro x1 x3 x7 w H locs ls hf C hl
      rw [fX5_sayTerm_199] at hf
      refine lv_iload hx hb dX5_sayTerm_199 (lv_at hl 3 rfl) ?_
      refine lv_if_le (tgt := 229) hx hb dX5_sayTerm_201 (by decide) (fun c_1 => ?_) (fun c_1 => ?_)
      · replace hf := (if_pos c_1).symm.trans hf
        exact cx_vret C hx hb hr hlocks hf dX5_sayTerm_229
      · replace hf := (if_neg c_1).symm.trans hf
        refine lv_aload_n hx hb dX5_sayTerm_204 rfl (lv_at hl 0 rfl) ?_
        refine lv_iload_n hx hb dX5_sayTerm_205 rfl (lv_at hl 1 rfl) ?_
        refine lv_bipush (v := 48) hx hb dX5_sayTerm_206 (by decide) ?_
        refine lv_iload_n hx hb dX5_sayTerm_208 rfl (lv_at hl 2 rfl) ?_
        refine lv_iload hx hb dX5_sayTerm_209 (lv_at hl 3 rfl) ?_
        obtain ⟨g_2, hf⟩ := gd_some hf
        refine lv_idiv hx hb dX5_sayTerm_211 (of_decide_eq_true g_2) ?_
        refine lv_bipush (v := 10) hx hb dX5_sayTerm_212 (by decide) ?_
        refine lv_irem hx hb dX5_sayTerm_214 (by decide) ?_
        refine lv_iadd hx hb dX5_sayTerm_215 ?_
        obtain ⟨_, u_5, h_3, hf⟩ := bnd_some hf
        refine cx_callv C (va_runV (As := [.int x1, .int (48 + ((x3 / x7) - (x3 / x7) / 10 * 10))]) (rest := []) ⟨hx, hb, hml, hown, hts⟩ (k_X5_say l ad ck D tt h_3 _) (cwV 2 hts gX5_sayTerm_X5_say rfl rfl rfl (by decide +kernel) ⟨Nat.le_of_ble_eq_true rfl, Nat.le_of_ble_eq_true rfl⟩) (cx_preV C (q0 := 0) (ci := 5) rfl rfl) rfl rfl hl.1 rfl (lv_room (Nat.le_of_ble_eq_true rfl)) dX5_sayTerm_216 ⟨Nat.zero_le _, Nat.zero_le _⟩) (fun H locs C => ?_)
        refine lv_iload hx hb dX5_sayTerm_219 (lv_at hl 3 rfl) ?_
        refine lv_bipush (v := 10) hx hb dX5_sayTerm_221 (by decide) ?_
        refine lv_idiv hx hb dX5_sayTerm_223 (by decide) ?_
        refine lv_topi (fun x7_6 ex7_6 => ?_)
        replace hf := lt_at hf ex7_6
        refine lv_istore (lv' := [(7, .int x7_6), (0, .ref (ad 0)), (1, .int x1), (3, .int x3)]) hx hb dX5_sayTerm_224 hl (by decide) rfl (fun ls hl => ?_)
        refine lv_goto (tgt := 199) hx hb dX5_sayTerm_226 (by decide) ?_
        exact ih199 x1 x3 x7_6 u_5 _ _ _ hf C (lv_sub hl [1, 2, 3, 0] rfl)
  have J192 : ∀ (x1 : Int32) (x3 : Int32) (x4 : Int32) (w : St) (H : Heap) (locs : List Loc) (ls : Array Slot), fX5_sayTerm_192 x1 x3 x4 w = some ((), u') → CX (wM ad ck) ck D tt (va_A (wM ad ck u) sz) s w H locs → lv_has ls 8 [(0, .ref (ad 0)), (1, .int x1), (3, .int x3), (4, .int x4)] → W p l e (headSpec wsX5_sayTerm rmX5_sayTerm).room s m ([.ref (ad 0), .int a1, .int a2] : List Value).toArray below meth c H locs 0 0 (MQ below (QV (wM ad ck) D u sz u') ([.ref (ad 0), .int a1, .int a2] : List Value).toArray s 0 0 (va_A (wM ad ck u) sz)) (F0 m 192 ls []) := by
    intro x1 x3 x4 w H locs ls hf C hl
    unfold fX5_sayTerm_192 at hf
    refine lv_iload hx hb dX5_sayTerm_192 (lv_at hl 3 rfl) ?_
    refine lv_bipush (v := 10) hx hb dX5_sayTerm_194 (by decide) ?_
    refine lv_idiv hx hb dX5_sayTerm_196 (by decide) ?_
    refine lv_topi (fun x7_1 ex7_1 => ?_)
    replace hf := lt_at hf ex7_1
    refine lv_istore (lv' := [(7, .int x7_1), (0, .ref (ad 0)), (1, .int x1), (3, .int x3), (4, .int x4)]) hx hb dX5_sayTerm_197 hl (by decide) rfl (fun ls hl => ?_)
    exact J199 FU x1 x3 x7_1 w _ _ _ hf C (lv_sub hl [1, 2, 3, 0] rfl)
  have J145 : ∀ (n145 : Nat) (x1 : Int32) (x2 : Int32) (x3 : Int32) (x4 : Int32) (x5 : Int32) (x6 : Int32) (w : St) (H : Heap) (locs : List Loc) (ls : Array Slot), fX5_sayTerm_145 n145 x1 x2 x3 x4 x5 x6 w = some ((), u') → CX (wM ad ck) ck D tt (va_A (wM ad ck u) sz) s w H locs → lv_has ls 8 [(0, .ref (ad 0)), (1, .int x1), (2, .int x2), (3, .int x3), (4, .int x4), (5, .int x5), (6, .int x6)] → W p l e (headSpec wsX5_sayTerm rmX5_sayTerm).room s m ([.ref (ad 0), .int a1, .int a2] : List Value).toArray below meth c H locs 0 0 (MQ below (QV (wM ad ck) D u sz u') ([.ref (ad 0), .int a1, .int a2] : List Value).toArray s 0 0 (va_A (wM ad ck u) sz)) (F0 m 145 ls []) := by
    intro n145
    induction n145 with
    | zero =>
      intro x1 x2 x3 x4 x5 x6 w H locs ls hf
      have hf : (none : Option (Unit × St)) = some ((), u') := hf
      cases hf
    | succ n145 ih145 =>
      intro x1 x2 x3 x4 x5 x6 w H locs ls hf C hl
      rw [fX5_sayTerm_145] at hf
      refine lv_iload hx hb dX5_sayTerm_145 (lv_at hl 6 rfl) ?_
      refine lv_if_le (tgt := 176) hx hb dX5_sayTerm_147 (by decide) (fun c_1 => ?_) (fun c_1 => ?_)
      · replace hf := (if_pos c_1).symm.trans hf
        refine lv_aload_n hx hb dX5_sayTerm_176 rfl (lv_at hl 0 rfl) ?_
        refine cx_get C hx hb (T := TX5) (N := 28) hts (by decide +kernel) hown 0 rfl rfl 4 (by decide) (hts (.fieldLink RX5 17 "AggregateRowsModel" "scales" "[I") (by decide +kernel)) (fun _ h9 => h9) (v := .ref (ad 3)) rfl dX5_sayTerm_177 ?_
        refine lv_iload_n hx hb dX5_sayTerm_180 rfl (lv_at hl 2 rfl) ?_
        obtain ⟨g_2, hf⟩ := gd_some hf
        refine cx_iald C hx hb 3 rfl g_2 dX5_sayTerm_181 ?_
        refine lv_if_le (tgt := 192) hx hb dX5_sayTerm_182 (by decide) (fun c_3 => ?_) (fun c_3 => ?_)
        · replace hf := (if_pos c_3).symm.trans hf
          exact J192 x1 x3 x4 w _ _ _ hf C (lv_sub hl [0, 1, 3, 4] rfl)
        · replace hf := (if_neg c_3).symm.trans hf
          refine lv_aload_n hx hb dX5_sayTerm_185 rfl (lv_at hl 0 rfl) ?_
          refine lv_iload_n hx hb dX5_sayTerm_186 rfl (lv_at hl 1 rfl) ?_
          refine lv_bipush (v := 46) hx hb dX5_sayTerm_187 (by decide) ?_
          obtain ⟨_, u_6, h_4, hf⟩ := bnd_some hf
          refine cx_callv C (va_runV (As := [.int x1, .int 46]) (rest := []) ⟨hx, hb, hml, hown, hts⟩ (k_X5_say l ad ck D tt h_4 _) (cwV 2 hts gX5_sayTerm_X5_say rfl rfl rfl (by decide +kernel) ⟨Nat.le_of_ble_eq_true rfl, Nat.le_of_ble_eq_true rfl⟩) (cx_preV C (q0 := 0) (ci := 5) rfl rfl) rfl rfl hl.1 rfl (lv_room (Nat.le_of_ble_eq_true rfl)) dX5_sayTerm_189 ⟨Nat.zero_le _, Nat.zero_le _⟩) (fun H locs C => ?_)
          exact J192 x1 x3 x4 u_6 _ _ _ hf C (lv_sub hl [0, 1, 3, 4] rfl)
      · replace hf := (if_neg c_1).symm.trans hf
        refine lv_aload_n hx hb dX5_sayTerm_150 rfl (lv_at hl 0 rfl) ?_
        refine lv_iload_n hx hb dX5_sayTerm_151 rfl (lv_at hl 1 rfl) ?_
        refine lv_bipush (v := 48) hx hb dX5_sayTerm_152 (by decide) ?_
        refine lv_iload hx hb dX5_sayTerm_154 (lv_at hl 5 rfl) ?_
        refine lv_iload hx hb dX5_sayTerm_156 (lv_at hl 6 rfl) ?_
        obtain ⟨g_7, hf⟩ := gd_some hf
        refine lv_idiv hx hb dX5_sayTerm_158 (of_decide_eq_true g_7) ?_
        refine lv_bipush (v := 10) hx hb dX5_sayTerm_159 (by decide) ?_
        refine lv_irem hx hb dX5_sayTerm_161 (by decide) ?_
        refine lv_iadd hx hb dX5_sayTerm_162 ?_
        obtain ⟨_, u_10, h_8, hf⟩ := bnd_some hf
        refine cx_callv C (va_runV (As := [.int x1, .int (48 + ((x5 / x6) - (x5 / x6) / 10 * 10))]) (rest := []) ⟨hx, hb, hml, hown, hts⟩ (k_X5_say l ad ck D tt h_8 _) (cwV 2 hts gX5_sayTerm_X5_say rfl rfl rfl (by decide +kernel) ⟨Nat.le_of_ble_eq_true rfl, Nat.le_of_ble_eq_true rfl⟩) (cx_preV C (q0 := 0) (ci := 5) rfl rfl) rfl rfl hl.1 rfl (lv_room (Nat.le_of_ble_eq_true rfl)) dX5_sayTerm_163 ⟨Nat.zero_le _, Nat.zero_le _⟩) (fun H locs C => ?_)
        refine lv_iload hx hb dX5_sayTerm_166 (lv_at hl 6 rfl) ?_
        refine lv_bipush (v := 10) hx hb dX5_sayTerm_168 (by decide) ?_
        refine lv_idiv hx hb dX5_sayTerm_170 (by decide) ?_
        refine lv_topi (fun x6_11 ex6_11 => ?_)
        replace hf := lt_at hf ex6_11
        refine lv_istore (lv' := [(6, .int x6_11), (0, .ref (ad 0)), (1, .int x1), (2, .int x2), (3, .int x3), (4, .int x4), (5, .int x5)]) hx hb dX5_sayTerm_171 hl (by decide) rfl (fun ls hl => ?_)
        refine lv_goto (tgt := 145) hx hb dX5_sayTerm_173 (by decide) ?_
        exact ih145 x1 x2 x3 x4 x5 x6_11 u_10 _ _ _ hf C (lv_sub hl [1, 2, 3, 4, 5, 6, 0] rfl)
  have J125 : ∀ (n125 : Nat) (x1 : Int32) (x2 : Int32) (x3 : Int32) (x4 : Int32) (x5 : Int32) (x6 : Int32) (w : St) (H : Heap) (locs : List Loc) (ls : Array Slot), fX5_sayTerm_125 n125 x1 x2 x3 x4 x5 x6 w = some ((), u') → CX (wM ad ck) ck D tt (va_A (wM ad ck u) sz) s w H locs → lv_has ls 8 [(0, .ref (ad 0)), (1, .int x1), (2, .int x2), (3, .int x3), (4, .int x4), (5, .int x5), (6, .int x6)] → W p l e (headSpec wsX5_sayTerm rmX5_sayTerm).room s m ([.ref (ad 0), .int a1, .int a2] : List Value).toArray below meth c H locs 0 0 (MQ below (QV (wM ad ck) D u sz u') ([.ref (ad 0), .int a1, .int a2] : List Value).toArray s 0 0 (va_A (wM ad ck u) sz)) (F0 m 125 ls []) := by
    intro n125
    induction n125 with
    | zero =>
      intro x1 x2 x3 x4 x5 x6 w H locs ls hf
      have hf : (none : Option (Unit × St)) = some ((), u') := hf
      cases hf
    | succ n125 ih125 =>
      intro x1 x2 x3 x4 x5 x6 w H locs ls hf C hl
      rw [fX5_sayTerm_125] at hf
      refine lv_iload hx hb dX5_sayTerm_125 (lv_at hl 5 rfl) ?_
      refine lv_iload hx hb dX5_sayTerm_127 (lv_at hl 6 rfl) ?_
      obtain ⟨g_1, hf⟩ := gd_some hf
      refine lv_idiv hx hb dX5_sayTerm_129 (of_decide_eq_true g_1) ?_
      refine lv_bipush (v := 9) hx hb dX5_sayTerm_130 (by decide) ?_
      refine lv_icmp_le (tgt := 145) hx hb dX5_sayTerm_132 (by decide) (fun c_2 => ?_) (fun c_2 => ?_)
      · replace hf := (if_pos c_2).symm.trans hf
        exact J145 FU x1 x2 x3 x4 x5 x6 w _ _ _ hf C (lv_sub hl [0, 1, 2, 3, 4, 5, 6] rfl)
      · replace hf := (if_neg c_2).symm.trans hf
        refine lv_iload hx hb dX5_sayTerm_135 (lv_at hl 6 rfl) ?_
        refine lv_bipush (v := 10) hx hb dX5_sayTerm_137 (by decide) ?_
        refine lv_imul hx hb dX5_sayTerm_139 ?_
        refine lv_topi (fun x6_3 ex6_3 => ?_)
        replace hf := lt_at hf ex6_3
        refine lv_istore (lv' := [(6, .int x6_3), (0, .ref (ad 0)), (1, .int x1), (2, .int x2), (3, .int x3), (4, .int x4), (5, .int x5)]) hx hb dX5_sayTerm_140 hl (by decide) rfl (fun ls hl => ?_)
        refine lv_goto (tgt := 125) hx hb dX5_sayTerm_142 (by decide) ?_
        exact ih125 x1 x2 x3 x4 x5 x6_3 w _ _ _ hf C (lv_sub hl [1, 2, 3, 4, 5, 6, 0] rfl)
  have J92 : ∀ (n92 : Nat) (x1 : Int32) (x2 : Int32) (x3 : Int32) (x4 : Int32) (x5 : Int32) (w : St) (H : Heap) (locs : List Loc) (ls : Array Slot), fX5_sayTerm_92 n92 x1 x2 x3 x4 x5 w = some ((), u') → CX (wM ad ck) ck D tt (va_A (wM ad ck u) sz) s w H locs → lv_has ls 8 [(0, .ref (ad 0)), (1, .int x1), (2, .int x2), (3, .int x3), (4, .int x4), (5, .int x5)] → W p l e (headSpec wsX5_sayTerm rmX5_sayTerm).room s m ([.ref (ad 0), .int a1, .int a2] : List Value).toArray below meth c H locs 0 0 (MQ below (QV (wM ad ck) D u sz u') ([.ref (ad 0), .int a1, .int a2] : List Value).toArray s 0 0 (va_A (wM ad ck u) sz)) (F0 m 92 ls []) := by
    intro n92
    induction n92 with
    | zero =>
      intro x1 x2 x3 x4 x5 w H locs ls hf
      have hf : (none : Option (Unit × St)) = some ((), u') := hf
      cases hf
    | succ n92 ih92 =>
      intro x1 x2 x3 x4 x5 w H locs ls hf C hl
      rw [fX5_sayTerm_92] at hf
      refine lv_iload hx hb dX5_sayTerm_92 (lv_at hl 5 rfl) ?_
      refine lv_aload_n hx hb dX5_sayTerm_94 rfl (lv_at hl 0 rfl) ?_
      refine cx_get C hx hb (T := TX5) (N := 28) hts (by decide +kernel) hown 0 rfl rfl 4 (by decide) (hts (.fieldLink RX5 17 "AggregateRowsModel" "scales" "[I") (by decide +kernel)) (fun _ h9 => h9) (v := .ref (ad 3)) rfl dX5_sayTerm_95 ?_
      refine lv_iload_n hx hb dX5_sayTerm_98 rfl (lv_at hl 2 rfl) ?_
      obtain ⟨g_1, hf⟩ := gd_some hf
      refine cx_iald C hx hb 3 rfl g_1 dX5_sayTerm_99 ?_
      refine lv_icmp_ge (tgt := 116) hx hb dX5_sayTerm_100 (by decide) (fun c_2 => ?_) (fun c_2 => ?_)
      · replace hf := (if_pos c_2).symm.trans hf
        refine lv_iload_n hx hb dX5_sayTerm_116 rfl (lv_at hl 3 rfl) ?_
        refine lv_iload hx hb dX5_sayTerm_117 (lv_at hl 4 rfl) ?_
        obtain ⟨g_3, hf⟩ := gd_some hf
        refine lv_idiv hx hb dX5_sayTerm_119 (of_decide_eq_true g_3) ?_
        refine lv_topi (fun x5_4 ex5_4 => ?_)
        replace hf := lt_at hf ex5_4
        refine lv_istore (lv' := [(5, .int x5_4), (0, .ref (ad 0)), (1, .int x1), (2, .int x2), (3, .int x3), (4, .int x4)]) hx hb dX5_sayTerm_120 hl (by decide) rfl (fun ls hl => ?_)
        refine lv_iconst (v := 1) hx hb dX5_sayTerm_122 (by decide) ?_
        refine lv_istore (lv' := [(6, .int 1), (5, .int x5_4), (0, .ref (ad 0)), (1, .int x1), (2, .int x2), (3, .int x3), (4, .int x4)]) hx hb dX5_sayTerm_123 hl (by decide) rfl (fun ls hl => ?_)
        exact J125 FU x1 x2 x3 x4 x5_4 1 w _ _ _ hf C (lv_sub hl [2, 3, 4, 5, 6, 1, 0] rfl)
      · replace hf := (if_neg c_2).symm.trans hf
        refine lv_iload hx hb dX5_sayTerm_103 (lv_at hl 4 rfl) ?_
        refine lv_bipush (v := 10) hx hb dX5_sayTerm_105 (by decide) ?_
        refine lv_imul hx hb dX5_sayTerm_107 ?_
        refine lv_topi (fun x4_5 ex4_5 => ?_)
        replace hf := lt_at hf ex4_5
        refine lv_istore (lv' := [(4, .int x4_5), (0, .ref (ad 0)), (1, .int x1), (2, .int x2), (3, .int x3), (5, .int x5)]) hx hb dX5_sayTerm_108 hl (by decide) rfl (fun ls hl => ?_)
        obtain ⟨x5_6, ex5_6⟩ : ∃ y : Int32, y = x5 + 1 := ⟨_, rfl⟩
        replace hf := lt_at hf ex5_6
        refine lv_iinc (v := x5_6) (lv' := [(5, .int x5_6), (4, .int x4_5), (0, .ref (ad 0)), (1, .int x1), (2, .int x2), (3, .int x3)]) hx hb dX5_sayTerm_110 hl (k := 5) rfl (by rw [ex5_6]; rfl) (by decide) rfl (fun ls hl => ?_)
        refine lv_goto (tgt := 92) hx hb dX5_sayTerm_113 (by decide) ?_
        exact ih92 x1 x2 x3 x4_5 x5_6 w _ _ _ hf C (lv_sub hl [2, 3, 4, 5, 1, 0] rfl)
  have J86 : ∀ (x1 : Int32) (x2 : Int32) (x3 : Int32) (w : St) (H : Heap) (locs : List Loc) (ls : Array Slot), fX5_sayTerm_86 x1 x2 x3 w = some ((), u') → CX (wM ad ck) ck D tt (va_A (wM ad ck u) sz) s w H locs → lv_has ls 8 [(0, .ref (ad 0)), (1, .int x1), (2, .int x2), (3, .int x3)] → W p l e (headSpec wsX5_sayTerm rmX5_sayTerm).room s m ([.ref (ad 0), .int a1, .int a2] : List Value).toArray below meth c H locs 0 0 (MQ below (QV (wM ad ck) D u sz u') ([.ref (ad 0), .int a1, .int a2] : List Value).toArray s 0 0 (va_A (wM ad ck u) sz)) (F0 m 86 ls []) := by
    intro x1 x2 x3 w H locs ls hf C hl
    unfold fX5_sayTerm_86 at hf
    refine lv_iconst (v := 1) hx hb dX5_sayTerm_86 (by decide) ?_
    refine lv_istore (lv' := [(4, .int 1), (0, .ref (ad 0)), (1, .int x1), (2, .int x2), (3, .int x3)]) hx hb dX5_sayTerm_87 hl (by decide) rfl (fun ls hl => ?_)
    refine lv_iconst (v := 0) hx hb dX5_sayTerm_89 (by decide) ?_
    refine lv_istore (lv' := [(5, .int 0), (4, .int 1), (0, .ref (ad 0)), (1, .int x1), (2, .int x2), (3, .int x3)]) hx hb dX5_sayTerm_90 hl (by decide) rfl (fun ls hl => ?_)
    exact J92 FU x1 x2 x3 1 0 w _ _ _ hf C (lv_sub hl [2, 3, 4, 5, 1, 0] rfl)
  have J69 : ∀ (x1 : Int32) (x2 : Int32) (y0 : Int32) (w : St) (H : Heap) (locs : List Loc) (ls : Array Slot), fX5_sayTerm_69 x1 x2 y0 w = some ((), u') → CX (wM ad ck) ck D tt (va_A (wM ad ck u) sz) s w H locs → lv_has ls 8 [(0, .ref (ad 0)), (1, .int x1), (2, .int x2)] → W p l e (headSpec wsX5_sayTerm rmX5_sayTerm).room s m ([.ref (ad 0), .int a1, .int a2] : List Value).toArray below meth c H locs 0 0 (MQ below (QV (wM ad ck) D u sz u') ([.ref (ad 0), .int a1, .int a2] : List Value).toArray s 0 0 (va_A (wM ad ck u) sz)) (F0 m 69 ls [.int y0]) := by
    intro x1 x2 y0 w H locs ls hf C hl
    unfold fX5_sayTerm_69 at hf
    refine lv_istore_n (lv' := [(3, .int y0), (0, .ref (ad 0)), (1, .int x1), (2, .int x2)]) hx hb dX5_sayTerm_69 rfl hl (by decide) rfl (fun ls hl => ?_)
    refine lv_aload_n hx hb dX5_sayTerm_70 rfl (lv_at hl 1 rfl) ?_
    refine cx_get C hx hb (T := TX5) (N := 28) hts (by decide +kernel) hown 0 rfl rfl 3 (by decide) (hts (.fieldLink RX5 13 "AggregateRowsModel" "units" "[I") (by decide +kernel)) (fun _ h9 => h9) (v := .ref (ad 2)) rfl dX5_sayTerm_71 ?_
    refine lv_iload_n hx hb dX5_sayTerm_74 rfl (lv_at hl 3 rfl) ?_
    obtain ⟨g_1, hf⟩ := gd_some hf
    refine cx_iald C hx hb 2 rfl g_1 dX5_sayTerm_75 ?_
    refine lv_if_ge (tgt := 86) hx hb dX5_sayTerm_76 (by decide) (fun c_2 => ?_) (fun c_2 => ?_)
    · replace hf := (if_pos c_2).symm.trans hf
      exact J86 x1 x2 y0 w _ _ _ hf C (lv_sub hl [1, 2, 3, 0] rfl)
    · replace hf := (if_neg c_2).symm.trans hf
      refine lv_aload_n hx hb dX5_sayTerm_79 rfl (lv_at hl 1 rfl) ?_
      refine lv_iload_n hx hb dX5_sayTerm_80 rfl (lv_at hl 2 rfl) ?_
      refine lv_bipush (v := 45) hx hb dX5_sayTerm_81 (by decide) ?_
      obtain ⟨_, u_5, h_3, hf⟩ := bnd_some hf
      refine cx_callv C (va_runV (As := [.int x1, .int 45]) (rest := []) ⟨hx, hb, hml, hown, hts⟩ (k_X5_say l ad ck D tt h_3 _) (cwV 2 hts gX5_sayTerm_X5_say rfl rfl rfl (by decide +kernel) ⟨Nat.le_of_ble_eq_true rfl, Nat.le_of_ble_eq_true rfl⟩) (cx_preV C (q0 := 0) (ci := 5) rfl rfl) rfl rfl hl.1 rfl (lv_room (Nat.le_of_ble_eq_true rfl)) dX5_sayTerm_83 ⟨Nat.zero_le _, Nat.zero_le _⟩) (fun H locs C => ?_)
      exact J86 x1 x2 y0 u_5 _ _ _ hf C (lv_sub hl [1, 2, 3, 0] rfl)
  have J11 : ∀ (n11 : Nat) (x1 : Int32) (x2 : Int32) (x3 : Int32) (w : St) (H : Heap) (locs : List Loc) (ls : Array Slot), fX5_sayTerm_11 n11 x1 x2 x3 w = some ((), u') → CX (wM ad ck) ck D tt (va_A (wM ad ck u) sz) s w H locs → lv_has ls 8 [(0, .ref (ad 0)), (1, .int x1), (2, .int x2), (3, .int x3)] → W p l e (headSpec wsX5_sayTerm rmX5_sayTerm).room s m ([.ref (ad 0), .int a1, .int a2] : List Value).toArray below meth c H locs 0 0 (MQ below (QV (wM ad ck) D u sz u') ([.ref (ad 0), .int a1, .int a2] : List Value).toArray s 0 0 (va_A (wM ad ck u) sz)) (F0 m 11 ls []) := by
    intro n11
    induction n11 with
    | zero =>
      intro x1 x2 x3 w H locs ls hf
      have hf : (none : Option (Unit × St)) = some ((), u') := hf
      cases hf
    | succ n11 ih11 =>
      intro x1 x2 x3 w H locs ls hf C hl
      rw [fX5_sayTerm_11] at hf
      refine lv_iload_n hx hb dX5_sayTerm_11 rfl (lv_at hl 3 rfl) ?_
      refine lv_aload_n hx hb dX5_sayTerm_12 rfl (lv_at hl 0 rfl) ?_
      refine cx_get C hx hb (T := TX5) (N := 28) hts (by decide +kernel) hown 0 rfl rfl 5 (by decide) (hts (.fieldLink RX5 20 "AggregateRowsModel" "sizes" "[I") (by decide +kernel)) (fun _ h9 => h9) (v := .ref (ad 4)) rfl dX5_sayTerm_13 ?_
      refine lv_iload_n hx hb dX5_sayTerm_16 rfl (lv_at hl 2 rfl) ?_
      obtain ⟨g_1, hf⟩ := gd_some hf
      refine cx_iald C hx hb 4 rfl g_1 dX5_sayTerm_17 ?_
      refine lv_icmp_ge (tgt := 43) hx hb dX5_sayTerm_18 (by decide) (fun c_2 => ?_) (fun c_2 => ?_)
      · replace hf := (if_pos c_2).symm.trans hf
        exact cx_vret C hx hb hr hlocks hf dX5_sayTerm_43
      · replace hf := (if_neg c_2).symm.trans hf
        refine lv_aload_n hx hb dX5_sayTerm_21 rfl (lv_at hl 0 rfl) ?_
        refine lv_iload_n hx hb dX5_sayTerm_22 rfl (lv_at hl 1 rfl) ?_
        refine lv_aload_n hx hb dX5_sayTerm_23 rfl (lv_at hl 0 rfl) ?_
        refine cx_get C hx hb (T := TX5) (N := 28) hts (by decide +kernel) hown 0 rfl rfl 6 (by decide) (hts (.fieldLink RX5 23 "AggregateRowsModel" "letters" "[I") (by decide +kernel)) (fun _ h9 => h9) (v := .ref (ad 5)) rfl dX5_sayTerm_24 ?_
        refine lv_bipush (v := 8) hx hb dX5_sayTerm_27 (by decide) ?_
        refine lv_iload_n hx hb dX5_sayTerm_29 rfl (lv_at hl 2 rfl) ?_
        refine lv_imul hx hb dX5_sayTerm_30 ?_
        refine lv_iload_n hx hb dX5_sayTerm_31 rfl (lv_at hl 3 rfl) ?_
        refine lv_iadd hx hb dX5_sayTerm_32 ?_
        obtain ⟨g_3, hf⟩ := gd_some hf
        refine cx_iald C hx hb 5 rfl g_3 dX5_sayTerm_33 ?_
        obtain ⟨_, u_6, h_4, hf⟩ := bnd_some hf
        refine cx_callv C (va_runV (As := [.int x1, .int (w.2.1 4 ((8 * x2) + x3).toNatClampNeg)]) (rest := []) ⟨hx, hb, hml, hown, hts⟩ (k_X5_say l ad ck D tt h_4 _) (cwV 2 hts gX5_sayTerm_X5_say rfl rfl rfl (by decide +kernel) ⟨Nat.le_of_ble_eq_true rfl, Nat.le_of_ble_eq_true rfl⟩) (cx_preV C (q0 := 0) (ci := 5) rfl rfl) rfl rfl hl.1 rfl (lv_room (Nat.le_of_ble_eq_true rfl)) dX5_sayTerm_34 ⟨Nat.zero_le _, Nat.zero_le _⟩) (fun H locs C => ?_)
        obtain ⟨x3_7, ex3_7⟩ : ∃ y : Int32, y = x3 + 1 := ⟨_, rfl⟩
        replace hf := lt_at hf ex3_7
        refine lv_iinc (v := x3_7) (lv' := [(3, .int x3_7), (0, .ref (ad 0)), (1, .int x1), (2, .int x2)]) hx hb dX5_sayTerm_37 hl (k := 3) rfl (by rw [ex3_7]; rfl) (by decide) rfl (fun ls hl => ?_)
        refine lv_goto (tgt := 11) hx hb dX5_sayTerm_40 (by decide) ?_
        exact ih11 x1 x2 x3_7 u_6 _ _ _ hf C (lv_sub hl [1, 2, 3, 0] rfl)
  have hl := lv_entry ([.ref (ad 0), .int a1, .int a2]) (n := 8) (Nat.le_of_ble_eq_true rfl)
  rw [lg_entry_eq]
  generalize (lg_sl ([.ref (ad 0), .int a1, .int a2]) ++ List.replicate (8 - (lg_sl ([.ref (ad 0), .int a1, .int a2])).length) Slot.unset).toArray = ls at hl ⊢
  have hl : lv_has ls 8 [(0, .ref (ad 0)), (1, .int a1), (2, .int a2)] := hl
  unfold fX5_sayTerm at hf
  refine lv_aload_n hx hb dX5_sayTerm_0 rfl (lv_at hl 0 rfl) ?_
  refine cx_get C hx hb (T := TX5) (N := 28) hts (by decide +kernel) hown 0 rfl rfl 2 (by decide) (hts (.fieldLink RX5 7 "AggregateRowsModel" "isText" "[Z") (by decide +kernel)) (fun _ h9 => h9) (v := .ref (ad 1)) rfl dX5_sayTerm_1 ?_
  refine lv_iload_n hx hb dX5_sayTerm_4 rfl (lv_at hl 2 rfl) ?_
  obtain ⟨g_1, hf⟩ := gd_some hf
  refine cx_zald C hx hb 1 rfl g_1 dX5_sayTerm_5 ?_
  refine lv_if_eq (tgt := 44) hx hb dX5_sayTerm_6 (by decide) (fun c_2 => ?_) (fun c_2 => ?_)
  · replace hf := (if_pos c_2).symm.trans hf
    refine lv_aload_n hx hb dX5_sayTerm_44 rfl (lv_at hl 0 rfl) ?_
    refine cx_get C hx hb (T := TX5) (N := 28) hts (by decide +kernel) hown 0 rfl rfl 3 (by decide) (hts (.fieldLink RX5 13 "AggregateRowsModel" "units" "[I") (by decide +kernel)) (fun _ h9 => h9) (v := .ref (ad 2)) rfl dX5_sayTerm_45 ?_
    refine lv_iload_n hx hb dX5_sayTerm_48 rfl (lv_at hl 2 rfl) ?_
    obtain ⟨g_3, hf⟩ := gd_some hf
    refine cx_iald C hx hb 2 rfl g_3 dX5_sayTerm_49 ?_
    refine lv_if_ge (tgt := 63) hx hb dX5_sayTerm_50 (by decide) (fun c_4 => ?_) (fun c_4 => ?_)
    · replace hf := (if_pos c_4).symm.trans hf
      refine lv_aload_n hx hb dX5_sayTerm_63 rfl (lv_at hl 0 rfl) ?_
      refine cx_get C hx hb (T := TX5) (N := 28) hts (by decide +kernel) hown 0 rfl rfl 3 (by decide) (hts (.fieldLink RX5 13 "AggregateRowsModel" "units" "[I") (by decide +kernel)) (fun _ h9 => h9) (v := .ref (ad 2)) rfl dX5_sayTerm_64 ?_
      refine lv_iload_n hx hb dX5_sayTerm_67 rfl (lv_at hl 2 rfl) ?_
      obtain ⟨g_5, hf⟩ := gd_some hf
      refine cx_iald C hx hb 2 rfl g_5 dX5_sayTerm_68 ?_
      exact J69 a1 a2 (u.2.1 1 a2.toNatClampNeg) u _ _ _ hf C (lv_sub hl [0, 1, 2] rfl)
    · replace hf := (if_neg c_4).symm.trans hf
      refine lv_aload_n hx hb dX5_sayTerm_53 rfl (lv_at hl 0 rfl) ?_
      refine cx_get C hx hb (T := TX5) (N := 28) hts (by decide +kernel) hown 0 rfl rfl 3 (by decide) (hts (.fieldLink RX5 13 "AggregateRowsModel" "units" "[I") (by decide +kernel)) (fun _ h9 => h9) (v := .ref (ad 2)) rfl dX5_sayTerm_54 ?_
      refine lv_iload_n hx hb dX5_sayTerm_57 rfl (lv_at hl 2 rfl) ?_
      obtain ⟨g_6, hf⟩ := gd_some hf
      refine cx_iald C hx hb 2 rfl g_6 dX5_sayTerm_58 ?_
      refine lv_ineg hx hb dX5_sayTerm_59 ?_
      refine lv_goto (tgt := 69) hx hb dX5_sayTerm_60 (by decide) ?_
      exact J69 a1 a2 (-(u.2.1 1 a2.toNatClampNeg)) u _ _ _ hf C (lv_sub hl [0, 1, 2] rfl)
  · replace hf := (if_neg c_2).symm.trans hf
    refine lv_iconst (v := 0) hx hb dX5_sayTerm_9 (by decide) ?_
    refine lv_istore_n (lv' := [(3, .int 0), (0, .ref (ad 0)), (1, .int a1), (2, .int a2)]) hx hb dX5_sayTerm_10 rfl hl (by decide) rfl (fun ls hl => ?_)
    exact J11 FU a1 a2 0 u _ _ _ hf C (lv_sub hl [1, 2, 3, 0] rfl)
/-! ===== X5_tellTerm ===== -/
def fX5_tellTerm (u : St) (a1 : Int32) (a2 : Int32) : Option (Unit × St) := (if a2 = (-1) then gd (okI a1 60) (lt_ (sI u 10 a1.toNatClampNeg 3) (fun u_18 => some ((), u_18))) else gd (okI a1 60) (lt_ (sI u 12 a1.toNatClampNeg a2) (fun u_3 => gd (okI a2 60) ((if (u_3.2.1 0 a2.toNatClampNeg) = 0 then bnd (fX5_thousandths u_3 a2) (fun r_7 u_8 => bnd (fX5_tellNumber u_8 a1 r_7 1000) (fun _ u_11 => some ((), u_11))) else gd (okI a1 60) (lt_ (sI u_3 10 a1.toNatClampNeg 1) (fun u_13 => bnd (fX5_sayTerm u_13 a1 a2) (fun _ u_16 => some ((), u_16)))))))))
abbrev rmX5_tellTerm : Room := { frames := 2, cells := 0, slots := 0, locals := 49 }
set_option maxHeartbeats 4000000 in
set_option maxRecDepth 100000 in
theorem k_X5_tellTerm (l : Launch) (ad : Nat → Nat) (ck : Nat → ClassId) (D : va_G) (tt : Nat) {u : St} {a1 : Int32} {a2 : Int32} {u' : St} (hf : fX5_tellTerm u a1 a2 = some ((), u')) : MV l yX5_tellTerm wsX5_tellTerm rmX5_tellTerm (wM ad ck) ck D tt [.ref (ad 0), .int a1, .int a2] u u' := by
  intro sz
  refine Met.ofW (cc := cX5_tellTerm) (maxL := 3) (ret := none) (by decide) rfl ?_
  intro p e s m args below meth c s₁ B hml hv
  obtain ⟨rfl, hsz, C⟩ := cx_entry hv
  have hx := B.exec
  have hb := B.bytes
  have hr := B.returns
  have hts := atoms_spec (ws := wsX5_tellTerm) B.pre
  have hown : s.vm.findClass RX5 = some m.cls := findClass_of_methodNamed B.named
  have hlocks := B.notSynchronized
  have hl := lv_entry ([.ref (ad 0), .int a1, .int a2]) (n := 3) (Nat.le_of_ble_eq_true rfl)
  rw [lg_entry_eq]
  generalize (lg_sl ([.ref (ad 0), .int a1, .int a2]) ++ List.replicate (3 - (lg_sl ([.ref (ad 0), .int a1, .int a2])).length) Slot.unset).toArray = ls at hl ⊢
  have hl : lv_has ls 3 [(0, .ref (ad 0)), (1, .int a1), (2, .int a2)] := hl
  unfold fX5_tellTerm at hf
  refine lv_iload_n hx hb dX5_tellTerm_0 rfl (lv_at hl 2 rfl) ?_
  refine lv_iconst (v := (-1)) hx hb dX5_tellTerm_1 (by decide) ?_
  refine lv_icmp_ne (tgt := 13) hx hb dX5_tellTerm_2 (by decide) (fun c_1 => ?_) (fun c_1 => ?_)
  · replace hf := (if_neg c_1).symm.trans hf
    refine lv_aload_n hx hb dX5_tellTerm_13 rfl (lv_at hl 0 rfl) ?_
    refine cx_get C hx hb (T := TX5) (N := 28) hts (by decide +kernel) hown 0 rfl rfl 21 (by decide) (hts (.fieldLink RX5 54 "AggregateRowsModel" "groupTerm" "[I") (by decide +kernel)) (fun _ h9 => h9) (v := .ref (ad 15)) rfl dX5_tellTerm_14 ?_
    refine lv_iload_n hx hb dX5_tellTerm_17 rfl (lv_at hl 1 rfl) ?_
    refine lv_iload_n hx hb dX5_tellTerm_18 rfl (lv_at hl 2 rfl) ?_
    obtain ⟨g_2, hf⟩ := gd_some hf
    refine cx_iast C hx hb 15 rfl g_2 (u1 := sI u 12 a1.toNatClampNeg a2) rfl dX5_tellTerm_19 (fun u_3 H locs eu_3 C => ?_)
    replace hf := lt_at hf eu_3
    refine lv_aload_n hx hb dX5_tellTerm_20 rfl (lv_at hl 0 rfl) ?_
    refine cx_get C hx hb (T := TX5) (N := 28) hts (by decide +kernel) hown 0 rfl rfl 2 (by decide) (hts (.fieldLink RX5 7 "AggregateRowsModel" "isText" "[Z") (by decide +kernel)) (fun _ h9 => h9) (v := .ref (ad 1)) rfl dX5_tellTerm_21 ?_
    refine lv_iload_n hx hb dX5_tellTerm_24 rfl (lv_at hl 2 rfl) ?_
    obtain ⟨g_4, hf⟩ := gd_some hf
    refine cx_zald C hx hb 1 rfl g_4 dX5_tellTerm_25 ?_
    refine lv_if_eq (tgt := 45) hx hb dX5_tellTerm_26 (by decide) (fun c_5 => ?_) (fun c_5 => ?_)
    · replace hf := (if_pos c_5).symm.trans hf
      refine lv_aload_n hx hb dX5_tellTerm_45 rfl (lv_at hl 0 rfl) ?_
      refine lv_iload_n hx hb dX5_tellTerm_46 rfl (lv_at hl 1 rfl) ?_
      refine lv_aload_n hx hb dX5_tellTerm_47 rfl (lv_at hl 0 rfl) ?_
      refine lv_iload_n hx hb dX5_tellTerm_48 rfl (lv_at hl 2 rfl) ?_
      obtain ⟨r_7, u_8, h_6, hf⟩ := bnd_some hf
      refine cx_calll C (va_runV (As := [.int a2]) (rest := [.int a1, .ref (ad 0)]) ⟨hx, hb, hml, hown, hts⟩ (k_X5_thousandths l ad ck D tt h_6 _) (cwV 1 hts gX5_tellTerm_X5_thousandths rfl rfl rfl (by decide +kernel) ⟨Nat.le_of_ble_eq_true rfl, Nat.le_of_ble_eq_true rfl⟩) (cx_preV C (q0 := 0) (ci := 5) rfl rfl) rfl rfl hl.1 rfl (lv_room (Nat.le_of_ble_eq_true rfl)) dX5_tellTerm_49 ⟨Nat.zero_le _, Nat.zero_le _⟩) (fun H locs C => ?_)
      refine lv_ldc2 (v := 1000) hx hb hown (hts (.constantLong RX5 144 (1000)) (by decide +kernel)) dX5_tellTerm_52 ?_
      obtain ⟨_, u_11, h_9, hf⟩ := bnd_some hf
      refine cx_callv C (va_runV (As := [.int a1, .long r_7, .long 1000]) (rest := []) ⟨hx, hb, hml, hown, hts⟩ (k_X5_tellNumber l ad ck D tt h_9 _) (cwV 3 hts gX5_tellTerm_X5_tellNumber rfl rfl rfl (by decide +kernel) ⟨Nat.le_of_ble_eq_true rfl, Nat.le_of_ble_eq_true rfl⟩) (cx_preV C (q0 := 0) (ci := 5) rfl rfl) rfl rfl hl.1 rfl (lv_room (Nat.le_of_ble_eq_true rfl)) dX5_tellTerm_55 ⟨Nat.zero_le _, Nat.zero_le _⟩) (fun H locs C => ?_)
      exact cx_vret C hx hb hr hlocks hf dX5_tellTerm_58
    · replace hf := (if_neg c_5).symm.trans hf
      refine lv_aload_n hx hb dX5_tellTerm_29 rfl (lv_at hl 0 rfl) ?_
      refine cx_get C hx hb (T := TX5) (N := 28) hts (by decide +kernel) hown 0 rfl rfl 17 (by decide) (hts (.fieldLink RX5 41 "AggregateRowsModel" "groupSort" "[I") (by decide +kernel)) (fun _ h9 => h9) (v := .ref (ad 11)) rfl dX5_tellTerm_30 ?_
      refine lv_iload_n hx hb dX5_tellTerm_33 rfl (lv_at hl 1 rfl) ?_
      refine lv_iconst (v := 1) hx hb dX5_tellTerm_34 (by decide) ?_
      obtain ⟨g_12, hf⟩ := gd_some hf
      refine cx_iast C hx hb 11 rfl g_12 (u1 := sI u_3 10 a1.toNatClampNeg 1) rfl dX5_tellTerm_35 (fun u_13 H locs eu_13 C => ?_)
      replace hf := lt_at hf eu_13
      refine lv_aload_n hx hb dX5_tellTerm_36 rfl (lv_at hl 0 rfl) ?_
      refine lv_iload_n hx hb dX5_tellTerm_37 rfl (lv_at hl 1 rfl) ?_
      refine lv_iload_n hx hb dX5_tellTerm_38 rfl (lv_at hl 2 rfl) ?_
      obtain ⟨_, u_16, h_14, hf⟩ := bnd_some hf
      refine cx_callv C (va_runV (As := [.int a1, .int a2]) (rest := []) ⟨hx, hb, hml, hown, hts⟩ (k_X5_sayTerm l ad ck D tt h_14 _) (cwV 2 hts gX5_tellTerm_X5_sayTerm rfl rfl rfl (by decide +kernel) ⟨Nat.le_of_ble_eq_true rfl, Nat.le_of_ble_eq_true rfl⟩) (cx_preV C (q0 := 0) (ci := 5) rfl rfl) rfl rfl hl.1 rfl (lv_room (Nat.le_of_ble_eq_true rfl)) dX5_tellTerm_39 ⟨Nat.zero_le _, Nat.zero_le _⟩) (fun H locs C => ?_)
      refine lv_goto (tgt := 58) hx hb dX5_tellTerm_42 (by decide) ?_
      exact cx_vret C hx hb hr hlocks hf dX5_tellTerm_58
  · replace hf := (if_pos c_1).symm.trans hf
    refine lv_aload_n hx hb dX5_tellTerm_5 rfl (lv_at hl 0 rfl) ?_
    refine cx_get C hx hb (T := TX5) (N := 28) hts (by decide +kernel) hown 0 rfl rfl 17 (by decide) (hts (.fieldLink RX5 41 "AggregateRowsModel" "groupSort" "[I") (by decide +kernel)) (fun _ h9 => h9) (v := .ref (ad 11)) rfl dX5_tellTerm_6 ?_
    refine lv_iload_n hx hb dX5_tellTerm_9 rfl (lv_at hl 1 rfl) ?_
    refine lv_iconst (v := 3) hx hb dX5_tellTerm_10 (by decide) ?_
    obtain ⟨g_17, hf⟩ := gd_some hf
    refine cx_iast C hx hb 11 rfl g_17 (u1 := sI u 10 a1.toNatClampNeg 3) rfl dX5_tellTerm_11 (fun u_18 H locs eu_18 C => ?_)
    replace hf := lt_at hf eu_18
    exact cx_vret C hx hb hr hlocks hf dX5_tellTerm_12
/-! ===== X5_outermost ===== -/
def fX5_outermost_33 (k4 : Int32 → Int32 → Int32 → St → Option (Int32 × St)) (x1 : Int32) (x3 : Int32) (w : St) : Option (Int32 × St) := gd (okI x3 60) (lt_ (w.2.1 17 x3.toNatClampNeg) (fun x2_2 => lt_ (x3 + 1) (fun x3_3 => k4 x1 x2_2 x3_3 w)))
def fX5_outermost_4  : Nat → Int32 → Int32 → Int32 → St → Option (Int32 × St)
  | 0, _, _, _, _ => none
  | n4 + 1, x1, x2, x3, w => (if (w.1 7) ≤ x3 then some (x2, w) else (if x2 = (-1) then fX5_outermost_33 (fX5_outermost_4 n4) x1 x3 w else gd (okI x3 60) (bnd (fX5_compare w (w.2.1 17 x3.toNatClampNeg) x2) (fun r_5 u_6 => (if (r_5 * x1) ≤ 0 then lt_ (x3 + 1) (fun x3_8 => fX5_outermost_4 n4 x1 x2 x3_8 u_6) else fX5_outermost_33 (fX5_outermost_4 n4) x1 x3 u_6)))))
def fX5_outermost (u : St) (a1 : Int32) : Option (Int32 × St) := fX5_outermost_4 FU a1 (-1) 0 u
abbrev rmX5_outermost : Room := { frames := 2, cells := 0, slots := 0, locals := 50 }
set_option maxHeartbeats 4000000 in
set_option maxRecDepth 100000 in
theorem k_X5_outermost (l : Launch) (ad : Nat → Nat) (ck : Nat → ClassId) (D : va_G) (tt : Nat) {u : St} {a1 : Int32} {r : Int32} {u' : St} (hf : fX5_outermost u a1 = some (r, u')) : MI l yX5_outermost wsX5_outermost rmX5_outermost (wM ad ck) ck D tt [.ref (ad 0), .int a1] u r u' := by
  intro sz
  refine Met.ofW (cc := cX5_outermost) (maxL := 4) (ret := (some .int)) (by decide) rfl ?_
  intro p e s m args below meth c s₁ B hml hv
  obtain ⟨rfl, hsz, C⟩ := cx_entry hv
  have hx := B.exec
  have hb := B.bytes
  have hr := B.returns
  have hts := atoms_spec (ws := wsX5_outermost) B.pre
  have hown : s.vm.findClass RX5 = some m.cls := findClass_of_methodNamed B.named
  have hlocks := B.notSynchronized
  have J4 : ∀ (n4 : Nat) (x1 : Int32) (x2 : Int32) (x3 : Int32) (w : St) (H : Heap) (locs : List Loc) (ls : Array Slot), fX5_outermost_4 n4 x1 x2 x3 w = some (r, u') → CX (wM ad ck) ck D tt (va_A (wM ad ck u) sz) s w H locs → lv_has ls 4 [(0, .ref (ad 0)), (1, .int x1), (2, .int x2), (3, .int x3)] → W p l e (headSpec wsX5_outermost rmX5_outermost).room s m ([.ref (ad 0), .int a1] : List Value).toArray below meth c H locs 0 0 (MQ below (QI (wM ad ck) D u sz r u') ([.ref (ad 0), .int a1] : List Value).toArray s 0 0 (va_A (wM ad ck u) sz)) (F0 m 4 ls []) := by
    intro n4
    induction n4 with
    | zero =>
      intro x1 x2 x3 w H locs ls hf
      have hf : (none : Option (Int32 × St)) = some (r, u') := hf
      cases hf
    | succ n4 ih4 =>
      intro x1 x2 x3 w H locs ls hf C hl
      rw [fX5_outermost_4] at hf
      have J33 : ∀ (x1 : Int32) (x3 : Int32) (w : St) (H : Heap) (locs : List Loc) (ls : Array Slot), fX5_outermost_33 (fX5_outermost_4 n4) x1 x3 w = some (r, u') → CX (wM ad ck) ck D tt (va_A (wM ad ck u) sz) s w H locs → lv_has ls 4 [(0, .ref (ad 0)), (1, .int x1), (3, .int x3)] → W p l e (headSpec wsX5_outermost rmX5_outermost).room s m ([.ref (ad 0), .int a1] : List Value).toArray below meth c H locs 0 0 (MQ below (QI (wM ad ck) D u sz r u') ([.ref (ad 0), .int a1] : List Value).toArray s 0 0 (va_A (wM ad ck u) sz)) (F0 m 33 ls []) := by
        intro x1 x3 w H locs ls hf C hl
        unfold fX5_outermost_33 at hf
        refine lv_aload_n hx hb dX5_outermost_33 rfl (lv_at hl 0 rfl) ?_
        refine cx_get C hx hb (T := TX5) (N := 28) hts (by decide +kernel) hown 0 rfl rfl 27 (by decide) (hts (.fieldLink RX5 69 "AggregateRowsModel" "list" "[I") (by decide +kernel)) (fun _ h9 => h9) (v := .ref (ad 20)) rfl dX5_outermost_34 ?_
        refine lv_iload_n hx hb dX5_outermost_37 rfl (lv_at hl 2 rfl) ?_
        obtain ⟨g_1, hf⟩ := gd_some hf
        refine cx_iald C hx hb 20 rfl g_1 dX5_outermost_38 ?_
        refine lv_goto (tgt := 43) hx hb dX5_outermost_39 (by decide) ?_
        refine lv_topi (fun x2_2 ex2_2 => ?_)
        replace hf := lt_at hf ex2_2
        refine lv_istore_n (lv' := [(2, .int x2_2), (0, .ref (ad 0)), (1, .int x1), (3, .int x3)]) hx hb dX5_outermost_43 rfl hl (by decide) rfl (fun ls hl => ?_)
        obtain ⟨x3_3, ex3_3⟩ : ∃ y : Int32, y = x3 + 1 := ⟨_, rfl⟩
        replace hf := lt_at hf ex3_3
        refine lv_iinc (v := x3_3) (lv' := [(3, .int x3_3), (2, .int x2_2), (0, .ref (ad 0)), (1, .int x1)]) hx hb dX5_outermost_44 hl (k := 3) rfl (by rw [ex3_3]; rfl) (by decide) rfl (fun ls hl => ?_)
        refine lv_goto (tgt := 4) hx hb dX5_outermost_47 (by decide) ?_
        exact ih4 x1 x2_2 x3_3 w _ _ _ hf C (lv_sub hl [2, 3, 1, 0] rfl)
      refine lv_iload_n hx hb dX5_outermost_4 rfl (lv_at hl 3 rfl) ?_
      refine lv_aload_n hx hb dX5_outermost_5 rfl (lv_at hl 0 rfl) ?_
      refine cx_get C hx hb (T := TX5) (N := 28) hts (by decide +kernel) hown 0 rfl rfl 26 (by decide) (hts (.fieldLink RX5 134 "AggregateRowsModel" "many" "I") (by decide +kernel)) (fun _ h9 => h9) (v := .int (w.1 7)) rfl dX5_outermost_6 ?_
      refine lv_icmp_ge (tgt := 50) hx hb dX5_outermost_9 (by decide) (fun c_4 => ?_) (fun c_4 => ?_)
      · replace hf := (if_pos c_4).symm.trans hf
        refine lv_iload_n hx hb dX5_outermost_50 rfl (lv_at hl 2 rfl) ?_
        exact cx_iret C hx hb hr hlocks hf dX5_outermost_51
      · replace hf := (if_neg c_4).symm.trans hf
        refine lv_iload_n hx hb dX5_outermost_12 rfl (lv_at hl 2 rfl) ?_
        refine lv_iconst (v := (-1)) hx hb dX5_outermost_13 (by decide) ?_
        refine lv_icmp_eq (tgt := 33) hx hb dX5_outermost_14 (by decide) (fun c_5 => ?_) (fun c_5 => ?_)
        · replace hf := (if_pos c_5).symm.trans hf
          exact J33 x1 x3 w _ _ _ hf C (lv_sub hl [0, 1, 3] rfl)
        · replace hf := (if_neg c_5).symm.trans hf
          refine lv_aload_n hx hb dX5_outermost_17 rfl (lv_at hl 0 rfl) ?_
          refine lv_aload_n hx hb dX5_outermost_18 rfl (lv_at hl 0 rfl) ?_
          refine cx_get C hx hb (T := TX5) (N := 28) hts (by decide +kernel) hown 0 rfl rfl 27 (by decide) (hts (.fieldLink RX5 69 "AggregateRowsModel" "list" "[I") (by decide +kernel)) (fun _ h9 => h9) (v := .ref (ad 20)) rfl dX5_outermost_19 ?_
          refine lv_iload_n hx hb dX5_outermost_22 rfl (lv_at hl 3 rfl) ?_
          obtain ⟨g_6, hf⟩ := gd_some hf
          refine cx_iald C hx hb 20 rfl g_6 dX5_outermost_23 ?_
          refine lv_iload_n hx hb dX5_outermost_24 rfl (lv_at hl 2 rfl) ?_
          obtain ⟨r_8, u_9, h_7, hf⟩ := bnd_some hf
          refine cx_calli C (va_runV (As := [.int (w.2.1 17 x3.toNatClampNeg), .int x2]) (rest := []) ⟨hx, hb, hml, hown, hts⟩ (k_X5_compare l ad ck D tt h_7 _) (cwV 2 hts gX5_outermost_X5_compare rfl rfl rfl (by decide +kernel) ⟨Nat.le_of_ble_eq_true rfl, Nat.le_of_ble_eq_true rfl⟩) (cx_preV C (q0 := 0) (ci := 5) rfl rfl) rfl rfl hl.1 rfl (lv_room (Nat.le_of_ble_eq_true rfl)) dX5_outermost_25 ⟨Nat.zero_le _, Nat.zero_le _⟩) (fun H locs C => ?_)
          refine lv_iload_n hx hb dX5_outermost_28 rfl (lv_at hl 1 rfl) ?_
          refine lv_imul hx hb dX5_outermost_29 ?_
          refine lv_if_le (tgt := 42) hx hb dX5_outermost_30 (by decide) (fun c_10 => ?_) (fun c_10 => ?_)
          · replace hf := (if_pos c_10).symm.trans hf
            refine lv_iload_n hx hb dX5_outermost_42 rfl (lv_at hl 2 rfl) ?_
            refine lv_istore_n (lv' := [(2, .int x2), (0, .ref (ad 0)), (1, .int x1), (3, .int x3)]) hx hb dX5_outermost_43 rfl hl (by decide) rfl (fun ls hl => ?_)
            obtain ⟨x3_11, ex3_11⟩ : ∃ y : Int32, y = x3 + 1 := ⟨_, rfl⟩
            replace hf := lt_at hf ex3_11
            refine lv_iinc (v := x3_11) (lv' := [(3, .int x3_11), (2, .int x2), (0, .ref (ad 0)), (1, .int x1)]) hx hb dX5_outermost_44 hl (k := 3) rfl (by rw [ex3_11]; rfl) (by decide) rfl (fun ls hl => ?_)
            refine lv_goto (tgt := 4) hx hb dX5_outermost_47 (by decide) ?_
            exact ih4 x1 x2 x3_11 u_9 _ _ _ hf C (lv_sub hl [2, 3, 1, 0] rfl)
          · replace hf := (if_neg c_10).symm.trans hf
            exact J33 x1 x3 u_9 _ _ _ hf C (lv_sub hl [0, 1, 3] rfl)
  have hl := lv_entry ([.ref (ad 0), .int a1]) (n := 4) (Nat.le_of_ble_eq_true rfl)
  rw [lg_entry_eq]
  generalize (lg_sl ([.ref (ad 0), .int a1]) ++ List.replicate (4 - (lg_sl ([.ref (ad 0), .int a1])).length) Slot.unset).toArray = ls at hl ⊢
  have hl : lv_has ls 4 [(0, .ref (ad 0)), (1, .int a1)] := hl
  unfold fX5_outermost at hf
  refine lv_iconst (v := (-1)) hx hb dX5_outermost_0 (by decide) ?_
  refine lv_istore_n (lv' := [(2, .int (-1)), (0, .ref (ad 0)), (1, .int a1)]) hx hb dX5_outermost_1 rfl hl (by decide) rfl (fun ls hl => ?_)
  refine lv_iconst (v := 0) hx hb dX5_outermost_2 (by decide) ?_
  refine lv_istore_n (lv' := [(3, .int 0), (2, .int (-1)), (0, .ref (ad 0)), (1, .int a1)]) hx hb dX5_outermost_3 rfl hl (by decide) rfl (fun ls hl => ?_)
  exact J4 FU a1 (-1) 0 u _ _ _ hf C (lv_sub hl [2, 3, 1, 0] rfl)
/-! ===== X5_sum ===== -/
def fX5_sum_45 (k5 : Int32 → Int64 → Int32 → St → Option (Int64 × St)) (x1 : Int32) (x4 : Int32) (y0 : Int64) (y1 : Int64) (w : St) : Option (Int64 × St) := lt_ (y0 + y1) (fun x2_1 => lt_ (x4 + 1) (fun x4_2 => k5 x1 x2_1 x4_2 w))
def fX5_sum_5  : Nat → Int32 → Int64 → Int32 → St → Option (Int64 × St)
  | 0, _, _, _, _ => none
  | n5 + 1, x1, x2, x4, w => (if (w.1 7) ≤ x4 then some (x2, w) else gd (okI x4 60) (bnd (fX5_thousandths w (w.2.1 17 x4.toNatClampNeg)) (fun r_4 u_5 => (if x1 = 0 then fX5_sum_45 (fX5_sum_5 n5) x1 x4 x2 r_4 u_5 else (if 0 ≤ r_4 then fX5_sum_45 (fX5_sum_5 n5) x1 x4 x2 r_4 u_5 else fX5_sum_45 (fX5_sum_5 n5) x1 x4 x2 0 u_5)))))
def fX5_sum (u : St) (a1 : Int32) : Option (Int64 × St) := fX5_sum_5 FU a1 0 0 u
abbrev rmX5_sum : Room := { frames := 1, cells := 0, slots := 0, locals := 24 }
set_option maxHeartbeats 4000000 in
set_option maxRecDepth 100000 in
theorem k_X5_sum (l : Launch) (ad : Nat → Nat) (ck : Nat → ClassId) (D : va_G) (tt : Nat) {u : St} {a1 : Int32} {r : Int64} {u' : St} (hf : fX5_sum u a1 = some (r, u')) : ML l yX5_sum wsX5_sum rmX5_sum (wM ad ck) ck D tt [.ref (ad 0), .int a1] u r u' := by
  intro sz
  refine Met.ofW (cc := cX5_sum) (maxL := 7) (ret := (some .long)) (by decide) rfl ?_
  intro p e s m args below meth c s₁ B hml hv
  obtain ⟨rfl, hsz, C⟩ := cx_entry hv
  have hx := B.exec
  have hb := B.bytes
  have hr := B.returns
  have hts := atoms_spec (ws := wsX5_sum) B.pre
  have hown : s.vm.findClass RX5 = some m.cls := findClass_of_methodNamed B.named
  have hlocks := B.notSynchronized
  have J5 : ∀ (n5 : Nat) (x1 : Int32) (x2 : Int64) (x4 : Int32) (w : St) (H : Heap) (locs : List Loc) (ls : Array Slot), fX5_sum_5 n5 x1 x2 x4 w = some (r, u') → CX (wM ad ck) ck D tt (va_A (wM ad ck u) sz) s w H locs → lv_has ls 7 [(0, .ref (ad 0)), (1, .int x1), (2, .long x2), (4, .int x4)] → W p l e (headSpec wsX5_sum rmX5_sum).room s m ([.ref (ad 0), .int a1] : List Value).toArray below meth c H locs 0 0 (MQ below (QL (wM ad ck) D u sz r u') ([.ref (ad 0), .int a1] : List Value).toArray s 0 0 (va_A (wM ad ck u) sz)) (F0 m 5 ls []) := by
    intro n5
    induction n5 with
    | zero =>
      intro x1 x2 x4 w H locs ls hf
      have hf : (none : Option (Int64 × St)) = some (r, u') := hf
      cases hf
    | succ n5 ih5 =>
      intro x1 x2 x4 w H locs ls hf C hl
      rw [fX5_sum_5] at hf
      have J45 : ∀ (x1 : Int32) (x4 : Int32) (y0 : Int64) (y1 : Int64) (w : St) (H : Heap) (locs : List Loc) (ls : Array Slot), fX5_sum_45 (fX5_sum_5 n5) x1 x4 y0 y1 w = some (r, u') → CX (wM ad ck) ck D tt (va_A (wM ad ck u) sz) s w H locs → lv_has ls 7 [(0, .ref (ad 0)), (1, .int x1), (4, .int x4)] → W p l e (headSpec wsX5_sum rmX5_sum).room s m ([.ref (ad 0), .int a1] : List Value).toArray below meth c H locs 0 0 (MQ below (QL (wM ad ck) D u sz r u') ([.ref (ad 0), .int a1] : List Value).toArray s 0 0 (va_A (wM ad ck u) sz)) (F0 m 45 ls [.long y1, .long y0]) := by
        intro x1 x4 y0 y1 w H locs ls hf C hl
        unfold fX5_sum_45 at hf
        refine lv_ladd hx hb dX5_sum_45 ?_
        refine lv_topl (fun x2_1 ex2_1 => ?_)
        replace hf := lt_at hf ex2_1
        refine lv_lstore_n (lv' := [(2, .long x2_1), (0, .ref (ad 0)), (1, .int x1), (4, .int x4)]) hx hb dX5_sum_46 rfl hl (by decide) rfl (fun ls hl => ?_)
        obtain ⟨x4_2, ex4_2⟩ : ∃ y : Int32, y = x4 + 1 := ⟨_, rfl⟩
        replace hf := lt_at hf ex4_2
        refine lv_iinc (v := x4_2) (lv' := [(4, .int x4_2), (2, .long x2_1), (0, .ref (ad 0)), (1, .int x1)]) hx hb dX5_sum_47 hl (k := 3) rfl (by rw [ex4_2]; rfl) (by decide) rfl (fun ls hl => ?_)
        refine lv_goto (tgt := 5) hx hb dX5_sum_50 (by decide) ?_
        exact ih5 x1 x2_1 x4_2 w _ _ _ hf C (lv_sub hl [2, 3, 1, 0] rfl)
      refine lv_iload hx hb dX5_sum_5 (lv_at hl 3 rfl) ?_
      refine lv_aload_n hx hb dX5_sum_7 rfl (lv_at hl 0 rfl) ?_
      refine cx_get C hx hb (T := TX5) (N := 28) hts (by decide +kernel) hown 0 rfl rfl 26 (by decide) (hts (.fieldLink RX5 134 "AggregateRowsModel" "many" "I") (by decide +kernel)) (fun _ h9 => h9) (v := .int (w.1 7)) rfl dX5_sum_8 ?_
      refine lv_icmp_ge (tgt := 53) hx hb dX5_sum_11 (by decide) (fun c_3 => ?_) (fun c_3 => ?_)
      · replace hf := (if_pos c_3).symm.trans hf
        refine lv_lload_n hx hb dX5_sum_53 rfl (lv_at hl 2 rfl) ?_
        exact cx_lret C hx hb hr hlocks hf dX5_sum_54
      · replace hf := (if_neg c_3).symm.trans hf
        refine lv_aload_n hx hb dX5_sum_14 rfl (lv_at hl 0 rfl) ?_
        refine lv_aload_n hx hb dX5_sum_15 rfl (lv_at hl 0 rfl) ?_
        refine cx_get C hx hb (T := TX5) (N := 28) hts (by decide +kernel) hown 0 rfl rfl 27 (by decide) (hts (.fieldLink RX5 69 "AggregateRowsModel" "list" "[I") (by decide +kernel)) (fun _ h9 => h9) (v := .ref (ad 20)) rfl dX5_sum_16 ?_
        refine lv_iload hx hb dX5_sum_19 (lv_at hl 3 rfl) ?_
        obtain ⟨g_4, hf⟩ := gd_some hf
        refine cx_iald C hx hb 20 rfl g_4 dX5_sum_21 ?_
        obtain ⟨r_6, u_7, h_5, hf⟩ := bnd_some hf
        refine cx_calll C (va_runV (As := [.int (w.2.1 17 x4.toNatClampNeg)]) (rest := []) ⟨hx, hb, hml, hown, hts⟩ (k_X5_thousandths l ad ck D tt h_5 _) (cwV 1 hts gX5_sum_X5_thousandths rfl rfl rfl (by decide +kernel) ⟨Nat.le_of_ble_eq_true rfl, Nat.le_of_ble_eq_true rfl⟩) (cx_preV C (q0 := 0) (ci := 5) rfl rfl) rfl rfl hl.1 rfl (lv_room (Nat.le_of_ble_eq_true rfl)) dX5_sum_22 ⟨Nat.zero_le _, Nat.zero_le _⟩) (fun H locs C => ?_)
        refine lv_lstore (lv' := [(5, .long r_6), (0, .ref (ad 0)), (1, .int x1), (2, .long x2), (4, .int x4)]) hx hb dX5_sum_25 hl (by decide) rfl (fun ls hl => ?_)
        refine lv_lload_n hx hb dX5_sum_27 rfl (lv_at hl 3 rfl) ?_
        refine lv_iload_n hx hb dX5_sum_28 rfl (lv_at hl 2 rfl) ?_
        refine lv_if_eq (tgt := 43) hx hb dX5_sum_29 (by decide) (fun c_8 => ?_) (fun c_8 => ?_)
        · replace hf := (if_pos c_8).symm.trans hf
          refine lv_lload hx hb dX5_sum_43 (lv_at hl 0 rfl) ?_
          exact J45 x1 x4 x2 r_6 u_7 _ _ _ hf C (lv_sub hl [1, 2, 4] rfl)
        · replace hf := (if_neg c_8).symm.trans hf
          refine lv_lload hx hb dX5_sum_32 (lv_at hl 0 rfl) ?_
          refine lv_lconst (v := 0) hx hb dX5_sum_34 (by decide) ?_
          refine W.lcmp hx hb dX5_sum_35 ?_
          refine lv_if_ge (tgt := 43) hx hb dX5_sum_36 (by decide) (fun c_9 => ?_) (fun c_9 => ?_)
          · replace hf := (if_pos ((lg_cmp_ge _ _).mp c_9)).symm.trans hf
            refine lv_lload hx hb dX5_sum_43 (lv_at hl 0 rfl) ?_
            exact J45 x1 x4 x2 r_6 u_7 _ _ _ hf C (lv_sub hl [1, 2, 4] rfl)
          · replace hf := (if_neg (fun q => c_9 ((lg_cmp_ge _ _).mpr q))).symm.trans hf
            refine lv_lconst (v := 0) hx hb dX5_sum_39 (by decide) ?_
            refine lv_goto (tgt := 45) hx hb dX5_sum_40 (by decide) ?_
            exact J45 x1 x4 x2 0 u_7 _ _ _ hf C (lv_sub hl [1, 2, 4] rfl)
  have hl := lv_entry ([.ref (ad 0), .int a1]) (n := 7) (Nat.le_of_ble_eq_true rfl)
  rw [lg_entry_eq]
  generalize (lg_sl ([.ref (ad 0), .int a1]) ++ List.replicate (7 - (lg_sl ([.ref (ad 0), .int a1])).length) Slot.unset).toArray = ls at hl ⊢
  have hl : lv_has ls 7 [(0, .ref (ad 0)), (1, .int a1)] := hl
  unfold fX5_sum at hf
  refine lv_lconst (v := 0) hx hb dX5_sum_0 (by decide) ?_
  refine lv_lstore_n (lv' := [(2, .long 0), (0, .ref (ad 0)), (1, .int a1)]) hx hb dX5_sum_1 rfl hl (by decide) rfl (fun ls hl => ?_)
  refine lv_iconst (v := 0) hx hb dX5_sum_2 (by decide) ?_
  refine lv_istore (lv' := [(4, .int 0), (2, .long 0), (0, .ref (ad 0)), (1, .int a1)]) hx hb dX5_sum_3 hl (by decide) rfl (fun ls hl => ?_)
  exact J5 FU a1 0 0 u _ _ _ hf C (lv_sub hl [2, 3, 1, 0] rfl)
