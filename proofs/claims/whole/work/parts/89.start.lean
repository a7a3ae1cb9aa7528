theorem st_strs : ∀ q ∈ strs, Cond.stringRef RX4 q.1 q.2 ∈ lw_tbl := by decide +kernel
theorem st_xds : ∀ y ∈ xds, Cond.declares y ∈ lw_tbl := by decide +kernel
set_option maxRecDepth 100000 in
/-- the statics at the start -/
theorem ev_start {p : Program} {s : State} {m : MethodId} {meth : Method} {c : Code} {b L : Nat} {xs : Nat → Int32} (C0 : lw_At p s m meth c b L xs) : ∃ tt : Nat, Ev tt (fun q : Nat => s.heap.size ≤ q) s s.heap := by
  obtain ⟨hx, hb, hr, hml, hown, hts, hX, hbl, hlocks, hgv⟩ := C0
  have hs := flat_of_before _ hgv
  have hA : ∀ a : Nat, a < s.heap.size → ¬ (fun q : Nat => s.heap.size ≤ q) a := fun a h => Nat.not_le.mpr h
  have har : (Cond.arrayOf (.static RX2 "TENS" "[I") .int).before #[Value.ref b] s = true := hs _ (by decide +kernel)
  have hle : (Cond.eq (.length (.static RX2 "TENS" "[I")) (.int 7)).before #[Value.ref b] s = true := hs _ (by decide +kernel)
  have e0 : (Cond.eq (.elem (.static RX2 "TENS" "[I") (.int 0)) (.int 1)).before #[Value.ref b] s = true := hs _ (by decide +kernel)
  have e1 : (Cond.eq (.elem (.static RX2 "TENS" "[I") (.int 1)) (.int 10)).before #[Value.ref b] s = true := hs _ (by decide +kernel)
  have e2 : (Cond.eq (.elem (.static RX2 "TENS" "[I") (.int 2)) (.int 100)).before #[Value.ref b] s = true := hs _ (by decide +kernel)
  have e3 : (Cond.eq (.elem (.static RX2 "TENS" "[I") (.int 3)) (.int 1000)).before #[Value.ref b] s = true := hs _ (by decide +kernel)
  have e4 : (Cond.eq (.elem (.static RX2 "TENS" "[I") (.int 4)) (.int 10000)).before #[Value.ref b] s = true := hs _ (by decide +kernel)
  have e5 : (Cond.eq (.elem (.static RX2 "TENS" "[I") (.int 5)) (.int 100000)).before #[Value.ref b] s = true := hs _ (by decide +kernel)
  have e6 : (Cond.eq (.elem (.static RX2 "TENS" "[I") (.int 6)) (.int 1000000)).before #[Value.ref b] s = true := hs _ (by decide +kernel)
  obtain ⟨tt, ht, hT⟩ := va_Tof (N := 7) (f := fun j => .int (tens j)) (A := fun q : Nat => s.heap.size ≤ q) (by decide) har (va_eqv hle rfl) (fun j hj => by
    rcases (show j = 0 ∨ j = 1 ∨ j = 2 ∨ j = 3 ∨ j = 4 ∨ j = 5 ∨ j = 6 by omega) with rfl | rfl | rfl | rfl | rfl | rfl | rfl
    · exact va_eqv e0 rfl
    · exact va_eqv e1 rfl
    · exact va_eqv e2 rfl
    · exact va_eqv e3 rfl
    · exact va_eqv e4 rfl
    · exact va_eqv e5 rfl
    · exact va_eqv e6 rfl) hA
  obtain ⟨c4, k4, hc4, -⟩ := Cond.instantiable_spec (hts (.instantiable RX4 8) (by decide +kernel))
  refine ⟨tt, va_Zof (hts (.laysStatic RX2 "TENS" "[I") (by decide +kernel)) (hts (.initialized RX2) (by decide +kernel)) ht hA, hT, vx_Zqof (hts (.laysStatic Bundle.tN "UNASSIGNED_STACK" Bundle.steD) (by decide +kernel)) (hts (.initialized Bundle.tN) (by decide +kernel)) (hs _ (by decide +kernel)) hA, vx_Zqof (hts (.laysStatic Bundle.tN "SUPPRESSED_SENTINEL" Bundle.listD) (by decide +kernel)) (hts (.initialized Bundle.tN) (by decide +kernel)) (hs _ (by decide +kernel)) hA, fun q hq => ?_, va_Nw.of rfl (hts (.castable xA xA) (by decide +kernel)), va_Nw.of rfl (hts (.castable xS xS) (by decide +kernel)), va_Nw.of rfl (hts (.castable xI xI) (by decide +kernel)), va_Nc.of (hs (.not (.castable xS xA)) (by decide +kernel)), va_Nc.of (hs (.not (.castable xA xI)) (by decide +kernel)), fun y hy => va_Nw.of rfl (hts _ (st_xds y hy))⟩
  obtain ⟨k, cf, i, a, -, -, -, -, -, hev⟩ := Cond.stringRef_spec hc4 (hts _ (st_strs q hq))
  exact ⟨a, vk_R.of (hts _ (st_strs q hq)) hev⟩
/-- the classes at the start -/
theorem kn_start {p : Program} {s : State} {m : MethodId} {meth : Method} {c : Code} {b L : Nat} {xs : Nat → Int32} (C0 : lw_At p s m meth c b L xs) : ∃ (D : va_G) (ck : Nat → ClassId), va_K D vwCl (tysK ck) s := by
  obtain ⟨hx, hb, hr, hml, hown, hts, hX, hbl, hlocks, hgv⟩ := C0
  obtain ⟨c0, iS0, hKn0⟩ := u_known (C := RX0) (T := TX0) (N := 12) (n := 12) hts inX0 (hts (.instantiable RX0 12) (by decide +kernel))
  obtain ⟨c1, iS1, hKn1⟩ := u_known (C := RX1) (T := TX1) (N := 4) (n := 4) hts inX1 (hts (.instantiable RX1 4) (by decide +kernel))
  obtain ⟨c2, iS2, hKn2⟩ := u_known (C := RX2) (T := TX2) (N := 4) (n := 4) hts inX2 (hts (.instantiable RX2 4) (by decide +kernel))
  obtain ⟨c3, iS3, hKn3⟩ := u_known (C := RX3) (T := TX3) (N := 2) (n := 2) hts inX3 (hts (.instantiable RX3 2) (by decide +kernel))
  obtain ⟨c4, iS4, hKn4⟩ := u_known (C := RX4) (T := TX4) (N := 8) (n := 8) hts inX4 (hts (.instantiable RX4 8) (by decide +kernel))
  obtain ⟨c5, iS5, hKn5⟩ := u_known (C := RX5) (T := TX5) (N := 28) (n := 28) hts inX5 (hts (.instantiable RX5 28) (by decide +kernel))
  obtain ⟨cI, kI, pI, f0, g0, h0⟩ := Cond.arrayClass_spec (hts (.arrayClass .int) (by decide +kernel))
  obtain ⟨cJ, kJ, pJ, f1, g1, h1⟩ := Cond.arrayClass_spec (hts (.arrayClass .long) (by decide +kernel))
  obtain ⟨cC, kC, pC, f2, g2, h2⟩ := Cond.arrayClass_spec (hts (.arrayClass .char) (by decide +kernel))
  obtain ⟨cZ, kZ, pZ, f3, g3, h3⟩ := Cond.arrayClass_spec (hts (.arrayClass .boolean) (by decide +kernel))
  refine ⟨(fun k => [c0, c1, c2, c3, c4, c5].getD k c0, fun k => [iS0, iS1, iS2, iS3, iS4, iS5].getD k iS0), fun k => [cI, cJ, cC, cZ].getD k cI, ?_, ?_⟩
  · intro k q hq
    match k, hq with
    | 0, hq => cases hq; exact hKn0
    | 1, hq => cases hq; exact hKn1
    | 2, hq => cases hq; exact hKn2
    | 3, hq => cases hq; exact hKn3
    | 4, hq => cases hq; exact hKn4
    | 5, hq => cases hq; exact hKn5
    | k + 6, hq => simp [vwCl] at hq
  · intro k q hq
    match k, hq with
    | 0, hq => cases hq; exact ⟨fun n z => ⟨fun k h => (by cases h), kI, g0, pI, h0⟩, f0⟩
    | 1, hq => cases hq; exact ⟨fun n z => ⟨fun k h => (by cases h), kJ, g1, pJ, h1⟩, f1⟩
    | 2, hq => cases hq; exact ⟨fun n z => ⟨fun k h => (by cases h), kC, g2, pC, h2⟩, f2⟩
    | 3, hq => cases hq; exact ⟨fun n z => ⟨fun k h => (by cases h), kZ, g3, pZ, h3⟩, f3⟩
    | k + 4, hq => simp [tysK] at hq
set_option maxHeartbeats 8000000 in
set_option maxRecDepth 100000 in
/-- THE LAW, from its entry: if the partial function of the loop ends with 1, the law does -/
theorem law_start {p : Program} {e : Env} {s : State} {m : MethodId} {below : List Frame} {meth : Method} {c : Code} (l : Launch) (hst : l.stackTraces = false) {b L : Nat} {xs : Nat → Int32} (C0 : lw_At p s m meth c b L xs) {zf : St × LO} {vf : St} (hf : fL_law_23 xs L 600 0 (u0, fun _ => 0) u0 = some (1, zf, vf)) : W p l e room_1 s m #[Value.ref b] below meth c s.heap [] 0 0 (lw_Z below #[Value.ref b] s) (entryFrame m ([Value.ref b] : List Value).toArray 8) := by
  obtain ⟨tt, hEv⟩ := ev_start C0
  obtain ⟨D, ck, hK⟩ := kn_start C0
  obtain ⟨hx, hb, hr, hml, hown, hts0, hX, hbl, hlocks, hgv⟩ := id C0
  have hts := fun w h => hts0 w (wsL_law_in w h)
  have hN : EN s := ⟨va_Nw.of rfl (hts0 (.methodLinkNest RX4 9 yX2_init "AggregateRows") (by decide +kernel)), va_Nw.of rfl (hts0 (.methodLinkNest RX4 18 yX1_init "AggregateRows") (by decide +kernel)), va_Nw.of rfl (hts0 (.methodLinkNest RX4 25 yX0_init "AggregateRows") (by decide +kernel)), va_Nw.of rfl (hts0 (.methodLinkNest RX4 32 yX3_init "AggregateRows") (by decide +kernel))⟩
  generalize hAe : (fun q : Nat => s.heap.size ≤ q) = A at hEv
  have hA : ∀ q : Nat, s.heap.size ≤ q → A q := fun q h => by rw [← hAe]; exact h
  have hS : va_S A s.heap s.heap [] := va_S.rf
  have hP : va_P D vwCl [] s.heap := fun k q h => by simp at h
  have hD : va_D A [] := ⟨fun i j p q h => by simp at h, fun k q h => by simp at h⟩
  have hl := lv_entry ([.ref b]) (n := 8) (Nat.le_of_ble_eq_true rfl)
  rw [lg_entry_eq]
  generalize (lg_sl ([.ref b]) ++ List.replicate (8 - (lg_sl ([.ref b])).length) Slot.unset).toArray = ls at hl ⊢
  have hl : lv_has ls 8 [(0, .ref b)] := hl
  refine va_new (ci := 4) (fs := [.null, .null, .null, .null, .null, .int 0, .int 0, .int 0]) (C := RX4) (T := TX4) (N := 8) hx hb hts0 inX4 tyX4 tyX4_ok hown (hts0 (.classLink RL 8 RX4) (by decide +kernel)) (hts0 (.instantiable RX4 8) (by decide +kernel)) (hts0 (.initialized RX4) (by decide +kernel)) hK hP hD hS hA rfl (fun j hj => by rcases (show j = 0 ∨ j = 1 ∨ j = 2 ∨ j = 3 ∨ j = 4 ∨ j = 5 ∨ j = 6 ∨ j = 7 by omega) with rfl | rfl | rfl | rfl | rfl | rfl | rfl | rfl <;> rfl) (Nat.le_of_ble_eq_true rfl) (Nat.le_of_ble_eq_true rfl) dL_law_0 (fun q0 H hP hD hS => ?_)
  have hP : va_P D vwCl [(q0, .inr (4, [.null, .null, .null, .null, .null, .int 0, .int 0, .int 0]))] H := hP
  have hD : va_D A [(q0, .inr (4, [.null, .null, .null, .null, .null, .int 0, .int 0, .int 0]))] := hD
  refine W.widen (k := 1) (n := 8) (by omega) (by omega) ?_
  refine lv_dup hx hb dL_law_3 rfl ?_
  have hFc := va_free (wc := [(q0, .inr (4, [.null, .null, .null, .null, .null, .int 0, .int 0, .int 0]))]) hD hS hA [0] rfl
  refine va_callv (va_runI (As := []) (rest := [.ref q0]) ⟨hx, hb, hml, hown, hts⟩ (k_X4_init l ck D q0 H.size) (cwI 0 hts gL_law_X4_init rfl rfl rfl (hts0 (.initialized RX4) (by decide +kernel)) (hts0 (.methodLink RL 73 yX4_init) (by decide +kernel)) (hts0 (.instanceMethod yX4_init) (by decide +kernel)) rfl (by decide +kernel) ⟨Nat.le_of_ble_eq_true rfl, Nat.le_of_ble_eq_true rfl⟩) ⟨fun a U g mk q => by obtain ⟨q0, q1, qP, qK, qD, qN⟩ := q; exact ⟨q0, q1, qP, va_K.moved (u := U) (U := U.calling g mk a) (Vm.Alike.refl U.vm) qK, qD, va_Nw.same rfl rfl qN.1, va_Nw.same rfl rfl qN.2.1, va_Nw.same rfl rfl qN.2.2.1, va_Nw.same rfl rfl qN.2.2.2⟩, fun U hU hW => ⟨rfl, by rw [hU], by rw [hU]; exact hP, va_K.moved hW.alike hK, hD.weaken (fun _ _ _ _ => trivial), va_Nw.warmM hW hN.1, va_Nw.warmM hW hN.2.1, va_Nw.warmM hW hN.2.2.1, va_Nw.warmM hW hN.2.2.2⟩⟩ rfl rfl hl.1 rfl (lv_room (Nat.le_of_ble_eq_true rfl)) dL_law_4 ⟨Nat.le_of_ble_eq_true rfl, Nat.le_of_ble_eq_true rfl⟩) hS (fun q _ h => hFc q h) hFc (fun ad t H locs ht hvm hw hB hz1 hk1 hS => ?_)
  subst hw
  obtain ⟨hP1, hD1⟩ := hB
  rw [ht] at hP1
  obtain ⟨hP, hD⟩ := va_join (wr := []) (w1 := wA ad ck u0) hP hD [0] [] rfl rfl (by decide) (by decide) hk1 hFc hP1 hD1
  have hP : va_P D vwCl (wA ad ck u0) H := hP
  have hD : va_D A (wA ad ck u0) := hD
  refine W.widen (k := 23) (n := 1650) (by omega) (by omega) ?_
  refine lv_astore_n (lv' := [(1, .ref (ad 0)), (0, .ref b)]) hx hb dL_law_7 rfl hl (by decide) rfl (fun ls hl => ?_)
  refine va_new (ci := 5) (fs := [.int 0, .int 0, .null, .null, .null, .null, .null, .int 0, .null, .null, .null, .int 0, .int 0, .int 0, .int 0, .null, .null, .null, .null, .null, .null, .null, .null, .null, .null, .null, .int 0, .null]) (C := RX5) (T := TX5) (N := 28) hx hb hts0 inX5 tyX5 tyX5_ok hown (hts0 (.classLink RL 74 RX5) (by decide +kernel)) (hts0 (.instantiable RX5 28) (by decide +kernel)) (hts0 (.initialized RX5) (by decide +kernel)) hK hP hD hS hA rfl (fun j hj => by rcases (show j = 0 ∨ j = 1 ∨ j = 2 ∨ j = 3 ∨ j = 4 ∨ j = 5 ∨ j = 6 ∨ j = 7 ∨ j = 8 ∨ j = 9 ∨ j = 10 ∨ j = 11 ∨ j = 12 ∨ j = 13 ∨ j = 14 ∨ j = 15 ∨ j = 16 ∨ j = 17 ∨ j = 18 ∨ j = 19 ∨ j = 20 ∨ j = 21 ∨ j = 22 ∨ j = 23 ∨ j = 24 ∨ j = 25 ∨ j = 26 ∨ j = 27 by omega) with rfl | rfl | rfl | rfl | rfl | rfl | rfl | rfl | rfl | rfl | rfl | rfl | rfl | rfl | rfl | rfl | rfl | rfl | rfl | rfl | rfl | rfl | rfl | rfl | rfl | rfl | rfl | rfl <;> rfl) (Nat.le_of_ble_eq_true rfl) (Nat.le_of_ble_eq_true rfl) dL_law_8 (fun q1 H hP hD hS => ?_)
  have hP : va_P D vwCl (wA ad ck u0 ++ [(q1, .inr (5, [.int 0, .int 0, .null, .null, .null, .null, .null, .int 0, .null, .null, .null, .int 0, .int 0, .int 0, .int 0, .null, .null, .null, .null, .null, .null, .null, .null, .null, .null, .null, .int 0, .null]))]) H := hP
  have hD : va_D A (wA ad ck u0 ++ [(q1, .inr (5, [.int 0, .int 0, .null, .null, .null, .null, .null, .int 0, .null, .null, .null, .int 0, .int 0, .int 0, .int 0, .null, .null, .null, .null, .null, .null, .null, .null, .null, .null, .null, .int 0, .null]))]) := hD
  refine W.widen (k := 24) (n := 1678) (by omega) (by omega) ?_
  refine lv_dup hx hb dL_law_11 rfl ?_
  have hPc := hP.sub (ws' := [(q1, .inr (5, [.int 0, .int 0, .null, .null, .null, .null, .null, .int 0, .null, .null, .null, .int 0, .int 0, .int 0, .int 0, .null, .null, .null, .null, .null, .null, .null, .null, .null, .null, .null, .int 0, .null]))]) [23] rfl
  have hDc := hD.sub (ws' := [(q1, .inr (5, [.int 0, .int 0, .null, .null, .null, .null, .null, .int 0, .null, .null, .null, .int 0, .int 0, .int 0, .int 0, .null, .null, .null, .null, .null, .null, .null, .null, .null, .null, .null, .int 0, .null]))]) [23] (by decide) rfl
  have hFc := va_free (wc := [(q1, .inr (5, [.int 0, .int 0, .null, .null, .null, .null, .null, .int 0, .null, .null, .null, .int 0, .int 0, .int 0, .int 0, .null, .null, .null, .null, .null, .null, .null, .null, .null, .null, .null, .int 0, .null]))]) hD hS hA [23] rfl
  refine va_callv (va_runI (As := []) (rest := [.ref q1]) ⟨hx, hb, hml, hown, hts⟩ (k_X5_init l ck D q1 H.size) (cwI 0 hts gL_law_X5_init rfl rfl rfl (hts0 (.initialized RX5) (by decide +kernel)) (hts0 (.methodLink RL 76 yX5_init) (by decide +kernel)) (hts0 (.instanceMethod yX5_init) (by decide +kernel)) rfl (by decide +kernel) ⟨Nat.le_of_ble_eq_true rfl, Nat.le_of_ble_eq_true rfl⟩) ⟨fun a U g mk q => by obtain ⟨q0, q1, qP, qK, qD⟩ := q; exact ⟨q0, q1, qP, va_K.moved (u := U) (U := U.calling g mk a) (Vm.Alike.refl U.vm) qK, qD⟩, fun U hU hW => ⟨rfl, by rw [hU], by rw [hU]; exact hPc, va_K.moved hW.alike hK, hDc.weaken (fun _ _ _ _ => trivial)⟩⟩ rfl rfl hl.1 rfl (lv_room (Nat.le_of_ble_eq_true rfl)) dL_law_12 ⟨Nat.le_of_ble_eq_true rfl, Nat.le_of_ble_eq_true rfl⟩) hS (fun q _ h => hFc q h) hFc (fun am t H locs ht hvm hw hB hz1 hk1 hS => ?_)
  subst hw
  obtain ⟨hP1, hD1⟩ := hB
  rw [ht] at hP1
  obtain ⟨hP, hD⟩ := va_join (wr := wA ad ck u0) (w1 := wM am ck u0) hP hD [23] [0, 1, 2, 3, 4, 5, 6, 7, 8, 9, 10, 11, 12, 13, 14, 15, 16, 17, 18, 19, 20, 21, 22] rfl rfl (by decide) (by decide) hk1 hFc hP1 hD1
  have hP : va_P D vwCl (wA ad ck u0 ++ wM am ck u0) H := hP
  have hD : va_D A (wA ad ck u0 ++ wM am ck u0) := hD
  refine W.widen (k := 44) (n := 8038) (by omega) (by omega) ?_
  refine lv_astore_n (lv' := [(2, .ref (am 0)), (1, .ref (ad 0)), (0, .ref b)]) hx hb dL_law_15 rfl hl (by decide) rfl (fun ls hl => ?_)
  refine lv_iconst (v := 1) hx hb dL_law_16 (by decide) ?_
  refine nw_arr (ty := .long) hx hb (by exact hts0 (.arrayClass .long) (by decide +kernel)) (by exact rfl) hK hP hD hS hA 1 rfl (a0 := (1, .inr (.inl (fun _ => 0)))) (fun _ => rfl) (by decide) (N' := 1) (by decide) (by decide) (Nat.le_of_ble_eq_true rfl) (Nat.le_of_ble_eq_true rfl) dL_law_17 (fun aO H hP hD hS => ?_)
  have hP := hP.sub (ws' := wApp (wApp (wA ad ck) (wO aO ck)) (wM am ck) ((u0, fun _ => 0), u0)) [0, 1, 2, 3, 4, 5, 6, 7, 8, 9, 10, 11, 12, 13, 14, 15, 16, 17, 18, 19, 20, 21, 22, 44, 23, 24, 25, 26, 27, 28, 29, 30, 31, 32, 33, 34, 35, 36, 37, 38, 39, 40, 41, 42, 43] rfl
  have hD := hD.sub (ws' := wApp (wApp (wA ad ck) (wO aO ck)) (wM am ck) ((u0, fun _ => 0), u0)) [0, 1, 2, 3, 4, 5, 6, 7, 8, 9, 10, 11, 12, 13, 14, 15, 16, 17, 18, 19, 20, 21, 22, 44, 23, 24, 25, 26, 27, 28, 29, 30, 31, 32, 33, 34, 35, 36, 37, 38, 39, 40, 41, 42, 43] (by decide) rfl
  refine W.widen (k := 45 + 0) (n := 8039 + 6 * 0) (by omega) (by omega) ?_
  refine lv_astore_n (lv' := [(3, .ref aO), (2, .ref (am 0)), (1, .ref (ad 0)), (0, .ref b)]) hx hb dL_law_19 rfl hl (by decide) rfl (fun ls hl => ?_)
  refine lv_iconst (v := 0) hx hb dL_law_20 (by decide) ?_
  refine lv_istore (lv' := [(4, .int 0), (3, .ref aO), (2, .ref (am 0)), (1, .ref (ad 0)), (0, .ref b)]) hx hb dL_law_21 hl (by decide) rfl (fun ls hl => ?_)
  subst hAe
  exact law_loop l hst C0 ad am aO ck D tt 600 0 (by omega) 0 _ _ _ _ _ hf ⟨hK, hP, hD, hS, hA, hEv⟩ (lv_sub hl [4, 3, 2, 1, 0] rfl)
