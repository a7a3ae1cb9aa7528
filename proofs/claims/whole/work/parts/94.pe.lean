/-! ===== texts ===== -/
theorem nz_s0 {x : Int64} {k : Nat} (h : bt x k = 0) : nz x (k + 1) = nz x k := by
  conv => lhs; unfold nz
  rw [if_pos h]
theorem nz_s1 {x : Int64} {k : Nat} (h : ¬ bt x k = 0) : nz x (k + 1) = bt x k :: nz x k := by
  conv => lhs; unfold nz
  rw [if_neg h]
theorem ft_loop {u v : St} {n : Nat} (h : TR u v n) (x : Int64) (slot : Int32) (hx : LT (nz x 8)) : ∀ (d i k : Nat), i + d = n → d < k →
    (∃ t, t < n ∧ fX2_find_3 k (lN (wdk 8 (nz x 8))) 0 0 (nI i) u = some (nI t, u) ∧ fX5_text_128 k x (nI (nz x 8).length) slot (nI i) v = some (nI t, v)) ∨
    (fX2_find_3 k (lN (wdk 8 (nz x 8))) 0 0 (nI i) u = some (-1, u) ∧ fX5_text_128 k x (nI (nz x 8).length) slot (nI i) v = (if v.1 1 = 60 then fX5_text_192 x (nI (nz x 8).length) slot 2 v else fX5_text_192 x (nI (nz x 8).length) slot 0 v)) := by
  have hn := h.1
  have hw := wdk_lt8 hx.2.2
  have hwp := hx.pos
  have hx8 := hx.2.1
  intro d
  induction d with
  | zero =>
    intro i k hi hk
    obtain ⟨k, rfl⟩ : ∃ j, k = j + 1 := ⟨k - 1, by omega⟩
    right
    unfold fX2_find_3 fX5_text_128
    have e : i = n := by omega
    rw [h.2.1, h.2.2.1, e]
    simp only [Int32.le_rfl, if_true]
    exact ⟨trivial, trivial⟩
  | succ d ih =>
    intro i k hi hk
    obtain ⟨k, rfl⟩ : ∃ j, k = j + 1 := ⟨k - 1, by omega⟩
    unfold fX2_find_3 fX5_text_128
    rw [h.2.1, h.2.2.1]
    simp (disch := omega) only [nI_leI, okI_t, gd_1, nc_, nI_1, lt_]
    simp only [show ¬ n ≤ i by omega, if_false]
    have IH := ih (i + 1) k (by omega) (by omega)
    rw [h.2.2.1] at IH
    rcases h.2.2.2 i (by omega) with g | ⟨cs, g⟩
    · have z0 : ¬ (0 : Int64) = lN (wdk 8 (nz x 8)) := by
        intro e
        have := (lN_eq0 hw).mp e.symm
        omega
      simp only [g.1, g.2.1, z0, if_true, if_false]; exact IH
    · have z1 : ¬ (1 : Int32) = 0 := by decide
      have g8 := g.1.2.1
      have gw := wdk_lt8 g.1.2.2
      have e1 : (u.2.2 0 i = lN (wdk 8 (nz x 8))) ↔ cs = nz x 8 := by
        rw [g.2.1, lN_eq63 gw hw]
        exact ⟨fun e => wdk_inj 8 _ _ g8 hx8 (fun c hc => by have := g.1.2.2 c hc; omega) (fun c hc => by have := hx.2.2 c hc; omega) e, fun e => by rw [e]⟩
      simp only [e1, g.2.2.2.2.1, g.2.2.1, g.2.2.2.1, g.2.2.2.2.2.1, z1, if_true, if_false]
      simp (disch := omega) only [nI_eq]
      rw [bnd_t (iw_R x (by omega) g)]
      by_cases e : cs = nz x 8
      · simp only [e, if_true, z1, if_false]; exact .inl ⟨i, by omega, rfl, rfl⟩
      · simp only [e, if_false, if_true]
        by_cases e2 : cs.length = (nz x 8).length
        · simp only [e2, if_true]; exact IH
        · simp only [e2, if_false]; exact IH
theorem wr_loop (x : Int64) (z : Int32) (n : Nat) (hn : n < 60) : ∀ (k m i : Nat) (w : St), k < m → i + k ≤ 8 →
    ∃ v', fX5_text_211 m x z (nI n) (nI i) (dI k) w = some (nI n, v') ∧ Frm [1] [0, 3, 4] [] w v' ∧ v'.1 1 = w.1 1 + 1 ∧ v'.2.1 0 = upd (w.2.1 0) n 1 ∧ v'.2.1 3 = upd (w.2.1 3) n z ∧
      (∀ p, p < 8 * n + i ∨ 8 * n + 8 ≤ p → v'.2.1 4 p = w.2.1 4 p) ∧ (∀ j, (h : j < (nz x k).length) → v'.2.1 4 (8 * n + i + j) = nI ((nz x k)[j])) := by
  intro k
  induction k with
  | zero =>
    intro m i w hm hi
    obtain ⟨m, rfl⟩ : ∃ j, m = j + 1 := ⟨m - 1, by omega⟩
    refine ⟨sS (sI (sI w 0 n 1) 3 n z) 1 (w.1 1 + 1), ?_, ?_, rfl, rfl, rfl, fun p _ => rfl, fun j h => absurd h (by simp [nz])⟩
    · unfold fX5_text_211
      have hnar : vp_nar .boolean 1 = 1 := by decide +kernel
      rw [if_pos (by decide)]
      simp (disch := omega) only [okI_t, gd_1, nc_, lt_, hnar]
    · exact ((Frm.rfl'.sI (by decide)).sI (by decide)).sS (by decide)
  | succ k ih =>
    intro m i w hm hi
    obtain ⟨m, rfl⟩ : ∃ j, m = j + 1 := ⟨m - 1, by omega⟩
    have hb := bt_lt x k
    have hlen := nz_len x k
    obtain ⟨b0, _, _⟩ := byte_lt hb
    by_cases h0 : bt x k = 0
    · obtain ⟨v', q1, q2⟩ := ih m i w (by omega) (by omega)
      rw [nz_s0 h0]
      refine ⟨v', ?_, q2⟩
      unfold fX5_text_211
      rw [dI_s k, if_neg (nI_pos (by omega)), bt_M x k (by omega)]
      simp only [lt_, b0, h0, if_true]
      exact q1
    · obtain ⟨v', q1, q2, q3, q4, q5, q6, q7⟩ := ih m (i + 1) (sI w 4 (8 * n + i) (nI (bt x k))) (by omega) (by omega)
      refine ⟨v', ?_, (Frm.sI Frm.rfl' (by decide)).trans q2, q3, q4, q5, ?_, ?_⟩
      · unfold fX5_text_211
        rw [dI_s k, if_neg (nI_pos (by omega)), bt_M x k (by omega)]
        simp (disch := omega) only [lt_, b0, h0, if_false, idx8, okI_t, gd_1, nc_, nI_1]
        exact q1
      · intro p hp
        rw [q6 p (by omega)]
        exact pk_un (by omega)
      · intro j hj
        cases j with
        | zero =>
          rw [q6 _ (by omega)]
          simp only [nz_s1 h0, List.getElem_cons_zero]
          exact pk_us
        | succ j =>
          have hj' : j < (nz x k).length := by rw [nz_s1 h0, List.length_cons] at hj; omega
          have := q7 j hj'
          simp only [nz_s1 h0, List.getElem_cons_succ]
          rw [show 8 * n + i + (j + 1) = 8 * n + (i + 1) + j by omega]; exact this
theorem textM {v : St} {n : Nat} (hn : n ≤ 60) (h : v.1 1 = nI n) (x : Int64) : fX5_text v x = fX5_text_113 x (nI (nz x 8).length) (if n = 60 then nI 59 else nI n) (if okL (nz x 8) && decide (0 < (nz x 8).length) then 0 else 1) v := by
  have t1 := fun s => tx_loop x s v 8 FU 0 true (by rw [FU_]; omega) (by omega)
  have d8 : dI 8 = 7 := by decide +kernel
  simp only [Nat.zero_add, Bool.true_and, if_true, d8, nI_0] at t1
  unfold fX5_text
  simp only [lt_]
  rw [h]
  by_cases c : n = 60
  · rw [if_pos ((nI_60 (by omega)).mpr c), if_pos c, t1]; rfl
  · rw [if_neg (fun e => c ((nI_60 (by omega)).mp e)), if_neg c, t1]
theorem text_R {u v : St} (h : Rel u v) (x : Int64) : OpR cd12 (fX4_text u x) (fX5_text v x) := by
  have hR := h
  obtain ⟨n, l, h1, h2, h3, h4⟩ := h
  have hn := h1.1
  have hlen := nz_len x 8
  have eM := textM hn h1.2.2.1 x
  by_cases hx : LT (nz x 8)
  · have hw := wdk_lt8 hx.2.2
    have hwp := hx.pos
    have ok : okL (nz x 8) = true := by
      unfold okL
      rw [List.all_eq_true]
      intro c hc
      have := hx.2.2 c hc
      simp; omega
    have eA : fX4_text u x = bndT (fX4_termOf u (lN (wdk 8 (nz x 8))) 0 0) (fun r_6 u_7 => some (.inr r_6, u_7)) := by
      unfold fX4_text
      rw [bnd_t (al_R x u), ok, if_pos rfl, if_neg (fun e => by have := (lN_eq0 hw).mp e; omega)]
    have eM2 : fX5_text v x = fX5_text_128 FU x (nI (nz x 8).length) (if n = 60 then nI 59 else nI n) 0 (sS v 0 0) := by
      rw [eM, ok, decide_eq_true hx.1]
      unfold fX5_text_113
      simp only [lt_]
      rw [if_pos (by exact Int32.le_rfl)]; rfl
    have fv0 : Frm [0] [] [] v (sS v 0 0) := Frm.rfl'.sS (by decide)
    have h1' : TR u (sS v 0 0) n := h1.fr (Frm.rfl' (S := []) (A := []) (J := [])) fv0 (by decide) (by decide) (by decide) (by decide) (by decide)
    rw [eA, eM2]
    have FT := ft_loop h1' x (if n = 60 then nI 59 else nI n) hx n 0 FU (by omega) (by rw [FU_]; omega)
    rw [nI_0] at FT
    rcases FT with ⟨t, ht, q1, q2⟩ | ⟨q1, q2⟩
    · left
      refine ⟨nI t, u, sS v 0 0, ?_, q2, rfl, hR.fault⟩
      unfold fX4_termOf fX2_find
      rw [bnd_t q1, if_neg]
      · rfl
      · intro c
        have := congrArg Int32.toInt c
        rw [nI_toInt (by omega)] at this
        have e : (-1 : Int32).toInt = -1 := rfl
        omega
    · rw [q2]
      by_cases c : n = 60
      · right
        refine ⟨2, 2, u, 0, sS (sS v 0 0) 0 2, ?_, rfl, ?_, rfl, by decide, hR.fault.fault⟩
        · unfold fX4_termOf fX2_find
          rw [bnd_t q1, if_pos rfl]
          unfold fX2_isFull
          rw [h1.2.1, c, if_neg (by decide)]; rfl
        · rw [h1'.2.2.1, if_pos ((nI_60 (by omega)).mpr c)]; rfl
      · left
        have cn : n < 60 := by omega
        obtain ⟨v', w1, w2, w3, w4, w5, w6, w7⟩ := wr_loop x (nI (nz x 8).length) n cn 8 FU 0 (sS (sS v 0 0) 0 0) (by rw [FU_]; omega) (by omega)
        have fv : Frm [0, 1] [0, 3, 4] [] v v' := ((Frm.rfl'.sS (by decide)).sS (by decide)).trans (w2.mono (by decide) (by decide) (by decide))
        have fu : Frm [3] [0, 1] [0] u (sS (sI (sI (sJ u 0 n (lN (wdk 8 (nz x 8)))) 0 n 0) 1 n 0) 3 (nI (n + 1))) := (((Frm.rfl'.sJ (by decide)).sI (by decide)).sI (by decide)).sS (by decide)
        refine ⟨nI n, sS (sI (sI (sJ u 0 n (lN (wdk 8 (nz x 8)))) 0 n 0) 1 n 0) 3 (nI (n + 1)), v', ?_, ?_, ?_, ?_⟩
        · unfold fX4_termOf fX2_find
          rw [bnd_t q1, if_pos rfl]
          unfold fX2_isFull
          rw [h1.2.1, if_pos (show nI n < 60 from nI_lt (b := 60) cn (by omega))]
          have : fX2_add u (lN (wdk 8 (nz x 8))) 0 0 = some (nI n, sS (sI (sI (sJ u 0 n (lN (wdk 8 (nz x 8)))) 0 n 0) 1 n 0) 3 (nI (n + 1))) := by
            unfold fX2_add
            simp only [lt_, h1.2.1]
            simp (disch := omega) only [okI_t, gd_1, nc_, nI_1]
          rw [bnd_t rfl, if_pos rfl, bnd_t this]; rfl
        · rw [h1'.2.2.1, if_neg (fun e => c ((nI_60 (by omega)).mp e)), if_neg c]
          have d8 : dI 8 = 7 := by decide +kernel
          rw [nI_0, d8] at w1
          unfold fX5_text_192
          simp only [lt_]
          rw [if_pos (by exact Int32.le_rfl)]; exact w1
        · exact w2.1 0 (by decide)
        · refine ⟨n + 1, l, ?_, (h2.fr fu fv (by decide) (by decide) (by decide) (by decide)).mono (by omega), h3.fr fu fv (by decide) (by decide), h4.fr fu fv (by decide) (by decide) (by decide) (by decide) (by decide) (by decide)⟩
          refine ⟨by omega, rfl, ?_, fun t ht => ?_⟩
          · rw [w3]
            have e1 : (sS (sS v 0 0) 0 0).1 1 = nI n := h1.2.2.1
            rw [e1, nI_1]
          · by_cases e : t = n
            · subst e
              right
              refine ⟨nz x 8, hx, pk_uLs, pk_us, pk_us, ?_, ?_, fun i hi => ?_⟩
              · rw [w4]; exact pk_us
              · rw [w5]; exact pk_us
              · exact w7 i hi
            · refine (h1.2.2.2 t (by omega)).congr (pk_uLn e) (pk_un e) (pk_un e) ?_ ?_ ?_ ?_ (fun i hi => ?_)
              · rw [w4]; exact pk_un e
              · rw [w2.2.1 1 (by decide)]
              · rw [w2.2.1 2 (by decide)]
              · rw [w5]; exact pk_un e
              · exact w6 _ (by omega)
  · right
    have hb : (okL (nz x 8) && decide (0 < (nz x 8).length)) = false := by
      by_cases ok : okL (nz x 8) = true
      · have : ¬ 0 < (nz x 8).length := fun c => hx ⟨c, hlen, okL_mem ok⟩
        rw [decide_eq_false this, Bool.and_false]
      · have : okL (nz x 8) = false := by simpa using ok
        rw [this]; rfl
    refine ⟨1, 1, u, 0, sS v 0 1, ?_, rfl, ?_, rfl, by decide, hR.fault⟩
    · unfold fX4_text
      rw [bnd_t (al_R x u), if_pos]
      by_cases ok : okL (nz x 8) = true
      · rw [if_pos ok]
        have : ¬ 0 < (nz x 8).length := fun c => hx ⟨c, hlen, okL_mem ok⟩
        rw [List.length_eq_zero_iff.mp (by omega : (nz x 8).length = 0)]; rfl
      · rw [if_neg ok]
    · rw [eM, hb]; rfl
