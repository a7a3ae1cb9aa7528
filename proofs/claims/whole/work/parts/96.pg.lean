/-! ===== settings and what is told ===== -/
theorem nI_le2 {x : Int32} (h0 : ¬ x < 0) (h : x ≤ 2) : ∃ j, j ≤ 2 ∧ x = nI j := nI_of2 (M := 2) (n := 2) rfl h0 h
theorem Rel.set {u v u' v' : St} {x : Int32} (h : Rel u v) {S S' : List Nat} (fu : Frm S [] [] u u') (fv : Frm S' [] [] v v') (d1 : Dis [3, 4, 7] S) (d2 : Dis [1, 2, 6] S') (hs : SetR u' v') : Rel u' v' := by
  obtain ⟨n, l, h1, h2, h3, h4⟩ := h
  exact ⟨n, l, h1.fr fu fv (fun x hx => d1 x (by simp at hx; subst hx; decide)) (by decide) (by decide) (fun x hx => d2 x (by simp at hx; subst hx; decide)) (by decide), h2.fr fu fv (fun x hx => d1 x (by simp at hx; subst hx; decide)) (by decide) (fun x hx => d2 x (by simp at hx; subst hx; decide)) (by decide), hs, h4.fr fu fv (fun x hx => d1 x (by simp at hx; subst hx; decide)) (by decide) (by decide) (fun x hx => d2 x (by simp at hx; subst hx; decide)) (by decide) (by decide)⟩
theorem by_R {u v : St} (h : Rel u v) (a : Int32) : OpR cd1 (fX4_by u a) (fX5_by v a) := by
  have h3 : SetR u v := by obtain ⟨n, l, _, _, h3, _⟩ := h; exact h3
  obtain ⟨⟨b, hb, b1, b2⟩, hs2, hs3⟩ := h3
  have bad : (a < 0 ∨ 2 < a) → OpR cd1 (some (.inl 1, u)) (fX5_by v a) := by
    intro c
    refine .inr ⟨1, 1, u, 0, sS (sS v 0 1) 3 (v.1 3), rfl, rfl, ?_, rfl, by decide, ?_⟩
    · unfold fX5_by
      rw [bnd_t (within_no (lo := 0) (hi := 2) v (by decide +kernel) (by decide +kernel) c)]; rfl
    · exact h.set (x := 0) (S := []) (S' := [0, 3]) Frm.rfl' ((Frm.rfl'.sS (by decide)).sS (by decide)) (by decide) (by decide) ⟨⟨b, hb, b1, b2⟩, hs2, hs3⟩
  unfold fX4_by
  by_cases c1 : a < 0
  · rw [if_pos c1]; exact bad (.inl c1)
  by_cases c2 : a ≤ 2
  · rw [if_neg c1, if_pos c2]
    refine .inl ⟨u.1 0, sS u 0 a, sS (sS v 0 0) 3 a, rfl, ?_, rfl, ?_⟩
    · unfold fX5_by
      rw [bnd_t (within_ok (lo := 0) (hi := 2) v (by decide +kernel) (by decide +kernel) c1 (fun e => Int32.not_le.mpr e c2)), b1, ← b2]; rfl
    · obtain ⟨j, hj, e⟩ := nI_le2 c1 c2
      exact h.set (x := 0) (S := [0]) (S' := [0, 3]) (Frm.rfl'.sS (by decide)) ((Frm.rfl'.sS (by decide)).sS (by decide)) (by decide) (by decide) ⟨⟨j, hj, e, e⟩, hs2, hs3⟩
  · rw [if_neg c1, if_neg c2]; exact bad (.inr (Int32.not_le.mp c2))
theorem own_R {u v : St} (h : Rel u v) (a : Int32) : OpR cd1 (fX4_own u a) (fX5_own v a) := by
  have h3 : SetR u v := by obtain ⟨n, l, _, _, h3, _⟩ := h; exact h3
  obtain ⟨hs1, hs2, ⟨b, hb, b1, b2⟩⟩ := h3
  have bad : (a < 0 ∨ 2 < a) → OpR cd1 (some (.inl 1, u)) (fX5_own v a) := by
    intro c
    refine .inr ⟨1, 1, u, 0, sS (sS v 0 1) 5 (v.1 5), rfl, rfl, ?_, rfl, by decide, ?_⟩
    · unfold fX5_own
      rw [bnd_t (within_no (lo := 0) (hi := 2) v (by decide +kernel) (by decide +kernel) c)]; rfl
    · exact h.set (x := 0) (S := []) (S' := [0, 5]) Frm.rfl' ((Frm.rfl'.sS (by decide)).sS (by decide)) (by decide) (by decide) ⟨hs1, hs2, ⟨b, hb, b1, b2⟩⟩
  unfold fX4_own
  by_cases c1 : a < 0
  · rw [if_pos c1]; exact bad (.inl c1)
  by_cases c2 : a ≤ 2
  · rw [if_neg c1, if_pos c2]
    refine .inl ⟨u.1 2, sS u 2 a, sS (sS v 0 0) 5 a, rfl, ?_, rfl, ?_⟩
    · unfold fX5_own
      rw [bnd_t (within_ok (lo := 0) (hi := 2) v (by decide +kernel) (by decide +kernel) c1 (fun e => Int32.not_le.mpr e c2)), b1, ← b2]; rfl
    · obtain ⟨j, hj, e⟩ := nI_le2 c1 c2
      exact h.set (x := 0) (S := [2]) (S' := [0, 5]) (Frm.rfl'.sS (by decide)) ((Frm.rfl'.sS (by decide)).sS (by decide)) (by decide) (by decide) ⟨hs1, hs2, ⟨j, hj, e, e⟩⟩
  · rw [if_neg c1, if_neg c2]; exact bad (.inr (Int32.not_le.mp c2))
theorem separator_R {u v : St} (h : Rel u v) (a : Int32) : OpR cd1 (fX4_separator u a) (fX5_separator v a) := by
  have h3 : SetR u v := by obtain ⟨n, l, _, _, h3, _⟩ := h; exact h3
  obtain ⟨hs1, ⟨b, hb, b1, b2⟩, hs3⟩ := h3
  have good : (∃ j, j ≤ 126 ∧ a = nI j) → OpR cd1 (fX4_separator_26 a u) (fX5_separator_24 a 0 v) := by
    intro ⟨j, hj, e⟩
    refine .inl ⟨u.1 1, sS u 1 a, sS (sS v 0 0) 4 a, rfl, ?_, rfl, ?_⟩
    · rw [b1, ← b2]; rfl
    · exact h.set (x := 0) (S := [1]) (S' := [0, 4]) (Frm.rfl'.sS (by decide)) ((Frm.rfl'.sS (by decide)).sS (by decide)) (by decide) (by decide) ⟨hs1, ⟨j, hj, e, e⟩, hs3⟩
  have bad : ¬ a = 0 → (a < 32 ∨ 126 < a) → OpR cd1 (some (.inl 1, u)) (fX5_separator v a) := by
    intro c0 c
    refine .inr ⟨1, 1, u, 0, sS (sS v 0 1) 4 (v.1 4), rfl, rfl, ?_, rfl, by decide, ?_⟩
    · unfold fX5_separator
      rw [if_neg c0, bnd_t (within_no (lo := 32) (hi := 126) v (by decide +kernel) (by decide +kernel) c)]; rfl
    · exact h.set (x := 0) (S := []) (S' := [0, 4]) Frm.rfl' ((Frm.rfl'.sS (by decide)).sS (by decide)) (by decide) (by decide) ⟨hs1, ⟨b, hb, b1, b2⟩, hs3⟩
  unfold fX4_separator
  by_cases c0 : a = 0
  · unfold fX5_separator
    rw [if_pos c0, if_pos c0]; exact good ⟨0, by omega, c0⟩
  rw [if_neg c0]
  by_cases c1 : a < 32
  · rw [if_pos c1]; exact bad c0 (.inl c1)
  by_cases c2 : a ≤ 126
  · rw [if_neg c1, if_pos c2]
    unfold fX5_separator
    rw [if_neg c0, bnd_t (within_ok (lo := 32) (hi := 126) v (by decide +kernel) (by decide +kernel) c1 (fun e => Int32.not_le.mpr e c2)), if_neg (show ¬ (1 : Int32) = 0 by decide)]
    refine good (nI_of2 (M := 126) (n := 126) rfl (fun e => c1 ?_) c2)
    exact Int32.lt_trans e (by decide)
  · rw [if_neg c1, if_neg c2]; exact bad c0 (.inr (Int32.not_le.mp c2))
theorem told_R {u v : St} (h : Rel u v) (a : Int32) : OpR cd1 (fX4_told u a) (fX5_told v a) := by
  obtain ⟨n, l, h1, h2, h3, c, hc, g1, g2, g3⟩ := id h
  have bad : (a < 0 ∨ 2 < a) → OpR cd1 (some (.inl 1, u)) (fX5_told v a) := by
    intro c
    refine .inr ⟨1, 1, u, 0, sS v 0 1, rfl, rfl, ?_, rfl, by decide, h.fault⟩
    unfold fX5_told
    rw [bnd_t (within_no (lo := 0) (hi := 2) v (by decide +kernel) (by decide +kernel) c)]; rfl
  unfold fX4_told
  by_cases c1 : a < 0
  · rw [if_pos c1]; exact bad (.inl c1)
  by_cases c2 : a ≤ 2
  · rw [if_neg c1, if_pos c2]
    unfold fX5_told
    rw [bnd_t (within_ok (lo := 0) (hi := 2) v (by decide +kernel) (by decide +kernel) c1 (fun e => Int32.not_le.mpr e c2)), if_neg (show ¬ (1 : Int32) = 0 by decide)]
    have e1 : v.1 1 = u.1 3 := by rw [h1.2.1, h1.2.2.1]
    have e2 : v.1 2 = u.1 4 := by rw [h2.2.1.1, h2.2.2.1.1, srt_len l n h2.2.2.2]
    have e6 : v.1 6 = u.1 7 := by rw [g1, g2]
    by_cases k0 : a = 0
    · subst k0
      exact .inl ⟨u.1 3, u, sS v 0 0, rfl, (by rw [← e1]; rfl), rfl, h.fault⟩
    · rw [if_neg k0]
      by_cases k1 : a = 1
      · subst k1
        exact .inl ⟨u.1 4, u, sS v 0 0, rfl, (by rw [← e2]; rfl), rfl, h.fault⟩
      · rw [if_neg k1]
        refine .inl ⟨u.1 7, u, sS v 0 0, rfl, ?_, rfl, h.fault⟩
        unfold fX5_told_18
        simp only [lt_]
        rw [if_pos (by exact Int32.le_rfl), if_neg k0, if_neg k1, ← e6]; rfl
  · rw [if_neg c1, if_neg c2]; exact bad (.inr (Int32.not_le.mp c2))
/-! ===== what a group tells ===== -/
theorem grp_R {u v : St} (h : Rel u v) (g : Int32) : (∃ j, j < 60 ∧ g = nI j ∧ fX4_needGroup u g = some (.inr (), u) ∧ fX5_isGroup v g = some (1, sS v 0 0) ∧ GrpT u v j ∧ GrpC u v j) ∨ (fX4_needGroup u g = some (.inl 3, u) ∧ fX5_isGroup v g = some (0, sS v 0 1)) := by
  obtain ⟨n, l, h1, h2, h3, c, hc, g1, g2, g3⟩ := id h
  unfold fX4_needGroup fX5_isGroup
  by_cases c1 : g < 0
  · rw [if_pos c1, if_pos c1]; exact .inr ⟨rfl, rfl⟩
  · rw [if_neg c1, if_neg c1]
    obtain ⟨j, hj, e⟩ := nI_of c1
    subst e
    unfold fX0_count
    rw [g1, g2]
    show (∃ j_1, _ ∧ _ ∧ (if nI j < nI c then some (Sum.inr (), u) else some (Sum.inl 3, u)) = _ ∧ _) ∨ ((if nI j < nI c then some (Sum.inr (), u) else some (Sum.inl 3, u)) = _ ∧ _)
    by_cases c2 : j < c
    · have a1 : nI j < nI c := nI_lt c2 (by omega)
      have a2 : ¬ nI c ≤ nI j := nI_ge c2 (by omega)
      left
      refine ⟨j, by omega, rfl, ?_, ?_, g3 j c2⟩
      · rw [if_pos a1]
      · rw [if_neg a2]; rfl
    · have a1 : ¬ nI j < nI c := nI_nlt (by omega) (by omega)
      have a2 : nI c ≤ nI j := nI_le (by omega) (by omega)
      right
      refine ⟨?_, ?_⟩
      · rw [if_neg a1]
      · rw [if_pos a2]; rfl
theorem noG {α : Type} {u v : St} (h : Rel u v) {X : Option ((Nat ⊕ α) × St)} {M : Option (α × St)} {cd : Nat → Option Int32} {z : α} (hcd : cd 3 = some 1) (e1 : X = some (.inl 3, u)) (e2 : M = some (z, sS v 0 1)) : OpR cd X M := .inr ⟨3, 1, u, z, sS v 0 1, e1, hcd, e2, rfl, by decide, h.fault⟩
theorem bndT_l {α β : Type} {o : Option ((Nat ⊕ α) × St)} {k : α → St → Option ((Nat ⊕ β) × St)} {e : Nat} {u : St} (h : o = some (.inl e, u)) : bndT o k = some (.inl e, u) := by rw [h]; rfl
theorem bndT_r {α β : Type} {o : Option ((Nat ⊕ α) × St)} {k : α → St → Option ((Nat ⊕ β) × St)} {r : α} {u : St} (h : o = some (.inr r, u)) : bndT o k = k r u := by rw [h]; rfl
theorem key_R {u v : St} (h : Rel u v) (g : Int32) : OpR cd3 (fX4_key u g) (fX5_key v g) := by
  unfold fX4_key fX5_key
  rcases grp_R h g with ⟨j, hj, e, a, b, t, _⟩ | ⟨a, b⟩
  · rw [bndT_r a, bnd_t b, if_neg (by decide)]; subst e
    unfold fX0_firstKey
    simp (disch := omega) only [okI_t, gd_1, nc_]
    exact .inl ⟨u.2.1 6 j, u, sS v 0 0, rfl, (by rw [t.1]), rfl, h.fault⟩
  · rw [bndT_l a, bnd_t b]; exact noG h rfl rfl rfl
theorem rows_R {u v : St} (h : Rel u v) (g : Int32) : OpR cd3 (fX4_rows u g) (fX5_rows v g) := by
  unfold fX4_rows fX5_rows
  rcases grp_R h g with ⟨j, hj, e, a, b, t, _⟩ | ⟨a, b⟩
  · rw [bndT_r a, bnd_t b, if_neg (by decide)]; subst e
    unfold fX0_rowCount
    simp (disch := omega) only [okI_t, gd_1, nc_]
    exact .inl ⟨u.2.1 7 j, u, sS v 0 0, rfl, (by rw [t.2.1]), rfl, h.fault⟩
  · rw [bndT_l a, bnd_t b]; exact noG h rfl rfl rfl
theorem sort_R {u v : St} (h : Rel u v) (g : Int32) : OpR cd3 (fX4_sort u g) (fX5_sort v g) := by
  unfold fX4_sort fX5_sort
  rcases grp_R h g with ⟨j, hj, e, a, b, t, _⟩ | ⟨a, b⟩
  · rw [bndT_r a, bnd_t b, if_neg (by decide)]; subst e
    unfold fX0_sortOf
    simp (disch := omega) only [okI_t, gd_1, nc_]
    exact .inl ⟨u.2.1 8 j, u, sS v 0 0, rfl, (by rw [t.2.2.1]), rfl, h.fault⟩
  · rw [bndT_l a, bnd_t b]; exact noG h rfl rfl rfl
theorem why_R {u v : St} (h : Rel u v) (g : Int32) : OpR cd3 (fX4_why u g) (fX5_why v g) := by
  unfold fX4_why fX5_why
  rcases grp_R h g with ⟨j, hj, e, a, b, t, _⟩ | ⟨a, b⟩
  · rw [bndT_r a, bnd_t b, if_neg (by decide)]; subst e
    unfold fX0_reason
    simp (disch := omega) only [okI_t, gd_1, nc_]
    exact .inl ⟨u.2.1 9 j, u, sS v 0 0, rfl, (by rw [t.2.2.2.1]), rfl, h.fault⟩
  · rw [bndT_l a, bnd_t b]; exact noG h rfl rfl rfl
theorem term_R {u v : St} (h : Rel u v) (g : Int32) : OpR cd3 (fX4_term u g) (fX5_term v g) := by
  unfold fX4_term fX5_term
  rcases grp_R h g with ⟨j, hj, e, a, b, t, _⟩ | ⟨a, b⟩
  · rw [bndT_r a, bnd_t b, if_neg (by decide)]; subst e
    unfold fX0_termOfResult
    simp (disch := omega) only [okI_t, gd_1, nc_]
    exact .inl ⟨u.2.1 10 j, u, sS v 0 0, rfl, (by rw [t.2.2.2.2.1]), rfl, h.fault⟩
  · rw [bndT_l a, bnd_t b]; exact noG h rfl rfl rfl
theorem length_R {u v : St} (h : Rel u v) (g : Int32) : OpR cd3 (fX4_length u g) (fX5_length v g) := by
  unfold fX4_length fX5_length
  rcases grp_R h g with ⟨j, hj, e, a, b, _, t⟩ | ⟨a, b⟩
  · rw [bndT_r a, bnd_t b, if_neg (by decide)]; subst e
    obtain ⟨s, k, k1, k2, k3, k4, k5, k6⟩ := t
    unfold fX0_textLength
    simp (disch := omega) only [okI_t, gd_1, nc_]
    exact .inl ⟨u.2.1 12 j, u, sS v 0 0, rfl, (by rw [k4, k5]), rfl, h.fault⟩
  · rw [bndT_l a, bnd_t b]; exact noG h rfl rfl rfl
theorem value_R {u v : St} (h : Rel u v) (g p : Int32) : OpR cd31 (fX4_value u g p) (fX5_value v g p) := by
  unfold fX4_value fX5_value
  rcases grp_R h g with ⟨j, hj, e, a, b, t, _⟩ | ⟨a, b⟩
  · rw [bndT_r a, bnd_t b, if_neg (show ¬ (1 : Int32) = 0 by decide)]; subst e
    have bad : (p < 0 ∨ 1 < p) → OpR cd31 (some (.inl 1, u)) (bnd (fX5_within (sS v 0 0) p.toInt64 0 1) (fun r_6 u_7 => if r_6 = 0 then fX5_value_26 (nI j) p 2 u_7 else fX5_value_26 (nI j) p 0 u_7)) := by
      intro c
      rw [bnd_t (within_no (lo := 0) (hi := 1) _ (by decide +kernel) (by decide +kernel) c)]
      exact .inr ⟨1, 2, u, 0, sS (sS v 0 0) 0 2, rfl, rfl, rfl, rfl, by decide, h.fault.fault⟩
    by_cases c1 : p < 0
    · rw [if_pos c1]; exact bad (.inl c1)
    by_cases c2 : p ≤ 1
    · rw [if_neg c1, if_pos c2, bnd_t (within_ok (lo := 0) (hi := 1) _ (by decide +kernel) (by decide +kernel) c1 (fun e => Int32.not_le.mpr e c2)), if_neg (show ¬ (1 : Int32) = 0 by decide)]
      unfold fX5_value_26 fX0_upper fX0_lower
      simp only [lt_]
      rw [if_pos (show upd (upd v.1 0 0) 0 0 0 ≤ 0 from Int32.le_rfl)]
      simp (disch := omega) only [okI_t, gd_1, nc_]
      by_cases c3 : p = 0
      · rw [if_pos c3, if_pos c3]
        exact .inl ⟨u.2.2 1 j, u, sS (sS v 0 0) 0 0, rfl, (by rw [t.2.2.2.2.2.1]), rfl, h.fault.fault⟩
      · rw [if_neg c3, if_neg c3]
        exact .inl ⟨u.2.2 2 j, u, sS (sS v 0 0) 0 0, rfl, (by rw [t.2.2.2.2.2.2]), rfl, h.fault.fault⟩
    · rw [if_neg c1, if_neg c2]; exact bad (.inr (Int32.not_le.mp c2))
  · rw [bndT_l a, bnd_t b]; exact noG h rfl rfl rfl
theorem idx80 (p i : Nat) : (80 : Int32) * nI p + nI i = nI (80 * p + i) := by
  show nI 80 * nI p + nI i = _
  unfold nI; rw [Int32.ofNat_add, Int32.ofNat_mul]
theorem charAt_R {u v : St} (h : Rel u v) (g i : Int32) : OpR cd3 (fX4_charAt u g i) (fX5_charAt v g i) := by
  unfold fX4_charAt fX5_charAt
  rcases grp_R h g with ⟨j, hj, e, a, b, _, t⟩ | ⟨a, b⟩
  · rw [bndT_r a, bnd_t b, if_neg (show ¬ (1 : Int32) = 0 by decide)]; subst e
    obtain ⟨s, k, k1, k2, k3, k4, k5, k6⟩ := t
    unfold fX0_textLength fX5_charAt_30
    simp (disch := omega) only [okI_t, gd_1, nc_, k4, k5]
    have bad : ∀ w : St, OpR cd3 (some (.inl 3, u)) (some ((0 : Int32), sS (sS v 0 0) 0 1)) := fun w => .inr ⟨3, 1, u, 0, sS (sS v 0 0) 0 1, rfl, rfl, rfl, rfl, by decide, h.fault.fault⟩
    by_cases c1 : i < 0
    · rw [if_pos c1, if_pos c1]; exact bad u
    · rw [if_neg c1, if_neg c1]
      obtain ⟨m, hm, e⟩ := nI_of c1
      subst e
      rw [bnd_t rfl]
      by_cases c2 : m < k
      · rw [if_pos (nI_lt c2 (by omega)), if_neg (nI_ge c2 (by omega))]
        unfold fX0_character
        simp only [lt_]
        rw [if_pos (by exact Int32.le_rfl)]
        simp (disch := omega) only [okI_t, gd_1, nc_, k3, nI_add, idx80]
        exact .inl ⟨u.2.1 13 (s + m), u, sS (sS v 0 0) 0 0, rfl, (by rw [k6 m c2]), rfl, h.fault.fault⟩
      · rw [if_neg (nI_nlt (by omega) (by omega)), if_pos (nI_le (by omega) (by omega))]
        exact bad u
  · rw [bndT_l a, bnd_t b]; exact noG h rfl rfl rfl
theorem having_R {u v : St} (h : Rel u v) (g op : Int32) (x y : Int64) : OpR cd31 (fX4_having u g op x y) (fX5_having v g op x y) := by
  unfold fX4_having fX5_having
  rcases grp_R h g with ⟨j, hj, e, a, b, t, _⟩ | ⟨a, b⟩
  · rw [bndT_r a, bnd_t b, if_neg (show ¬ (1 : Int32) = 0 by decide)]; subst e
    have BAD : ∀ {X : Option ((Nat ⊕ Int32) × St)} {M : Option (Int32 × St)}, X = some (.inl 1, u) → M = some (0, sS (sS v 0 0) 0 2) → OpR cd31 X M := fun e1 e2 => .inr ⟨1, 2, u, 0, sS (sS v 0 0) 0 2, e1, rfl, e2, rfl, by decide, h.fault.fault⟩
    have no : fX5_having_53 (nI j) op x y 2 (sS v 0 0) = some (0, sS (sS v 0 0) 0 2) := rfl
    by_cases o : op < 0 ∨ 2 < op
    · refine BAD ?_ ?_
      · have n49 : ∀ p q, fX4_having_49 (nI j) op x y p q u = some (.inl 1, u) := by
          intro p q
          unfold fX4_having_49
          rcases o with o | o
          · rw [if_pos o]
          · by_cases o2 : op < 0
            · rw [if_pos o2]
            · rw [if_neg o2, if_pos o]
        simp only [fX4_having_26, n49, ite_self]
      · rw [bnd_t (within_no (lo := 0) (hi := 2) _ (by decide +kernel) (by decide +kernel) o), if_pos rfl]; exact no
    · have o1 : ¬ op < 0 := fun e => o (.inl e)
      have o2 : ¬ 2 < op := fun e => o (.inr e)
      rw [bnd_t (within_ok (lo := 0) (hi := 2) _ (by decide +kernel) (by decide +kernel) o1 o2), if_neg (show ¬ (1 : Int32) = 0 by decide)]
      by_cases x1 : x < -1000000000 ∨ 1000000000 < x
      · refine BAD ?_ ?_
        · have n49 : ∀ q, fX4_having_49 (nI j) op x y 0 q u = some (.inl 1, u) := by
            intro q
            unfold fX4_having_49
            rw [if_neg o1, if_neg o2, if_pos rfl]
          have n26 : fX4_having_26 (nI j) op x y 0 u = some (.inl 1, u) := by simp only [fX4_having_26, n49, ite_self]
          rcases x1 with x1 | x1
          · rw [if_pos x1]; exact n26
          · by_cases x2 : x < -1000000000
            · rw [if_pos x2]; exact n26
            · rw [if_neg x2, if_pos x1]; exact n26
        · have : fX5_within (sS v 0 0) x (-1000000000) 1000000000 = some (0, sS v 0 0) := by
            unfold fX5_within
            rcases x1 with x1 | x1
            · rw [if_pos x1]
            · by_cases x2 : x < -1000000000
              · rw [if_pos x2]
              · rw [if_neg x2, if_pos x1]
          rw [bnd_t this]; exact no
      · have x2 : ¬ x < -1000000000 := fun e => x1 (.inl e)
        have x3 : ¬ 1000000000 < x := fun e => x1 (.inr e)
        have w1 : fX5_within (sS v 0 0) x (-1000000000) 1000000000 = some (1, sS v 0 0) := by
          unfold fX5_within; rw [if_neg x2, if_neg x3]
        rw [bnd_t w1, if_neg (show ¬ (1 : Int32) = 0 by decide), if_neg x2, if_neg x3]
        unfold fX4_having_26
        by_cases y1 : y < 1 ∨ 1000000 < y
        · refine BAD ?_ ?_
          · have n49 : fX4_having_49 (nI j) op x y 1 0 u = some (.inl 1, u) := by
              unfold fX4_having_49
              rw [if_neg o1, if_neg o2, if_neg (show ¬ (1 : Int32) = 0 by decide), if_pos rfl]
            rcases y1 with y1 | y1
            · rw [if_pos y1]; exact n49
            · by_cases y2 : y < 1
              · rw [if_pos y2]; exact n49
              · rw [if_neg y2, if_pos y1]; exact n49
          · have : fX5_within (sS v 0 0) y 1 1000000 = some (0, sS v 0 0) := by
              unfold fX5_within
              rcases y1 with y1 | y1
              · rw [if_pos y1]
              · by_cases y2 : y < 1
                · rw [if_pos y2]
                · rw [if_neg y2, if_pos y1]
            rw [bnd_t this]; exact no
        · have y2 : ¬ y < 1 := fun e => y1 (.inl e)
          have y3 : ¬ 1000000 < y := fun e => y1 (.inr e)
          have w2 : fX5_within (sS v 0 0) y 1 1000000 = some (1, sS v 0 0) := by
            unfold fX5_within; rw [if_neg y2, if_neg y3]
          rw [bnd_t w2, if_neg (show ¬ (1 : Int32) = 0 by decide), if_neg y2, if_neg y3]
          unfold fX4_having_49 fX5_having_53
          rw [if_neg o1, if_neg o2, if_neg (show ¬ (1 : Int32) = 0 by decide), if_neg (show ¬ (1 : Int32) = 0 by decide)]
          simp only [lt_]
          rw [if_neg (show ¬ 0 < (sS (sS v 0 0) 0 0).1 0 by exact (by decide : ¬ (0 : Int32) < 0))]
          unfold fX0_sortOf fX0_upper fX0_lower
          simp (disch := omega) only [okI_t, gd_1, nc_]
          have s1 : (sS (sS v 0 0) 0 0).2.1 10 j = u.2.1 8 j := t.2.2.1.symm
          have s2 : (sS (sS v 0 0) 0 0).2.2 0 j = u.2.2 1 j := t.2.2.2.2.2.1.symm
          have s3 : (sS (sS v 0 0) 0 0).2.2 1 j = u.2.2 2 j := t.2.2.2.2.2.2.symm
          rw [s1, s2, s3, bnd_t rfl, bnd_t rfl, bnd_t rfl]
          have R2 := h.fault (x := 0)
          have R3 := R2.fault (x := 0)
          have T : ∀ r : Int32, OpR cd31 (some (.inr r, u)) (some (r, sS (sS v 0 0) 0 0)) := fun r => .inl ⟨r, u, sS (sS v 0 0) 0 0, rfl, rfl, rfl, R3⟩
          by_cases k1 : u.2.1 8 j = 0
          · rw [if_pos k1, if_pos k1]
            by_cases k2 : op = 0
            · rw [if_pos k2, if_pos k2]
              by_cases k3 : x * u.2.2 2 j ≤ u.2.2 1 j * y
              · rw [if_pos k3, if_pos k3]; exact T 0
              · rw [if_neg k3, if_neg k3]; exact T 1
            · rw [if_neg k2, if_neg k2]
              by_cases k3 : op = 1
              · rw [if_pos k3, if_pos k3]
                by_cases k4 : u.2.2 1 j * y = x * u.2.2 2 j
                · rw [if_pos k4, if_pos k4]; exact T 1
                · rw [if_neg k4, if_neg k4]; exact T 0
              · rw [if_neg k3, if_neg k3]
                by_cases k4 : u.2.2 1 j * y ≤ x * u.2.2 2 j
                · rw [if_pos k4, if_pos k4]; exact T 0
                · rw [if_neg k4, if_neg k4]; exact T 1
          · rw [if_neg k1, if_neg k1]; exact T 0
  · rw [bndT_l a, bnd_t b]; exact noG h rfl rfl rfl
