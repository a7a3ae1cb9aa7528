/-! ===== rows ===== -/
abbrev ra (w : St) (p : Nat) : Tri := (w.2.1 2 p, w.2.1 3 p, w.2.1 4 p)
theorem ra_set {w : St} {k p : Nat} {x y z : Int32} : ra (sI (sI (sI w 2 k x) 3 k y) 4 k z) p = if p = k then (x, y, z) else ra w p := by
  show (upd (w.2.1 2) k x p, upd (w.2.1 3) k y p, upd (w.2.1 4) k z p) = _
  by_cases h : p = k
  · subst h; rw [if_pos rfl, pk_us, pk_us, pk_us]
  · rw [if_neg h, pk_un h, pk_un h, pk_un h]
theorem RowsA_of {u : St} {l : List Tri} (h1 : u.1 4 = nI l.length) (h2 : ∀ p, (h : p < l.length) → ra u p = l[p]) : RowsA u l :=
  ⟨h1, fun p h => by
    have := h2 p h
    exact ⟨congrArg (fun z : Tri => z.1) this, congrArg (fun z : Tri => z.2.1) this, congrArg (fun z : Tri => z.2.2) this⟩⟩
theorem RowsA.at_ {u : St} {l : List Tri} (h : RowsA u l) {p : Nat} (hp : p < l.length) : ra u p = l[p] := by
  obtain ⟨a, b, c⟩ := h.2 p hp
  show (_, _, _) = _
  rw [a, b, c]
theorem add_loop {A B : List Tri} {q key val : Int32} (hA : ∀ x ∈ A, x.1 ≤ q) (hB : ∀ x ∈ B, ¬ x.1 ≤ q) (hl : A.length + B.length < 60) : ∀ (j k : Nat) (w : St), j ≤ B.length → j < k → w.1 4 = nI (A.length + B.length) →
    (∀ p, (h : p < (A ++ B).length) → p < A.length + j → ra w p = (A ++ B)[p]) → (∀ p, (h : p < (A ++ B).length) → A.length + j ≤ p → ra w (p + 1) = (A ++ B)[p]) →
    ∃ u', fX1_add_6 k q key val (nI (A.length + j)) w = some ((), u') ∧ Frm [4] [2, 3, 4] [] w u' ∧ RowsA u' (A ++ (q, key, val) :: B) := by
  have hlen : (A ++ B).length = A.length + B.length := List.length_append
  have fin : ∀ (w : St), w.1 4 = nI (A.length + B.length) → (∀ p, (h : p < (A ++ B).length) → p < A.length → ra w p = (A ++ B)[p]) → (∀ p, (h : p < (A ++ B).length) → A.length ≤ p → ra w (p + 1) = (A ++ B)[p]) →
      ∃ u', fX1_add_78 q key val (nI A.length) w = some ((), u') ∧ Frm [4] [2, 3, 4] [] w u' ∧ RowsA u' (A ++ (q, key, val) :: B) := by
    intro w h0 h1 h2
    refine ⟨sS (sI (sI (sI w 2 A.length q) 3 A.length key) 4 A.length val) 4 (nI (A.length + B.length + 1)), ?_, ?_, ?_⟩
    · unfold fX1_add_78
      simp (disch := omega) only [okI_t, gd_1, nc_, lt_, h0, nI_1]
    · exact (((Frm.rfl'.sI (by decide)).sI (by decide)).sI (by decide)).sS (by decide)
    · apply RowsA_of
      · show nI (A.length + B.length + 1) = _
        rw [List.length_append, List.length_cons]; rfl
      · intro p hp
        rw [List.length_append, List.length_cons] at hp
        have e := ra_set (w := w) (k := A.length) (p := p) (x := q) (y := key) (z := val)
        refine e.trans ?_
        by_cases c : p = A.length
        · subst c
          rw [if_pos rfl, List.getElem_append_right (Nat.le_refl _)]
          simp only [Nat.sub_self, List.getElem_cons_zero]
        · rw [if_neg c]
          by_cases c2 : p < A.length
          · rw [h1 p (by omega) c2, List.getElem_append_left c2, List.getElem_append_left c2]
          · obtain ⟨j, rfl⟩ : ∃ j, p = j + 1 := ⟨p - 1, by omega⟩
            rw [h2 j (by omega) (by omega), List.getElem_append_right (by omega), List.getElem_append_right (by omega)]
            simp only [show j + 1 - A.length = (j - A.length) + 1 by omega, List.getElem_cons_succ]
  intro j
  induction j with
  | zero =>
    intro k w hj hk h0 h1 h2
    obtain ⟨k, rfl⟩ : ∃ i, k = i + 1 := ⟨k - 1, by omega⟩
    obtain ⟨u', f1, f2⟩ := fin w h0 (fun p hp hp2 => h1 p hp (by omega)) (fun p hp hp2 => h2 p hp (by omega))
    refine ⟨u', ?_, f2⟩
    unfold fX1_add_6
    simp only [Nat.add_zero]
    by_cases c : A.length = 0
    · rw [if_pos (by rw [c]; decide)]; exact f1
    · obtain ⟨a, ha⟩ : ∃ a, A.length = a + 1 := ⟨A.length - 1, by omega⟩
      have c1 : ¬ nI A.length ≤ 0 := nI_nle (by omega) (by omega)
      have c2 : w.2.1 2 a ≤ q := by
        have e := congrArg (fun z : Tri => z.1) (h1 a (by omega) (by omega))
        have e' : w.2.1 2 a = ((A ++ B)[a]'(by omega)).1 := e
        rw [e', List.getElem_append_left (by omega)]
        exact hA _ (List.getElem_mem _)
      rw [if_neg c1]
      have e1 : nI A.length - 1 = nI a := by rw [ha, nI_pred]
      simp (disch := omega) only [e1, okI_t, gd_1, nc_, c2, if_true]
      exact f1
  | succ j ih =>
    intro k w hj hk h0 h1 h2
    obtain ⟨k, rfl⟩ : ∃ i, k = i + 1 := ⟨k - 1, by omega⟩
    have gx : (A ++ B)[A.length + j]'(by omega) = B[j]'(by omega) := by
      rw [List.getElem_append_right (by omega)]
      simp only [Nat.add_sub_cancel_left]
    have hx := h1 (A.length + j) (by omega) (by omega)
    obtain ⟨u', f1, f2, f3⟩ := ih k (sI (sI (sI w 2 (A.length + j + 1) (w.2.1 2 (A.length + j))) 3 (A.length + j + 1) (w.2.1 3 (A.length + j))) 4 (A.length + j + 1) (w.2.1 4 (A.length + j))) (by omega) (by omega) h0
      (fun p hp hp2 => by
        rw [ra_set, if_neg (by omega)]; exact h1 p hp (by omega))
      (fun p hp hp2 => by
        rw [ra_set]
        by_cases c : p = A.length + j
        · subst c; rw [if_pos rfl]; exact hx
        · rw [if_neg (by omega)]; exact h2 p hp (by omega))
    refine ⟨u', ?_, (((Frm.rfl'.sI (by decide)).sI (by decide)).sI (by decide)).trans f2, f3⟩
    unfold fX1_add_6
    have c1 : ¬ nI (A.length + (j + 1)) ≤ 0 := nI_nle (by omega) (by omega)
    have e1 : nI (A.length + (j + 1)) - 1 = nI (A.length + j) := nI_pred _
    have e2 : nI (A.length + (j + 1)) + (-1) = nI (A.length + j) := dI_s _
    have c2 : ¬ w.2.1 2 (A.length + j) ≤ q := by
      have e' : w.2.1 2 (A.length + j) = ((A ++ B)[A.length + j]'(by omega)).1 := congrArg (fun z : Tri => z.1) hx
      rw [e', gx]
      exact hB _ (List.getElem_mem _)
    rw [if_neg c1]
    simp (disch := omega) only [e1, e2, okI_t, gd_1, nc_, c2, if_false, lt_]
    exact f1
theorem add_A {u : St} {A B : List Tri} {q key val : Int32} (hA : ∀ x ∈ A, x.1 ≤ q) (hB : ∀ x ∈ B, ¬ x.1 ≤ q) (hl : A.length + B.length < 60) (h : RowsA u (A ++ B)) : ∃ u', fX1_add u q key val = some ((), u') ∧ Frm [4] [2, 3, 4] [] u u' ∧ RowsA u' (A ++ (q, key, val) :: B) := by
  have h0 : u.1 4 = nI (A.length + B.length) := by rw [h.1, List.length_append]
  have := add_loop (key := key) (val := val) hA hB hl B.length FU u (Nat.le_refl _) (by rw [FU_]; omega) h0 (fun p hp _ => h.at_ hp) (fun p hp hp2 => by rw [List.length_append] at hp; omega)
  unfold fX1_add
  simp only [lt_]
  rw [h0]; exact this
theorem srt_len : ∀ (l : List Tri) (n : Nat), (∀ x ∈ l, okRow n x) → (srt l).length = l.length := by
  intro l n
  unfold srt
  simp only [List.length_append]
  induction l with
  | nil => intro _; rfl
  | cons x l ih =>
    intro h
    have := ih (fun y hy => h y (List.mem_cons_of_mem _ hy))
    simp only [List.filter_cons, List.length_cons]
    rcases (h x List.mem_cons_self).1 with e | e | e <;> rw [e] <;> simp <;> omega
theorem srt_add (l : List Tri) (x : Tri) (hx : x.1 = 0 ∨ x.1 = 1 ∨ x.1 = 2) : ∃ A B, srt l = A ++ B ∧ srt (l ++ [x]) = A ++ x :: B ∧ (∀ y ∈ A, y.1 ≤ x.1) ∧ (∀ y ∈ B, ¬ y.1 ≤ x.1) := by
  have f0 : ∀ y ∈ l.filter (fun y => decide (y.1 = 0)), y.1 = 0 := fun y hy => by simpa using (List.mem_filter.mp hy).2
  have f1 : ∀ y ∈ l.filter (fun y => decide (y.1 = 1)), y.1 = 1 := fun y hy => by simpa using (List.mem_filter.mp hy).2
  have f2 : ∀ y ∈ l.filter (fun y => decide (y.1 = 2)), y.1 = 2 := fun y hy => by simpa using (List.mem_filter.mp hy).2
  unfold srt
  simp only [List.filter_append, List.filter_cons, List.filter_nil]
  rcases hx with e | e | e
  · refine ⟨_, _, rfl, ?_, ?_, ?_⟩
    · rw [e]; simp
    · intro y hy; rw [f0 y hy, e]; decide
    · intro y hy
      rcases List.mem_append.mp hy with hy | hy
      · rw [f1 y hy, e]; decide
      · rw [f2 y hy, e]; decide
  · refine ⟨l.filter (fun y => decide (y.1 = 0)) ++ l.filter (fun y => decide (y.1 = 1)), l.filter (fun y => decide (y.1 = 2)), by rw [List.append_assoc], ?_, ?_, ?_⟩
    · rw [e]; simp
    · intro y hy
      rcases List.mem_append.mp hy with hy | hy
      · rw [f0 y hy, e]; decide
      · rw [f1 y hy, e]; decide
    · intro y hy; rw [f2 y hy, e]; decide
  · refine ⟨l.filter (fun y => decide (y.1 = 0)) ++ (l.filter (fun y => decide (y.1 = 1)) ++ l.filter (fun y => decide (y.1 = 2))), [], by rw [List.append_nil], ?_, ?_, ?_⟩
    · rw [e]; simp
    · intro y hy
      rcases List.mem_append.mp hy with hy | hy
      · rw [f0 y hy, e]; decide
      · rcases List.mem_append.mp hy with hy | hy
        · rw [f1 y hy, e]; decide
        · rw [f2 y hy, e]; decide
    · intro y hy; exact absurd hy (by simp)
/-- is it a term -/
theorem has_R {u v : St} {n : Nat} (h : TR u v n) (t : Int32) : (∃ j, j < n ∧ t = nI j ∧ fX2_has u t = some (1, u) ∧ fX5_isTerm v t = some (1, v)) ∨ (fX2_has u t = some (0, u) ∧ fX5_isTerm v t = some (0, v)) := by
  have hn := h.1
  unfold fX2_has fX5_isTerm
  rw [h.2.1, h.2.2.1]
  by_cases c : t < 0
  · simp only [c, if_true]; exact .inr ⟨trivial, trivial⟩
  · obtain ⟨j, hj, e⟩ := nI_of c
    subst e
    simp only [c, if_false]
    by_cases c2 : n ≤ j
    · simp (disch := omega) only [nI_leI, c2, if_true]; exact .inr ⟨trivial, trivial⟩
    · simp (disch := omega) only [nI_leI, c2, if_false]; exact .inl ⟨j, by omega, rfl, trivial, trivial⟩
theorem row_R {u v : St} (h : Rel u v) (q key val : Int32) : OpR cd12 (fX4_row u q key val) (fX5_row v q key val) := by
  have hR := h
  obtain ⟨n, l, h1, h2, h3, h4⟩ := h
  have hn := h1.1
  have nobad : ∀ w : St, fX5_row_52 q key val 1 w = some (0, sS w 0 1) := fun w => rfl
  have no37 : ∀ (b : Int32), fX4_row_37 q key val 0 b u = some (.inl 1, u) := fun b => rfl
  have BAD : ∀ {X : Option ((Nat ⊕ Int32) × St)} {M : Option (Int32 × St)}, X = some (.inl 1, u) → M = some (0, sS v 0 1) → OpR cd12 X M := fun e1 e2 => .inr ⟨1, 1, u, 0, sS v 0 1, e1, rfl, e2, rfl, by decide, hR.fault⟩
  -- the value
  have hv : (val = -1 ∨ ∃ j, j < n ∧ val = nI j) ∧ (∀ b, fX4_row_14 q key val b u = fX4_row_37 q key val b 1 u) ∧ (∀ w1 : Option (Int32 × St), (if val = (-1) then fX5_row_38 q key val v else bnd (fX5_isTerm v val) (fun r_11 u_12 => (if r_11 = 0 then fX5_row_52 q key val 1 u_12 else fX5_row_38 q key val u_12))) = fX5_row_38 q key val v) ∨
      ((∀ b, fX4_row_14 q key val b u = fX4_row_37 q key val b 0 u) ∧ (if val = (-1) then fX5_row_38 q key val v else bnd (fX5_isTerm v val) (fun r_11 u_12 => (if r_11 = 0 then fX5_row_52 q key val 1 u_12 else fX5_row_38 q key val u_12))) = some (0, sS v 0 1)) := by
    unfold fX4_row_14
    by_cases c : val = -1
    · left; simp only [c, if_true]; exact ⟨.inl trivial, fun _ => trivial, fun _ => trivial⟩
    · simp only [c, if_false]
      rcases has_R h1 val with ⟨j, hj, e, a, b⟩ | ⟨a, b⟩
      · left; rw [a, b]; exact ⟨.inr ⟨j, hj, e⟩, fun _ => rfl, fun _ => rfl⟩
      · right; rw [a, b]; exact ⟨fun _ => rfl, rfl⟩
  unfold fX4_row fX5_row
  by_cases c : q < 0 ∨ 2 < q
  · rw [bnd_t (within_no (lo := 0) (hi := 2) v (by decide +kernel) (by decide +kernel) c), if_pos rfl]
    refine BAD ?_ (nobad v)
    have : (if q < 0 then fX4_row_14 q key val 0 u else if 2 < q then fX4_row_14 q key val 0 u else fX4_row_14 q key val 1 u) = fX4_row_14 q key val 0 u := by
      rcases c with c | c
      · rw [if_pos c]
      · by_cases c2 : q < 0
        · rw [if_pos c2]
        · rw [if_neg c2, if_pos c]
    rw [this]
    rcases hv with ⟨_, hv, _⟩ | ⟨hv, _⟩ <;> rw [hv] <;> rfl
  · have c1 : ¬ q < 0 := fun e => c (.inl e)
    have c2 : ¬ 2 < q := fun e => c (.inr e)
    rw [bnd_t (within_ok (lo := 0) (hi := 2) v (by decide +kernel) (by decide +kernel) c1 c2), if_neg c1, if_neg c2, if_neg (show ¬ (1 : Int32) = 0 by decide)]
    rcases has_R h1 key with ⟨t, ht, ek, a, b⟩ | ⟨a, b⟩
    · rw [bnd_t b, if_neg (by decide)]
      rcases hv with ⟨okv, hv, hw⟩ | ⟨hv, hw⟩
      · rw [hv, hw none]
        unfold fX4_row_37 fX5_row_38
        rw [if_neg (by decide), bnd_t a, if_neg (by decide), if_neg (by decide)]
        unfold fX1_isFull
        obtain ⟨m1, m2, m3, m4⟩ := h2
        have sl := srt_len l n m4
        have m30 := m3.1
        rw [sl] at m30
        rw [m30, m2.1]
        by_cases cf : l.length = 60
        · rw [if_pos ((nI_60 (by omega)).mpr cf), if_neg (by rw [cf]; decide)]
          exact .inr ⟨2, 2, u, 0, sS v 0 2, rfl, rfl, rfl, rfl, by decide, hR.fault⟩
        · have cl : l.length < 60 := by omega
          rw [if_neg (fun e => cf ((nI_60 (by omega)).mp e)), if_pos (show nI l.length < 60 from nI_lt (b := 60) cl (by omega)), bnd_t rfl, if_pos rfl]
          obtain ⟨jq, hjq, eq⟩ := nI_of2 (M := 2) (n := 2) rfl c1 (Int32.not_lt.mp c2)
          have hq : q = 0 ∨ q = 1 ∨ q = 2 := by
            have : jq = 0 ∨ jq = 1 ∨ jq = 2 := by omega
            rcases this with e | e | e <;> subst e
            · exact .inl eq
            · exact .inr (.inl eq)
            · exact .inr (.inr eq)
          obtain ⟨A, B, s1, s2, s3, s4⟩ := srt_add l (q, key, val) hq
          have hAB : A.length + B.length = l.length := by rw [← sl, s1, List.length_append]
          rw [s1] at m3
          obtain ⟨u', a1, a2, a3⟩ := add_A (key := key) (val := val) s3 s4 (by omega) m3
          rw [bnd_t a1]
          unfold fX1_count
          have cnt : u'.1 4 = nI (l.length + 1) := by
            rw [a3.1, List.length_append, List.length_cons, ← hAB]; rfl
          refine .inl ⟨nI (l.length + 1), u', sS (sI (sI (sI (sS v 0 0) 5 l.length q) 6 l.length key) 7 l.length val) 2 (nI (l.length + 1)), ?_, ?_, rfl, ?_⟩
          · rw [cnt]; rfl
          · unfold fX5_row_52
            have e0 : upd v.1 0 0 2 = nI l.length := m2.1
            have e2 : ∀ y : Int32, upd (upd v.1 0 0) 2 y 2 = y := fun y => pk_us
            simp only [lt_]
            rw [if_pos (by exact Int32.le_rfl)]
            simp (disch := omega) only [e0, e2, okI_t, gd_1, nc_, nI_1]
          · have fv : Frm [0, 2] [5, 6, 7] [] v (sS (sI (sI (sI (sS v 0 0) 5 l.length q) 6 l.length key) 7 l.length val) 2 (nI (l.length + 1))) := ((((Frm.rfl'.sS (by decide)).sI (by decide)).sI (by decide)).sI (by decide)).sS (by decide)
            refine ⟨n, l ++ [(q, key, val)], h1.fr a2 fv (by decide) (by decide) (by decide) (by decide) (by decide), ⟨?_, ?_, ?_, ?_⟩, h3.fr a2 fv (by decide) (by decide), h4.fr a2 fv (by decide) (by decide) (by decide) (by decide) (by decide) (by decide)⟩
            · rw [List.length_append, List.length_singleton]; omega
            · refine ⟨?_, fun p hp => ?_⟩
              · rw [List.length_append, List.length_singleton]; rfl
              · rw [List.length_append, List.length_singleton] at hp
                show upd (v.2.1 5) l.length q p = _ ∧ upd (v.2.1 6) l.length key p = _ ∧ upd (v.2.1 7) l.length val p = _
                by_cases ep : p = l.length
                · subst ep
                  rw [pk_us, pk_us, pk_us, List.getElem_append_right (Nat.le_refl _)]
                  simp
                · rw [pk_un ep, pk_un ep, pk_un ep, List.getElem_append_left (by omega)]
                  exact m2.2 p (by omega)
            · rw [s2]; exact a3
            · intro x hx
              rcases List.mem_append.mp hx with hx | hx
              · exact m4 x hx
              · rw [List.mem_singleton.mp hx]; exact ⟨hq, ⟨t, ht, ek⟩, okv⟩
      · refine BAD ?_ hw
        rw [hv]
        unfold fX4_row_37
        rw [if_neg (by decide), bnd_t a]; rfl
    · rw [bnd_t b, if_pos rfl]
      refine BAD ?_ (nobad v)
      rcases hv with ⟨_, hv, _⟩ | ⟨hv, _⟩ <;> rw [hv] <;> unfold fX4_row_37 <;> rw [if_neg (by decide), bnd_t a] <;> rfl
