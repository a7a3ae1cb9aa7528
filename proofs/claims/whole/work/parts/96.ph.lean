/-! ===== the rows in their order ===== -/
def Lin (v : St) (l acc : List Tri) : Prop := ∀ p, p < acc.length → ∃ j, j < l.length ∧ v.2.1 15 p = nI j ∧ l[j]? = acc[p]?
theorem RowsM.fr {S A J : List Nat} {v v' : St} {l : List Tri} (h : RowsM v l) (hv : Frm S A J v v') (e1 : Dis [2] S) (e2 : Dis [5, 6, 7] A) : RowsM v' l := by
  unfold RowsM at h ⊢
  rw [hv.1 2 (e1 2 (by decide)), hv.2.1 5 (e2 5 (by decide)), hv.2.1 6 (e2 6 (by decide)), hv.2.1 7 (e2 7 (by decide))]; exact h
theorem lu_loop {l : List Tri} (hl : l.length ≤ 60) (q : Int32) (k4 : Int32 → Int32 → St → Option (Unit × St)) : ∀ (d i n : Nat) (acc : List Tri) (w : St), i + d = l.length → d < n → RowsM w l → Lin w l acc → (acc ++ (l.drop i).filter (fun x => decide (x.1 = q))).length ≤ 60 →
    ∃ w', fX5_lineUp_11 k4 n (nI acc.length) q (nI i) w = k4 (nI (acc ++ (l.drop i).filter (fun x => decide (x.1 = q))).length) (q + 1) w' ∧ Frm [] [15] [] w w' ∧ Lin w' l (acc ++ (l.drop i).filter (fun x => decide (x.1 = q))) := by
  intro d
  induction d with
  | zero =>
    intro i n acc w hi hn hM hA hB
    obtain ⟨n, rfl⟩ : ∃ j, n = j + 1 := ⟨n - 1, by omega⟩
    have e : l.drop i = [] := List.drop_eq_nil_of_le (by omega)
    refine ⟨w, ?_, Frm.rfl', ?_⟩
    · unfold fX5_lineUp_11
      rw [hM.1, if_pos (nI_le (by omega) (by omega)), e]
      simp only [lt_, List.filter_nil, List.append_nil]
    · rw [e]; simpa using hA
  | succ d ih =>
    intro i n acc w hi hn hM hA hB
    obtain ⟨n, rfl⟩ : ∃ j, n = j + 1 := ⟨n - 1, by omega⟩
    have e : l.drop i = l[i]'(by omega) :: l.drop (i + 1) := List.drop_eq_getElem_cons (by omega)
    have hp := (hM.2 i (by omega)).1
    unfold fX5_lineUp_11
    rw [hM.1, if_neg (nI_ge (by omega) (by omega))]
    simp (disch := omega) only [okI_t, gd_1, nc_, hp, lt_, nI_1]
    by_cases c : (l[i]'(by omega)).1 = q
    · have ef : (l.drop i).filter (fun x => decide (x.1 = q)) = l[i]'(by omega) :: (l.drop (i + 1)).filter (fun x => decide (x.1 = q)) := by
        rw [e, List.filter_cons, if_pos (by simpa using c)]
      rw [ef] at hB ⊢
      have hal : acc.length < 60 := by rw [List.length_append, List.length_cons] at hB; omega
      have ea : acc ++ l[i]'(by omega) :: (l.drop (i + 1)).filter (fun x => decide (x.1 = q)) = (acc ++ [l[i]'(by omega)]) ++ (l.drop (i + 1)).filter (fun x => decide (x.1 = q)) := by simp
      rw [ea] at hB ⊢
      have eal : (acc ++ [l[i]'(by omega)]).length = acc.length + 1 := by simp
      obtain ⟨w', q1, q2, q3⟩ := ih (i + 1) n (acc ++ [l[i]'(by omega)]) (sI w 15 acc.length (nI i)) (by omega) (by omega) (hM.fr (S := []) (A := [15]) (J := []) (Frm.rfl'.sI (by decide)) (by decide) (by decide)) (by
        intro p hp
        rw [eal] at hp
        by_cases cp : p = acc.length
        · subst cp
          refine ⟨i, by omega, pk_us, ?_⟩
          rw [List.getElem?_append_right (Nat.le_refl _)]
          simp
        · obtain ⟨j, j1, j2, j3⟩ := hA p (by omega)
          refine ⟨j, j1, (pk_un cp).trans j2, ?_⟩
          rw [List.getElem?_append_left (by omega)]; exact j3) hB
      refine ⟨w', ?_, (Frm.sI Frm.rfl' (by decide)).trans q2, q3⟩
      rw [if_pos c]
      simp (disch := omega) only [okI_t, gd_1, nc_, lt_, nI_1]
      rw [← q1, eal]
    · have ef : (l.drop i).filter (fun x => decide (x.1 = q)) = (l.drop (i + 1)).filter (fun x => decide (x.1 = q)) := by
        rw [e, List.filter_cons, if_neg (by simpa using c)]
      rw [ef] at hB ⊢
      obtain ⟨w', q1, q2⟩ := ih (i + 1) n acc w (by omega) (by omega) hM hA hB
      refine ⟨w', ?_, q2⟩
      rw [if_neg c]; exact q1
theorem lu4 (m : Nat) (x1 x2 : Int32) (w : St) : fX5_lineUp_4 (m + 1) x1 x2 w = if 3 ≤ x2 then some ((), w) else fX5_lineUp_11 (fX5_lineUp_4 m) FU x1 x2 0 w := rfl
theorem lineUp_M {v : St} {l : List Tri} {n : Nat} (hl : l.length ≤ 60) (hM : RowsM v l) (ho : ∀ x ∈ l, okRow n x) : ∃ v', fX5_lineUp v = some ((), v') ∧ Frm [] [15] [] v v' ∧ Lin v' l (srt l) := by
  have sl := srt_len l n ho
  have sl' : (l.filter (fun x => decide (x.1 = 0))).length + ((l.filter (fun x => decide (x.1 = 1))).length + (l.filter (fun x => decide (x.1 = 2))).length) = l.length := by
    rw [← sl]; unfold srt; simp only [List.length_append]
  obtain ⟨m, hm⟩ : ∃ m, FU = m + 1 + 1 + 1 + 1 := ⟨99996, rfl⟩
  obtain ⟨v1, a1, a2, a3⟩ := lu_loop hl 0 (fX5_lineUp_4 (m + 1 + 1 + 1)) l.length 0 FU [] v (by omega) (by rw [FU_]; omega) hM (fun p hp => absurd hp (by simp)) (by simp only [List.drop_zero, List.nil_append]; omega)
  simp only [List.drop_zero, List.nil_append] at a1 a3
  obtain ⟨v2, b1, b2, b3⟩ := lu_loop hl (0 + 1) (fX5_lineUp_4 (m + 1 + 1)) l.length 0 FU _ v1 (by omega) (by rw [FU_]; omega) (hM.fr a2 (by decide) (by decide)) a3 (by
    rw [List.drop_zero, List.length_append]
    have : (fun x : Tri => decide (x.1 = 0 + 1)) = (fun x => decide (x.1 = 1)) := rfl
    rw [this]; omega)
  rw [List.drop_zero] at b1 b3
  obtain ⟨v3, c1, c2, c3⟩ := lu_loop hl (0 + 1 + 1) (fX5_lineUp_4 (m + 1)) l.length 0 FU _ v2 (by omega) (by rw [FU_]; omega) (hM.fr (a2.trans b2) (by decide) (by decide)) b3 (by
    rw [List.drop_zero, List.length_append, List.length_append]
    have e1 : (fun x : Tri => decide (x.1 = 0 + 1)) = (fun x => decide (x.1 = 1)) := rfl
    have e2 : (fun x : Tri => decide (x.1 = 0 + 1 + 1)) = (fun x => decide (x.1 = 2)) := rfl
    rw [e1, e2]; omega)
  rw [List.drop_zero] at c1 c3
  rw [nI_0] at a1 b1 c1
  refine ⟨v3, ?_, (a2.trans b2).trans c2, ?_⟩
  · unfold fX5_lineUp
    have z0 : nI ([] : List Tri).length = 0 := rfl
    rw [z0] at a1
    rw [hm, lu4, if_neg (by decide), a1, lu4, if_neg (by decide), b1, lu4, if_neg (by decide), c1, lu4, if_pos (by decide)]
  · unfold srt
    rw [List.append_assoc] at c3
    exact c3
/-- the rows, seen by places -/
def PL (u v : St) (n m : Nat) : Prop := m ≤ 60 ∧ u.1 4 = nI m ∧ v.1 2 = nI m ∧ ∀ p, p < m → ∃ j t, j < m ∧ v.2.1 15 p = nI j ∧ t < n ∧ u.2.1 3 p = nI t ∧ v.2.1 6 j = nI t ∧ u.2.1 4 p = v.2.1 7 j ∧ (u.2.1 4 p = -1 ∨ ∃ s, s < n ∧ u.2.1 4 p = nI s)
theorem srt_mem {l : List Tri} {x : Tri} (h : x ∈ srt l) : x ∈ l := by
  unfold srt at h
  rcases List.mem_append.mp h with h | h
  · exact (List.mem_filter.mp h).1
  · rcases List.mem_append.mp h with h | h
    · exact (List.mem_filter.mp h).1
    · exact (List.mem_filter.mp h).1
theorem PL_of {u v : St} {n : Nat} {l : List Tri} (h : RowsR u v n l) (hL : Lin v l (srt l)) : PL u v n l.length := by
  obtain ⟨h1, h2, h3, h4⟩ := h
  have sl := srt_len l n h4
  refine ⟨h1, by rw [h3.1, sl], h2.1, fun p hp => ?_⟩
  obtain ⟨j, j1, j2, j3⟩ := hL p (by omega)
  have e : l[j] = (srt l)[p]'(by omega) := by
    rw [List.getElem?_eq_getElem j1, List.getElem?_eq_getElem (by omega : p < (srt l).length)] at j3
    exact Option.some.inj j3
  obtain ⟨a1, a2, a3⟩ := h3.2 p (by omega)
  obtain ⟨b1, b2, b3⟩ := h2.2 j j1
  obtain ⟨_, ⟨t, t1, t2⟩, o3⟩ := h4 (l[j]) (List.getElem_mem _)
  refine ⟨j, t, j1, j2, t1, by rw [a2, ← e]; exact t2, by rw [b2]; exact t2, by rw [a3, b3, e], ?_⟩
  rw [a3, ← e]; exact o3
theorem PL.fr {S A J S' A' J' : List Nat} {u v u' v' : St} {n m : Nat} (h : PL u v n m) (hu : Frm S A J u u') (hv : Frm S' A' J' v v') (d1 : Dis [4] S) (d2 : Dis [3, 4] A) (e1 : Dis [2] S') (e2 : Dis [6, 7, 15] A') : PL u' v' n m := by
  unfold PL at h ⊢
  rw [hu.1 4 (d1 4 (by decide)), hu.2.1 3 (d2 3 (by decide)), hu.2.1 4 (d2 4 (by decide)), hv.1 2 (e1 2 (by decide)), hv.2.1 6 (e2 6 (by decide)), hv.2.1 7 (e2 7 (by decide)), hv.2.1 15 (e2 15 (by decide))]; exact h
