/-! ===== what the class and the reference have in common ===== -/
abbrev Tri : Type := Int32 × Int32 × Int32
def srt (l : List Tri) : List Tri := l.filter (fun x => decide (x.1 = 0)) ++ (l.filter (fun x => decide (x.1 = 1)) ++ l.filter (fun x => decide (x.1 = 2)))
def RowsA (u : St) (l : List Tri) : Prop := u.1 4 = nI l.length ∧ ∀ p, (h : p < l.length) → u.2.1 2 p = l[p].1 ∧ u.2.1 3 p = l[p].2.1 ∧ u.2.1 4 p = l[p].2.2
def RowsM (v : St) (l : List Tri) : Prop := v.1 2 = nI l.length ∧ ∀ p, (h : p < l.length) → v.2.1 5 p = l[p].1 ∧ v.2.1 6 p = l[p].2.1 ∧ v.2.1 7 p = l[p].2.2
def okRow (n : Nat) (x : Tri) : Prop := (x.1 = 0 ∨ x.1 = 1 ∨ x.1 = 2) ∧ (∃ t, t < n ∧ x.2.1 = nI t) ∧ (x.2.2 = -1 ∨ ∃ t, t < n ∧ x.2.2 = nI t)
def RowsR (u v : St) (n : Nat) (l : List Tri) : Prop := l.length ≤ 60 ∧ RowsM v l ∧ RowsA u (srt l) ∧ ∀ x ∈ l, okRow n x
def SetR (u v : St) : Prop := (∃ b, b ≤ 2 ∧ u.1 0 = nI b ∧ v.1 3 = nI b) ∧ (∃ s, s ≤ 126 ∧ u.1 1 = nI s ∧ v.1 4 = nI s) ∧ (∃ o, o ≤ 2 ∧ u.1 2 = nI o ∧ v.1 5 = nI o)
/-- what a group tells, but its text -/
def GrpT (u v : St) (g : Nat) : Prop := u.2.1 6 g = v.2.1 8 g ∧ u.2.1 7 g = v.2.1 9 g ∧ u.2.1 8 g = v.2.1 10 g ∧ u.2.1 9 g = v.2.1 11 g ∧ u.2.1 10 g = v.2.1 12 g ∧ u.2.2 1 g = v.2.2 0 g ∧ u.2.2 2 g = v.2.2 1 g
def GrpC (u v : St) (g : Nat) : Prop := ∃ s k, k ≤ 80 ∧ s + k ≤ 600 ∧ u.2.1 11 g = nI s ∧ u.2.1 12 g = nI k ∧ v.2.1 13 g = nI k ∧ ∀ i, i < k → u.2.1 13 (s + i) = v.2.1 14 (80 * g + i)
def GrpsR (u v : St) : Prop := ∃ c, c ≤ 60 ∧ u.1 7 = nI c ∧ v.1 6 = nI c ∧ ∀ g, g < c → GrpT u v g ∧ GrpC u v g
def Rel (u v : St) : Prop := ∃ n l, TR u v n ∧ RowsR u v n l ∧ SetR u v ∧ GrpsR u v
abbrev Dis (a b : List Nat) : Prop := ∀ x ∈ a, x ∉ b
theorem TermR.congr {u v u' v' : St} {t : Nat} (h : TermR u v t) (a1 : u'.2.2 0 t = u.2.2 0 t) (a2 : u'.2.1 0 t = u.2.1 0 t) (a3 : u'.2.1 1 t = u.2.1 1 t) (b0 : v'.2.1 0 t = v.2.1 0 t) (b1 : v'.2.1 1 t = v.2.1 1 t) (b2 : v'.2.1 2 t = v.2.1 2 t) (b3 : v'.2.1 3 t = v.2.1 3 t) (b4 : ∀ i, i < 8 → v'.2.1 4 (8 * t + i) = v.2.1 4 (8 * t + i)) : TermR u' v' t := by
  rcases h with h | ⟨cs, h⟩
  · left; unfold NumR at h ⊢; rw [a1, a2, a3, b0, b1, b2]; exact h
  · right; refine ⟨cs, ?_⟩
    unfold TxtR at h ⊢
    rw [a1, a2, a3, b0, b3]
    obtain ⟨h1, h2, h3, h4, h5, h6, h7⟩ := h
    exact ⟨h1, h2, h3, h4, h5, h6, fun i hi => by rw [b4 i (by have := h1.2.1; omega)]; exact h7 i hi⟩
theorem TR.fr {S A J S' A' J' : List Nat} {u v u' v' : St} {n : Nat} (h : TR u v n) (hu : Frm S A J u u') (hv : Frm S' A' J' v v') (d1 : Dis [3] S) (d2 : Dis [0, 1] A) (d3 : Dis [0] J) (e1 : Dis [1] S') (e2 : Dis [0, 1, 2, 3, 4] A') : TR u' v' n := by
  refine ⟨h.1, (hu.1 3 (d1 3 (by decide))).trans h.2.1, (hv.1 1 (e1 1 (by decide))).trans h.2.2.1, fun t ht => ?_⟩
  refine (h.2.2.2 t ht).congr ?_ ?_ ?_ ?_ ?_ ?_ ?_ ?_
  · rw [hu.2.2 0 (d3 0 (by decide))]
  · rw [hu.2.1 0 (d2 0 (by decide))]
  · rw [hu.2.1 1 (d2 1 (by decide))]
  · rw [hv.2.1 0 (e2 0 (by decide))]
  · rw [hv.2.1 1 (e2 1 (by decide))]
  · rw [hv.2.1 2 (e2 2 (by decide))]
  · rw [hv.2.1 3 (e2 3 (by decide))]
  · intro i _; rw [hv.2.1 4 (e2 4 (by decide))]
theorem RowsR.fr {S A J S' A' J' : List Nat} {u v u' v' : St} {n : Nat} {l : List Tri} (h : RowsR u v n l) (hu : Frm S A J u u') (hv : Frm S' A' J' v v') (d1 : Dis [4] S) (d2 : Dis [2, 3, 4] A) (e1 : Dis [2] S') (e2 : Dis [5, 6, 7] A') : RowsR u' v' n l := by
  obtain ⟨h1, h2, h3, h4⟩ := h
  refine ⟨h1, ?_, ?_, h4⟩
  · unfold RowsM at h2 ⊢
    rw [hv.1 2 (e1 2 (by decide)), hv.2.1 5 (e2 5 (by decide)), hv.2.1 6 (e2 6 (by decide)), hv.2.1 7 (e2 7 (by decide))]; exact h2
  · unfold RowsA at h3 ⊢
    rw [hu.1 4 (d1 4 (by decide)), hu.2.1 2 (d2 2 (by decide)), hu.2.1 3 (d2 3 (by decide)), hu.2.1 4 (d2 4 (by decide))]; exact h3
theorem okRow.mono {n m : Nat} {x : Tri} (h : okRow n x) (hm : n ≤ m) : okRow m x := ⟨h.1, (let ⟨t, a, b⟩ := h.2.1; ⟨t, by omega, b⟩), h.2.2.imp id (fun ⟨t, a, b⟩ => ⟨t, by omega, b⟩)⟩
theorem RowsR.mono {u v : St} {n m : Nat} {l : List Tri} (h : RowsR u v n l) (hm : n ≤ m) : RowsR u v m l := ⟨h.1, h.2.1, h.2.2.1, fun x hx => (h.2.2.2 x hx).mono hm⟩
theorem SetR.fr {S A J S' A' J' : List Nat} {u v u' v' : St} (h : SetR u v) (hu : Frm S A J u u') (hv : Frm S' A' J' v v') (d1 : Dis [0, 1, 2] S) (e1 : Dis [3, 4, 5] S') : SetR u' v' := by
  unfold SetR at h ⊢
  rw [hu.1 0 (d1 0 (by decide)), hu.1 1 (d1 1 (by decide)), hu.1 2 (d1 2 (by decide)), hv.1 3 (e1 3 (by decide)), hv.1 4 (e1 4 (by decide)), hv.1 5 (e1 5 (by decide))]; exact h
theorem GrpsR.fr {S A J S' A' J' : List Nat} {u v u' v' : St} (h : GrpsR u v) (hu : Frm S A J u u') (hv : Frm S' A' J' v v') (d1 : Dis [7] S) (d2 : Dis [6, 7, 8, 9, 10, 11, 12, 13] A) (d3 : Dis [1, 2] J) (e1 : Dis [6] S') (e2 : Dis [8, 9, 10, 11, 12, 13, 14] A') (e3 : Dis [0, 1] J') : GrpsR u' v' := by
  unfold GrpsR GrpT GrpC at h ⊢
  rw [hu.1 7 (d1 7 (by decide)), hv.1 6 (e1 6 (by decide)), hu.2.1 6 (d2 6 (by decide)), hu.2.1 7 (d2 7 (by decide)), hu.2.1 8 (d2 8 (by decide)), hu.2.1 9 (d2 9 (by decide)), hu.2.1 10 (d2 10 (by decide)), hu.2.1 11 (d2 11 (by decide)), hu.2.1 12 (d2 12 (by decide)), hu.2.1 13 (d2 13 (by decide)), hu.2.2 1 (d3 1 (by decide)), hu.2.2 2 (d3 2 (by decide)), hv.2.1 8 (e2 8 (by decide)), hv.2.1 9 (e2 9 (by decide)), hv.2.1 10 (e2 10 (by decide)), hv.2.1 11 (e2 11 (by decide)), hv.2.1 12 (e2 12 (by decide)), hv.2.1 13 (e2 13 (by decide)), hv.2.1 14 (e2 14 (by decide)), hv.2.2 0 (e3 0 (by decide)), hv.2.2 1 (e3 1 (by decide))]
  exact h
/-- how a call of the class and one of the reference go together -/
def OpR {α : Type} (cd : Nat → Option Int32) (X : Option ((Nat ⊕ α) × St)) (M : Option (α × St)) : Prop :=
  (∃ r u' v', X = some (.inr r, u') ∧ M = some (r, v') ∧ v'.1 0 = 0 ∧ Rel u' v') ∨ (∃ k c u' r v', X = some (.inl k, u') ∧ cd k = some c ∧ M = some (r, v') ∧ v'.1 0 = c ∧ ¬ c = 0 ∧ Rel u' v')
def cd1 (k : Nat) : Option Int32 := if k = 1 then some 1 else none
def cd3 (k : Nat) : Option Int32 := if k = 3 then some 1 else none
def cd12 (k : Nat) : Option Int32 := if k = 1 then some 1 else if k = 2 then some 2 else none
def cd31 (k : Nat) : Option Int32 := if k = 3 then some 1 else if k = 1 then some 2 else none
/-- a fault that is written down changes nothing -/
theorem Rel.fault {u v : St} {x : Int32} (h : Rel u v) : Rel u (sS v 0 x) := by
  obtain ⟨n, l, h1, h2, h3, h4⟩ := h
  have fu : Frm [] [] [] u u := Frm.rfl'
  have fv : Frm [0] [] [] v (sS v 0 x) := Frm.rfl'.sS (by decide)
  exact ⟨n, l, h1.fr fu fv (by decide) (by decide) (by decide) (by decide) (by decide), h2.fr fu fv (by decide) (by decide) (by decide) (by decide), h3.fr fu fv (by decide) (by decide), h4.fr fu fv (by decide) (by decide) (by decide) (by decide) (by decide) (by decide)⟩
/-! within -/
theorem w_lt {a c : Int32} {d : Int64} (h : d.toInt = c.toInt) : a.toInt64 < d ↔ a < c := by
  rw [Int64.lt_iff_toInt_lt, Int32.lt_iff_toInt_lt, Int32.toInt_toInt64, h]
theorem w_gt {a c : Int32} {d : Int64} (h : d.toInt = c.toInt) : d < a.toInt64 ↔ c < a := by
  rw [Int64.lt_iff_toInt_lt, Int32.lt_iff_toInt_lt, Int32.toInt_toInt64, h]
theorem within_R {a lo hi : Int32} {lo' hi' : Int64} (u : St) (h1 : lo'.toInt = lo.toInt) (h2 : hi'.toInt = hi.toInt) : fX5_within u a.toInt64 lo' hi' = some (if a < lo ∨ hi < a then 0 else 1, u) := by
  unfold fX5_within
  simp only [w_lt h1, w_gt h2]
  by_cases h : a < lo
  · rw [if_pos h, if_pos (.inl h)]
  · rw [if_neg h]
    by_cases h' : hi < a
    · rw [if_pos h', if_pos (.inr h')]
    · rw [if_neg h', if_neg (fun c => c.elim h h')]
theorem within_no {a lo hi : Int32} {lo' hi' : Int64} (u : St) (h1 : lo'.toInt = lo.toInt) (h2 : hi'.toInt = hi.toInt) (h : a < lo ∨ hi < a) : fX5_within u a.toInt64 lo' hi' = some (0, u) := by rw [within_R u h1 h2, if_pos h]
theorem within_ok {a lo hi : Int32} {lo' hi' : Int64} (u : St) (h1 : lo'.toInt = lo.toInt) (h2 : hi'.toInt = hi.toInt) (h : ¬ a < lo) (h' : ¬ hi < a) : fX5_within u a.toInt64 lo' hi' = some (1, u) := by rw [within_R u h1 h2, if_neg (fun c => c.elim h h')]
theorem nI_60 {n : Nat} (h : n < 2 ^ 31) : nI n = 60 ↔ n = 60 := nI_eq (b := 60) h (by omega)
/-! ===== numbers ===== -/
theorem fn_loop {u v : St} {n : Nat} (h : TR u v n) (a s : Int32) : ∀ (d i k : Nat), i + d = n → d < k →
    (∃ t, t < n ∧ fX2_find_3 k 0 a s (nI i) u = some (nI t, u) ∧ fX5_number_46 k a s (nI i) v = some (nI t, v)) ∨
    (fX2_find_3 k 0 a s (nI i) u = some (-1, u) ∧ fX5_number_46 k a s (nI i) v = (if v.1 1 = 60 then fX5_number_106 a s 2 v else fX5_number_106 a s 0 v)) := by
  have hn := h.1
  intro d
  induction d with
  | zero =>
    intro i k hi hk
    obtain ⟨k, rfl⟩ : ∃ j, k = j + 1 := ⟨k - 1, by omega⟩
    right
    unfold fX2_find_3 fX5_number_46
    have e : i = n := by omega
    rw [h.2.1, h.2.2.1, e]
    simp only [Int32.le_rfl, if_true]
    exact ⟨trivial, trivial⟩
  | succ d ih =>
    intro i k hi hk
    obtain ⟨k, rfl⟩ : ∃ j, k = j + 1 := ⟨k - 1, by omega⟩
    unfold fX2_find_3 fX5_number_46
    rw [h.2.1, h.2.2.1]
    simp (disch := omega) only [nI_leI, okI_t, gd_1, nc_, nI_1, lt_]
    simp only [show ¬ n ≤ i by omega, if_false]
    have IH := ih (i + 1) k (by omega) (by omega)
    rw [h.2.2.1] at IH
    rcases h.2.2.2 i (by omega) with g | ⟨cs, g⟩
    · simp only [g.1, g.2.1, g.2.2.1, g.2.2.2.1, if_true]
      by_cases e1 : u.2.1 0 i = a
      · simp only [e1, if_true]
        by_cases e2 : u.2.1 1 i = s
        · simp only [e2, if_true]; exact .inl ⟨i, by omega, rfl, rfl⟩
        · simp only [e2, if_false]; exact IH
      · simp only [e1, if_false]; exact IH
    · have z1 : ¬ v.2.1 0 i = 0 := by rw [g.2.2.2.2.1]; decide
      simp only [g.ne0, z1, if_false]; exact IH
theorem number_R {u v : St} (h : Rel u v) (a s : Int32) : OpR cd12 (fX4_number u a s) (fX5_number v a s) := by
  have hR := h
  obtain ⟨n, l, h1, h2, h3, h4⟩ := h
  have bad : (a < -1000000 ∨ 1000000 < a) ∨ (s < 0 ∨ 3 < s) → OpR cd12 (some (.inl 1, u)) (fX5_number v a s) := by
    intro hb
    refine .inr ⟨1, 1, u, 0, sS v 0 1, rfl, rfl, ?_, rfl, by decide, hR.fault⟩
    unfold fX5_number
    by_cases c : a < -1000000 ∨ 1000000 < a
    · rw [bnd_t (within_no (lo := -1000000) (hi := 1000000) v (by decide +kernel) (by decide +kernel) c)]; rfl
    · rw [bnd_t (within_ok (lo := -1000000) (hi := 1000000) v (by decide +kernel) (by decide +kernel) (fun e => c (.inl e)) (fun e => c (.inr e))), if_neg (by decide), bnd_t (within_no (lo := 0) (hi := 3) v (by decide +kernel) (by decide +kernel) (hb.resolve_left c))]; rfl
  unfold fX4_number
  by_cases c1 : a < -1000000
  · rw [if_pos c1]; exact bad (.inl (.inl c1))
  rw [if_neg c1]
  by_cases c2 : 1000000 < a
  · rw [if_pos c2]; exact bad (.inl (.inr c2))
  rw [if_neg c2]
  by_cases c3 : s < 0
  · rw [if_pos c3]; exact bad (.inr (.inl c3))
  rw [if_neg c3]
  by_cases c5 : ¬ s ≤ 3
  · rw [if_neg c5]; exact bad (.inr (.inr (Int32.not_le.mp c5)))
  have c4 : s ≤ 3 := Classical.not_not.mp c5
  rw [if_pos c4]
  have eM : fX5_number v a s = fX5_number_46 FU a s 0 (sS v 0 0) := by
    unfold fX5_number
    rw [bnd_t (within_ok (lo := -1000000) (hi := 1000000) v (by decide +kernel) (by decide +kernel) c1 c2), if_neg (by decide), bnd_t (within_ok (lo := 0) (hi := 3) v (by decide +kernel) (by decide +kernel) c3 (fun e => Int32.not_le.mpr e c4)), if_neg (by decide)]
    rfl
  have fv0 : Frm [0] [] [] v (sS v 0 0) := Frm.rfl'.sS (by decide)
  have h1' : TR u (sS v 0 0) n := h1.fr (Frm.rfl' (S := []) (A := []) (J := [])) fv0 (by decide) (by decide) (by decide) (by decide) (by decide)
  have hn := h1.1
  rcases fn_loop h1' a s n 0 FU (by omega) (by rw [FU_]; omega) with ⟨t, ht, q1, q2⟩ | ⟨q1, q2⟩
  · left
    refine ⟨nI t, u, sS v 0 0, ?_, ?_, rfl, hR.fault⟩
    · unfold fX4_termOf fX2_find
      have q1' : fX2_find_3 FU 0 a s 0 u = some (nI t, u) := q1
      rw [bnd_t q1', if_neg]
      · rfl
      · intro c
        have := congrArg Int32.toInt c
        rw [nI_toInt (by omega)] at this
        have e : (-1 : Int32).toInt = -1 := rfl
        omega
    · rw [eM]; exact q2
  · have q1' : fX2_find_3 FU 0 a s 0 u = some (-1, u) := q1
    have q2' : fX5_number_46 FU a s 0 (sS v 0 0) = _ := q2
    rw [eM, q2']
    have e60 : (60 : Int32) = nI 60 := rfl
    by_cases c : n = 60
    · right
      refine ⟨2, 2, u, 0, sS (sS v 0 0) 0 2, ?_, rfl, ?_, rfl, by decide, hR.fault.fault⟩
      · unfold fX4_termOf fX2_find
        rw [bnd_t q1', if_pos rfl]
        unfold fX2_isFull
        rw [h1.2.1, c, if_neg (by decide)]; rfl
      · rw [h1'.2.2.1, if_pos ((nI_60 (by omega)).mpr c)]; rfl
    · left
      have cn : n < 60 := by omega
      refine ⟨nI n, sS (sI (sI (sJ u 0 n 0) 0 n a) 1 n s) 3 (nI (n + 1)), sS (sI (sI (sI (sS (sS v 0 0) 0 0) 0 n 0) 1 n a) 2 n s) 1 (nI (n + 1)), ?_, ?_, rfl, ?_⟩
      · unfold fX4_termOf fX2_find
        rw [bnd_t q1', if_pos rfl]
        unfold fX2_isFull
        rw [h1.2.1, if_pos (by rw [e60]; exact nI_lt cn (by omega))]
        have : fX2_add u 0 a s = some (nI n, sS (sI (sI (sJ u 0 n 0) 0 n a) 1 n s) 3 (nI (n + 1))) := by
          unfold fX2_add
          simp only [lt_, h1.2.1]
          simp (disch := omega) only [okI_t, gd_1, nc_, nI_1]
        rw [bnd_t rfl, if_pos rfl, bnd_t this]; rfl
      · rw [h1'.2.2.1, if_neg (fun e => c ((nI_60 (by omega)).mp e))]
        unfold fX5_number_106
        have e1 : upd (upd v.1 0 0) 0 0 1 = nI n := h1'.2.2.1
        have z0 : (sS (sS v 0 0) 0 0).1 0 ≤ 0 := Int32.le_rfl
        have hnar : vp_nar .boolean 0 = 0 := by decide +kernel
        simp only [lt_, hnar]
        rw [if_pos z0]
        have e2 : ∀ y : Int32, upd (upd (upd v.1 0 0) 0 0) 1 y 1 = y := fun y => pk_us
        simp (disch := omega) only [e1, e2, okI_t, gd_1, nc_, nI_1, nI_pred]
      · refine ⟨n + 1, l, ?_, ?_, ?_, ?_⟩
        · refine ⟨by omega, rfl, rfl, fun t ht => ?_⟩
          by_cases e : t = n
          · subst e
            left
            refine ⟨pk_uLs, pk_us, ?_, ?_, ?_, ?_⟩
            · show upd _ t a t = upd _ t a t; rw [pk_us, pk_us]
            · show upd _ t s t = upd _ t s t; rw [pk_us, pk_us]
            · show _ ≤ (upd _ t a t).toInt ∧ (upd _ t a t).toInt ≤ _
              rw [pk_us]
              rw [Int32.not_lt, Int32.le_iff_toInt_le] at c1 c2
              exact ⟨c1, c2⟩
            · obtain ⟨j, hj, es⟩ := nI_of2 (M := 3) (n := 3) rfl c3 c4
              exact ⟨j, hj, by show upd _ t s t = _; rw [pk_us]; exact es⟩
          · refine (h1.2.2.2 t (by omega)).congr (pk_uLn e) (pk_un e) (pk_un e) (pk_un e) (pk_un e) (pk_un e) rfl (fun i _ => rfl)
        · have fu : Frm [3] [0, 1] [0] u (sS (sI (sI (sJ u 0 n 0) 0 n a) 1 n s) 3 (nI (n + 1))) := (((Frm.rfl'.sJ (by decide)).sI (by decide)).sI (by decide)).sS (by decide)
          have fv : Frm [0, 1] [0, 1, 2] [] v (sS (sI (sI (sI (sS (sS v 0 0) 0 0) 0 n 0) 1 n a) 2 n s) 1 (nI (n + 1))) := (((((Frm.rfl'.sS (by decide)).sS (by decide)).sI (by decide)).sI (by decide)).sI (by decide)).sS (by decide)
          exact (h2.fr fu fv (by decide) (by decide) (by decide) (by decide)).mono (by omega)
        · have fu : Frm [3] [0, 1] [0] u (sS (sI (sI (sJ u 0 n 0) 0 n a) 1 n s) 3 (nI (n + 1))) := (((Frm.rfl'.sJ (by decide)).sI (by decide)).sI (by decide)).sS (by decide)
          have fv : Frm [0, 1] [0, 1, 2] [] v (sS (sI (sI (sI (sS (sS v 0 0) 0 0) 0 n 0) 1 n a) 2 n s) 1 (nI (n + 1))) := (((((Frm.rfl'.sS (by decide)).sS (by decide)).sI (by decide)).sI (by decide)).sI (by decide)).sS (by decide)
          exact h3.fr fu fv (by decide) (by decide)
        · have fu : Frm [3] [0, 1] [0] u (sS (sI (sI (sJ u 0 n 0) 0 n a) 1 n s) 3 (nI (n + 1))) := (((Frm.rfl'.sJ (by decide)).sI (by decide)).sI (by decide)).sS (by decide)
          have fv : Frm [0, 1] [0, 1, 2] [] v (sS (sI (sI (sI (sS (sS v 0 0) 0 0) 0 n 0) 1 n a) 2 n s) 1 (nI (n + 1))) := (((((Frm.rfl'.sS (by decide)).sS (by decide)).sI (by decide)).sI (by decide)).sI (by decide)).sS (by decide)
          exact h4.fr fu fv (by decide) (by decide) (by decide) (by decide) (by decide) (by decide)
