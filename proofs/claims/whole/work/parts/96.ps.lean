/-! ===== the law's loop ends with 1 ===== -/
theorem opS {α : Type} {cd : Nat → Option Int32} (cv : α → Int64) {X : Option ((Nat ⊕ α) × St)} {M : Option (α × St)} (o : LO) (h : OpR cd X M) : ∃ r z' r12 v13, hlp cd cv X o = some (r, z') ∧ M = some (r12, v13) ∧ Rel z'.1 v13 ∧ v13.1 0 = r ∧ (r = 0 → z'.2 (0 : Int32).toNatClampNeg = cv r12) := by
  rcases h with ⟨r, u', v', e1, e2, e3, e4⟩ | ⟨k, c, u', r, v', e1, e2, e3, e4, e5, e6⟩
  · refine ⟨0, (u', vp_updL o (0 : Int32).toNatClampNeg (cv r)), r, v', ?_, e2, e4, e3, fun _ => (by show vp_updL o (0 : Int32).toNatClampNeg (cv r) (0 : Int32).toNatClampNeg = cv r; exact pk_uLs)⟩
    rw [e1]; rfl
  · refine ⟨c, (u', o), r, v', ?_, e3, e6, e4, fun e => absurd e e5⟩
    rw [e1]
    show (cd k).map _ = _
    rw [e2]; rfl
theorem tailOK {T : Type} {v13 : St} {r7 : Int32} {A : Prop} [Decidable A] {R E : St → Option T} (h1 : v13.1 0 = r7) (h2 : r7 = 0 → A) : bnd (fX5_thrown v13) (fun r15 v16 => if r15 = r7 then (if r7 = 0 then gd (okI 0 1) (if A then R v16 else E v16) else R v16) else E v16) = R v13 := by
  unfold fX5_thrown
  rw [bnd_t rfl, if_pos h1]
  by_cases c : r7 = 0
  · rw [if_pos c, gd_t (by decide), if_pos (h2 c)]
  · rw [if_neg c]
theorem tailHV {T : Type} {v13 : St} {r7 q : Int32} {z0 : Int64} {R E : St → Option T} (h1 : v13.1 0 = r7) (h2 : r7 = 0 → z0 = if q = 0 then 0 else 1) : bnd (fX5_thrown v13) (fun r15 v16 => if r15 = r7 then (if r7 = 0 then gd (okI 0 1) (if q = 0 then (if z0 = 0 then R v16 else E v16) else (if z0 = 1 then R v16 else E v16)) else R v16) else E v16) = R v13 := by
  unfold fX5_thrown
  rw [bnd_t rfl, if_pos h1]
  by_cases c : r7 = 0
  · have := h2 c
    rw [if_pos c, gd_t (by decide)]
    by_cases d : q = 0
    · rw [if_pos d] at this ⊢
      rw [if_pos this]
    · rw [if_neg d] at this ⊢
      rw [if_pos this]
  · rw [if_neg c]

theorem ends_loop (xs : Nat → Int32) (L : Nat) (hL : L ≤ 3584) : ∀ (n i : Nat) (z : St × (Nat → Int64)) (v : St), i ≤ 4000 → L < i + 7 * (n + 1) → Rel z.1 v → ∃ zf vf, fL_law_23 xs L (n + 1) (nI i) z v = some (1, zf, vf) := by
  intro n
  induction n with
  | zero =>
    intro i z v hi hn hR
    refine ⟨z, v, ?_⟩
    rw [fL_law_23]
    rw [if_pos]
    rw [Int32.lt_iff_toInt_lt, show (7 : Int32) = nI 7 from rfl, nI_sub_toInt (by omega) (by omega), nI_toInt (by omega)]
    omega
  | succ n ih =>
    intro i z v hi hn hR
    by_cases hE : L < i + 7
    · refine ⟨z, v, ?_⟩
      rw [fL_law_23]
      rw [if_pos]
      rw [Int32.lt_iff_toInt_lt, show (7 : Int32) = nI 7 from rfl, nI_sub_toInt (by omega) (by omega), nI_toInt (by omega)]
      omega
    have REC : ∀ (z : St × (Nat → Int64)) (v : St), Rel z.1 v → ∃ zf vf, fL_law_23 xs L (n + 1) (nI i + 7) z v = some (1, zf, vf) := by
      intro z v hR
      have e : nI i + 7 = nI (i + 7) := nI_add i 7
      rw [e]
      exact ih (i + 7) z v (by omega) (by omega) hR
    have ok0 : okI (nI i) L = true := okI_t (by omega) (by omega)
    have ok1 : okI (nI i + 1) L = true := by rw [show nI i + 1 = nI (i + 1) from nI_add i 1]; exact okI_t (by omega) (by omega)
    have ok2 : okI (nI i + 2) L = true := by rw [show nI i + 2 = nI (i + 2) from nI_add i 2]; exact okI_t (by omega) (by omega)
    have ok3 : okI (nI i + 3) L = true := by rw [show nI i + 3 = nI (i + 3) from nI_add i 3]; exact okI_t (by omega) (by omega)
    have ok4 : okI (nI i + 4) L = true := by rw [show nI i + 4 = nI (i + 4) from nI_add i 4]; exact okI_t (by omega) (by omega)
    have ok5 : okI (nI i + 5) L = true := by rw [show nI i + 5 = nI (i + 5) from nI_add i 5]; exact okI_t (by omega) (by omega)
    have ok6 : okI (nI i + 6) L = true := by rw [show nI i + 6 = nI (i + 6) from nI_add i 6]; exact okI_t (by omega) (by omega)
    have nend : ¬ nI L - 7 < nI i := by
      rw [Int32.lt_iff_toInt_lt, show (7 : Int32) = nI 7 from rfl, nI_sub_toInt (by omega) (by omega), nI_toInt (by omega)]
      omega
    rw [fL_law_23]
    rw [if_neg nend, gd_t ok0]
    unfold lt_
    generalize xs (nI i).toNatClampNeg &&& 31 = sw
    show ∃ zf vf, (if sw = 0 then _ else _) = some (1, zf, vf)
    by_cases c0 : sw = 0
    · rw [if_pos c0, gd_t ok1, gd_t ok2]
      obtain ⟨r, z', r12, v13, q1, q2, q3, q4, q5⟩ := opS (fun r : Int32 => r.toInt64) z.2 (number_R hR (xs (nI i + 1).toNatClampNeg) (xs (nI i + 2).toNatClampNeg))
      obtain ⟨zf, vf, e⟩ := REC z' v13 q3
      refine ⟨zf, vf, ?_⟩
      have q1' : hL_number z (xs (nI i + 1).toNatClampNeg) (xs (nI i + 2).toNatClampNeg) = some (r, z') := q1
      rw [bndH_t q1', gd_t ok1, gd_t ok2, bnd_t q2]
      exact (tailOK (R := fun w => fL_law_23 xs L (n + 1) (nI i + 7) z' w) (E := fun w => some (0, z', w)) q4 q5).trans e
    rw [if_neg c0]
    by_cases c1 : sw = 1
    · rw [if_pos c1, gd_t ok1, gd_t ok2]
      obtain ⟨r, z', r12, v13, q1, q2, q3, q4, q5⟩ := opS (fun r : Int32 => r.toInt64) z.2 (text_R hR ((lshl_ ((xs (nI i + 1).toNatClampNeg).toInt64) 32) ||| (((xs (nI i + 2).toNatClampNeg).toInt64) &&& 4294967295)))
      obtain ⟨zf, vf, e⟩ := REC z' v13 q3
      refine ⟨zf, vf, ?_⟩
      have q1' : hL_text z ((lshl_ ((xs (nI i + 1).toNatClampNeg).toInt64) 32) ||| (((xs (nI i + 2).toNatClampNeg).toInt64) &&& 4294967295)) = some (r, z') := q1
      rw [bndH_t q1', gd_t ok1, gd_t ok2, bnd_t q2]
      exact (tailOK (R := fun w => fL_law_23 xs L (n + 1) (nI i + 7) z' w) (E := fun w => some (0, z', w)) q4 q5).trans e
    rw [if_neg c1]
    by_cases c2 : sw = 2
    · rw [if_pos c2, gd_t ok1, gd_t ok2, gd_t ok3]
      obtain ⟨r, z', r12, v13, q1, q2, q3, q4, q5⟩ := opS (fun r : Int32 => r.toInt64) z.2 (row_R hR (xs (nI i + 1).toNatClampNeg) (xs (nI i + 2).toNatClampNeg) (xs (nI i + 3).toNatClampNeg))
      obtain ⟨zf, vf, e⟩ := REC z' v13 q3
      refine ⟨zf, vf, ?_⟩
      have q1' : hL_row z (xs (nI i + 1).toNatClampNeg) (xs (nI i + 2).toNatClampNeg) (xs (nI i + 3).toNatClampNeg) = some (r, z') := q1
      rw [bndH_t q1', gd_t ok1, gd_t ok2, gd_t ok3, bnd_t q2]
      exact (tailOK (R := fun w => fL_law_23 xs L (n + 1) (nI i + 7) z' w) (E := fun w => some (0, z', w)) q4 q5).trans e
    rw [if_neg c2]
    by_cases c3 : sw = 3
    · rw [if_pos c3, gd_t ok1]
      obtain ⟨r, z', r12, v13, q1, q2, q3, q4, q5⟩ := opS (fun r : Int32 => r.toInt64) z.2 (by_R hR (xs (nI i + 1).toNatClampNeg))
      obtain ⟨zf, vf, e⟩ := REC z' v13 q3
      refine ⟨zf, vf, ?_⟩
      have q1' : hL_by z (xs (nI i + 1).toNatClampNeg) = some (r, z') := q1
      rw [bndH_t q1', gd_t ok1, bnd_t q2]
      exact (tailOK (R := fun w => fL_law_23 xs L (n + 1) (nI i + 7) z' w) (E := fun w => some (0, z', w)) q4 q5).trans e
    rw [if_neg c3]
    by_cases c4 : sw = 4
    · rw [if_pos c4, gd_t ok1]
      obtain ⟨r, z', r12, v13, q1, q2, q3, q4, q5⟩ := opS (fun r : Int32 => r.toInt64) z.2 (separator_R hR (xs (nI i + 1).toNatClampNeg))
      obtain ⟨zf, vf, e⟩ := REC z' v13 q3
      refine ⟨zf, vf, ?_⟩
      have q1' : hL_separator z (xs (nI i + 1).toNatClampNeg) = some (r, z') := q1
      rw [bndH_t q1', gd_t ok1, bnd_t q2]
      exact (tailOK (R := fun w => fL_law_23 xs L (n + 1) (nI i + 7) z' w) (E := fun w => some (0, z', w)) q4 q5).trans e
    rw [if_neg c4]
    by_cases c5 : sw = 5
    · rw [if_pos c5, gd_t ok1]
      obtain ⟨r, z', r12, v13, q1, q2, q3, q4, q5⟩ := opS (fun r : Int32 => r.toInt64) z.2 (own_R hR (xs (nI i + 1).toNatClampNeg))
      obtain ⟨zf, vf, e⟩ := REC z' v13 q3
      refine ⟨zf, vf, ?_⟩
      have q1' : hL_own z (xs (nI i + 1).toNatClampNeg) = some (r, z') := q1
      rw [bndH_t q1', gd_t ok1, bnd_t q2]
      exact (tailOK (R := fun w => fL_law_23 xs L (n + 1) (nI i + 7) z' w) (E := fun w => some (0, z', w)) q4 q5).trans e
    rw [if_neg c5]
    by_cases c6 : sw = 6
    · rw [if_pos c6, gd_t ok1, gd_t ok2]
      by_cases dd : xs (nI i + 2).toNatClampNeg = 0
      · simp only [dd, if_true]
        obtain ⟨r, z', r12, v13, q1, q2, q3, q4, q5⟩ := opS (fun r : Int32 => r.toInt64) z.2 (run_R hR (xs (nI i + 1).toNatClampNeg) 0)
        obtain ⟨zf, vf, e⟩ := REC z' v13 q3
        refine ⟨zf, vf, ?_⟩
        have q1' : hL_run z (xs (nI i + 1).toNatClampNeg) 0 = some (r, z') := q1
        rw [bndH_t q1', gd_t ok1, gd_t ok2, bnd_t q2]
        exact (tailOK (R := fun w => fL_law_23 xs L (n + 1) (nI i + 7) z' w) (E := fun w => some (0, z', w)) q4 q5).trans e
      · simp only [dd, if_false]
        obtain ⟨r, z', r12, v13, q1, q2, q3, q4, q5⟩ := opS (fun r : Int32 => r.toInt64) z.2 (run_R hR (xs (nI i + 1).toNatClampNeg) 1)
        obtain ⟨zf, vf, e⟩ := REC z' v13 q3
        refine ⟨zf, vf, ?_⟩
        have q1' : hL_run z (xs (nI i + 1).toNatClampNeg) 1 = some (r, z') := q1
        rw [bndH_t q1', gd_t ok1, gd_t ok2, bnd_t q2]
        exact (tailOK (R := fun w => fL_law_23 xs L (n + 1) (nI i + 7) z' w) (E := fun w => some (0, z', w)) q4 q5).trans e
    rw [if_neg c6]
    by_cases c7 : sw = 7
    · rw [if_pos c7, gd_t ok1]
      obtain ⟨r, z', r12, v13, q1, q2, q3, q4, q5⟩ := opS (fun r : Int32 => r.toInt64) z.2 (key_R hR (xs (nI i + 1).toNatClampNeg))
      obtain ⟨zf, vf, e⟩ := REC z' v13 q3
      refine ⟨zf, vf, ?_⟩
      have q1' : hL_key z (xs (nI i + 1).toNatClampNeg) = some (r, z') := q1
      rw [bndH_t q1', gd_t ok1, bnd_t q2]
      exact (tailOK (R := fun w => fL_law_23 xs L (n + 1) (nI i + 7) z' w) (E := fun w => some (0, z', w)) q4 q5).trans e
    rw [if_neg c7]
    by_cases c8 : sw = 8
    · rw [if_pos c8, gd_t ok1]
      obtain ⟨r, z', r12, v13, q1, q2, q3, q4, q5⟩ := opS (fun r : Int32 => r.toInt64) z.2 (rows_R hR (xs (nI i + 1).toNatClampNeg))
      obtain ⟨zf, vf, e⟩ := REC z' v13 q3
      refine ⟨zf, vf, ?_⟩
      have q1' : hL_rows z (xs (nI i + 1).toNatClampNeg) = some (r, z') := q1
      rw [bndH_t q1', gd_t ok1, bnd_t q2]
      exact (tailOK (R := fun w => fL_law_23 xs L (n + 1) (nI i + 7) z' w) (E := fun w => some (0, z', w)) q4 q5).trans e
    rw [if_neg c8]
    by_cases c9 : sw = 9
    · rw [if_pos c9, gd_t ok1]
      obtain ⟨r, z', r12, v13, q1, q2, q3, q4, q5⟩ := opS (fun r : Int32 => r.toInt64) z.2 (sort_R hR (xs (nI i + 1).toNatClampNeg))
      obtain ⟨zf, vf, e⟩ := REC z' v13 q3
      refine ⟨zf, vf, ?_⟩
      have q1' : hL_sort z (xs (nI i + 1).toNatClampNeg) = some (r, z') := q1
      rw [bndH_t q1', gd_t ok1, bnd_t q2]
      exact (tailOK (R := fun w => fL_law_23 xs L (n + 1) (nI i + 7) z' w) (E := fun w => some (0, z', w)) q4 q5).trans e
    rw [if_neg c9]
    by_cases c10 : sw = 10
    · rw [if_pos c10, gd_t ok1]
      obtain ⟨r, z', r12, v13, q1, q2, q3, q4, q5⟩ := opS (fun r : Int32 => r.toInt64) z.2 (why_R hR (xs (nI i + 1).toNatClampNeg))
      obtain ⟨zf, vf, e⟩ := REC z' v13 q3
      refine ⟨zf, vf, ?_⟩
      have q1' : hL_why z (xs (nI i + 1).toNatClampNeg) = some (r, z') := q1
      rw [bndH_t q1', gd_t ok1, bnd_t q2]
      exact (tailOK (R := fun w => fL_law_23 xs L (n + 1) (nI i + 7) z' w) (E := fun w => some (0, z', w)) q4 q5).trans e
    rw [if_neg c10]
    by_cases c11 : sw = 11
    · rw [if_pos c11, gd_t ok1, gd_t ok2]
      obtain ⟨r, z', r12, v13, q1, q2, q3, q4, q5⟩ := opS (fun r : Int64 => r) z.2 (value_R hR (xs (nI i + 1).toNatClampNeg) (xs (nI i + 2).toNatClampNeg))
      obtain ⟨zf, vf, e⟩ := REC z' v13 q3
      refine ⟨zf, vf, ?_⟩
      have q1' : hL_value z (xs (nI i + 1).toNatClampNeg) (xs (nI i + 2).toNatClampNeg) = some (r, z') := q1
      rw [bndH_t q1', gd_t ok1, gd_t ok2, bnd_t q2]
      exact (tailOK (R := fun w => fL_law_23 xs L (n + 1) (nI i + 7) z' w) (E := fun w => some (0, z', w)) q4 q5).trans e
    rw [if_neg c11]
    by_cases c12 : sw = 12
    · rw [if_pos c12, gd_t ok1]
      obtain ⟨r, z', r12, v13, q1, q2, q3, q4, q5⟩ := opS (fun r : Int32 => r.toInt64) z.2 (term_R hR (xs (nI i + 1).toNatClampNeg))
      obtain ⟨zf, vf, e⟩ := REC z' v13 q3
      refine ⟨zf, vf, ?_⟩
      have q1' : hL_term z (xs (nI i + 1).toNatClampNeg) = some (r, z') := q1
      rw [bndH_t q1', gd_t ok1, bnd_t q2]
      exact (tailOK (R := fun w => fL_law_23 xs L (n + 1) (nI i + 7) z' w) (E := fun w => some (0, z', w)) q4 q5).trans e
    rw [if_neg c12]
    by_cases c13 : sw = 13
    · rw [if_pos c13, gd_t ok1]
      obtain ⟨r, z', r12, v13, q1, q2, q3, q4, q5⟩ := opS (fun r : Int32 => r.toInt64) z.2 (length_R hR (xs (nI i + 1).toNatClampNeg))
      obtain ⟨zf, vf, e⟩ := REC z' v13 q3
      refine ⟨zf, vf, ?_⟩
      have q1' : hL_length z (xs (nI i + 1).toNatClampNeg) = some (r, z') := q1
      rw [bndH_t q1', gd_t ok1, bnd_t q2]
      exact (tailOK (R := fun w => fL_law_23 xs L (n + 1) (nI i + 7) z' w) (E := fun w => some (0, z', w)) q4 q5).trans e
    rw [if_neg c13]
    by_cases c14 : sw = 14
    · rw [if_pos c14, gd_t ok1, gd_t ok2]
      obtain ⟨r, z', r12, v13, q1, q2, q3, q4, q5⟩ := opS (fun r : Int32 => r.toInt64) z.2 (charAt_R hR (xs (nI i + 1).toNatClampNeg) (xs (nI i + 2).toNatClampNeg))
      obtain ⟨zf, vf, e⟩ := REC z' v13 q3
      refine ⟨zf, vf, ?_⟩
      have q1' : hL_charAt z (xs (nI i + 1).toNatClampNeg) (xs (nI i + 2).toNatClampNeg) = some (r, z') := q1
      rw [bndH_t q1', gd_t ok1, gd_t ok2, bnd_t q2]
      exact (tailOK (R := fun w => fL_law_23 xs L (n + 1) (nI i + 7) z' w) (E := fun w => some (0, z', w)) q4 q5).trans e
    rw [if_neg c14]
    by_cases c15 : sw = 15
    · rw [if_pos c15, gd_t ok1, gd_t ok2, gd_t ok3, gd_t ok4, gd_t ok5, gd_t ok6]
      obtain ⟨r, z', r12, v13, q1, q2, q3, q4, q5⟩ := opS (fun r : Int32 => if r = 0 then 0 else 1) z.2 (having_R hR (xs (nI i + 1).toNatClampNeg) (xs (nI i + 2).toNatClampNeg) ((lshl_ ((xs (nI i + 3).toNatClampNeg).toInt64) 32) ||| (((xs (nI i + 4).toNatClampNeg).toInt64) &&& 4294967295)) ((lshl_ ((xs (nI i + 5).toNatClampNeg).toInt64) 32) ||| (((xs (nI i + 6).toNatClampNeg).toInt64) &&& 4294967295)))
      obtain ⟨zf, vf, e⟩ := REC z' v13 q3
      refine ⟨zf, vf, ?_⟩
      have q1' : hL_having z (xs (nI i + 1).toNatClampNeg) (xs (nI i + 2).toNatClampNeg) ((lshl_ ((xs (nI i + 3).toNatClampNeg).toInt64) 32) ||| (((xs (nI i + 4).toNatClampNeg).toInt64) &&& 4294967295)) ((lshl_ ((xs (nI i + 5).toNatClampNeg).toInt64) 32) ||| (((xs (nI i + 6).toNatClampNeg).toInt64) &&& 4294967295)) = some (r, z') := q1
      rw [bndH_t q1', gd_t ok1, gd_t ok2, gd_t ok3, gd_t ok4, gd_t ok5, gd_t ok6, bnd_t q2]
      exact (tailHV (R := fun w => fL_law_23 xs L (n + 1) (nI i + 7) z' w) (E := fun w => some (0, z', w)) q4 q5).trans e
    rw [if_neg c15]
    by_cases c16 : sw = 16
    · rw [if_pos c16, gd_t ok1]
      obtain ⟨r, z', r12, v13, q1, q2, q3, q4, q5⟩ := opS (fun r : Int32 => r.toInt64) z.2 (told_R hR (xs (nI i + 1).toNatClampNeg))
      obtain ⟨zf, vf, e⟩ := REC z' v13 q3
      refine ⟨zf, vf, ?_⟩
      have q1' : hL_told z (xs (nI i + 1).toNatClampNeg) = some (r, z') := q1
      rw [bndH_t q1', gd_t ok1, bnd_t q2]
      exact (tailOK (R := fun w => fL_law_23 xs L (n + 1) (nI i + 7) z' w) (E := fun w => some (0, z', w)) q4 q5).trans e
    rw [if_neg c16]
    exact REC z v hR
theorem Rel_u0 : Rel u0 u0 := by
  refine ⟨0, [], ⟨by omega, rfl, rfl, fun t ht => absurd ht (by omega)⟩, ⟨by simp, ⟨rfl, fun p hp => absurd hp (by simp)⟩, ⟨rfl, fun p hp => absurd hp (by simp [srt])⟩, fun x hx => absurd hx (by simp)⟩, ⟨⟨0, by omega, rfl, rfl⟩, ⟨0, by omega, rfl, rfl⟩, ⟨0, by omega, rfl, rfl⟩⟩, ⟨0, by omega, rfl, rfl, fun g hg => absurd hg (by omega)⟩⟩
theorem law_ends (L : Nat) (xs : Nat → Int32) (hL : L ≤ 3584) : ∃ zf vf, fL_law_23 xs L 600 0 (u0, fun _ => 0) u0 = some (1, zf, vf) := by
  have := ends_loop xs L hL 599 0 (u0, fun _ => 0) u0 (by omega) (by omega) Rel_u0
  rw [nI_0] at this
  exact this
