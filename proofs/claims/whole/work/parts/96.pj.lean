/-! ===== the values of a group ===== -/
def VAL (u v : St) (n k : Nat) : Prop := k ≤ 60 ∧ u.1 5 = nI k ∧ v.1 7 = nI k ∧ ∀ i, i < k → ∃ t, t < n ∧ u.2.1 5 i = nI t ∧ v.2.1 17 i = nI t
theorem VAL.fr {S A J S' A' J' : List Nat} {u v u' v' : St} {n k : Nat} (h : VAL u v n k) (hu : Frm S A J u u') (hv : Frm S' A' J' v v') (d1 : Dis [5] S) (d2 : Dis [5] A) (e1 : Dis [7] S') (e2 : Dis [17] A') : VAL u' v' n k := by
  unfold VAL at h ⊢
  rw [hu.1 5 (d1 5 (by decide)), hu.2.1 5 (d2 5 (by decide)), hv.1 7 (e1 7 (by decide)), hv.2.1 17 (e2 17 (by decide))]; exact h
/-- how many places belong to a group -/
def cg (f : Nat → Int32) (g : Int32) : Nat → Nat
  | 0 => 0
  | p + 1 => cg f g p + (if f p = g then 1 else 0)
def tot (f : Nat → Int32) (m : Nat) : Nat → Nat
  | 0 => 0
  | G + 1 => tot f m G + cg f (nI G) m
theorem tot_0 (f : Nat → Int32) : ∀ G, tot f 0 G = 0
  | 0 => rfl
  | G + 1 => by rw [tot, tot_0 f G]; rfl
theorem tot_s (f : Nat → Int32) (m : Nat) : ∀ G, G ≤ 60 → (tot f (m + 1) G = tot f m G ∧ ∀ g, g < G → ¬ f m = nI g) ∨ (tot f (m + 1) G = tot f m G + 1 ∧ ∃ g, g < G ∧ f m = nI g)
  | 0, _ => .inl ⟨rfl, fun g hg => absurd hg (by omega)⟩
  | G + 1, hG => by
    have ih := tot_s f m G (by omega)
    simp only [tot, cg]
    by_cases c : f m = nI G
    · rw [if_pos c]
      rcases ih with ⟨a, b⟩ | ⟨a, g, b, d⟩
      · exact .inr ⟨by omega, G, by omega, c⟩
      · have := (nI_eq (by omega) (by omega)).mp (d.symm.trans c)
        omega
    · rw [if_neg c]
      rcases ih with ⟨a, b⟩ | ⟨a, g, b, d⟩
      · refine .inl ⟨by omega, fun g hg => ?_⟩
        by_cases e : g = G
        · subst e; exact c
        · exact b g (by omega)
      · exact .inr ⟨by omega, g, by omega, d⟩
theorem tot_le (f : Nat → Int32) : ∀ m G, G ≤ 60 → tot f m G ≤ m
  | 0, G, _ => by rw [tot_0]; omega
  | m + 1, G, h => by
    have := tot_le f m G h
    rcases tot_s f m G h with ⟨a, _⟩ | ⟨a, _⟩ <;> omega
theorem flag_loop (k7 : Int32 → Int32 → Int32 → St → Option (Unit × St)) (x1 d x3 x4 : Int32) (hd : ¬ d = 0) {v : St} {c : Nat} (hc : c ≤ 60) (hv : v.1 7 = nI c) : ∀ (e i k : Nat), i + e = c → e < k → fX5_gather_53 k7 k x1 d x3 x4 1 (nI i) v = fX5_gather_100 k7 x1 d x3 x4 1 v := by
  intro e
  induction e with
  | zero =>
    intro i k hi hk
    obtain ⟨k, rfl⟩ : ∃ a, k = a + 1 := ⟨k - 1, by omega⟩
    have e : i = c := by omega
    subst e
    rw [fX5_gather_53]
    rw [hv, if_pos Int32.le_rfl]
  | succ e ih =>
    intro i k hi hk
    obtain ⟨k, rfl⟩ : ∃ a, k = a + 1 := ⟨k - 1, by omega⟩
    rw [fX5_gather_53]
    rw [hv, if_neg (nI_ge (by omega) (by omega)), if_neg hd, if_neg (by decide)]
    unfold fX5_gather_87
    simp only [lt_, nI_1]
    exact ih (i + 1) k (by omega) (by omega)
theorem eq_loop (k7 : Int32 → Int32 → Int32 → St → Option (Unit × St)) (x1 d x3 : Int32) (hd : ¬ d = 0) {u v : St} {n c t : Nat} (hT : TR u v n) (hV : VAL u v n c) (ht : t < n) : ∀ (e i k : Nat), i + e = c → e < k → ∃ z : Int32, fX3_haveEqual_2 k (nI t) (nI i) u = some (z, u) ∧ fX5_gather_53 k7 k x1 d x3 (nI t) 0 (nI i) v = fX5_gather_100 k7 x1 d x3 (nI t) z v := by
  have hn := hT.1
  have hc := hV.1
  intro e
  induction e with
  | zero =>
    intro i k hi hk
    obtain ⟨k, rfl⟩ : ∃ a, k = a + 1 := ⟨k - 1, by omega⟩
    have e : i = c := by omega
    subst e
    rw [fX5_gather_53, fX3_haveEqual_2]
    rw [hV.2.1, hV.2.2.1, if_pos Int32.le_rfl, if_pos Int32.le_rfl]
    exact ⟨0, rfl, rfl⟩
  | succ e ih =>
    intro i k hi hk
    obtain ⟨k, rfl⟩ : ∃ a, k = a + 1 := ⟨k - 1, by omega⟩
    obtain ⟨s, s1, s2, s3⟩ := hV.2.2.2 i (by omega)
    obtain ⟨a, r, ha, hr, hs⟩ := cmp_R (p := s) (q := t) (by omega) (by omega) (hT.2.2.2 s s1) (hT.2.2.2 t ht)
    rw [fX5_gather_53, fX3_haveEqual_2]
    rw [hV.2.1, hV.2.2.1, if_neg (nI_ge (by omega) (by omega)), if_neg (nI_ge (by omega) (by omega)), if_neg hd, if_pos rfl]
    simp (disch := omega) only [okI_t, gd_1, nc_, s2, s3]
    rw [bnd_t ha, bnd_t hr]
    by_cases z : a = 0
    · rw [if_pos z, if_pos (hs.eq0.mp z)]
      refine ⟨1, rfl, ?_⟩
      unfold fX5_gather_87
      simp only [lt_, nI_1]
      exact flag_loop k7 x1 d x3 (nI t) hd hc hV.2.2.1 e (i + 1) k (by omega) (by omega)
    · rw [if_neg z, if_neg (fun q => z (hs.eq0.mpr q))]
      simp only [lt_, nI_1]
      exact ih (i + 1) k (by omega) (by omega)
theorem pick_loop {n m g : Nat} (hg : g < 60) (d : Int32) : ∀ (e p k c : Nat) (u v : St), p + e = m → e < k → TR u v n → PL u v n m → (∀ p, p < m → u.2.1 14 p = v.2.1 16 p) → VAL u v n c → c ≤ cg (u.2.1 14) (nI g) p → c ≤ p →
    ∃ u' v' c', fX4_pickValues_9 k (nI g) d (nI p) u = some ((), u') ∧ fX5_gather_7 k (nI g) d (nI p) v = some ((), v') ∧ VAL u' v' n c' ∧ c' ≤ cg (u.2.1 14) (nI g) m ∧ Frm [5] [5] [] u u' ∧ Frm [7] [17] [] v v' := by
  intro e
  induction e with
  | zero =>
    intro p k c u v hp hk hT hP hG hV hc hcp
    obtain ⟨k, rfl⟩ : ∃ a, k = a + 1 := ⟨k - 1, by omega⟩
    have e : p = m := by omega
    subst e
    refine ⟨u, v, c, ?_, ?_, hV, hc, Frm.rfl', Frm.rfl'⟩
    · rw [fX4_pickValues_9]
      unfold fX1_count
      rw [bnd_t rfl, hP.2.1, if_pos Int32.le_rfl]
    · rw [fX5_gather_7]
      rw [hP.2.2.1, if_pos Int32.le_rfl]
  | succ e ih =>
    intro p k c u v hp hk hT hP hG hV hc hcp
    obtain ⟨k, rfl⟩ : ∃ a, k = a + 1 := ⟨k - 1, by omega⟩
    have hm := hP.1
    have hn := hT.1
    obtain ⟨j, t, j1, j2, t1, k1, k2, k3, k4⟩ := hP.2.2.2 p (by omega)
    have eA : fX4_pickValues_9 (k + 1) (nI g) d (nI p) u = (if u.2.1 14 p = nI g then (if u.2.1 4 p = -1 then fX4_pickValues_9 k (nI g) d (nI (p + 1)) u else (if d = 0 then fX4_pickValues_66 (fX4_pickValues_9 k) (nI g) d (nI p) (u.2.1 4 p) u else bnd (fX3_haveEqual u (u.2.1 4 p)) (fun r_15 u_16 => (if r_15 = 0 then fX4_pickValues_66 (fX4_pickValues_9 k) (nI g) d (nI p) (u.2.1 4 p) u_16 else fX4_pickValues_9 k (nI g) d (nI (p + 1)) u_16)))) else fX4_pickValues_9 k (nI g) d (nI (p + 1)) u) := by
      rw [fX4_pickValues_9]
      unfold fX1_count fX1_valueAt
      rw [bnd_t rfl, hP.2.1, if_neg (nI_ge (by omega) (by omega))]
      simp (disch := omega) only [okI_t, gd_1, nc_]
      rw [bnd_t rfl]
      simp only [lt_, nI_1]
    have eM : fX5_gather_7 (k + 1) (nI g) d (nI p) v = (if u.2.1 14 p = nI g then (if u.2.1 4 p = -1 then fX5_gather_7 k (nI g) d (nI (p + 1)) v else fX5_gather_53 (fX5_gather_7 k) FU (nI g) d (nI p) (u.2.1 4 p) 0 0 v) else fX5_gather_7 k (nI g) d (nI (p + 1)) v) := by
      rw [fX5_gather_7]
      rw [hP.2.2.1, if_neg (nI_ge (by omega) (by omega))]
      simp (disch := omega) only [okI_t, gd_1, nc_, j2, lt_, nI_1]
      rw [← k3, hG p (by omega)]
    have NEXT : c ≤ cg (u.2.1 14) (nI g) (p + 1) → _ := fun h => ih (p + 1) k c u v (by omega) (by omega) hT hP hG hV h (by omega)
    rw [eA, eM]
    by_cases q1 : u.2.1 14 p = nI g
    · have cg1 : cg (u.2.1 14) (nI g) (p + 1) = cg (u.2.1 14) (nI g) p + 1 := by rw [cg, if_pos q1]
      rw [if_pos q1, if_pos q1]
      by_cases q2 : u.2.1 4 p = -1
      · rw [if_pos q2, if_pos q2]; exact NEXT (by omega)
      · rw [if_neg q2, if_neg q2]
        obtain ⟨s, s1, s2⟩ := k4.resolve_left q2
        -- one more
        have fu : Frm [5] [5] [] u (sS (sI u 5 c (nI s)) 5 (nI (c + 1))) := (Frm.rfl'.sI (by decide)).sS (by decide)
        have fv : Frm [7] [17] [] v (sS (sI v 17 c (nI s)) 7 (nI (c + 1))) := (Frm.rfl'.sI (by decide)).sS (by decide)
        have aA : fX4_pickValues_66 (fX4_pickValues_9 k) (nI g) d (nI p) (nI s) u = fX4_pickValues_9 k (nI g) d (nI (p + 1)) (sS (sI u 5 c (nI s)) 5 (nI (c + 1))) := by
          unfold fX4_pickValues_66 fX3_add
          rw [hV.2.1]
          simp (disch := omega) only [okI_t, gd_1, nc_, lt_, nI_1]
          rw [hV.2.1, bnd_t rfl, nI_1]
        have aM : fX5_gather_100 (fX5_gather_7 k) (nI g) d (nI p) (nI s) 0 v = fX5_gather_7 k (nI g) d (nI (p + 1)) (sS (sI v 17 c (nI s)) 7 (nI (c + 1))) := by
          unfold fX5_gather_100
          rw [if_pos rfl, hV.2.2.1]
          simp (disch := omega) only [okI_t, gd_1, nc_, lt_, nI_1]
          rw [hV.2.2.1, nI_1]
        have nM : ∀ z : Int32, ¬ z = 0 → fX5_gather_100 (fX5_gather_7 k) (nI g) d (nI p) (nI s) z v = fX5_gather_7 k (nI g) d (nI (p + 1)) v := by
          intro z hz
          unfold fX5_gather_100
          rw [if_neg hz]; simp only [lt_, nI_1]
        have ADD := ih (p + 1) k (c + 1) _ _ (by omega) (by omega) (hT.fr fu fv (by decide) (by decide) (by decide) (by decide) (by decide)) (hP.fr fu fv (by decide) (by decide) (by decide) (by decide)) (fun p hp => hG p hp) (by
          refine ⟨by omega, rfl, rfl, fun i hi => ?_⟩
          by_cases ei : i = c
          · subst ei; exact ⟨s, s1, pk_us, pk_us⟩
          · obtain ⟨r, r1, r2, r3⟩ := hV.2.2.2 i (by omega)
            exact ⟨r, r1, (pk_un ei).trans r2, (pk_un ei).trans r3⟩) (by show c + 1 ≤ cg (u.2.1 14) (nI g) (p + 1); omega) (by omega)
        have ADD' : ∃ u' v' c', fX4_pickValues_9 k (nI g) d (nI (p + 1)) (sS (sI u 5 c (nI s)) 5 (nI (c + 1))) = some ((), u') ∧ fX5_gather_7 k (nI g) d (nI (p + 1)) (sS (sI v 17 c (nI s)) 7 (nI (c + 1))) = some ((), v') ∧ VAL u' v' n c' ∧ c' ≤ cg (u.2.1 14) (nI g) m ∧ Frm [5] [5] [] u u' ∧ Frm [7] [17] [] v v' := by
          obtain ⟨u', v', c', r1, r2, r3, r4, r5, r6⟩ := ADD
          exact ⟨u', v', c', r1, r2, r3, r4, fu.trans r5, fv.trans r6⟩
        rw [s2]
        by_cases q3 : d = 0
        · rw [if_pos q3, aA]
          have : fX5_gather_53 (fX5_gather_7 k) FU (nI g) d (nI p) (nI s) 0 0 v = fX5_gather_100 (fX5_gather_7 k) (nI g) d (nI p) (nI s) 0 v := by
            obtain ⟨f, hf⟩ : ∃ f, FU = f + 1 := ⟨99999, rfl⟩
            rw [hf, fX5_gather_53]
            by_cases q4 : v.1 7 ≤ 0
            · rw [if_pos q4]
            · rw [if_neg q4, if_pos q3]
          rw [this, aM]; exact ADD'
        · rw [if_neg q3]
          obtain ⟨z, z1, z2⟩ := eq_loop (fX5_gather_7 k) (nI g) d (nI p) q3 hT hV s1 c 0 FU (by omega) (by rw [FU_]; have := hV.1; omega)
          rw [nI_0] at z1 z2
          rw [z2]
          unfold fX3_haveEqual
          rw [bnd_t z1]
          by_cases q4 : z = 0
          · rw [if_pos q4, aA, q4, aM]; exact ADD'
          · rw [if_neg q4, nM z q4]; exact NEXT (by omega)
    · have cg0 : cg (u.2.1 14) (nI g) (p + 1) = cg (u.2.1 14) (nI g) p := by rw [cg, if_neg q1]; rfl
      rw [if_neg q1, if_neg q1]; exact NEXT (by omega)
theorem pick_R {u v : St} {n m g : Nat} (hg : g < 60) (d : Int32) (hT : TR u v n) (hP : PL u v n m) (hG : ∀ p, p < m → u.2.1 14 p = v.2.1 16 p) :
    ∃ u' v' c', fX4_pickValues u (nI g) d = some ((), u') ∧ fX5_gather v (nI g) d = some ((), v') ∧ VAL u' v' n c' ∧ c' ≤ cg (u.2.1 14) (nI g) m ∧ Frm [5] [5] [] u u' ∧ Frm [7] [17] [] v v' := by
  have fu : Frm [5] [5] [] u (sS u 5 0) := Frm.rfl'.sS (by decide)
  have fv : Frm [7] [17] [] v (sS v 7 0) := Frm.rfl'.sS (by decide)
  obtain ⟨u', v', c', r1, r2, r3, r4, r5, r6⟩ := pick_loop hg d m 0 FU 0 _ _ (by omega) (by rw [FU_]; have := hP.1; omega) (hT.fr fu fv (by decide) (by decide) (by decide) (by decide) (by decide)) (hP.fr fu fv (by decide) (by decide) (by decide) (by decide)) hG ⟨by omega, rfl, rfl, fun i hi => absurd hi (by omega)⟩ (Nat.zero_le _) (Nat.zero_le _)
  rw [nI_0] at r1 r2
  refine ⟨u', v', c', ?_, ?_, r3, r4, fu.trans r5, fv.trans r6⟩
  · unfold fX4_pickValues fX3_clear
    simp only [lt_]
    rw [bnd_t rfl]; exact r1
  · unfold fX5_gather
    simp only [lt_]
    exact r2
