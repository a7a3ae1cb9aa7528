/-! ===== what is reckoned of the values ===== -/
def tv (u : St) (i : Nat) : Nat := (u.2.1 5 i).toNatClampNeg
theorem VAL.tv_ {u v : St} {n k : Nat} (h : VAL u v n k) (hn : n ≤ 60) {i : Nat} (hi : i < k) : tv u i < n ∧ u.2.1 5 i = nI (tv u i) ∧ v.2.1 17 i = nI (tv u i) := by
  obtain ⟨t, t1, t2, t3⟩ := h.2.2.2 i hi
  have e : tv u i = t := by unfold tv; rw [t2, nc_ (by omega)]
  rw [e]; exact ⟨t1, t2, t3⟩
def thF (u : St) (t : Nat) : Int64 := match fX2_thousandths u (nI t) with
  | some q => q.1
  | none => 0
theorem NumR.thF_ {u v : St} {t : Nat} (ht : t < 60) (h : NumR u v t) : fX2_thousandths u (nI t) = some (thF u t, u) ∧ fX5_thousandths v (nI t) = some (thF u t, v) ∧ -1000000000 ≤ (thF u t).toInt ∧ (thF u t).toInt ≤ 1000000000 := by
  obtain ⟨x, x1, x2, x3⟩ := h.th ht
  have e : thF u t = x := by unfold thF; rw [x1]
  rw [e]; exact ⟨x1, x2, x3⟩
/-- numbers all of them -/
def ALN (u v : St) (k : Nat) : Prop := ∀ i, i < k → NumR u v (tv u i)
theorem nI_ne1 {t : Nat} (h : t < 2 ^ 31) : ¬ nI t = -1 := by
  intro c
  have := congrArg Int32.toInt c
  rw [nI_toInt h] at this
  have e : (-1 : Int32).toInt = -1 := rfl
  omega
theorem ht_flag {v : St} {k : Nat} (hk : k ≤ 60) (hv : v.1 7 = nI k) : ∀ (d i f : Nat), i + d = k → d < f → fX5_hasText_4 f 1 (nI i) v = some (1, v) := by
  intro d
  induction d with
  | zero =>
    intro i f hi hf
    obtain ⟨f, rfl⟩ : ∃ a, f = a + 1 := ⟨f - 1, by omega⟩
    have e : i = k := by omega
    subst e
    rw [fX5_hasText_4]
    rw [hv, if_pos Int32.le_rfl, gd_t (by decide)]
  | succ d ih =>
    intro i f hi hf
    obtain ⟨f, rfl⟩ : ∃ a, f = a + 1 := ⟨f - 1, by omega⟩
    rw [fX5_hasText_4]
    rw [hv, if_neg (nI_ge (by omega) (by omega)), if_neg (by decide)]
    unfold fX5_hasText_30
    simp only [lt_, nI_1]
    exact ih (i + 1) f (by omega) (by omega)
theorem ht_loop {u v : St} {n k : Nat} (hT : TR u v n) (hV : VAL u v n k) : ∀ (d i f : Nat), i + d = k → d < f → (∀ j, j < i → NumR u v (tv u j)) →
    (fX3_haveText_2 f (nI i) u = some (0, u) ∧ fX5_hasText_4 f 0 (nI i) v = some (0, v) ∧ ALN u v k) ∨ (fX3_haveText_2 f (nI i) u = some (1, u) ∧ fX5_hasText_4 f 0 (nI i) v = some (1, v)) := by
  have hn := hT.1
  have hk := hV.1
  intro d
  induction d with
  | zero =>
    intro i f hi hf ha
    obtain ⟨f, rfl⟩ : ∃ a, f = a + 1 := ⟨f - 1, by omega⟩
    have e : i = k := by omega
    subst e
    rw [fX5_hasText_4, fX3_haveText_2]
    rw [hV.2.1, hV.2.2.1, if_pos Int32.le_rfl, if_pos Int32.le_rfl, gd_t (by decide)]
    exact .inl ⟨rfl, rfl, ha⟩
  | succ d ih =>
    intro i f hi hf ha
    obtain ⟨f, rfl⟩ : ∃ a, f = a + 1 := ⟨f - 1, by omega⟩
    obtain ⟨t1, t2, t3⟩ := hV.tv_ hn (i := i) (by omega)
    rw [fX5_hasText_4, fX3_haveText_2]
    rw [hV.2.1, hV.2.2.1, if_neg (nI_ge (by omega) (by omega)), if_neg (nI_ge (by omega) (by omega)), if_pos rfl]
    simp (disch := omega) only [okI_t, gd_1, nc_, t2, t3]
    rcases isT_R (by omega) (hT.2.2.2 _ t1) with ⟨a, b, c⟩ | ⟨a, b, c⟩
    · rw [bnd_t b, c, if_pos rfl, if_pos rfl]
      simp only [lt_, nI_1]
      exact ih (i + 1) f (by omega) (by omega) (fun j hj => by
        by_cases e : j = i
        · subst e; exact a
        · exact ha j (by omega))
    · rw [bnd_t b, c, if_neg (by decide), if_neg (by decide)]
      refine .inr ⟨rfl, ?_⟩
      unfold fX5_hasText_30
      simp only [lt_, nI_1]
      exact ht_flag hk hV.2.2.1 d (i + 1) f (by omega) (by omega)
theorem haveText_R {u v : St} {n k : Nat} (hT : TR u v n) (hV : VAL u v n k) : (fX3_haveText u = some (0, u) ∧ fX5_hasText v = some (0, v) ∧ ALN u v k) ∨ (fX3_haveText u = some (1, u) ∧ fX5_hasText v = some (1, v)) := by
  have := ht_loop hT hV k 0 FU (by omega) (by rw [FU_]; have := hV.1; omega) (fun j hj => absurd hj (by omega))
  rw [nI_0] at this
  exact this
theorem add_bd {a x : Int64} {i : Nat} (hi : i ≤ 60) (h1 : -(1000000000 * i : Int) ≤ a.toInt) (h2 : a.toInt ≤ 1000000000 * i) (h3 : -1000000000 ≤ x.toInt) (h4 : x.toInt ≤ 1000000000) : -(1000000000 * (i + 1 : Nat) : Int) ≤ (a + x).toInt ∧ (a + x).toInt ≤ 1000000000 * (i + 1 : Nat) := by
  rw [Int64.toInt_add, Int.bmod_eq_of_le (by omega) (by omega)]
  omega
theorem sum_loop {u v : St} {n k : Nat} (hT : TR u v n) (hV : VAL u v n k) (hA : ALN u v k) : ∀ (d i f : Nat) (a : Int64), i + d = k → d < f → -(1000000000 * i : Int) ≤ a.toInt → a.toInt ≤ 1000000000 * i →
    ∃ s : Int64, fX3_sum_5 f a (nI i) u = some (s, u) ∧ fX5_sum_5 f 0 a (nI i) v = some (s, v) ∧ -(1000000000 * k : Int) ≤ s.toInt ∧ s.toInt ≤ 1000000000 * k := by
  have hn := hT.1
  have hk := hV.1
  intro d
  induction d with
  | zero =>
    intro i f a hi hf h1 h2
    obtain ⟨f, rfl⟩ : ∃ a, f = a + 1 := ⟨f - 1, by omega⟩
    have e : i = k := by omega
    subst e
    rw [fX5_sum_5, fX3_sum_5]
    rw [hV.2.1, hV.2.2.1, if_pos Int32.le_rfl, if_pos Int32.le_rfl]
    exact ⟨a, rfl, rfl, h1, h2⟩
  | succ d ih =>
    intro i f a hi hf h1 h2
    obtain ⟨f, rfl⟩ : ∃ a, f = a + 1 := ⟨f - 1, by omega⟩
    obtain ⟨t1, t2, t3⟩ := hV.tv_ hn (i := i) (by omega)
    obtain ⟨x1, x2, x3, x4⟩ := (hA i (by omega)).thF_ (by omega)
    rw [fX5_sum_5, fX3_sum_5]
    rw [hV.2.1, hV.2.2.1, if_neg (nI_ge (by omega) (by omega)), if_neg (nI_ge (by omega) (by omega))]
    simp (disch := omega) only [okI_t, gd_1, nc_, t2, t3]
    rw [bnd_t x1, bnd_t x2]
    simp only [if_true]
    unfold fX5_sum_45
    simp only [lt_, nI_1]
    obtain ⟨b1, b2⟩ := add_bd (i := i) (by omega) h1 h2 x3 x4
    exact ih (i + 1) f _ (by omega) (by omega) b1 b2
theorem sum_R {u v : St} {n k : Nat} (hT : TR u v n) (hV : VAL u v n k) (hA : ALN u v k) : ∃ s : Int64, fX3_sum u = some (s, u) ∧ fX5_sum v 0 = some (s, v) ∧ -60000000000 ≤ s.toInt ∧ s.toInt ≤ 60000000000 ∧ (k = 0 → s = 0) := by
  obtain ⟨s, s1, s2, s3, s4⟩ := sum_loop hT hV hA k 0 FU 0 (by omega) (by rw [FU_]; have := hV.1; omega) (by decide) (by decide)
  rw [nI_0] at s1 s2
  have hk := hV.1
  refine ⟨s, s1, s2, by omega, by omega, fun e => ?_⟩
  subst e
  rw [← Int64.toInt_inj]
  show s.toInt = 0
  omega
theorem sum0_loop {u v : St} {n k : Nat} (hT : TR u v n) (hV : VAL u v n k) (hA : ALN u v k) : ∀ (d i f : Nat) (a : Int64), i + d = k → d < f → -(1000000000 * i : Int) ≤ a.toInt → a.toInt ≤ 1000000000 * i →
    ∃ s : Int64, fX3_sumAboveZero_5 f a (nI i) u = some (s, u) ∧ fX5_sum_5 f 1 a (nI i) v = some (s, v) ∧ -(1000000000 * k : Int) ≤ s.toInt ∧ s.toInt ≤ 1000000000 * k := by
  have hn := hT.1
  have hk := hV.1
  intro d
  induction d with
  | zero =>
    intro i f a hi hf h1 h2
    obtain ⟨f, rfl⟩ : ∃ a, f = a + 1 := ⟨f - 1, by omega⟩
    have e : i = k := by omega
    subst e
    rw [fX5_sum_5, fX3_sumAboveZero_5]
    rw [hV.2.1, hV.2.2.1, if_pos Int32.le_rfl, if_pos Int32.le_rfl]
    exact ⟨a, rfl, rfl, h1, h2⟩
  | succ d ih =>
    intro i f a hi hf h1 h2
    obtain ⟨f, rfl⟩ : ∃ a, f = a + 1 := ⟨f - 1, by omega⟩
    obtain ⟨t1, t2, t3⟩ := hV.tv_ hn (i := i) (by omega)
    obtain ⟨x1, x2, x3, x4⟩ := (hA i (by omega)).thF_ (by omega)
    rw [fX5_sum_5, fX3_sumAboveZero_5]
    rw [hV.2.1, hV.2.2.1, if_neg (nI_ge (by omega) (by omega)), if_neg (nI_ge (by omega) (by omega))]
    simp (disch := omega) only [okI_t, gd_1, nc_, t2, t3]
    rw [bnd_t x1, bnd_t x2, if_neg (show ¬ (1 : Int32) = 0 by decide)]
    unfold fX5_sum_45
    simp only [lt_, nI_1]
    by_cases c : thF u (tv u i) < 0
    · rw [if_pos c, if_neg (Int64.not_le.mpr c)]
      obtain ⟨b1, b2⟩ := add_bd (x := 0) (i := i) (by omega) h1 h2 (by decide) (by decide)
      exact ih (i + 1) f _ (by omega) (by omega) b1 b2
    · rw [if_neg c, if_pos (Int64.not_lt.mp c)]
      obtain ⟨b1, b2⟩ := add_bd (i := i) (by omega) h1 h2 x3 x4
      exact ih (i + 1) f _ (by omega) (by omega) b1 b2
theorem sum0_R {u v : St} {n k : Nat} (hT : TR u v n) (hV : VAL u v n k) (hA : ALN u v k) : ∃ s : Int64, fX3_sumAboveZero u = some (s, u) ∧ fX5_sum v 1 = some (s, v) ∧ -60000000000 ≤ s.toInt ∧ s.toInt ≤ 60000000000 := by
  obtain ⟨s, s1, s2, s3, s4⟩ := sum0_loop hT hV hA k 0 FU 0 (by omega) (by rw [FU_]; have := hV.1; omega) (by decide) (by decide)
  rw [nI_0] at s1 s2
  have hk := hV.1
  exact ⟨s, s1, s2, by omega, by omega⟩
/-! the least, the greatest -/
theorem least_loop {u v : St} {n k : Nat} (hT : TR u v n) (hV : VAL u v n k) : ∀ (d i f f' b : Nat), i + d = k → d < f → d < f' → b < k →
    ∃ b', b' < k ∧ fX3_least_7 f (nI (tv u b)) (nI i) u = some (nI (tv u b'), u) ∧ fX5_outermost_4 f' (-1) (nI (tv u b)) (nI i) v = some (nI (tv u b'), v) := by
  have hn := hT.1
  have hk := hV.1
  intro d
  induction d with
  | zero =>
    intro i f f' b hi hf hf' hb
    obtain ⟨f, rfl⟩ : ∃ a, f = a + 1 := ⟨f - 1, by omega⟩
    obtain ⟨f', rfl⟩ : ∃ a, f' = a + 1 := ⟨f' - 1, by omega⟩
    have e : i = k := by omega
    subst e
    rw [fX5_outermost_4, fX3_least_7]
    rw [hV.2.1, hV.2.2.1, if_pos Int32.le_rfl, if_pos Int32.le_rfl]
    exact ⟨b, hb, rfl, rfl⟩
  | succ d ih =>
    intro i f f' b hi hf hf' hb
    obtain ⟨f, rfl⟩ : ∃ a, f = a + 1 := ⟨f - 1, by omega⟩
    obtain ⟨f', rfl⟩ : ∃ a, f' = a + 1 := ⟨f' - 1, by omega⟩
    obtain ⟨t1, t2, t3⟩ := hV.tv_ hn (i := i) (by omega)
    obtain ⟨b1, _, _⟩ := hV.tv_ hn hb
    obtain ⟨c, r, hc, hr, hs⟩ := cmp_R (p := tv u i) (q := tv u b) (by omega) (by omega) (hT.2.2.2 _ t1) (hT.2.2.2 _ b1)
    rw [fX5_outermost_4, fX3_least_7]
    rw [hV.2.1, hV.2.2.1, if_neg (nI_ge (by omega) (by omega)), if_neg (nI_ge (by omega) (by omega)), if_neg (nI_ne1 (by omega))]
    simp (disch := omega) only [okI_t, gd_1, nc_, t2, t3]
    rw [bnd_t hc, bnd_t hr]
    unfold fX5_outermost_33
    simp (disch := omega) only [lt_, nI_1, okI_t, gd_1, nc_, t2, t3]
    by_cases q : 0 ≤ c
    · rw [if_pos q, if_pos (hs.dn.mp q)]; exact ih (i + 1) f f' b (by omega) (by omega) (by omega) hb
    · rw [if_neg q, if_neg (fun e => q (hs.dn.mpr e))]; exact ih (i + 1) f f' i (by omega) (by omega) (by omega) (by omega)
theorem greatest_loop {u v : St} {n k : Nat} (hT : TR u v n) (hV : VAL u v n k) : ∀ (d i f f' b : Nat), i + d = k → d < f → d < f' → b < k →
    ∃ b', b' < k ∧ fX3_greatest_7 f (nI (tv u b)) (nI i) u = some (nI (tv u b'), u) ∧ fX5_outermost_4 f' 1 (nI (tv u b)) (nI i) v = some (nI (tv u b'), v) := by
  have hn := hT.1
  have hk := hV.1
  intro d
  induction d with
  | zero =>
    intro i f f' b hi hf hf' hb
    obtain ⟨f, rfl⟩ : ∃ a, f = a + 1 := ⟨f - 1, by omega⟩
    obtain ⟨f', rfl⟩ : ∃ a, f' = a + 1 := ⟨f' - 1, by omega⟩
    have e : i = k := by omega
    subst e
    rw [fX5_outermost_4, fX3_greatest_7]
    rw [hV.2.1, hV.2.2.1, if_pos Int32.le_rfl, if_pos Int32.le_rfl]
    exact ⟨b, hb, rfl, rfl⟩
  | succ d ih =>
    intro i f f' b hi hf hf' hb
    obtain ⟨f, rfl⟩ : ∃ a, f = a + 1 := ⟨f - 1, by omega⟩
    obtain ⟨f', rfl⟩ : ∃ a, f' = a + 1 := ⟨f' - 1, by omega⟩
    obtain ⟨t1, t2, t3⟩ := hV.tv_ hn (i := i) (by omega)
    obtain ⟨b1, _, _⟩ := hV.tv_ hn hb
    obtain ⟨c, r, hc, hr, hs⟩ := cmp_R (p := tv u i) (q := tv u b) (by omega) (by omega) (hT.2.2.2 _ t1) (hT.2.2.2 _ b1)
    rw [fX5_outermost_4, fX3_greatest_7]
    rw [hV.2.1, hV.2.2.1, if_neg (nI_ge (by omega) (by omega)), if_neg (nI_ge (by omega) (by omega)), if_neg (nI_ne1 (by omega))]
    simp (disch := omega) only [okI_t, gd_1, nc_, t2, t3]
    rw [bnd_t hc, bnd_t hr]
    unfold fX5_outermost_33
    simp (disch := omega) only [lt_, nI_1, okI_t, gd_1, nc_, t2, t3]
    by_cases q : c ≤ 0
    · rw [if_pos q, if_pos (hs.up.mp q)]; exact ih (i + 1) f f' b (by omega) (by omega) (by omega) hb
    · rw [if_neg q, if_neg (fun e => q (hs.up.mpr e))]; exact ih (i + 1) f f' i (by omega) (by omega) (by omega) (by omega)
theorem first_A {u v : St} {n k : Nat} (hn : n ≤ 60) (hV : VAL u v n k) : fX3_first u = some (if k = 0 then -1 else nI (tv u 0), u) := by
  unfold fX3_first
  have hk := hV.1
  have e : (nI k ≤ 0) ↔ k ≤ 0 := nI_leI (b := 0) (by omega) (by omega)
  rw [hV.2.1]
  by_cases c : k = 0
  · rw [if_pos (e.mpr (by omega)), if_pos c]
  · obtain ⟨t1, t2, t3⟩ := hV.tv_ hn (i := 0) (by omega)
    rw [if_neg (fun q => c (by have := e.mp q; omega)), if_neg c, gd_t (by decide)]
    have z : (0 : Int32).toNatClampNeg = 0 := rfl
    rw [z, t2]
theorem outer0 {v : St} {n k : Nat} {u : St} (x : Int32) (hn : n ≤ 60) (hV : VAL u v n k) : (k = 0 → fX5_outermost v x = some (-1, v)) ∧ (0 < k → ∀ f, FU = f + 1 → fX5_outermost v x = fX5_outermost_4 f x (nI (tv u 0)) (nI 1) v) := by
  have hk := hV.1
  obtain ⟨f, hf⟩ : ∃ f, FU = f + 1 := ⟨99999, rfl⟩
  unfold fX5_outermost
  have e : (nI k ≤ 0) ↔ k ≤ 0 := nI_leI (b := 0) (by omega) (by omega)
  refine ⟨fun c => ?_, fun c f hf => ?_⟩
  · rw [hf, fX5_outermost_4]
    rw [hV.2.2.1, if_pos (e.mpr (by omega))]
  · obtain ⟨t1, t2, t3⟩ := hV.tv_ hn (i := 0) c
    rw [hf, fX5_outermost_4]
    rw [hV.2.2.1, if_neg (fun q => by have := e.mp q; omega), if_pos rfl]
    unfold fX5_outermost_33
    rw [gd_t (by decide)]
    have z : (0 : Int32).toNatClampNeg = 0 := rfl
    simp only [lt_, z, t3]
    rfl
theorem least_R {u v : St} {n k : Nat} (hT : TR u v n) (hV : VAL u v n k) : (k = 0 ∧ fX3_least u = some (-1, u) ∧ fX5_outermost v (-1) = some (-1, v)) ∨ (∃ b, b < k ∧ fX3_least u = some (nI (tv u b), u) ∧ fX5_outermost v (-1) = some (nI (tv u b), v)) := by
  have hk := hV.1
  obtain ⟨f, hf⟩ : ∃ f, FU = f + 1 := ⟨99999, rfl⟩
  have hf9 : f = 99999 := Nat.succ.inj (hf.symm.trans FU_)
  have o := outer0 (-1) hT.1 hV
  unfold fX3_least
  rw [bnd_t (first_A hT.1 hV)]
  by_cases c : k = 0
  · left
    refine ⟨c, ?_, o.1 c⟩
    rw [hf, fX3_least_7, if_pos c]
    rw [hV.2.1, if_pos (show nI k ≤ 1 from nI_le (b := 1) (by omega) (by omega))]
  · right
    obtain ⟨b, b1, b2, b3⟩ := least_loop hT hV (k - 1) 1 FU f 0 (by omega) (by rw [FU_]; omega) (by omega) (by omega)
    refine ⟨b, b1, ?_, ?_⟩
    · rw [if_neg c, ← b2]; generalize FU = x; rfl
    · rw [o.2 (by omega) f hf]; exact b3
theorem greatest_R {u v : St} {n k : Nat} (hT : TR u v n) (hV : VAL u v n k) : (k = 0 ∧ fX3_greatest u = some (-1, u) ∧ fX5_outermost v (1) = some (-1, v)) ∨ (∃ b, b < k ∧ fX3_greatest u = some (nI (tv u b), u) ∧ fX5_outermost v (1) = some (nI (tv u b), v)) := by
  have hk := hV.1
  obtain ⟨f, hf⟩ : ∃ f, FU = f + 1 := ⟨99999, rfl⟩
  have hf9 : f = 99999 := Nat.succ.inj (hf.symm.trans FU_)
  have o := outer0 (1) hT.1 hV
  unfold fX3_greatest
  rw [bnd_t (first_A hT.1 hV)]
  by_cases c : k = 0
  · left
    refine ⟨c, ?_, o.1 c⟩
    rw [hf, fX3_greatest_7, if_pos c]
    rw [hV.2.1, if_pos (show nI k ≤ 1 from nI_le (b := 1) (by omega) (by omega))]
  · right
    obtain ⟨b, b1, b2, b3⟩ := greatest_loop hT hV (k - 1) 1 FU f 0 (by omega) (by rw [FU_]; omega) (by omega) (by omega)
    refine ⟨b, b1, ?_, ?_⟩
    · rw [if_neg c, ← b2]; generalize FU = x; rfl
    · rw [o.2 (by omega) f hf]; exact b3
/-! the middle one -/
def ct (P : Nat → Bool) : Nat → Nat → Nat
  | _, 0 => 0
  | j, d + 1 => (if P j then 1 else 0) + ct P (j + 1) d
theorem ct_le (P : Nat → Bool) : ∀ d j, ct P j d ≤ d
  | 0, _ => Nat.le_refl 0
  | d + 1, j => by
    have := ct_le P d (j + 1)
    unfold ct
    split <;> omega
theorem ct_mono {P Q : Nat → Bool} (h : ∀ j, P j = true → Q j = true) : ∀ d j, ct P j d ≤ ct Q j d
  | 0, _ => Nat.le_refl 0
  | d + 1, j => by
    have := ct_mono h d (j + 1)
    unfold ct
    by_cases c : P j = true
    · rw [if_pos c, if_pos (h j c)]; omega
    · rw [if_neg c]; omega
theorem ct_lt {P Q : Nat → Bool} (h : ∀ j, P j = true → Q j = true) {i : Nat} (hi : P i = false) (hq : Q i = true) : ∀ d j, j ≤ i → i < j + d → ct P j d < ct Q j d
  | 0, _, h1, h2 => by omega
  | d + 1, j, h1, h2 => by
    unfold ct
    by_cases c : j = i
    · subst c
      have := ct_mono h d (j + 1)
      rw [hi, hq]
      simp only [if_true]
      simp
      omega
    · have := ct_lt h hi hq d (j + 1) (by omega) (by omega)
      by_cases e : P j = true
      · rw [if_pos e, if_pos (h j e)]; omega
      · rw [if_neg e]; omega
def bf (a : Nat → Int) (i j : Nat) : Bool := decide (a j < a i ∨ (a j = a i ∧ j < i))
theorem rank_inj (a : Nat → Int) {k i i' : Nat} (hi : i < k) (hi' : i' < k) (h : ct (bf a i) 0 k = ct (bf a i') 0 k) : i = i' := by
  have key : ∀ {x y : Nat}, x < k → (a x < a y ∨ (a x = a y ∧ x < y)) → ct (bf a x) 0 k < ct (bf a y) 0 k := by
    intro x y hx hxy
    refine ct_lt (i := x) ?_ ?_ ?_ k 0 (by omega) (by omega)
    · intro j hj
      unfold bf at hj ⊢
      have := of_decide_eq_true hj
      apply decide_eq_true
      omega
    · unfold bf; apply decide_eq_false; omega
    · unfold bf; exact decide_eq_true hxy
  rcases Nat.lt_trichotomy i i' with c | c | c
  · rcases Int.lt_trichotomy (a i) (a i') with e | e | e
    · have := key hi (.inl e); omega
    · have := key hi (.inr ⟨e, c⟩); omega
    · have := key hi' (.inl e); omega
  · exact c
  · rcases Int.lt_trichotomy (a i) (a i') with e | e | e
    · have := key hi (.inl e); omega
    · have := key hi' (.inr ⟨e.symm, c⟩); omega
    · have := key hi' (.inl e); omega
theorem num_cmp {u v : St} {p q : Nat} (hp : p < 60) (hq : q < 60) (h1 : NumR u v p) (h2 : NumR u v q) : ∃ c r, fX2_order u (nI p) (nI q) = some (c, u) ∧ fX5_compare v (nI p) (nI q) = some (r, v) ∧ SG c r ∧ (c < 0 ↔ (thF u p).toInt < (thF u q).toInt) ∧ (c = 0 ↔ (thF u p).toInt = (thF u q).toInt) := by
  obtain ⟨c, r, hc, hr, hs⟩ := cmp_R hp hq (.inl h1) (.inl h2)
  refine ⟨c, r, hc, hr, hs, ?_⟩
  obtain ⟨x1, _⟩ := h1.thF_ hp
  obtain ⟨y1, _⟩ := h2.thF_ hq
  unfold fX2_order at hc
  simp (disch := omega) only [okI_t, gd_1, nc_, h1.1, h2.1, if_true] at hc
  rw [bnd_t x1, bnd_t y1] at hc
  unfold fJ13_compare_74951 at hc
  rw [← Int64.lt_iff_toInt_lt, Int64.toInt_inj]
  have n1 : (-1 : Int32) < 0 := by decide
  have n2 : ¬ (-1 : Int32) = 0 := by decide
  have n3 : ¬ (1 : Int32) < 0 := by decide
  have n4 : ¬ (1 : Int32) = 0 := by decide
  have n5 : ¬ (0 : Int32) < 0 := by decide
  by_cases e1 : thF u q ≤ thF u p
  · rw [if_pos e1] at hc
    by_cases e2 : thF u p = thF u q
    · rw [if_pos e2] at hc
      have : c = 0 := (congrArg (fun z : Int32 × St => z.1) (Option.some.inj hc)).symm
      subst this
      exact ⟨⟨fun q => absurd q n5, fun q => absurd e1 (Int64.not_le.mpr q)⟩, ⟨fun _ => e2, fun _ => rfl⟩⟩
    · rw [if_neg e2] at hc
      have : c = 1 := (congrArg (fun z : Int32 × St => z.1) (Option.some.inj hc)).symm
      subst this
      exact ⟨⟨fun q => absurd q n3, fun q => absurd e1 (Int64.not_le.mpr q)⟩, ⟨fun q => absurd q n4, fun q => absurd q e2⟩⟩
  · rw [if_neg e1] at hc
    have : c = -1 := (congrArg (fun z : Int32 × St => z.1) (Option.some.inj hc)).symm
    subst this
    exact ⟨⟨fun _ => Int64.not_le.mp e1, fun _ => n1⟩, ⟨fun q => absurd q n2, fun q => absurd (q ▸ Int64.le_refl _) e1⟩⟩
theorem mid_inner {u v : St} {n k : Nat} (hT : TR u v n) (hV : VAL u v n k) (hA : ALN u v k) {i : Nat} (hi : i < k) (x1 : Int32) (k4 : Int32 → Int32 → St → Option (Int32 × St)) : ∀ (d j f f' r : Nat), j + d = k → d < f → d < f' → r ≤ j →
    fX3_howManyBefore_5 f (nI i) (nI r) (nI j) u = some (nI (r + ct (bf (fun j => (thF u (tv u j)).toInt) i) j d), u) ∧
    fX5_middle_17 k4 f' x1 (nI i) (nI r) (nI j) v = (if nI (r + ct (bf (fun j => (thF u (tv u j)).toInt) i) j d) = (nI k - 1) / 2 then k4 (nI (tv u i)) (nI (i + 1)) v else k4 x1 (nI (i + 1)) v) := by
  have hn := hT.1
  have hk := hV.1
  obtain ⟨i1, i2, i3⟩ := hV.tv_ hn hi
  intro d
  induction d with
  | zero =>
    intro j f f' r hj hf hf' hr
    obtain ⟨f, rfl⟩ : ∃ a, f = a + 1 := ⟨f - 1, by omega⟩
    obtain ⟨f', rfl⟩ : ∃ a, f' = a + 1 := ⟨f' - 1, by omega⟩
    have e : j = k := by omega
    subst e
    rw [fX3_howManyBefore_5, fX5_middle_17]
    rw [hV.2.1, hV.2.2.1, if_pos Int32.le_rfl, if_pos Int32.le_rfl]
    simp (disch := omega) only [lt_, nI_1, okI_t, gd_1, nc_, i3]
    exact ⟨rfl, rfl⟩
  | succ d ih =>
    intro j f f' r hj hf hf' hr
    obtain ⟨f, rfl⟩ : ∃ a, f = a + 1 := ⟨f - 1, by omega⟩
    obtain ⟨f', rfl⟩ : ∃ a, f' = a + 1 := ⟨f' - 1, by omega⟩
    obtain ⟨t1, t2, t3⟩ := hV.tv_ hn (i := j) (by omega)
    obtain ⟨c, q, hc, hq, hs, l1, l2⟩ := num_cmp (p := tv u j) (q := tv u i) (by omega) (by omega) (hA j (by omega)) (hA i hi)
    rw [fX3_howManyBefore_5, fX5_middle_17]
    rw [hV.2.1, hV.2.2.1, if_neg (nI_ge (by omega) (by omega)), if_neg (nI_ge (by omega) (by omega))]
    simp (disch := omega) only [okI_t, gd_1, nc_, t2, t3, i2, i3]
    rw [bnd_t hc, bnd_t hq]
    unfold fX5_middle_67
    simp (disch := omega) only [lt_, nI_1, nI_leI, Int32.add_zero]
    have yes := ih (j + 1) f f' (r + 1) (by omega) (by omega) (by omega) (by omega)
    have no := ih (j + 1) f f' r (by omega) (by omega) (by omega) (by omega)
    by_cases c1 : c < 0
    · have hb : bf (fun j => (thF u (tv u j)).toInt) i j = true := decide_eq_true (.inl (l1.mp c1))
      rw [if_pos c1, if_pos (hs.lt0.mp c1), ct, if_pos hb, ← Nat.add_assoc]; exact yes
    · rw [if_neg c1, if_neg (fun e => c1 (hs.lt0.mpr e))]
      by_cases c2 : c = 0
      · rw [if_pos c2, if_pos (hs.eq0.mp c2)]
        by_cases c3 : i ≤ j
        · have hb : ¬ bf (fun j => (thF u (tv u j)).toInt) i j = true := by
            intro e
            have := of_decide_eq_true e
            rcases this with h | h
            · exact c1 (l1.mpr h)
            · omega
          rw [if_pos c3, if_pos c3, ct, if_neg hb, Nat.zero_add]; exact no
        · have hb : bf (fun j => (thF u (tv u j)).toInt) i j = true := decide_eq_true (.inr ⟨l2.mp c2, by omega⟩)
          rw [if_neg c3, if_neg c3, ct, if_pos hb, ← Nat.add_assoc]; exact yes
      · have hb : ¬ bf (fun j => (thF u (tv u j)).toInt) i j = true := by
          intro e
          have := of_decide_eq_true e
          rcases this with h | h
          · exact c1 (l1.mpr h)
          · exact c2 (l2.mpr h.1)
        rw [if_neg c2, if_neg (fun e => c2 (hs.eq0.mpr e)), ct, if_neg hb, Nat.zero_add]; exact no
theorem mid_loop {u v : St} {n k : Nat} (hT : TR u v n) (hV : VAL u v n k) (hA : ALN u v k) : ∀ (d i f f' : Nat), i + d = k → d < f → d < f' →
    ((∀ x1, fX5_middle_4 f' x1 (nI i) v = some (x1, v)) ∧ fX3_middle_2 f (nI i) u = some (-1, u) ∧ (∀ j, i ≤ j → j < k → ¬ nI (ct (bf (fun j => (thF u (tv u j)).toInt) j) 0 k) = (nI k - 1) / 2)) ∨
    (∃ b, b < k ∧ i ≤ b ∧ (∀ x1, fX5_middle_4 f' x1 (nI i) v = some (nI (tv u b), v)) ∧ fX3_middle_2 f (nI i) u = some (nI (tv u b), u) ∧ nI (ct (bf (fun j => (thF u (tv u j)).toInt) b) 0 k) = (nI k - 1) / 2) := by
  have hn := hT.1
  have hk := hV.1
  intro d
  induction d with
  | zero =>
    intro i f f' hi hf hf'
    obtain ⟨f, rfl⟩ : ∃ a, f = a + 1 := ⟨f - 1, by omega⟩
    obtain ⟨f', rfl⟩ : ∃ a, f' = a + 1 := ⟨f' - 1, by omega⟩
    have e : i = k := by omega
    subst e
    left
    refine ⟨fun x1 => ?_, ?_, fun j h1 h2 => by omega⟩
    · rw [fX5_middle_4]
      rw [hV.2.2.1, if_pos Int32.le_rfl]
    · rw [fX3_middle_2]
      rw [hV.2.1, if_pos Int32.le_rfl]
  | succ d ih =>
    intro i f f' hi hf hf'
    obtain ⟨f, rfl⟩ : ∃ a, f = a + 1 := ⟨f - 1, by omega⟩
    obtain ⟨f', rfl⟩ : ∃ a, f' = a + 1 := ⟨f' - 1, by omega⟩
    obtain ⟨t1, t2, t3⟩ := hV.tv_ hn (i := i) (by omega)
    have IN := fun x1 => mid_inner hT hV hA (i := i) (by omega) x1 (fX5_middle_4 f') k 0 FU FU 0 (by omega) (by rw [FU_]; omega) (by rw [FU_]; omega) (by omega)
    simp only [nI_0, Nat.zero_add] at IN
    have IH := ih (i + 1) f f' (by omega) (by omega) (by omega)
    have eA : fX3_middle_2 (f + 1) (nI i) u = if nI (ct (bf (fun j => (thF u (tv u j)).toInt) i) 0 k) = (nI k - 1) / 2 then some (nI (tv u i), u) else fX3_middle_2 f (nI (i + 1)) u := by
      rw [fX3_middle_2]
      unfold fX3_howManyBefore
      rw [bnd_t (IN 0).1]
      rw [hV.2.1, if_neg (nI_ge (by omega) (by omega))]
      simp (disch := omega) only [okI_t, gd_1, nc_, lt_, nI_1, t2]
    have eM : ∀ x1, fX5_middle_4 (f' + 1) x1 (nI i) v = if nI (ct (bf (fun j => (thF u (tv u j)).toInt) i) 0 k) = (nI k - 1) / 2 then fX5_middle_4 f' (nI (tv u i)) (nI (i + 1)) v else fX5_middle_4 f' x1 (nI (i + 1)) v := by
      intro x1
      rw [fX5_middle_4]
      rw [hV.2.2.1, if_neg (nI_ge (by omega) (by omega))]
      exact (IN x1).2
    by_cases c : nI (ct (bf (fun j => (thF u (tv u j)).toInt) i) 0 k) = (nI k - 1) / 2
    · right
      refine ⟨i, by omega, by omega, fun x1 => ?_, ?_, c⟩
      · rw [eM, if_pos c]
        rcases IH with ⟨a, _, _⟩ | ⟨b, b1, b2, b3, b4, b5⟩
        · exact a _
        · have l1 := ct_le (bf (fun j => (thF u (tv u j)).toInt) i) k 0
          have l2 := ct_le (bf (fun j => (thF u (tv u j)).toInt) b) k 0
          have e := (nI_eq (by omega) (by omega)).mp (c.trans b5.symm)
          have := rank_inj _ (by omega) b1 e
          omega
      · rw [eA, if_pos c]
    · rcases IH with ⟨a, b, e⟩ | ⟨b, b1, b2, b3, b4, b5⟩
      · left
        refine ⟨fun x1 => ?_, ?_, fun j h1 h2 => ?_⟩
        · rw [eM, if_neg c]; exact a x1
        · rw [eA, if_neg c]; exact b
        · by_cases q : j = i
          · subst q; exact c
          · exact e j (by omega) h2
      · right
        refine ⟨b, b1, by omega, fun x1 => ?_, ?_, b5⟩
        · rw [eM, if_neg c]; exact b3 x1
        · rw [eA, if_neg c]; exact b4
theorem middle_R {u v : St} {n k : Nat} (hT : TR u v n) (hV : VAL u v n k) (hA : ALN u v k) : (fX3_middle u = some (-1, u) ∧ fX5_middle v = some (-1, v)) ∨ (∃ b, b < k ∧ fX3_middle u = some (nI (tv u b), u) ∧ fX5_middle v = some (nI (tv u b), v)) := by
  have hk := hV.1
  have := mid_loop hT hV hA k 0 FU FU (by omega) (by rw [FU_]; omega) (by rw [FU_]; omega)
  rw [nI_0] at this
  rcases this with ⟨a, b, _⟩ | ⟨b, b1, _, b3, b4, _⟩
  · exact .inl ⟨b, a _⟩
  · exact .inr ⟨b, b1, b4, b3 _⟩
