/-! ===== groups ===== -/
def Fresh (u : St) (g : Nat) : Prop := u.2.1 8 g = 3 ∧ u.2.1 9 g = 0 ∧ u.2.2 1 g = 0 ∧ u.2.2 2 g = 1 ∧ u.2.1 10 g = -1 ∧ u.2.1 11 g = 0 ∧ u.2.1 12 g = 0
def opn (u : St) (c : Nat) (key : Int32) : St := sS (sI (sI (sI (sJ (sJ (sI (sI (sI (sI u 6 c key) 7 c 0) 8 c 3) 9 c 0) 1 c 0) 2 c 1) 10 c (-1)) 11 c 0) 12 c 0) 7 (nI (c + 1))
theorem open_A {u : St} {c : Nat} {key : Int32} (h : u.1 7 = nI c) (hc : c < 60) : fX0_open u key = some ((), opn u c key) := by
  unfold fX0_open opn
  simp (disch := omega) only [h, lt_, okI_t, gd_1, nc_, nI_1]
theorem opn_F {u : St} {c : Nat} {key : Int32} : Frm [7] [6, 7, 8, 9, 10, 11, 12] [1, 2] u (opn u c key) :=
  (((((((((Frm.rfl'.sI (by decide)).sI (by decide)).sI (by decide)).sI (by decide)).sJ (by decide)).sJ (by decide)).sI (by decide)).sI (by decide)).sI (by decide)).sS (by decide)
theorem opn_key {u : St} {c : Nat} {key : Int32} : (opn u c key).2.1 6 c = key := pk_us
theorem opn_rows {u : St} {c : Nat} {key : Int32} : (opn u c key).2.1 7 c = 0 := pk_us
theorem opn_fresh {u : St} {c : Nat} {key : Int32} : Fresh (opn u c key) c := ⟨pk_us, pk_us, pk_uLs, pk_uLs, pk_us, pk_us, pk_us⟩
theorem opn_old {u : St} {c g : Nat} {key : Int32} (h : g ≠ c) (hf : Fresh u g) : Fresh (opn u c key) g := by
  obtain ⟨a, b, d, e, f, i, j⟩ := hf
  exact ⟨(pk_un h).trans a, (pk_un h).trans b, (pk_uLn h).trans d, (pk_uLn h).trans e, (pk_un h).trans f, (pk_un h).trans i, (pk_un h).trans j⟩
theorem belong_R {u v : St} {n : Nat} (h : TR u v n) (hs : SetR u v) {p q : Nat} (hp : p < n) (hq : q < n) : ∃ z : Int32, fX4_belongTogether u (nI p) (nI q) = some (z, u) ∧ fX5_isSameKey v (nI p) (nI q) = some (z, v) := by
  obtain ⟨⟨b, hb, b1, b2⟩, _, _⟩ := hs
  have hn := h.1
  unfold fX4_belongTogether fX5_isSameKey
  rw [b1, b2]
  simp only [lt_]
  have hb3 : b = 0 ∨ b = 1 ∨ b = 2 := by omega
  rcases hb3 with e | e | e <;> subst e
  · rw [if_pos (show nI 0 = 0 by decide), if_neg (show ¬ nI 0 = 2 by decide), if_neg (show ¬ nI 0 = 1 by decide)]
    by_cases c : nI p = nI q
    · rw [if_pos c, if_pos c]; exact ⟨1, rfl, rfl⟩
    · rw [if_neg c, if_neg c]; exact ⟨0, rfl, rfl⟩
  · rw [if_neg (by decide), if_pos (by decide), if_neg (by decide), if_pos (by decide)]
    obtain ⟨c, r, hc, hr, hs⟩ := cmp_R (p := p) (q := q) (by omega) (by omega) (h.2.2.2 p hp) (h.2.2.2 q hq)
    rw [bnd_t hc, bnd_t hr]
    by_cases k : c = 0
    · rw [if_pos k, if_pos (hs.eq0.mp k)]; exact ⟨1, rfl, rfl⟩
    · rw [if_neg k, if_neg (fun e => k (hs.eq0.mpr e))]; exact ⟨0, rfl, rfl⟩
  · rw [if_neg (by decide), if_neg (by decide), if_pos (by decide)]; exact ⟨1, rfl, rfl⟩
def GI (u v : St) (n c i b : Nat) : Prop := c ≤ i ∧ u.1 7 = nI c ∧ v.1 6 = nI (if b = 2 ∧ c = 0 then 1 else c) ∧ (c = 0 → v.2.1 9 0 = 0 ∧ v.2.1 8 0 = -1) ∧
  (∀ g, g < c → (∃ t, t < n ∧ u.2.1 6 g = nI t ∧ v.2.1 8 g = nI t) ∧ (∃ r, 0 < r ∧ r ≤ i ∧ u.2.1 7 g = nI r ∧ v.2.1 9 g = nI r) ∧ Fresh u g) ∧
  (∀ p, p < i → ∃ g, g < c ∧ u.2.1 14 p = nI g ∧ v.2.1 16 p = nI g)
theorem find_loop {u v : St} {n c i b t j : Nat} (h : TR u v n) (hs : SetR u v) (hi : i < 60) (hG : GI u v n c i b) (ht : t < n) (hj : j < 60) (ej : v.2.1 6 j = nI t) (x1 : Int32) (k33 : Int32 → St → Option (Unit × St)) : ∀ (d g k : Nat), g + d = c → d < k →
    ∃ g', g' ≤ c ∧ fX4_groupOfKey_2 k (nI t) (nI g) u = some (nI g', u) ∧ fX5_findGroups_50 k33 k x1 (nI j) (nI g) v = fX5_findGroups_92 k33 x1 (nI j) (nI g') v := by
  obtain ⟨G1, G2, G3, G4, G5, G6⟩ := hG
  intro d
  induction d with
  | zero =>
    intro g k hg hk
    obtain ⟨k, rfl⟩ : ∃ a, k = a + 1 := ⟨k - 1, by omega⟩
    have e : g = c := by omega
    subst e
    refine ⟨g, Nat.le_refl _, ?_, ?_⟩
    · unfold fX4_groupOfKey_2 fX0_count
      rw [bnd_t rfl, G2, if_pos Int32.le_rfl, bnd_t rfl]
    · unfold fX5_findGroups_50
      rw [G3]
      by_cases c0 : b = 2 ∧ g = 0
      · have g0 : g = 0 := c0.2
        subst g0
        rw [if_pos c0, if_neg (by decide)]
        have okz : okI (nI 0) 60 = true := okI_t (by omega) (by omega)
        have e9 : v.2.1 9 (nI 0).toNatClampNeg = 0 := (G4 rfl).1
        rw [gd_t okz, e9, if_pos Int32.le_rfl]
      · rw [if_neg c0, if_pos Int32.le_rfl]
  | succ d ih =>
    intro g k hg hk
    obtain ⟨k, rfl⟩ : ∃ a, k = a + 1 := ⟨k - 1, by omega⟩
    obtain ⟨⟨s, s1, s2, s3⟩, ⟨r, r1, r2, r3, r4⟩, _⟩ := G5 g (by omega)
    obtain ⟨z, z1, z2⟩ := belong_R h hs s1 ht
    have c0 : ¬ (b = 2 ∧ c = 0) := by omega
    have eA : fX4_groupOfKey_2 (k + 1) (nI t) (nI g) u = if z = 0 then fX4_groupOfKey_2 k (nI t) (nI (g + 1)) u else some (nI g, u) := by
      rw [fX4_groupOfKey_2]
      unfold fX0_count fX0_firstKey
      rw [bnd_t rfl, G2, if_neg (nI_ge (by omega) (by omega))]
      simp (disch := omega) only [okI_t, gd_1, nc_, s2]
      rw [bnd_t rfl, bnd_t z1]
      simp only [lt_, nI_1]
    have eM : fX5_findGroups_50 k33 (k + 1) x1 (nI j) (nI g) v = if z = 0 then fX5_findGroups_50 k33 k x1 (nI j) (nI (g + 1)) v else fX5_findGroups_92 k33 x1 (nI j) (nI g) v := by
      rw [fX5_findGroups_50]
      rw [G3, if_neg c0, if_neg (nI_ge (by omega) (by omega))]
      simp (disch := omega) only [okI_t, gd_1, nc_, s3, r4, ej]
      rw [if_neg (nI_nle r1 (by omega)), bnd_t z2]
      simp only [lt_, nI_1]
    rw [eA, eM]
    by_cases zz : z = 0
    · rw [if_pos zz, if_pos zz]; exact ih (g + 1) k (by omega) (by omega)
    · rw [if_neg zz, if_neg zz]; exact ⟨g, by omega, rfl, rfl⟩
theorem grp_loop {n m b : Nat} (hb : b ≤ 2) : ∀ (d i k c : Nat) (u v : St), i + d = m → d < k → TR u v n → PL u v n m → SetR u v → u.1 0 = nI b → GI u v n c i b →
    ∃ u' v' c', fX4_makeGroups_9 k (nI i) u = (if b = 2 ∧ c' = 0 then bnd (fX0_open u' (-1)) (fun _ u_12 => some ((), u_12)) else some ((), u')) ∧ fX5_findGroups_33 k (nI i) v = some ((), v') ∧ GI u' v' n c' m b ∧ Frm [7] [6, 7, 8, 9, 10, 11, 12, 14] [1, 2] u u' ∧ Frm [6] [8, 9, 16] [] v v' := by
  intro d
  induction d with
  | zero =>
    intro i k c u v hi hk hT hP hS hu hG
    obtain ⟨k, rfl⟩ : ∃ a, k = a + 1 := ⟨k - 1, by omega⟩
    have e : i = m := by omega
    subst e
    refine ⟨u, v, c, ?_, ?_, hG, Frm.rfl', Frm.rfl'⟩
    · rw [fX4_makeGroups_9]
      unfold fX1_count fX0_count
      rw [bnd_t rfl, hP.2.1, if_pos Int32.le_rfl, hu]
      have hc : c ≤ 60 := by have := hG.1; have := hP.1; omega
      have e2 : (nI b = 2) ↔ b = 2 := nI_eq (b := 2) (by omega) (by omega)
      by_cases k1 : b = 2
      · rw [if_pos (e2.mpr k1), bnd_t rfl, hG.2.1]
        have e0 : (nI c = 0) ↔ c = 0 := nI_eq (b := 0) (by omega) (by omega)
        by_cases k2 : c = 0
        · rw [if_pos (e0.mpr k2), if_pos ⟨k1, k2⟩]
        · rw [if_neg (fun e => k2 (e0.mp e)), if_neg (fun e => k2 e.2)]
      · rw [if_neg (fun e => k1 (e2.mp e)), if_neg (fun e => k1 e.1)]
    · rw [fX5_findGroups_33]
      rw [hP.2.2.1, if_pos Int32.le_rfl]
  | succ d ih =>
    intro i k c u v hi hk hT hP hS hu hG
    obtain ⟨k, rfl⟩ : ∃ a, k = a + 1 := ⟨k - 1, by omega⟩
    have hm := hP.1
    obtain ⟨j, t, j1, j2, t1, k1, k2, k3, k4⟩ := hP.2.2.2 i (by omega)
    have hn := hT.1
    obtain ⟨g', g1, f1, f2⟩ := find_loop hT hS (by omega) hG t1 (by omega) k2 (nI i) (fX5_findGroups_33 k) c 0 FU (by omega) (by rw [FU_]; have := hG.1; omega)
    rw [nI_0] at f1 f2
    have eA : fX4_makeGroups_9 (k + 1) (nI i) u = if g' = c then fX4_makeGroups_59 (fX4_makeGroups_9 k) (nI i) (nI c) (opn u c (nI t)) else fX4_makeGroups_59 (fX4_makeGroups_9 k) (nI i) (nI g') u := by
      rw [fX4_makeGroups_9]
      unfold fX1_count fX0_count fX1_keyAt fX4_groupOfKey
      rw [bnd_t rfl, hP.2.1, if_neg (nI_ge (by omega) (by omega))]
      simp (disch := omega) only [okI_t, gd_1, nc_, k1]
      have hc := hG.1
      have e0 : (nI g' = nI c) ↔ g' = c := nI_eq (by omega) (by omega)
      rw [bnd_t rfl, bnd_t f1, bnd_t rfl, hG.2.1]
      by_cases q : g' = c
      · rw [if_pos (e0.mpr q), if_pos q, bnd_t rfl, bnd_t (open_A hG.2.1 (by omega)), q, k1]
      · rw [if_neg (fun e => q (e0.mp e)), if_neg q]
    have eM : fX5_findGroups_33 (k + 1) (nI i) v = fX5_findGroups_92 (fX5_findGroups_33 k) (nI i) (nI j) (nI g') v := by
      rw [fX5_findGroups_33]
      rw [hP.2.2.1, if_neg (nI_ge (by omega) (by omega))]
      simp (disch := omega) only [okI_t, gd_1, nc_, lt_, j2]
      exact f2
    obtain ⟨G1, G2, G3, G4, G5, G6⟩ := hG
    by_cases q : g' = c
    · subst q
      -- a new group
      have u7 : (opn u g' (nI t)).2.1 7 g' = 0 := pk_us
      have eA2 : fX4_makeGroups_9 (k + 1) (nI i) u = fX4_makeGroups_9 k (nI (i + 1)) (sI (sI (opn u g' (nI t)) 7 g' 1) 14 i (nI g')) := by
        rw [eA, if_pos rfl]
        unfold fX4_makeGroups_59 fX0_addRow
        simp (disch := omega) only [okI_t, gd_1, nc_, lt_, u7]
        rw [bnd_t rfl]
        simp only [nI_1]; rfl
      have e131 : ∀ y1 : Int32, y1 = nI (g' + 1) → fX5_findGroups_131 (fX5_findGroups_33 k) (nI i) (nI j) (nI g') y1 v = fX5_findGroups_33 k (nI (i + 1)) (sI (sI (sI (sI (sS v 6 (nI (g' + 1))) 8 g' (nI t)) 9 g' 0) 9 g' 1) 16 i (nI g')) := by
        intro y1 hy
        subst hy
        unfold fX5_findGroups_131 fX5_findGroups_153
        have z9 : (sI (sI (sS v 6 (nI (g' + 1))) 8 g' (nI t)) 9 g' 0).2.1 9 g' = 0 := pk_us
        have z9' : upd (v.2.1 9) g' 0 g' = 0 := pk_us
        simp (disch := omega) only [okI_t, gd_1, nc_, lt_, k2, nI_1]
        simp [z9']
      have eM2 : fX5_findGroups_33 (k + 1) (nI i) v = fX5_findGroups_33 k (nI (i + 1)) (sI (sI (sI (sI (sS v 6 (nI (g' + 1))) 8 g' (nI t)) 9 g' 0) 9 g' 1) 16 i (nI g')) := by
        rw [eM]
        unfold fX5_findGroups_92 fX5_findGroups_109
        rw [G3]
        by_cases c0 : b = 2 ∧ g' = 0
        · have g0 := c0.2
          subst g0
          rw [if_pos c0]
          have e9 : v.2.1 9 (nI 0).toNatClampNeg = 0 := (G4 rfl).1
          rw [if_neg (by decide), gd_t (okI_t (by omega) (by omega)), e9, if_pos rfl, if_neg (by decide)]
          exact e131 _ rfl
        · rw [if_neg c0, if_pos rfl, if_pos rfl]
          exact e131 _ (nI_1 _)
      have fu : Frm [7] [6, 7, 8, 9, 10, 11, 12, 14] [1, 2] u (sI (sI (opn u g' (nI t)) 7 g' 1) 14 i (nI g')) := ((opn_F.mono (by decide) (by decide) (by decide)).sI (by decide)).sI (by decide)
      have fv : Frm [6] [8, 9, 16] [] v (sI (sI (sI (sI (sS v 6 (nI (g' + 1))) 8 g' (nI t)) 9 g' 0) 9 g' 1) 16 i (nI g')) := ((((Frm.rfl'.sS (by decide)).sI (by decide)).sI (by decide)).sI (by decide)).sI (by decide)
      obtain ⟨u', v', c', r1, r2, r3, r4, r5⟩ := ih (i + 1) k (g' + 1) _ _ (by omega) (by omega) (hT.fr fu fv (by decide) (by decide) (by decide) (by decide) (by decide)) (hP.fr fu fv (by decide) (by decide) (by decide) (by decide)) (hS.fr fu fv (by decide) (by decide)) (by rw [fu.1 0 (by decide)]; exact hu) (by
        refine ⟨by omega, rfl, ?_, fun e => absurd e (by omega), ?_, ?_⟩
        · rw [if_neg (by omega)]; rfl
        · intro g hg
          by_cases e : g = g'
          · subst e
            refine ⟨⟨t, t1, pk_us, pk_us⟩, ⟨1, by omega, by omega, pk_us, pk_us⟩, opn_fresh⟩
          · obtain ⟨⟨s, s1, s2, s3⟩, ⟨r, r1, r2, r3, r4⟩, fr⟩ := G5 g (by omega)
            refine ⟨⟨s, s1, (pk_un e).trans s2, (pk_un e).trans s3⟩, ⟨r, r1, by omega, ((pk_un e).trans (pk_un e)).trans r3, ((pk_un e).trans (pk_un e)).trans r4⟩, ?_⟩
            exact opn_old e fr
        · intro p hp
          by_cases e : p = i
          · subst e; exact ⟨g', by omega, pk_us, pk_us⟩
          · obtain ⟨g, a, b, c⟩ := G6 p (by omega)
            exact ⟨g, by omega, (pk_un e).trans b, (pk_un e).trans c⟩)
      exact ⟨u', v', c', by rw [eA2]; exact r1, by rw [eM2]; exact r2, r3, fu.trans r4, fv.trans r5⟩
    · have hgc : g' < c := by omega
      obtain ⟨⟨s, s1, s2, s3⟩, ⟨r, q1, q2, q3, q4⟩, _⟩ := G5 g' hgc
      have eA2 : fX4_makeGroups_9 (k + 1) (nI i) u = fX4_makeGroups_9 k (nI (i + 1)) (sI (sI u 7 g' (nI (r + 1))) 14 i (nI g')) := by
        rw [eA, if_neg q]
        unfold fX4_makeGroups_59 fX0_addRow
        simp (disch := omega) only [okI_t, gd_1, nc_, lt_, q3, nI_1]
        rw [bnd_t rfl]
      have eM2 : fX5_findGroups_33 (k + 1) (nI i) v = fX5_findGroups_33 k (nI (i + 1)) (sI (sI v 9 g' (nI (r + 1))) 16 i (nI g')) := by
        rw [eM]
        unfold fX5_findGroups_92 fX5_findGroups_153
        rw [G3, if_neg (by omega : ¬ (b = 2 ∧ c = 0))]
        have e0 : ¬ (nI g' = nI c) := fun e => q ((nI_eq (by omega) (by omega)).mp e)
        rw [if_neg e0]
        simp (disch := omega) only [okI_t, gd_1, nc_, lt_, q4, nI_1]
        rw [if_neg (nI_ne0 q1 (by omega))]
      have fu : Frm [7] [6, 7, 8, 9, 10, 11, 12, 14] [1, 2] u (sI (sI u 7 g' (nI (r + 1))) 14 i (nI g')) := (Frm.rfl'.sI (by decide)).sI (by decide)
      have fv : Frm [6] [8, 9, 16] [] v (sI (sI v 9 g' (nI (r + 1))) 16 i (nI g')) := (Frm.rfl'.sI (by decide)).sI (by decide)
      obtain ⟨u', v', c', r1, r2, r3, r4, r5⟩ := ih (i + 1) k c _ _ (by omega) (by omega) (hT.fr fu fv (by decide) (by decide) (by decide) (by decide) (by decide)) (hP.fr fu fv (by decide) (by decide) (by decide) (by decide)) (hS.fr fu fv (by decide) (by decide)) (by rw [fu.1 0 (by decide)]; exact hu) (by
        refine ⟨by omega, G2, G3, fun e => absurd e (by omega), ?_, ?_⟩
        · intro g hg
          obtain ⟨⟨s, s1, s2, s3⟩, ⟨r', q1', q2', q3', q4'⟩, fr⟩ := G5 g hg
          refine ⟨⟨s, s1, s2, s3⟩, ?_, fr⟩
          by_cases e : g = g'
          · subst e; exact ⟨r + 1, by omega, by omega, pk_us, pk_us⟩
          · exact ⟨r', q1', by omega, (pk_un e).trans q3', (pk_un e).trans q4'⟩
        · intro p hp
          by_cases e : p = i
          · subst e; exact ⟨g', hgc, pk_us, pk_us⟩
          · obtain ⟨g, a, b, c⟩ := G6 p (by omega)
            exact ⟨g, a, (pk_un e).trans b, (pk_un e).trans c⟩)
      exact ⟨u', v', c', by rw [eA2]; exact r1, by rw [eM2]; exact r2, r3, fu.trans r4, fv.trans r5⟩
theorem fg14 (y : Int32) (w : St) : fX5_findGroups_14 y w = fX5_findGroups_33 FU 0 (sI (sI (sS w 6 y) 8 0 (-1)) 9 0 0) := by
  unfold fX5_findGroups_14
  generalize FU = k
  rfl
theorem mg0 (u : St) : fX4_makeGroups u = fX4_makeGroups_9 FU 0 (sS (sS u 7 0) 6 0) := by
  unfold fX4_makeGroups fX0_clear
  simp only [lt_]
  generalize FU = k
  rfl
/-- the groups as a run finds them -/
def GF (u v : St) (m c : Nat) : Prop := c ≤ 60 ∧ u.1 6 = 0 ∧ u.1 7 = nI c ∧ v.1 6 = nI c ∧ (∀ g, g < c → u.2.1 6 g = v.2.1 8 g ∧ u.2.1 7 g = v.2.1 9 g ∧ Fresh u g) ∧ (∀ p, p < m → ∃ g, g < c ∧ u.2.1 14 p = nI g ∧ v.2.1 16 p = nI g)
theorem groups_R {u v : St} {n m : Nat} (hT : TR u v n) (hP : PL u v n m) (hS : SetR u v) : ∃ u' v' c, fX4_makeGroups u = some ((), u') ∧ fX5_findGroups v = some ((), v') ∧ GF u' v' m c ∧ Frm [6, 7] [6, 7, 8, 9, 10, 11, 12, 14] [1, 2] u u' ∧ Frm [6] [8, 9, 16] [] v v' := by
  obtain ⟨⟨b, hb, b1, b2⟩, hs2, hs3⟩ := id hS
  have hm := hP.1
  have e2 : (nI b = 2) ↔ b = 2 := nI_eq (b := 2) (by omega) (by omega)
  have hy : (if b = 2 then (1 : Int32) else 0) = nI (if b = 2 ∧ 0 = 0 then 1 else 0) := by
    by_cases k : b = 2
    · rw [if_pos k, if_pos ⟨k, rfl⟩]; rfl
    · rw [if_neg k, if_neg (fun e => k e.1)]; rfl
  have fu : Frm [6, 7] [6, 7, 8, 9, 10, 11, 12, 14] [1, 2] u (sS (sS u 7 0) 6 0) := (Frm.rfl'.sS (by decide)).sS (by decide)
  have fv : Frm [6] [8, 9, 16] [] v (sI (sI (sS v 6 (nI (if b = 2 ∧ 0 = 0 then 1 else 0))) 8 0 (-1)) 9 0 0) := ((Frm.rfl'.sS (by decide)).sI (by decide)).sI (by decide)
  obtain ⟨u', v', c', r1, r2, r3, r4, r5⟩ := grp_loop hb m 0 FU 0 _ _ (by omega) (by rw [FU_]; omega) (hT.fr fu fv (by decide) (by decide) (by decide) (by decide) (by decide)) (hP.fr fu fv (by decide) (by decide) (by decide) (by decide)) (hS.fr fu fv (by decide) (by decide)) (by rw [fu.1 0 (by decide)]; exact b1) ⟨Nat.le_refl _, rfl, rfl, fun _ => ⟨rfl, rfl⟩, fun g hg => absurd hg (by omega), fun p hp => absurd hp (by omega)⟩
  rw [nI_0] at r1 r2
  have eM : fX5_findGroups v = some ((), v') := by
    unfold fX5_findGroups
    rw [b2]
    have : (if nI b = 2 then fX5_findGroups_14 1 v else fX5_findGroups_14 0 v) = fX5_findGroups_14 (nI (if b = 2 ∧ 0 = 0 then 1 else 0)) v := by
      rw [← hy]
      by_cases k : b = 2
      · rw [if_pos (e2.mpr k), if_pos k]
      · rw [if_neg (fun e => k (e2.mp e)), if_neg k]
    rw [this, fg14]
    exact r2
  have eA : fX4_makeGroups u = (if b = 2 ∧ c' = 0 then bnd (fX0_open u' (-1)) (fun _ u_12 => some ((), u_12)) else some ((), u')) := by
    rw [mg0]; exact r1
  obtain ⟨G1, G2, G3, G4, G5, G6⟩ := r3
  have w0 : u'.1 6 = 0 := r4.1 6 (by decide)
  by_cases q : b = 2 ∧ c' = 0
  · obtain ⟨q1, q2⟩ := q
    subst q2
    rw [if_pos ⟨q1, rfl⟩] at eA G3
    rw [bnd_t (open_A G2 (by omega))] at eA
    refine ⟨opn u' 0 (-1), v', 1, eA, eM, ⟨by omega, w0, rfl, G3, ?_, ?_⟩, (fu.trans (r4.mono (by decide) (by decide) (by decide))).trans (opn_F.mono (by decide) (by decide) (by decide)), fv.trans r5⟩
    · intro g hg
      have : g = 0 := by omega
      subst this
      obtain ⟨z1, z2⟩ := G4 rfl
      exact ⟨by rw [z2]; exact opn_key, by rw [z1]; exact opn_rows, opn_fresh⟩
    · intro p hp
      obtain ⟨g, g1, _⟩ := G6 p hp
      omega
  · rw [if_neg q] at eA G3
    refine ⟨u', v', c', eA, eM, ⟨by omega, w0, G2, G3, ?_, G6⟩, fu.trans (r4.mono (by decide) (by decide) (by decide)), fv.trans r5⟩
    intro g hg
    obtain ⟨⟨s, s1, s2, s3⟩, ⟨r, q1, q2, q3, q4⟩, fr⟩ := G5 g hg
    exact ⟨by rw [s2, s3], by rw [q3, q4], fr⟩
