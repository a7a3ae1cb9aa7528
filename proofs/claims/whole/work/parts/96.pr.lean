/-! ===== a group reckoned ===== -/
theorem STEP.mono {u v : St} {g W B B' : Nat} {X M : Option (Unit × St)} (h : STEP u v g W B X M) (hB : B ≤ B') : STEP u v g W B' X M := by
  obtain ⟨u', v', W', a, b, c, d, e⟩ := h
  exact ⟨u', v', W', a, b, c, by omega, e⟩
theorem NUM {u v : St} {g W B b : Nat} {x : Int64} (hg : g < 60) (h : PRE u v g) (hu : u.1 6 = nI W) (h1 : -60000000000 ≤ x.toInt) (h2 : x.toInt ≤ 60000000000) (hb : 0 < b) (hb2 : b ≤ 60000) : STEP u v g W B (fX0_setNumber u (nI g) x (lN b)) (fX5_tellNumber v (nI g) x (lN b)) := by
  rw [setNumber_A hg h1 h2 hb hb2, tellNumber_M hg h1 h2 hb hb2]
  exact num_STEP h hu rfl rfl
theorem TERM {u v : St} {n g W k : Nat} {z : Int32} (hg : g < 60) (hT : TR u v n) (h : PRE u v g) (hu : u.1 6 = nI W) (hW : W + 10 * k ≤ 600) (hz : z = -1 ∨ (0 < k ∧ ∃ t, t < n ∧ z = nI t)) : STEP u v g W (10 * k) (fX4_setTerm u (nI g) z) (fX5_tellTerm v (nI g) z) := by
  by_cases c : z = -1
  · subst c
    unfold fX4_setTerm fX5_tellTerm
    rw [if_pos rfl, if_pos rfl]
    simp (disch := omega) only [okI_t, gd_1, nc_, lt_]
    exact non_STEP h hu
  · obtain ⟨hk, t, ht, e⟩ := hz.resolve_left c
    subst e
    exact (setTerm_STEP hg hT ht h hu (by omega)).mono (by omega)
theorem k8 {j : Nat} (hj : j ≤ 7) (m : Nat) (hm : m < 2 ^ 31) : nI j = nI m ↔ j = m := nI_eq (by omega) hm
theorem reckon50 {u v : St} {n g k W j : Nat} (hg : g < 60) (hj : j ≤ 7) (hT : TR u v n) (hV : VAL u v n k) (hS : SetR u v) (hP : PRE u v g) (hu : u.1 6 = nI W) (hW : W + 10 * k ≤ 600) (hA : j = 1 ∨ j = 2 ∨ j = 7 → ALN u v k) :
    STEP u v g W (10 * k) (fX4_reckon_50 (nI g) (nI j) u) (fX5_tell_65 (nI g) (nI j) v) := by
  have hn := hT.1
  have hk := hV.1
  have hkl : (nI k).toInt64 = lN k := nI_l (by omega)
  have e1 : (1 : Int64) = lN 1 := rfl
  have eN0 : (nI k = 0) ↔ k = 0 := nI_eq (b := 0) (by omega) (by omega)
  have sumk : ∀ a : Nat, (1000 : Int64) * lN a = lN (1000 * a) := fun a => lN_mul 1000 a
  unfold fX4_reckon_50 fX5_tell_65
  simp only [lt_, bnd_id]
  have hj8 : j = 0 ∨ j = 1 ∨ j = 2 ∨ j = 3 ∨ j = 4 ∨ j = 5 ∨ j = 6 ∨ j = 7 := by omega
  have n00 : nI 0 = 0 := by decide
  have n10 : ¬ nI 1 = 0 := by decide
  have n11 : nI 1 = 1 := by decide
  have n20 : ¬ nI 2 = 0 := by decide
  have n21 : ¬ nI 2 = 1 := by decide
  have n22 : nI 2 = 2 := by decide
  have n30 : ¬ nI 3 = 0 := by decide
  have n31 : ¬ nI 3 = 1 := by decide
  have n32 : ¬ nI 3 = 2 := by decide
  have n33 : nI 3 = 3 := by decide
  have n40 : ¬ nI 4 = 0 := by decide
  have n41 : ¬ nI 4 = 1 := by decide
  have n42 : ¬ nI 4 = 2 := by decide
  have n43 : ¬ nI 4 = 3 := by decide
  have n44 : nI 4 = 4 := by decide
  have n50 : ¬ nI 5 = 0 := by decide
  have n51 : ¬ nI 5 = 1 := by decide
  have n52 : ¬ nI 5 = 2 := by decide
  have n53 : ¬ nI 5 = 3 := by decide
  have n54 : ¬ nI 5 = 4 := by decide
  have n55 : nI 5 = 5 := by decide
  have n60 : ¬ nI 6 = 0 := by decide
  have n61 : ¬ nI 6 = 1 := by decide
  have n62 : ¬ nI 6 = 2 := by decide
  have n63 : ¬ nI 6 = 3 := by decide
  have n64 : ¬ nI 6 = 4 := by decide
  have n65 : ¬ nI 6 = 5 := by decide
  have n66 : nI 6 = 6 := by decide
  have n70 : ¬ nI 7 = 0 := by decide
  have n71 : ¬ nI 7 = 1 := by decide
  have n72 : ¬ nI 7 = 2 := by decide
  have n73 : ¬ nI 7 = 3 := by decide
  have n74 : ¬ nI 7 = 4 := by decide
  have n75 : ¬ nI 7 = 5 := by decide
  have n76 : ¬ nI 7 = 6 := by decide
  rcases hj8 with h | h | h | h | h | h | h | h <;> subst h
  · rw [if_pos n00, if_pos n00]
    unfold fX3_count
    rw [bnd_t rfl, hV.2.1, hV.2.2.1, hkl, e1]
    have := lN_toInt63 (n := k) (by omega)
    exact NUM hg hP hu (by omega) (by omega) (by omega) (by omega)
  · rw [if_neg n10, if_pos n11, if_neg n10, if_pos n11]
    obtain ⟨s, s1, s2, s3, s4, _⟩ := sum_R hT hV (hA (.inl rfl))
    rw [bnd_t s1, bnd_t s2, l1000]
    exact NUM hg hP hu (by omega) (by omega) (by omega) (by omega)
  · rw [if_neg n20, if_neg n21, if_pos n22, if_neg n20, if_neg n21, if_pos n22]
    obtain ⟨s, s1, s2, s3, s4, s5⟩ := sum_R hT hV (hA (.inr (.inl rfl)))
    unfold fX3_count
    rw [bnd_t s1, bnd_t s2, bnd_t rfl, hV.2.1, hV.2.2.1]
    by_cases c : k = 0
    · subst c
      have := s5 rfl
      subst this
      rw [if_neg (by decide), if_pos (by decide)]
      have a1 : (1000 : Int64) * (1 : Int32).toInt64 = lN 1000 := by decide +kernel
      rw [a1, e1, setNumber_A hg (by decide) (by decide) (by omega) (by omega), tellNumber_M hg (by decide) (by decide) (by omega) (by omega)]
      exact num_STEP hP hu (by decide +kernel) (by decide +kernel)
    · rw [if_neg (fun e => c (eN0.mp e))]
      have a1 : (if 1 < nI k then nI k else 1) = nI k := by
        by_cases c1 : k = 1
        · subst c1; rfl
        · rw [if_pos (show 1 < nI k from nI_lt (a := 1) (by omega) (by omega))]
      rw [a1, hkl, sumk]
      exact NUM hg hP hu (by omega) (by omega) (by omega) (by omega)
  · rw [if_neg n30, if_neg n31, if_neg n32, if_pos n33, if_neg n30, if_neg n31, if_neg n32, if_pos n33]
    rcases least_R hT hV with ⟨a, b, c⟩ | ⟨b, b1, b2, b3⟩
    · rw [bnd_t b, bnd_t c]; exact TERM hg hT hP hu hW (.inl rfl)
    · rw [bnd_t b2, bnd_t b3]; exact TERM hg hT hP hu hW (.inr ⟨by omega, _, (hV.tv_ hn b1).1, rfl⟩)
  · rw [if_neg n40, if_neg n41, if_neg n42, if_neg n43, if_pos n44, if_neg n40, if_neg n41, if_neg n42, if_neg n43, if_pos n44]
    rcases greatest_R hT hV with ⟨a, b, c⟩ | ⟨b, b1, b2, b3⟩
    · rw [bnd_t b, bnd_t c]; exact TERM hg hT hP hu hW (.inl rfl)
    · rw [bnd_t b2, bnd_t b3]; exact TERM hg hT hP hu hW (.inr ⟨by omega, _, (hV.tv_ hn b1).1, rfl⟩)
  · rw [if_neg n50, if_neg n51, if_neg n52, if_neg n53, if_neg n54, if_pos n55, if_neg n50, if_neg n51, if_neg n52, if_neg n53, if_neg n54, if_pos n55]
    rw [bnd_t (first_A hn hV), hV.2.2.1]
    by_cases c : k = 0
    · rw [if_pos c, if_pos (eN0.mpr c)]; exact TERM hg hT hP hu hW (.inl rfl)
    · obtain ⟨t1, t2, t3⟩ := hV.tv_ hn (i := 0) (by omega)
      have z : (0 : Int32).toNatClampNeg = 0 := rfl
      rw [if_neg c, if_neg (fun e => c (eN0.mp e)), gd_t (by decide), z, t3]
      exact TERM hg hT hP hu hW (.inr ⟨by omega, _, t1, rfl⟩)
  · rw [if_neg n60, if_neg n61, if_neg n62, if_neg n63, if_neg n64, if_neg n65, if_pos n66, if_neg n60, if_neg n61, if_neg n62, if_neg n63, if_neg n64, if_neg n65, if_pos n66]
    obtain ⟨_, ⟨sp, sp1, sp2, sp3⟩, _⟩ := hS
    exact join_STEP hg sp1 hk hW hP hu hT hV sp2 sp3
  · rw [if_neg n70, if_neg n71, if_neg n72, if_neg n73, if_neg n74, if_neg n75, if_neg n76, if_neg n70, if_neg n71, if_neg n72, if_neg n73, if_neg n74, if_neg n75, if_neg n76]
    obtain ⟨_, _, o, o1, o2, o3⟩ := hS
    have hA' := hA (.inr (.inr rfl))
    unfold fX4_reckonOwn fX5_tellOwn
    simp only [lt_, bnd_id]
    rw [o2, o3]
    have ho3 : o = 0 ∨ o = 1 ∨ o = 2 := by omega
    rcases ho3 with h | h | h <;> subst h
    · rw [if_pos n00, if_pos n00, hV.2.2.1]
      by_cases c : k = 0
      · rw [if_pos (eN0.mpr c)]
        unfold fX3_span
        rw [hV.2.1, if_pos (show nI k ≤ 0 from nI_le (b := 0) (by omega) (by omega)), bnd_t rfl, l1000]
        exact NUM hg hP hu (by decide) (by decide) (by omega) (by omega)
      · rw [if_neg (fun e => c (eN0.mp e))]
        unfold fX3_span
        rw [hV.2.1, if_neg (nI_nle (by omega) (by omega))]
        rcases greatest_R hT hV with ⟨a, _⟩ | ⟨b, b1, b2, b3⟩
        · exact absurd a c
        rcases least_R hT hV with ⟨a, _⟩ | ⟨b', b1', b2', b3'⟩
        · exact absurd a c
        obtain ⟨x1, x2, x3, x4⟩ := (hA' b b1).thF_ (by have := (hV.tv_ hn b1).1; omega)
        obtain ⟨y1, y2, y3, y4⟩ := (hA' b' b1').thF_ (by have := (hV.tv_ hn b1').1; omega)
        rw [bnd_t b2, bnd_t x1, bnd_t b2', bnd_t y1, bnd_t rfl, bnd_t b3, bnd_t x2, bnd_t b3', bnd_t y2, l1000]
        have es : (thF u (tv u b) - thF u (tv u b')).toInt = (thF u (tv u b)).toInt - (thF u (tv u b')).toInt := by
          rw [Int64.toInt_sub]
          exact Int.bmod_eq_of_le (by omega) (by omega)
        exact NUM hg hP hu (by omega) (by omega) (by omega) (by omega)
    · rw [if_neg n10, if_pos n11, if_neg n10, if_pos n11]
      rcases middle_R hT hV hA' with ⟨a, b⟩ | ⟨b, b1, b2, b3⟩
      · rw [bnd_t a, bnd_t b]; exact TERM hg hT hP hu hW (.inl rfl)
      · rw [bnd_t b2, bnd_t b3]; exact TERM hg hT hP hu hW (.inr ⟨by omega, _, (hV.tv_ hn b1).1, rfl⟩)
    · rw [if_neg n20, if_neg n21, if_neg n20, if_neg n21]
      unfold fX4_reckonShare fX3_count
      simp only [bnd_id]
      rw [bnd_t rfl, hV.2.1, hV.2.2.1]
      by_cases c : k = 0
      · rw [if_pos (eN0.mpr c), if_pos (eN0.mpr c)]
        exact err_STEP hg hP hu 3
      · rw [if_neg (fun e => c (eN0.mp e)), if_neg (fun e => c (eN0.mp e))]
        obtain ⟨s, s1, s2, s3, s4⟩ := sum0_R hT hV hA'
        rw [bnd_t s1, bnd_t s2, bnd_t rfl, hV.2.1, hV.2.2.1, hkl, sumk]
        exact NUM hg hP hu (by omega) (by omega) (by omega) (by omega)
def rst (v : St) (g : Nat) : St := sI (sI (sJ (sJ (sI v 11 g 0) 0 g 0) 1 g 1) 12 g (-1)) 13 g 0
theorem reckon_R {u v : St} {n g k W j : Nat} (hg : g < 60) (hj : j ≤ 7) (hT : TR u v n) (hV : VAL u v n k) (hS : SetR u v) (hF : Fresh u g) (h6 : u.2.1 6 g = v.2.1 8 g) (h7 : u.2.1 7 g = v.2.1 9 g) (hu : u.1 6 = nI W) (hW : W + 10 * k ≤ 600) :
    STEP u v g W (10 * k) (fX4_reckon u (nI g) (nI j)) (fX5_tell v (nI g) (nI j)) := by
  have om : OGM v (rst v g) g := ((((OGM.i (by omega)).trans (OGM.j (by omega))).trans (OGM.j (by omega))).trans (OGM.i (by omega))).trans (OGM.i (by omega))
  have fv : Frm [] [11, 12, 13] [0, 1] v (rst v g) := ((((Frm.rfl'.sI (by decide)).sJ (by decide)).sJ (by decide)).sI (by decide)).sI (by decide)
  have fu : Frm [] [] [] u u := Frm.rfl'
  have hT' : TR u (rst v g) n := hT.fr fu fv (by decide) (by decide) (by decide) (by decide) (by decide)
  have hV' : VAL u (rst v g) n k := hV.fr fu fv (by decide) (by decide) (by decide) (by decide)
  have hS' : SetR u (rst v g) := hS.fr fu fv (by decide) (by decide)
  have hP : PRE u (rst v g) g := ⟨hF, h6, h7, pk_us, pk_uLs, pk_uLs, pk_us, pk_us⟩
  have back : ∀ {X M : Option (Unit × St)}, STEP u (rst v g) g W (10 * k) X M → STEP u v g W (10 * k) X M := by
    intro X M ⟨u', v', W', a, b, c, d, e, f, h, i⟩
    exact ⟨u', v', W', a, b, c, d, e, f, om.trans h, i⟩
  have eM : fX5_tell v (nI g) (nI j) = (if nI j = 1 then fX5_tell_51 (nI g) (nI j) (rst v g) else if nI j = 2 then fX5_tell_51 (nI g) (nI j) (rst v g) else if nI j = 7 then fX5_tell_51 (nI g) (nI j) (rst v g) else fX5_tell_65 (nI g) (nI j) (rst v g)) := by
    unfold fX5_tell
    simp (disch := omega) only [okI_t, gd_1, nc_, lt_]
    rfl
  rw [eM]
  apply back
  have TXT : (j = 1 ∨ j = 2 ∨ j = 7) → STEP u (rst v g) g W (10 * k) (fX4_reckon_21 (nI g) (nI j) 1 u) (fX5_tell_51 (nI g) (nI j) (rst v g)) := by
    intro hj3
    unfold fX4_reckon_21 fX5_tell_51
    rw [if_neg (by decide)]
    simp only [bnd_id]
    rcases haveText_R hT' hV' with ⟨a, b, c⟩ | ⟨a, b⟩
    · rw [bnd_t a, bnd_t b, if_pos rfl, if_pos rfl]
      exact reckon50 hg hj hT' hV' hS' hP hu hW (fun _ => c)
    · rw [bnd_t a, bnd_t b, if_neg (by decide), if_neg (by decide)]
      exact err_STEP hg hP hu 1
  have q1 : (nI j = 1) ↔ j = 1 := k8 hj 1 (by omega)
  have q2 : (nI j = 2) ↔ j = 2 := k8 hj 2 (by omega)
  have q7 : (nI j = 7) ↔ j = 7 := k8 hj 7 (by omega)
  unfold fX4_reckon
  by_cases c1 : j = 1
  · rw [if_pos (q1.mpr c1), if_pos (q1.mpr c1)]; exact TXT (.inl c1)
  by_cases c2 : j = 2
  · rw [if_neg (fun e => c1 (q1.mp e)), if_neg (fun e => c1 (q1.mp e)), if_pos (q2.mpr c2), if_pos (q2.mpr c2)]; exact TXT (.inr (.inl c2))
  by_cases c7 : j = 7
  · rw [if_neg (fun e => c1 (q1.mp e)), if_neg (fun e => c1 (q1.mp e)), if_neg (fun e => c2 (q2.mp e)), if_neg (fun e => c2 (q2.mp e)), if_pos (q7.mpr c7), if_pos (q7.mpr c7)]; exact TXT (.inr (.inr c7))
  · rw [if_neg (fun e => c1 (q1.mp e)), if_neg (fun e => c1 (q1.mp e)), if_neg (fun e => c2 (q2.mp e)), if_neg (fun e => c2 (q2.mp e)), if_neg (fun e => c7 (q7.mp e)), if_neg (fun e => c7 (q7.mp e))]
    unfold fX4_reckon_21
    rw [if_pos rfl]
    exact reckon50 hg hj hT' hV' hS' hP hu hW (fun h => by omega)
/-! ===== a run ===== -/
theorem run_loop {n m j c : Nat} (d9 : Int32) (hj : j ≤ 7) (hc : c ≤ 60) (fG : Nat → Int32) : ∀ (d g f f' W : Nat) (u v : St), g + d = c → d < f → d < f' → TR u v n → PL u v n m → SetR u v → u.2.1 14 = fG → (∀ p, p < m → u.2.1 14 p = v.2.1 16 p) → u.1 7 = nI c → v.1 6 = nI c → u.1 6 = nI W → W ≤ 10 * tot fG m g →
    (∀ h, h < g → GrpT u v h ∧ GC u v h W) → (∀ h, g ≤ h → h < c → u.2.1 6 h = v.2.1 8 h ∧ u.2.1 7 h = v.2.1 9 h ∧ Fresh u h) →
    ∃ u' v' W', fX4_run_26 f (nI j) d9 (nI g) u = some (.inr (nI c), u') ∧ fX5_run_40 f' (nI j) d9 (nI g) v = some (nI c, v') ∧ u'.1 7 = nI c ∧ v'.1 6 = nI c ∧ W' ≤ 600 ∧ (∀ h, h < c → GrpT u' v' h ∧ GC u' v' h W') ∧ Frm [5, 6] [5, 8, 9, 10, 11, 12, 13] [1, 2] u u' ∧ Frm [7] [10, 11, 12, 13, 14, 17] [0, 1] v v' := by
  intro d
  induction d with
  | zero =>
    intro g f f' W u v hg hf hf' hT hP hS hG1 hG2 hu7 hv6 hu6 hW hD hN
    obtain ⟨f, rfl⟩ : ∃ a, f = a + 1 := ⟨f - 1, by omega⟩
    obtain ⟨f', rfl⟩ : ∃ a, f' = a + 1 := ⟨f' - 1, by omega⟩
    have e : g = c := by omega
    subst e
    have ht := tot_le fG m g (by omega)
    have hm := hP.1
    refine ⟨u, v, W, ?_, ?_, hu7, hv6, by omega, hD, Frm.rfl', Frm.rfl'⟩
    · rw [fX4_run_26]
      unfold fX0_count
      rw [bnd_t rfl, hu7, if_pos Int32.le_rfl, bnd_t rfl]
    · rw [fX5_run_40]
      rw [hv6, if_pos Int32.le_rfl]
  | succ d ih =>
    intro g f f' W u v hg hf hf' hT hP hS hG1 hG2 hu7 hv6 hu6 hW hD hN
    obtain ⟨f, rfl⟩ : ∃ a, f = a + 1 := ⟨f - 1, by omega⟩
    obtain ⟨f', rfl⟩ : ∃ a, f' = a + 1 := ⟨f' - 1, by omega⟩
    have hm := hP.1
    obtain ⟨u1, v1, k, a1, a2, a3, a4, a5, a6⟩ := pick_R (g := g) (by omega) d9 hT hP hG2
    rw [hG1] at a4
    have htot : tot fG m (g + 1) = tot fG m g + cg fG (nI g) m := rfl
    have ht := tot_le fG m (g + 1) (by omega)
    have hT1 := hT.fr a5 a6 (by decide) (by decide) (by decide) (by decide) (by decide)
    have hP1 := hP.fr a5 a6 (by decide) (by decide) (by decide) (by decide)
    have hS1 := hS.fr a5 a6 (by decide) (by decide)
    obtain ⟨n1, n2, n3⟩ := hN g (by omega) (by omega)
    have hF1 : Fresh u1 g := by
      unfold Fresh at n3 ⊢
      rw [a5.2.1 8 (by decide), a5.2.1 9 (by decide), a5.2.1 10 (by decide), a5.2.1 11 (by decide), a5.2.1 12 (by decide), a5.2.2 1 (by decide), a5.2.2 2 (by decide)]; exact n3
    obtain ⟨u2, v2, W2, b1, b2, b3, b4, b5, b6, b7, b8, b9⟩ := reckon_R (W := W) (by omega : g < 60) hj hT1 a3 hS1 hF1 (by rw [a5.2.1 6 (by decide), a6.2.1 8 (by decide)]; exact n1) (by rw [a5.2.1 7 (by decide), a6.2.1 9 (by decide)]; exact n2) (by rw [a5.1 6 (by decide)]; exact hu6) (by omega)
    have fu : Frm [5, 6] [5, 8, 9, 10, 11, 12, 13] [1, 2] u u2 := (a5.mono (by decide) (by decide) (by decide)).trans (b6.1.mono (by decide) (by decide) (by decide))
    have fv : Frm [7] [10, 11, 12, 13, 14, 17] [0, 1] v v2 := (a6.mono (by decide) (by decide) (by decide)).trans (b7.1.mono (by decide) (by decide) (by decide))
    obtain ⟨u', v', W', r1, r2, r3, r4, r5, r6, r7, r8⟩ := ih (g + 1) f f' W2 u2 v2 (by omega) (by omega) (by omega) (hT.fr fu fv (by decide) (by decide) (by decide) (by decide) (by decide)) (hP.fr fu fv (by decide) (by decide) (by decide) (by decide)) (hS.fr fu fv (by decide) (by decide)) (by rw [fu.2.1 14 (by decide)]; exact hG1) (by rw [fu.2.1 14 (by decide), fv.2.1 16 (by decide)]; exact hG2) (by rw [fu.1 7 (by decide)]; exact hu7) (by rw [fv.1 6 (by decide)]; exact hv6) b5 (by omega)
      (by
        intro h hh
        by_cases e : h = g
        · subst e; exact ⟨b8, b9⟩
        · obtain ⟨t, s, q, s1, s2, s3, s4, s5, s6⟩ := hD h (by omega)
          refine ⟨?_, ⟨s, q, s1, by omega, ?_, ?_, ?_, fun i hi => ?_⟩⟩
          · unfold GrpT at t ⊢
            rw [b6.2.1 8 (by omega) h e, b6.2.1 9 (by omega) h e, b6.2.1 10 (by omega) h e, b6.2.2.1 1 (by omega) h e, b6.2.2.1 2 (by omega) h e, b7.2.1 10 (by omega) h e, b7.2.1 11 (by omega) h e, b7.2.1 12 (by omega) h e, b7.2.2.1 0 (by omega) h e, b7.2.2.1 1 (by omega) h e]
            rw [b6.1.2.1 6 (by decide), b6.1.2.1 7 (by decide), b7.1.2.1 8 (by decide), b7.1.2.1 9 (by decide)]
            rw [a5.2.1 6 (by decide), a5.2.1 7 (by decide), a5.2.1 8 (by decide), a5.2.1 9 (by decide), a5.2.1 10 (by decide), a5.2.2 1 (by decide), a5.2.2 2 (by decide), a6.2.1 8 (by decide), a6.2.1 9 (by decide), a6.2.1 10 (by decide), a6.2.1 11 (by decide), a6.2.1 12 (by decide), a6.2.2 0 (by decide), a6.2.2 1 (by decide)]
            exact t
          · rw [b6.2.1 11 (by omega) h e, a5.2.1 11 (by decide)]; exact s3
          · rw [b6.2.1 12 (by omega) h e, a5.2.1 12 (by decide)]; exact s4
          · rw [b7.2.1 13 (by omega) h e, a6.2.1 13 (by decide)]; exact s5
          · rw [b6.2.2.2 (s + i) (by omega), a5.2.1 13 (by decide), b7.2.2.2 (80 * h + i) (by omega), a6.2.1 14 (by decide)]; exact s6 i hi)
      (by
        intro h h1 h2
        have e : h ≠ g := by omega
        obtain ⟨q1, q2, q3⟩ := hN h (by omega) h2
        refine ⟨?_, ?_, ?_⟩
        · rw [fu.2.1 6 (by decide), fv.2.1 8 (by decide)]; exact q1
        · rw [fu.2.1 7 (by decide), fv.2.1 9 (by decide)]; exact q2
        · unfold Fresh at q3 ⊢
          rw [b6.2.1 8 (by omega) h e, b6.2.1 9 (by omega) h e, b6.2.1 10 (by omega) h e, b6.2.1 11 (by omega) h e, b6.2.1 12 (by omega) h e, b6.2.2.1 1 (by omega) h e, b6.2.2.1 2 (by omega) h e]
          rw [a5.2.1 8 (by decide), a5.2.1 9 (by decide), a5.2.1 10 (by decide), a5.2.1 11 (by decide), a5.2.1 12 (by decide), a5.2.2 1 (by decide), a5.2.2 2 (by decide)]
          exact q3)
    refine ⟨u', v', W', ?_, ?_, r3, r4, r5, r6, fu.trans r7, fv.trans r8⟩
    · rw [fX4_run_26]
      unfold fX0_count
      rw [bnd_t rfl, hu7, if_neg (nI_ge (by omega) (by omega)), bnd_t a1, bnd_t b1]
      simp only [lt_, nI_1]
      exact r1
    · rw [fX5_run_40]
      rw [hv6, if_neg (nI_ge (by omega) (by omega)), bnd_t a2, bnd_t b2]
      simp only [lt_, nI_1]
      exact r2
theorem run_R {u v : St} (h : Rel u v) (a d : Int32) : OpR cd1 (fX4_run u a d) (fX5_run v a d) := by
  have hR := h
  obtain ⟨n, l, h1, h2, h3, h4⟩ := h
  have bad : (a < 0 ∨ 7 < a) → OpR cd1 (some (.inl 1, u)) (fX5_run v a d) := by
    intro c
    refine .inr ⟨1, 1, u, 0, sS v 0 1, rfl, rfl, ?_, rfl, by decide, hR.fault⟩
    unfold fX5_run
    rw [bnd_t (within_no (lo := 0) (hi := 7) v (by decide +kernel) (by decide +kernel) c), if_pos rfl]
    unfold fX5_run_18
    simp only [lt_]
    rw [if_neg (show ¬ upd v.1 0 1 0 ≤ 0 from (by decide : ¬ (1 : Int32) ≤ 0))]
  unfold fX4_run
  by_cases c1 : a < 0
  · rw [if_pos c1]; exact bad (.inl c1)
  by_cases c2 : a ≤ 7
  · rw [if_neg c1, if_pos c2]
    obtain ⟨j, hj, e⟩ := nI_of2 (M := 7) (n := 7) rfl c1 c2
    subst e
    unfold fX5_run
    rw [bnd_t (within_ok (lo := 0) (hi := 7) v (by decide +kernel) (by decide +kernel) c1 (fun e => Int32.not_le.mpr e c2)), if_neg (show ¬ (1 : Int32) = 0 by decide)]
    unfold fX5_run_18
    simp only [lt_]
    rw [if_pos (show upd v.1 0 0 0 ≤ 0 from Int32.le_rfl)]
    have fu0 : Frm [] [] [] u u := Frm.rfl'
    have fv0 : Frm [0] [] [] v (sS v 0 0) := Frm.rfl'.sS (by decide)
    have h20 : RowsR u (sS v 0 0) n l := h2.fr fu0 fv0 (by decide) (by decide) (by decide) (by decide)
    obtain ⟨v1, l1, l2, l3⟩ := lineUp_M h20.1 h20.2.1 h20.2.2.2
    have fv1 : Frm [0] [15] [] v v1 := (fv0.mono (by decide) (by decide) (by decide)).trans (l2.mono (by decide) (by decide) (by decide))
    have hP1 : PL u v1 n l.length := PL_of (h2.fr fu0 fv1 (by decide) (by decide) (by decide) (by decide)) l3
    have hT1 := h1.fr fu0 fv1 (by decide) (by decide) (by decide) (by decide) (by decide)
    have hS1 := h3.fr fu0 fv1 (by decide) (by decide)
    obtain ⟨u2, v2, c, g1, g2, ⟨G1, G2, G3, G4, G5, G6⟩, g3, g4⟩ := groups_R hT1 hP1 hS1
    obtain ⟨u3, v3, W, r1, r2, r3, r4, r5, r6, r7, r8⟩ := run_loop d hj G1 (u2.2.1 14) c 0 FU FU 0 u2 v2 (by omega) (by rw [FU_]; omega) (by rw [FU_]; omega) (hT1.fr g3 g4 (by decide) (by decide) (by decide) (by decide) (by decide)) (hP1.fr g3 g4 (by decide) (by decide) (by decide) (by decide)) (hS1.fr g3 g4 (by decide) (by decide)) rfl (fun p hp => by
        obtain ⟨g, _, b, c⟩ := G6 p hp
        rw [b, c]) G3 G4 G2 (Nat.zero_le _) (fun h hh => absurd hh (by omega)) (fun h _ hh => G5 h hh)
    rw [nI_0] at r1 r2
    have fu : Frm [5, 6, 7] [5, 6, 7, 8, 9, 10, 11, 12, 13, 14] [1, 2] u u3 := (g3.mono (by decide) (by decide) (by decide)).trans (r7.mono (by decide) (by decide) (by decide))
    have fv : Frm [0, 6, 7] [8, 9, 10, 11, 12, 13, 14, 15, 16, 17] [0, 1] v v3 := ((fv1.mono (by decide) (by decide) (by decide)).trans (g4.mono (by decide) (by decide) (by decide))).trans (r8.mono (by decide) (by decide) (by decide))
    refine .inl ⟨nI c, u3, v3, ?_, ?_, ?_, ?_⟩
    · rw [bnd_t g1]; exact r1
    · rw [bnd_t l1, bnd_t g2]; exact r2
    · rw [r8.1 0 (by decide), g4.1 0 (by decide), l2.1 0 (by decide)]; rfl
    · refine ⟨n, l, h1.fr fu fv (by decide) (by decide) (by decide) (by decide) (by decide), h2.fr fu fv (by decide) (by decide) (by decide) (by decide), h3.fr fu fv (by decide) (by decide), c, G1, r3, r4, fun g hg => ?_⟩
      obtain ⟨t, s, k, s1, s2, s3⟩ := r6 g hg
      exact ⟨t, s, k, s1, by omega, s3⟩
  · rw [if_neg c1, if_neg c2]; exact bad (.inr (Int32.not_le.mp c2))
