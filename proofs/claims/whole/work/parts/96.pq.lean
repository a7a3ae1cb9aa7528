theorem l1000 : (1000 : Int64) = lN 1000 := rfl
theorem endText_A {u : St} {g W L : Nat} (hg : g < 60) (hW : W + L < 2 ^ 29) (h6 : u.1 6 = nI (W + L)) (h11 : u.2.1 11 g = nI W) : fX0_endText u (nI g) = some ((), sI (sI u 8 g 1) 12 g (nI L)) := by
  unfold fX0_endText fX0_openLength
  simp (disch := omega) only [okI_t, gd_1, nc_, lt_]
  show bnd (some (u.1 6 - u.2.1 11 g, sI u 8 g 1)) (fun r_4 u_5 => some ((), sI u_5 12 g r_4)) = _
  rw [h6, h11, nI_sub (by omega) (by omega), Nat.add_sub_cancel_left]
  rw [bnd_t rfl]
theorem setTerm_STEP {u v : St} {n g W t : Nat} (hg : g < 60) (hT : TR u v n) (ht : t < n) (h : PRE u v g) (hu : u.1 6 = nI W) (hW : W + 9 ≤ 600) : STEP u v g W 10 (fX4_setTerm u (nI g) (nI t)) (fX5_tellTerm v (nI g) (nI t)) := by
  have hn := hT.1
  obtain ⟨⟨f1, f2, f3, f4, f5, f6, f7⟩, p1, p2, p3, p4, p5, p6, p7⟩ := id h
  have fu0 : Frm [] [] [] u u := Frm.rfl'
  have fv0 : Frm [] [12] [] v (sI v 12 g (nI t)) := Frm.rfl'.sI (by decide)
  have hT0 : TR u (sI v 12 g (nI t)) n := hT.fr fu0 fv0 (by decide) (by decide) (by decide) (by decide) (by decide)
  unfold fX4_setTerm fX5_tellTerm
  rw [if_neg (nI_ne1 (by omega)), if_neg (nI_ne1 (by omega))]
  simp (disch := omega) only [okI_t, gd_1, nc_, lt_]
  rcases isT_R (by omega) (hT0.2.2.2 t ht) with ⟨a, b, c⟩ | ⟨a, b, c⟩
  · have c' : (if (0 : Nat) = 12 then upd (v.2.1 12) g (nI t) else v.2.1 0) t = 0 := c
    obtain ⟨x1, x2, x3, x4⟩ := a.thF_ (by omega)
    rw [bnd_t b, if_pos rfl, bnd_t x1, if_pos c', bnd_t x2, l1000, bnd_t (setNumber_A hg (by omega) (by omega) (by omega) (by omega)), bnd_t (tellNumber_M hg (by omega) (by omega) (by omega) (by omega))]
    unfold fX4_setTerm_67 fX0_setTermOfResult
    simp (disch := omega) only [okI_t, gd_1, nc_, lt_]
    rw [bnd_id]
    generalize lN (Nat.gcd (thF u t).toInt.natAbs 1000) = d
    generalize thF u t = x
    refine ⟨_, _, W, rfl, rfl, Nat.le_refl _, by omega, hu, ?_, ?_, ⟨p1, p2, ?_, ?_, ?_, ?_, ?_⟩, ⟨0, 0, by omega, by omega, f6, f7, p7, fun i hi => by omega⟩⟩
    · exact (((OG.i (by omega)).trans (OG.j (by omega))).trans (OG.j (by omega))).trans (OG.i (by omega))
    · exact (((OGM.i (by omega)).trans (OGM.i (by omega))).trans (OGM.j (by omega))).trans (OGM.j (by omega))
    · show upd _ g 0 g = upd _ g 0 g; rw [pk_us, pk_us]
    · exact f2.trans p3.symm
    · show upd _ g (nI t) g = upd _ g (nI t) g; rw [pk_us, pk_us]
    · show vp_updL _ g _ g = vp_updL _ g _ g; rw [pk_uLs, pk_uLs]
    · show vp_updL _ g _ g = vp_updL _ g _ g; rw [pk_uLs, pk_uLs]
  · have c' : ¬ (if (0 : Nat) = 12 then upd (v.2.1 12) g (nI t) else v.2.1 0) t = 0 := by
      have : (if (0 : Nat) = 12 then upd (v.2.1 12) g (nI t) else v.2.1 0) t = 1 := c
      rw [this]; decide
    rw [bnd_t b, if_neg (show ¬ (1 : Int32) = 0 by decide), if_neg c']
    have e1 : fX0_beginText u (nI g) = some ((), sI u 11 g (nI W)) := by
      unfold fX0_beginText
      simp (disch := omega) only [okI_t, gd_1, nc_, lt_, hu]
    rw [bnd_t e1]
    have fu1 : Frm [] [11] [] u (sI u 11 g (nI W)) := Frm.rfl'.sI (by decide)
    have fv1 : Frm [] [10, 12] [] v (sI (sI v 12 g (nI t)) 10 g 1) := (Frm.rfl'.sI (by decide)).sI (by decide)
    have hT1 : TR (sI u 11 g (nI W)) (sI (sI v 12 g (nI t)) 10 g 1) n := hT.fr fu1 fv1 (by decide) (by decide) (by decide) (by decide) (by decide)
    obtain ⟨u2, w1, w2⟩ := write_A (by omega) (hT1.2.2.2 t ht) (show (sI u 11 g (nI W)).1 6 = nI W from hu) hW
    obtain ⟨v2, m1, m2⟩ := sayTerm_M (Z := 0) (by omega) hg (hT1.2.2.2 t ht) (by omega) (show (sI (sI v 12 g (nI t)) 10 g 1).2.1 13 g = nI 0 from p7)
    have hl := tx_len (sI u 11 g (nI W)) t
    generalize htx : tx (sI u 11 g (nI W)) t = cs at w2 m2 hl
    rw [bnd_t w1, bnd_t m1]
    obtain ⟨hW2, _⟩ := w2.at_ (by omega) (show (sI u 11 g (nI W)).1 6 = nI W from hu)
    have og := w2.og (g := g) (W := W) (by omega) ⟨W, Nat.le_refl _, by omega, hu⟩
    have om := m2.og
    obtain ⟨wf, W', w3, w4, w5, w6, w7⟩ := w2
    have eW : W' = W := (nI_eq (by omega) (by omega)).mp (w4.symm.trans hu)
    subst eW
    obtain ⟨mf, Z, m3, m4, m5, m6, m7⟩ := m2
    have eZ : Z = 0 := by
      have q : (sI (sI v 12 g (nI t)) 10 g 1).2.1 13 g = nI 0 := p7
      exact (nI_eq (by omega) (by omega)).mp (m4.symm.trans q)
    subst eZ
    have e11 : u2.2.1 11 g = nI W' := by rw [wf.2.1 11 (by decide)]; exact pk_us
    have e2 : fX0_endText u2 (nI g) = some ((), sI (sI u2 8 g 1) 12 g (nI cs.length)) := endText_A hg (by omega) hW2 e11
    rw [bnd_t e2]
    unfold fX4_setTerm_67 fX0_setTermOfResult
    simp (disch := omega) only [okI_t, gd_1, nc_, lt_]
    rw [bnd_id]
    have OGu : OG u (sI (sI (sI u2 8 g 1) 12 g (nI cs.length)) 10 g (nI t)) g W' := ((((OG.i (by omega)).trans og).trans (OG.i (by omega))).trans (OG.i (by omega))).trans (OG.i (by omega))
    have OGv : OGM v v2 g := ((OGM.i (by omega)).trans (OGM.i (by omega))).trans om
    refine ⟨_, v2, W' + cs.length, rfl, rfl, by omega, by omega, hW2, OGu, OGv, ⟨?_, ?_, ?_, ?_, ?_, ?_, ?_⟩, ⟨W', cs.length, by omega, by omega, e11, pk_us, ?_, ?_⟩⟩
    · rw [OGu.1.2.1 6 (by decide), OGv.1.2.1 8 (by decide)]; exact p1
    · rw [OGu.1.2.1 7 (by decide), OGv.1.2.1 9 (by decide)]; exact p2
    · show upd _ g 1 g = _; rw [pk_us, mf.2.1 10 (by decide)]; exact pk_us.symm
    · show u2.2.1 9 g = _
      rw [wf.2.1 9 (by decide), mf.2.1 11 (by decide)]; exact f2.trans p3.symm
    · show upd _ g (nI t) g = _; rw [pk_us, mf.2.1 12 (by decide)]; exact pk_us.symm
    · show u2.2.2 1 g = _
      rw [wf.2.2 1 (by decide), mf.2.2 0 (by decide)]; exact f3.trans p4.symm
    · show u2.2.2 2 g = _
      rw [wf.2.2 2 (by decide), mf.2.2 1 (by decide)]; exact f4.trans p5.symm
    · rw [m5, pk_us, Nat.zero_add]
    · intro i hi
      show u2.2.1 13 (W' + i) = _
      rw [w7 i hi, ← m7 i hi (by omega)]; rfl
/-! the join -/
theorem jstep {n g t sp W Z : Nat} {u v : St} (hg : g < 60) (hT : TR u v n) (ht : t < n) (hsp : sp ≤ 126) (b : Bool) (hu : u.1 6 = nI W) (hW : W + 10 ≤ 600) : ∃ u', (if b then bnd (fX0_put u (i2c_ (nI sp))) (fun _ w => fX2_write w (nI t)) else fX2_write u (nI t)) = some ((), u') ∧ AppA u u' ((if b then [sp] else []) ++ tx u t) := by
  have hn := hT.1
  cases b with
  | false =>
    simp only [if_neg (show ¬ (false = true) by decide), List.nil_append]
    exact write_A (by omega) (hT.2.2.2 t ht) hu (by omega)
  | true =>
    simp only [if_true]
    obtain ⟨u1, a1, a2⟩ := put_A (c := sp) (by omega : W < 600) hu (by omega)
    obtain ⟨b1, b2⟩ := a2.at_ (by omega) hu
    have hT1 : TR u1 v n := hT.fr a2.1 (Frm.rfl' (S := []) (A := []) (J := [])) (by decide) (by decide) (by decide) (by decide) (by decide)
    rw [List.length_singleton] at b1
    obtain ⟨u2, c1, c2⟩ := write_A (by omega) (hT1.2.2.2 t ht) b1 (by omega)
    refine ⟨u2, ?_, ?_⟩
    · rw [i2c_n (by omega), bnd_t a1]; exact c1
    · rw [tx_fr a2.1 (by decide) (by decide)] at c2
      exact a2.trans c2
theorem jstepM {n g t sp Z : Nat} {u v : St} (hg : g < 60) (hT : TR u v n) (ht : t < n) (b : Bool) (hz : v.2.1 13 g = nI Z) (hZ : Z < 60000) : ∃ v', (if b then bnd (fX5_say v (nI g) (nI sp)) (fun _ w => fX5_sayTerm w (nI g) (nI t)) else fX5_sayTerm v (nI g) (nI t)) = some ((), v') ∧ AppM g v v' ((if b then [sp] else []) ++ tx u t) := by
  have hn := hT.1
  cases b with
  | false =>
    simp only [if_neg (show ¬ (false = true) by decide), List.nil_append]
    exact sayTerm_M (by omega) hg (hT.2.2.2 t ht) (by omega) hz
  | true =>
    simp only [if_true]
    obtain ⟨v1, a1, a2⟩ := say_M (c := sp) hg (by omega : Z < 90000) hz
    have b1 := a2.at_ (by omega) hz
    have hT1 : TR u v1 n := hT.fr (Frm.rfl' (S := []) (A := []) (J := [])) a2.1 (by decide) (by decide) (by decide) (by decide) (by decide)
    rw [List.length_singleton] at b1
    obtain ⟨v2, c1, c2⟩ := sayTerm_M (by omega) hg (hT1.2.2.2 t ht) (by omega) b1
    exact ⟨v2, by rw [bnd_t a1]; exact c1, a2.trans c2⟩
theorem jA {g i sp : Nat} (hi : i < 60) (hsp : sp ≤ 126) {u : St} {k t W L : Nat} (hk : k ≤ 60) (hik : i < k) (c5 : u.1 5 = nI k) (ht : t < 60) (h5 : u.2.1 5 i = nI t) (hs : u.1 1 = nI sp) (hg : g < 60) (h6 : u.1 6 = nI (W + L)) (h11 : u.2.1 11 g = nI W) (hL : L ≤ 80) (hWL : W + L ≤ 1000) {u' : St} (hb : (if decide (¬ i = 0) && decide (¬ sp = 0) then bnd (fX0_put u (i2c_ (nI sp))) (fun _ w => fX2_write w (nI t)) else fX2_write u (nI t)) = some ((), u')) (hp : ∀ w x, fX0_put u x = some ((), w) → w.2.1 5 = u.2.1 5) (f : Nat) : fX4_join_10 (f + 1) (nI g) (nI i) u = fX4_join_10 f (nI g) (nI (i + 1)) u' := by
  have e0 : (nI i ≤ 0) ↔ i ≤ 0 := nI_leI (b := 0) (by omega) (by omega)
  have e1 : (nI sp = 0) ↔ sp = 0 := nI_eq (b := 0) (by omega) (by omega)
  have e57 : ∀ w w', w.2.1 5 = u.2.1 5 → fX2_write w (nI t) = some ((), w') → fX4_join_57 (fX4_join_10 f) (nI g) (nI i) w = fX4_join_10 f (nI g) (nI (i + 1)) w' := by
    intro w w' hw hw2
    unfold fX4_join_57 fX3_at
    simp (disch := omega) only [okI_t, gd_1, nc_]
    rw [bnd_t rfl, hw, h5, bnd_t hw2]
    simp only [lt_, nI_1]
  rw [fX4_join_10]
  unfold fX3_count fX0_openLength
  rw [bnd_t rfl, c5, if_neg (nI_ge hik (by omega))]
  simp (disch := omega) only [okI_t, gd_1, nc_, h6, h11]
  rw [bnd_t rfl, nI_sub (by omega) (by omega), Nat.add_sub_cancel_left, if_neg (show ¬ 80 < nI L from nI_nlt (a := 80) (by omega) (by omega))]
  by_cases c : i = 0
  · rw [if_pos (e0.mpr (by omega))]
    rw [decide_eq_false (by omega : ¬ ¬ i = 0), Bool.false_and] at hb
    exact e57 u u' rfl hb
  · rw [if_neg (fun e => c (by have := e0.mp e; omega)), hs]
    rw [decide_eq_true c, Bool.true_and] at hb
    by_cases c2 : sp = 0
    · rw [if_pos (e1.mpr c2)]
      rw [decide_eq_false (by omega : ¬ ¬ sp = 0)] at hb
      exact e57 u u' rfl hb
    · rw [if_neg (fun e => c2 (e1.mp e))]
      rw [decide_eq_true c2, if_pos rfl] at hb
      obtain ⟨_, w, q1, q2⟩ := bnd_some hb
      rw [bnd_t q1]
      exact e57 w u' (hp w _ q1) q2
theorem jM {g i sp : Nat} (hi : i < 60) (hsp : sp ≤ 126) {v : St} {k t : Nat} (hk : k ≤ 60) (hik : i < k) (c7 : v.1 7 = nI k) (ht : t < 60) (h17 : v.2.1 17 i = nI t) (hs : v.1 4 = nI sp) {v' : St} (hb : (if decide (¬ i = 0) && decide (¬ sp = 0) then bnd (fX5_say v (nI g) (nI sp)) (fun _ w => fX5_sayTerm w (nI g) (nI t)) else fX5_sayTerm v (nI g) (nI t)) = some ((), v')) (hp : ∀ w x, fX5_say v (nI g) x = some ((), w) → w.2.1 17 = v.2.1 17) (f : Nat) : fX5_join_2 (f + 1) (nI g) (nI i) v = fX5_join_2 f (nI g) (nI (i + 1)) v' := by
  have e0 : (nI i ≤ 0) ↔ i ≤ 0 := nI_leI (b := 0) (by omega) (by omega)
  have e1 : (nI sp = 0) ↔ sp = 0 := nI_eq (b := 0) (by omega) (by omega)
  have e30 : ∀ w w', w.2.1 17 = v.2.1 17 → fX5_sayTerm w (nI g) (nI t) = some ((), w') → fX5_join_30 (fX5_join_2 f) (nI g) (nI i) w = fX5_join_2 f (nI g) (nI (i + 1)) w' := by
    intro w w' hw hw2
    unfold fX5_join_30
    simp (disch := omega) only [okI_t, gd_1, nc_]
    rw [hw, h17, bnd_t hw2]
    simp only [lt_, nI_1]
  rw [fX5_join_2]
  rw [c7, if_neg (nI_ge hik (by omega))]
  by_cases c : i = 0
  · rw [if_pos (e0.mpr (by omega))]
    rw [decide_eq_false (by omega : ¬ ¬ i = 0), Bool.false_and] at hb
    exact e30 v v' rfl hb
  · rw [if_neg (fun e => c (by have := e0.mp e; omega)), hs]
    rw [decide_eq_true c, Bool.true_and] at hb
    by_cases c2 : sp = 0
    · rw [if_pos (e1.mpr c2)]
      rw [decide_eq_false (by omega : ¬ ¬ sp = 0)] at hb
      exact e30 v v' rfl hb
    · rw [if_neg (fun e => c2 (e1.mp e))]
      rw [decide_eq_true c2, if_pos rfl] at hb
      obtain ⟨_, w, q1, q2⟩ := bnd_some hb
      rw [bnd_t q1]
      exact e30 w v' (hp w _ q1) q2
theorem su_ {a b : St} (h : some ((), a) = some ((), b)) : a = b := congrArg Prod.snd (Option.some.inj h)
theorem put_fr {u w : St} {x : Int32} (h : fX0_put u x = some ((), w)) : w.2.1 5 = u.2.1 5 := by
  unfold fX0_put at h
  by_cases c : 600 ≤ u.1 6
  · rw [if_pos c] at h
    have := su_ h
    rw [← this]
  · rw [if_neg c] at h
    obtain ⟨_, h⟩ := gd_some h
    have h : some ((), sS (sI u 13 (u.1 6).toNatClampNeg (vp_nar .char x)) 6 ((sI u 13 (u.1 6).toNatClampNeg (vp_nar .char x)).1 6 + 1)) = some ((), w) := h
    have := su_ h
    rw [← this]; rfl
theorem say_fr {v w : St} {g c Z : Nat} (hg : g < 60) (hZ : Z < 90000) (hz : v.2.1 13 g = nI Z) (h : fX5_say v (nI g) (nI c) = some ((), w)) : w.2.1 17 = v.2.1 17 := by
  obtain ⟨v', a1, a2⟩ := say_M (c := c) hg hZ hz
  rw [a1] at h
  have := su_ h
  rw [← this]; exact a2.1.2.1 17 (by decide)
theorem joinEnd {v : St} {g k i Z : Nat} (hg : g < 60) (hk : k ≤ 60) (c7 : v.1 7 = nI k) (hi : k ≤ i) (hi6 : i ≤ 100) (hz : v.2.1 13 g = nI Z) (hZ : Z < 90000) (f : Nat) : fX5_join_2 (f + 1) (nI g) (nI i) v = some ((), if Z ≤ 80 then sI v 10 g 1 else sI (sI (sI (sI v 10 g 1) 13 g 0) 10 g 2) 11 g 2) := by
  rw [fX5_join_2]
  rw [c7, if_pos (nI_le hi (by omega))]
  simp (disch := omega) only [okI_t, gd_1, nc_, lt_]
  show (if v.2.1 13 g ≤ 80 then _ else _) = _
  rw [hz]
  by_cases c : Z ≤ 80
  · rw [if_pos (show nI Z ≤ 80 from nI_le (b := 80) c (by omega)), if_pos c]
  · rw [if_neg (show ¬ nI Z ≤ 80 from nI_ge (a := 80) (by omega) (by omega)), if_neg c]
    unfold fX5_fail
    simp (disch := omega) only [okI_t, gd_1, nc_, lt_]
    rw [bnd_id]
theorem rm_loop {n g k sp : Nat} (hg : g < 60) (hsp : sp ≤ 126) (u : St) : ∀ (d i f Z : Nat) (v : St), i + d = k → d < f → 80 < Z → Z + 10 * d < 50000 → v.2.1 13 g = nI Z → TR u v n → VAL u v n k → v.1 4 = nI sp →
    ∃ v', fX5_join_2 f (nI g) (nI i) v = some ((), v') ∧ OGM v v' g ∧ v'.2.1 10 g = 2 ∧ v'.2.1 11 g = 2 ∧ v'.2.1 13 g = 0 ∧ v'.2.1 12 g = v.2.1 12 g ∧ v'.2.2 = v.2.2 := by
  intro d
  induction d with
  | zero =>
    intro i f Z v hi hf hZ hZ2 hz hT hV hs
    obtain ⟨f, rfl⟩ : ∃ a, f = a + 1 := ⟨f - 1, by omega⟩
    have hk := hV.1
    refine ⟨sI (sI (sI (sI v 10 g 1) 13 g 0) 10 g 2) 11 g 2, ?_, ?_, pk_us, pk_us, pk_us, rfl, rfl⟩
    · rw [joinEnd hg hk hV.2.2.1 (by omega) (by omega) hz (by omega), if_neg (by omega)]
    · exact (((OGM.i (by omega)).trans (OGM.i (by omega))).trans (OGM.i (by omega))).trans (OGM.i (by omega))
  | succ d ih =>
    intro i f Z v hi hf hZ hZ2 hz hT hV hs
    obtain ⟨f, rfl⟩ : ∃ a, f = a + 1 := ⟨f - 1, by omega⟩
    have hk := hV.1
    have hn := hT.1
    obtain ⟨t1, t2, t3⟩ := hV.tv_ hn (i := i) (by omega)
    obtain ⟨v1, a1, a2⟩ := jstepM (sp := sp) hg hT t1 (decide (¬ i = 0) && decide (¬ sp = 0)) hz (by omega)
    have st := jM (by omega) hsp hk (by omega) hV.2.2.1 (by omega) t3 hs a1 (fun w x q => by
      have : fX5_say v (nI g) x = some ((), w) := q
      unfold fX5_say fX5_say_28 at this
      simp (disch := omega) only [okI_t, gd_1, nc_, lt_, hz] at this
      by_cases c : 80 ≤ nI Z
      · rw [if_pos c] at this
        have e := su_ this
        rw [← e]; rfl
      · exact absurd (show 80 ≤ nI Z from nI_le (a := 80) (by omega) (by omega)) c) f
    have b1 := a2.at_ (by omega) hz
    have hl := tx_len u (tv u i)
    have hl2 : ((if (decide (¬ i = 0) && decide (¬ sp = 0)) = true then [sp] else []) ++ tx u (tv u i)).length ≤ 10 := by
      rw [List.length_append]
      split <;> simp <;> omega
    obtain ⟨v', c1, c2, c3, c4, c5, c6, c7⟩ := ih (i + 1) f _ v1 (by omega) (by omega) (by omega) (by omega) b1 (hT.fr (Frm.rfl' (S := []) (A := []) (J := [])) a2.1 (by decide) (by decide) (by decide) (by decide) (by decide)) (hV.fr (Frm.rfl' (S := []) (A := []) (J := [])) a2.1 (by decide) (by decide) (by decide) (by decide)) (by rw [a2.1.1 4 (by decide)]; exact hs)
    refine ⟨v', by rw [st]; exact c1, a2.og.trans c2, c3, c4, c5, ?_, ?_⟩
    · rw [c6, a2.1.2.1 12 (by decide)]
    · rw [c7]; funext a; exact a2.1.2.2 a (by simp)
theorem join82 {u : St} {g W L : Nat} (hg : g < 60) (hW : W + L < 2 ^ 29) (h6 : u.1 6 = nI (W + L)) (h11 : u.2.1 11 g = nI W) : fX4_join_82 (nI g) u = some ((), if L ≤ 80 then sI (sI u 8 g 1) 12 g (nI L) else sI (sI u 8 g 2) 9 g 2) := by
  unfold fX4_join_82
  have e : fX0_openLength u (nI g) = some (nI L, u) := by
    unfold fX0_openLength
    simp (disch := omega) only [okI_t, gd_1, nc_]
    rw [h6, h11, nI_sub (by omega) (by omega), Nat.add_sub_cancel_left]
  rw [bnd_t e]
  by_cases c : L ≤ 80
  · rw [if_pos (show nI L ≤ 80 from nI_le (b := 80) c (by omega)), if_pos c, bnd_id]
    exact endText_A hg hW h6 h11
  · rw [if_neg (show ¬ nI L ≤ 80 from nI_ge (a := 80) (by omega) (by omega)), if_neg c, bnd_id]
    unfold fX0_setError
    simp (disch := omega) only [okI_t, gd_1, nc_, lt_]
theorem jn_loop {n g k sp W : Nat} {u0' v0' : St} (hg : g < 60) (hsp : sp ≤ 126) (hk : k ≤ 60) (hW : W + 10 * k ≤ 600) (hPRE : PRE u0' v0' g) (h6 : u0'.1 6 = nI W) (hT0 : TR u0' v0' n) (hV0 : VAL u0' v0' n k) (hs1 : u0'.1 1 = nI sp) (hs2 : v0'.1 4 = nI sp) : ∀ (d i f f' : Nat) (T : List Nat) (u v : St), i + d = k → d < f → d < f' → AppA (sI u0' 11 g (nI W)) u T → AppM g v0' v T → T.length ≤ 10 * i →
    STEP u0' v0' g W (10 * k) (fX4_join_10 f (nI g) (nI i) u) (fX5_join_2 f' (nI g) (nI i) v) := by
  obtain ⟨⟨f1, f2, f3, f4, f5, f6, f7⟩, p1, p2, p3, p4, p5, p6, p7⟩ := id hPRE
  have h61 : (sI u0' 11 g (nI W)).1 6 = nI W := h6
  have p70 : v0'.2.1 13 g = nI 0 := p7
  -- what holds in every state
  have ALL : ∀ {T : List Nat} {u v : St}, AppA (sI u0' 11 g (nI W)) u T → AppM g v0' v T → u.1 6 = nI (W + T.length) ∧ W + T.length ≤ 600 ∧ u.2.1 11 g = nI W ∧ v.2.1 13 g = nI T.length ∧ OG u0' u g W ∧ OGM v0' v g ∧ TR u v n ∧ VAL u v n k ∧ u.1 1 = nI sp ∧ v.1 4 = nI sp := by
    intro T u v ha hm
    obtain ⟨a1, a2⟩ := ha.at_ (by omega) h61
    have m1 := hm.at_ (by omega) p70
    have fu : Frm [6] [11, 13] [] u0' u := (Frm.sI Frm.rfl' (by decide)).trans (ha.1.mono (by decide) (by decide) (by decide))
    refine ⟨a1, a2, ?_, by rw [m1, Nat.zero_add], (OG.i (by omega)).trans (ha.og (by omega) ⟨W, Nat.le_refl _, by omega, h6⟩), hm.og, hT0.fr fu hm.1 (by decide) (by decide) (by decide) (by decide) (by decide), hV0.fr fu hm.1 (by decide) (by decide) (by decide) (by decide), ?_, ?_⟩
    · rw [ha.1.2.1 11 (by decide)]; exact pk_us
    · rw [fu.1 1 (by decide)]; exact hs1
    · rw [hm.1.1 4 (by decide)]; exact hs2
  -- a text that is too long
  have LONG : ∀ {T : List Nat} {u v v' : St}, AppA (sI u0' 11 g (nI W)) u T → OGM v0' v' g → T.length ≤ 10 * k → v'.2.1 10 g = 2 → v'.2.1 11 g = 2 → v'.2.1 13 g = 0 → v'.2.1 12 g = v0'.2.1 12 g → v'.2.2 0 g = v0'.2.2 0 g → v'.2.2 1 g = v0'.2.2 1 g → STEP u0' v0' g W (10 * k) (some ((), sI (sI u 8 g 2) 9 g 2)) (some ((), v')) := by
    intro T u v v' ha hm hl r1 r2 r3 r4 r5 r6
    obtain ⟨a1, a2⟩ := ha.at_ (by omega) h61
    have og : OG u0' (sI (sI u 8 g 2) 9 g 2) g W := (((OG.i (by omega)).trans (ha.og (by omega) ⟨W, Nat.le_refl _, by omega, h6⟩)).trans (OG.i (by omega))).trans (OG.i (by omega))
    have fu : Frm [6] [11, 13] [] u0' u := (Frm.sI Frm.rfl' (by decide)).trans (ha.1.mono (by decide) (by decide) (by decide))
    refine ⟨_, v', W + T.length, rfl, rfl, by omega, by omega, a1, og, hm, ⟨?_, ?_, ?_, ?_, ?_, ?_, ?_⟩, ⟨W, 0, by omega, by omega, ?_, ?_, r3, fun i hi => by omega⟩⟩
    · rw [og.1.2.1 6 (by decide), hm.1.2.1 8 (by decide)]; exact p1
    · rw [og.1.2.1 7 (by decide), hm.1.2.1 9 (by decide)]; exact p2
    · show upd _ g 2 g = _; rw [pk_us, r1]
    · show upd _ g 2 g = _; rw [pk_us, r2]
    · show u.2.1 10 g = _; rw [fu.2.1 10 (by decide), r4, f5, p6]
    · show u.2.2 1 g = _; rw [fu.2.2 1 (by decide), r5, f3, p4]
    · show u.2.2 2 g = _; rw [fu.2.2 2 (by decide), r6, f4, p5]
    · show u.2.1 11 g = _; rw [ha.1.2.1 11 (by decide)]; exact pk_us
    · show u.2.1 12 g = _; rw [fu.2.1 12 (by decide)]; exact f7
  intro d
  induction d with
  | zero =>
    intro i f f' T u v hi hf hf' ha hm hl
    obtain ⟨f, rfl⟩ : ∃ a, f = a + 1 := ⟨f - 1, by omega⟩
    obtain ⟨f', rfl⟩ : ∃ a, f' = a + 1 := ⟨f' - 1, by omega⟩
    obtain ⟨q1, q2, q3, q4, q5, q6, q7, q8, q9, q10⟩ := ALL ha hm
    have eA : fX4_join_10 (f + 1) (nI g) (nI i) u = fX4_join_82 (nI g) u := by
      rw [fX4_join_10]
      unfold fX3_count
      rw [bnd_t rfl, q8.2.1, if_pos (nI_le (by omega) (by omega))]
    rw [eA, join82 hg (by omega) q1 q3, joinEnd hg hk q8.2.2.1 (by omega) (by omega) q4 (by omega)]
    by_cases c : T.length ≤ 80
    · rw [if_pos c, if_pos c]
      have og : OG u0' (sI (sI u 8 g 1) 12 g (nI T.length)) g W := (q5.trans (OG.i (by omega))).trans (OG.i (by omega))
      have om : OGM v0' (sI v 10 g 1) g := q6.trans (OGM.i (by omega))
      have fu : Frm [6] [11, 13] [] u0' u := (Frm.sI Frm.rfl' (by decide)).trans (ha.1.mono (by decide) (by decide) (by decide))
      refine ⟨_, _, W + T.length, rfl, rfl, by omega, by omega, q1, og, om, ⟨?_, ?_, ?_, ?_, ?_, ?_, ?_⟩, ⟨W, T.length, c, by omega, q3, pk_us, q4, ?_⟩⟩
      · rw [og.1.2.1 6 (by decide), om.1.2.1 8 (by decide)]; exact p1
      · rw [og.1.2.1 7 (by decide), om.1.2.1 9 (by decide)]; exact p2
      · show upd _ g 1 g = upd _ g 1 g; rw [pk_us, pk_us]
      · show u.2.1 9 g = v.2.1 11 g; rw [fu.2.1 9 (by decide), hm.1.2.1 11 (by decide), f2, p3]
      · show u.2.1 10 g = v.2.1 12 g; rw [fu.2.1 10 (by decide), hm.1.2.1 12 (by decide), f5, p6]
      · show u.2.2 1 g = v.2.2 0 g; rw [fu.2.2 1 (by decide), hm.1.2.2 0 (by decide), f3, p4]
      · show u.2.2 2 g = v.2.2 1 g; rw [fu.2.2 2 (by decide), hm.1.2.2 1 (by decide), f4, p5]
      · intro j hj
        obtain ⟨_, W', w3, w4, w5, w6, w7⟩ := ha
        have eW : W' = W := (nI_eq (by omega) (by omega)).mp (w4.symm.trans h6)
        subst eW
        obtain ⟨_, Z, m3, m4, m5, m6, m7⟩ := hm
        have eZ : Z = 0 := (nI_eq (by omega) (by omega)).mp (m4.symm.trans p70)
        subst eZ
        show u.2.1 13 (W' + j) = v.2.1 14 (80 * g + j)
        rw [w7 j hj, ← m7 j hj (by omega)]; rfl
    · rw [if_neg c, if_neg c]
      refine LONG (v := v) ha ((((q6.trans (OGM.i (by omega))).trans (OGM.i (by omega))).trans (OGM.i (by omega))).trans (OGM.i (by omega))) (by omega) pk_us pk_us pk_us ?_ ?_ ?_
      · show v.2.1 12 g = _; rw [hm.1.2.1 12 (by decide)]
      · show v.2.2 0 g = _; rw [hm.1.2.2 0 (by decide)]
      · show v.2.2 1 g = _; rw [hm.1.2.2 1 (by decide)]
  | succ d ih =>
    intro i f f' T u v hi hf hf' ha hm hl
    obtain ⟨f, rfl⟩ : ∃ a, f = a + 1 := ⟨f - 1, by omega⟩
    obtain ⟨f', rfl⟩ : ∃ a, f' = a + 1 := ⟨f' - 1, by omega⟩
    obtain ⟨q1, q2, q3, q4, q5, q6, q7, q8, q9, q10⟩ := ALL ha hm
    by_cases c : T.length ≤ 80
    · have hn := q7.1
      obtain ⟨t1, t2, t3⟩ := q8.tv_ hn (i := i) (by omega)
      obtain ⟨u1, a1, a2⟩ := jstep (sp := sp) (Z := 0) hg q7 t1 hsp (decide (¬ i = 0) && decide (¬ sp = 0)) q1 (by omega)
      obtain ⟨v1, m1, m2⟩ := jstepM (sp := sp) hg q7 t1 (decide (¬ i = 0) && decide (¬ sp = 0)) q4 (by omega)
      have stA := jA (by omega) hsp hk (by omega) q8.2.1 (by omega) t2 q9 hg q1 q3 c (by omega) a1 (fun w x q => put_fr q) f
      have hl2 : ((if (decide (¬ i = 0) && decide (¬ sp = 0)) = true then [sp] else []) ++ tx u (tv u i)).length ≤ 10 := by
        have := tx_len u (tv u i)
        rw [List.length_append]
        split <;> simp <;> omega
      have stM := jM (by omega) hsp hk (by omega) q8.2.2.1 (by omega) t3 q10 m1 (fun w x q => by
        have : fX5_say v (nI g) x = some ((), w) := q
        unfold fX5_say fX5_say_28 at this
        simp (disch := omega) only [okI_t, gd_1, nc_, lt_, q4] at this
        by_cases c9 : 80 ≤ nI T.length
        · rw [if_pos c9] at this
          have e := su_ this
          rw [← e]; rfl
        · rw [if_neg c9] at this
          have c8 : ¬ 80 ≤ T.length := fun e => c9 (nI_le (a := 80) e (by omega))
          simp (disch := omega) only [idx80, okI_t, gd_1, nc_] at this
          have e := su_ this
          rw [← e]; rfl) f'
      rw [stA, stM]
      exact ih (i + 1) f f' _ u1 v1 (by omega) (by omega) (by omega) (ha.trans a2) (hm.trans m2) (by rw [List.length_append]; omega)
    · have eA : fX4_join_10 (f + 1) (nI g) (nI i) u = fX4_join_82 (nI g) u := by
        rw [fX4_join_10]
        unfold fX3_count fX0_openLength
        rw [bnd_t rfl, q8.2.1, if_neg (nI_ge (by omega) (by omega))]
        simp (disch := omega) only [okI_t, gd_1, nc_, q1, q3]
        rw [bnd_t rfl, nI_sub (by omega) (by omega), Nat.add_sub_cancel_left, if_pos (show 80 < nI T.length from nI_lt (a := 80) (by omega) (by omega))]
      obtain ⟨v', r1, r2, r3, r4, r5, r6, r7⟩ := rm_loop hg hsp u (d + 1) i (f' + 1) T.length v hi (by omega) (by omega) (by omega) q4 q7 q8 q10
      rw [eA, join82 hg (by omega) q1 q3, if_neg c, r1]
      refine LONG (v := v) ha (q6.trans r2) (by omega) r3 r4 r5 ?_ ?_ ?_
      · rw [r6, hm.1.2.1 12 (by decide)]
      · rw [r7, hm.1.2.2 0 (by decide)]
      · rw [r7, hm.1.2.2 1 (by decide)]
theorem join_STEP {u v : St} {n g k sp W : Nat} (hg : g < 60) (hsp : sp ≤ 126) (hk : k ≤ 60) (hW : W + 10 * k ≤ 600) (hP : PRE u v g) (h6 : u.1 6 = nI W) (hT : TR u v n) (hV : VAL u v n k) (hs1 : u.1 1 = nI sp) (hs2 : v.1 4 = nI sp) : STEP u v g W (10 * k) (fX4_join u (nI g)) (fX5_join v (nI g)) := by
  have e1 : fX0_beginText u (nI g) = some ((), sI u 11 g (nI W)) := by
    unfold fX0_beginText
    simp (disch := omega) only [okI_t, gd_1, nc_, lt_, h6]
  have := jn_loop hg hsp hk hW hP h6 hT hV hs1 hs2 k 0 FU FU [] _ v (by omega) (by rw [FU_]; omega) (by rw [FU_]; omega) (AppA.nil (W := W) (by omega) h6) (AppM.nil (Z := 0) (by omega) hP.2.2.2.2.2.2.2) (by simp)
  rw [nI_0] at this
  unfold fX4_join fX5_join
  rw [bnd_t e1]; exact this
