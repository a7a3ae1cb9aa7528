/-! ===== the text of a term ===== -/
def tx (u : St) (t : Nat) : List Nat := if u.2.2 0 t = 0 then (if u.2.1 0 t < 0 then [45] else []) ++ dw (u.2.1 0 t).toInt.natAbs (u.2.1 1 t).toNatClampNeg 7 else nz (u.2.2 0 t) 8
theorem tx_len (u : St) (t : Nat) : (tx u t).length ≤ 9 := by
  unfold tx
  by_cases c : u.2.2 0 t = 0
  · rw [if_pos c, List.length_append]
    have := dw_le (u.2.1 0 t).toInt.natAbs (u.2.1 1 t).toNatClampNeg 7
    split <;> simp <;> omega
  · rw [if_neg c]
    have := nz_len (u.2.2 0 t) 8
    omega
theorem tx_fr {S A J : List Nat} {u u' : St} (h : Frm S A J u u') (d2 : Dis [0, 1] A) (d3 : Dis [0] J) (t : Nat) : tx u' t = tx u t := by
  unfold tx
  rw [h.2.1 0 (d2 0 (by decide)), h.2.1 1 (d2 1 (by decide)), h.2.2 0 (d3 0 (by decide))]
theorem abs32 {x : Int32} (h1 : -1000000 ≤ x.toInt) (h2 : x.toInt ≤ 1000000) : (0 ≤ x → x = nI x.toInt.natAbs ∧ ¬ x < 0) ∧ (¬ 0 ≤ x → -x = nI x.toInt.natAbs ∧ 0 - x = nI x.toInt.natAbs ∧ x < 0) := by
  have e : (nI x.toInt.natAbs).toInt = (x.toInt.natAbs : Int) := nI_toInt (by omega)
  have en : (-x).toInt = - x.toInt := by
    rw [Int32.toInt_neg]
    exact Int.bmod_eq_of_le (by omega) (by omega)
  have z : (0 : Int32).toInt = 0 := rfl
  have es : (0 - x).toInt = - x.toInt := by
    rw [Int32.toInt_sub, z, Int.zero_sub]
    exact Int.bmod_eq_of_le (by omega) (by omega)
  refine ⟨fun c => ?_, fun c => ?_⟩
  · rw [Int32.le_iff_toInt_le, z] at c
    refine ⟨?_, ?_⟩
    · rw [← Int32.toInt_inj, e]; omega
    · rw [Int32.lt_iff_toInt_lt, z]; omega
  · rw [Int32.le_iff_toInt_le, z] at c
    refine ⟨?_, ?_, ?_⟩
    · rw [← Int32.toInt_inj, e, en]; omega
    · rw [← Int32.toInt_inj, e, es]; omega
    · rw [Int32.lt_iff_toInt_lt, z]; omega
theorem write_A {u v : St} {t W : Nat} (ht : t < 60) (h : TermR u v t) (hu : u.1 6 = nI W) (hW : W + 9 ≤ 600) : ∃ u', fX2_write u (nI t) = some ((), u') ∧ AppA u u' (tx u t) := by
  have hl := tx_len u t
  unfold fX2_write
  rcases isT_R ht h with ⟨a, b, _⟩ | ⟨⟨cs, a⟩, b, _⟩
  · obtain ⟨a1, a2, a3, a4, ⟨a5, a6⟩, s, s1, s2⟩ := a
    rw [bnd_t b, if_pos rfl]
    simp (disch := omega) only [okI_t, gd_1, nc_]
    have w10 : ∀ (w : St) (W' : Nat), w.1 6 = nI W' → W' + (dw (u.2.1 0 t).toInt.natAbs s 7).length ≤ 600 → ∃ w', fX2_writeNumber_10 (u.2.1 0 t) (nI s) w = some ((), w') ∧ AppA w w' (dw (u.2.1 0 t).toInt.natAbs s 7) := by
      intro w W' hw hw2
      have ez : (if 0 ≤ u.2.1 0 t then u.2.1 0 t else 0 - u.2.1 0 t) = nI (u.2.1 0 t).toInt.natAbs := by
        by_cases c : 0 ≤ u.2.1 0 t
        · rw [if_pos c]; exact ((abs32 a5 a6).1 c).1
        · rw [if_neg c]; exact ((abs32 a5 a6).2 c).2.1
      have d7 : (7 : Int32) - 1 = dI 7 := by decide +kernel
      unfold fX2_writeNumber_10
      simp only [lt_]
      rw [ez, d7]
      exact ww_loop (by omega) s1 7 FU W' w (by omega) (by rw [FU_]; omega) hw hw2
    have etx : tx u t = (if u.2.1 0 t < 0 then [45] else []) ++ dw (u.2.1 0 t).toInt.natAbs s 7 := by
      unfold tx
      rw [if_pos a1, s2, nc_ (by omega)]
    rw [etx] at hl ⊢
    rw [s2]
    have dl := dw_le (u.2.1 0 t).toInt.natAbs s 7
    unfold fX2_writeNumber
    by_cases c : 0 ≤ u.2.1 0 t
    · obtain ⟨w', b1, b2⟩ := w10 u W hu (by omega)
      rw [if_neg ((abs32 a5 a6).1 c).2, List.nil_append, if_pos c]
      exact ⟨w', by rw [bnd_t b1], b2⟩
    · obtain ⟨u1, c1, c2⟩ := put_A (c := 45) (by omega : W < 600) hu (by omega)
      obtain ⟨d1, d2⟩ := c2.at_ (by omega) hu
      obtain ⟨w', b1, b2⟩ := w10 u1 (W + 1) d1 (by omega)
      rw [if_pos ((abs32 a5 a6).2 c).2.2, if_neg c]
      refine ⟨w', ?_, c2.trans b2⟩
      have c1' : fX0_put u 45 = some ((), u1) := c1
      rw [bnd_t c1', bnd_t b1]
  · rw [bnd_t b, if_neg (by decide)]
    simp (disch := omega) only [okI_t, gd_1, nc_]
    have etx : tx u t = nz (u.2.2 0 t) 8 := by unfold tx; rw [if_neg a.ne0]
    rw [etx] at hl ⊢
    obtain ⟨u', b1, b2⟩ := wl_loop (u.2.2 0 t) 8 FU W u (by rw [FU_]; omega) (by omega) hu (by omega)
    refine ⟨u', ?_, b2⟩
    unfold fX2_writeLetters
    have s8 : shI 8 = 56 := by decide +kernel
    rw [s8] at b1
    rw [bnd_t b1]
theorem sayTerm_M {u v : St} {t g Z : Nat} (ht : t < 60) (hg : g < 60) (h : TermR u v t) (hZ : Z < 70000) (hz : v.2.1 13 g = nI Z) : ∃ v', fX5_sayTerm v (nI g) (nI t) = some ((), v') ∧ AppM g v v' (tx u t) := by
  unfold fX5_sayTerm
  simp (disch := omega) only [okI_t, gd_1, nc_]
  rcases h with a | ⟨cs, a⟩
  · obtain ⟨a1, a2, a3, a4, ⟨a5, a6⟩, s, s1, s2⟩ := a
    have etx : tx u t = (if u.2.1 0 t < 0 then [45] else []) ++ dw (u.2.1 0 t).toInt.natAbs s 7 := by
      unfold tx
      rw [if_pos a1, s2, nc_ (by omega)]
    rw [etx, if_pos a2, a3]
    have S2 : v.2.1 2 t = nI s := a4.trans s2
    unfold fX5_sayTerm_69
    simp (disch := omega) only [okI_t, gd_1, nc_, a3]
    by_cases c : 0 ≤ u.2.1 0 t
    · obtain ⟨e1, e2⟩ := (abs32 a5 a6).1 c
      rw [if_pos c, if_pos c, if_neg e2, List.nil_append]
      have := say86 (n := (u.2.1 0 t).toInt.natAbs) s1 ht hg (by omega) S2 (by omega) hz
      rw [← e1] at this
      exact this
    · obtain ⟨e1, _, e2⟩ := (abs32 a5 a6).2 c
      rw [if_neg c, if_neg c, if_pos e2, e1]
      obtain ⟨v1, c1, c2⟩ := say_M (c := 45) hg (by omega : Z < 90000) hz
      have d1 := c2.at_ (by omega) hz
      obtain ⟨v', b1, b2⟩ := say86 (n := (u.2.1 0 t).toInt.natAbs) (v := v1) s1 ht hg (by omega) (by rw [c2.1.2.1 2 (by decide)]; exact S2) (by rw [List.length_singleton]; omega) d1
      refine ⟨v', ?_, c2.trans b2⟩
      have c1' : fX5_say v (nI g) 45 = some ((), v1) := c1
      rw [bnd_t c1']; exact b1
  · rw [if_neg (by rw [a.2.2.2.2.1]; decide)]
    have etx : tx u t = cs := by
      unfold tx
      rw [if_neg a.ne0, a.2.1]
      have h63 := wdk_lt8 a.1.2.2
      have hw := wdk_lt 8 cs (fun c hc => by have := a.1.2.2 c hc; omega)
      exact nz_wdk 8 cs (wdk 8 cs) (by omega) (by omega) a.1.2.1 (fun c hc => by have := a.1.2.2 c hc; omega) (Nat.mod_eq_of_lt hw)
    rw [etx]
    have h8 := a.1.2.1
    obtain ⟨v', b1, b2⟩ := sl_loop (v0 := v) hg ht a.1.2.1 cs.length 0 FU Z v (by omega) (by rw [FU_]; omega) (by omega) hz a.2.2.2.2.2.1 a.2.2.2.2.2.2
    rw [nI_0] at b1
    exact ⟨v', b1, b2⟩
/-! ===== a group's result ===== -/
def OG (u u' : St) (g W : Nat) : Prop := Frm [6] [8, 9, 10, 11, 12, 13] [1, 2] u u' ∧ (∀ a, a = 8 ∨ a = 9 ∨ a = 10 ∨ a = 11 ∨ a = 12 → ∀ j, j ≠ g → u'.2.1 a j = u.2.1 a j) ∧ (∀ a, a = 1 ∨ a = 2 → ∀ j, j ≠ g → u'.2.2 a j = u.2.2 a j) ∧ ∀ p, p < W → u'.2.1 13 p = u.2.1 13 p
def OGM (v v' : St) (g : Nat) : Prop := Frm [] [10, 11, 12, 13, 14] [0, 1] v v' ∧ (∀ a, a = 10 ∨ a = 11 ∨ a = 12 ∨ a = 13 → ∀ j, j ≠ g → v'.2.1 a j = v.2.1 a j) ∧ (∀ a, a = 0 ∨ a = 1 → ∀ j, j ≠ g → v'.2.2 a j = v.2.2 a j) ∧ ∀ p, p < 80 * g ∨ 80 * g + 80 ≤ p → v'.2.1 14 p = v.2.1 14 p
theorem OG.rf {u : St} {g W : Nat} : OG u u g W := ⟨Frm.rfl', fun _ _ _ _ => rfl, fun _ _ _ _ => rfl, fun _ _ => rfl⟩
theorem OGM.rf {v : St} {g : Nat} : OGM v v g := ⟨Frm.rfl', fun _ _ _ _ => rfl, fun _ _ _ _ => rfl, fun _ _ => rfl⟩
theorem OG.trans {u v w : St} {g W : Nat} (h : OG u v g W) (k : OG v w g W) : OG u w g W := ⟨h.1.trans k.1, fun a ha j hj => (k.2.1 a ha j hj).trans (h.2.1 a ha j hj), fun a ha j hj => (k.2.2.1 a ha j hj).trans (h.2.2.1 a ha j hj), fun p hp => (k.2.2.2 p hp).trans (h.2.2.2 p hp)⟩
theorem OGM.trans {u v w : St} {g : Nat} (h : OGM u v g) (k : OGM v w g) : OGM u w g := ⟨h.1.trans k.1, fun a ha j hj => (k.2.1 a ha j hj).trans (h.2.1 a ha j hj), fun a ha j hj => (k.2.2.1 a ha j hj).trans (h.2.2.1 a ha j hj), fun p hp => (k.2.2.2 p hp).trans (h.2.2.2 p hp)⟩
theorem OG.i {u : St} {g W b : Nat} {x : Int32} (hb : b = 8 ∨ b = 9 ∨ b = 10 ∨ b = 11 ∨ b = 12) : OG u (sI u b g x) g W := by
  refine ⟨Frm.rfl'.sI (by rcases hb with h | h | h | h | h <;> subst h <;> decide), fun a _ j hj => ?_, fun _ _ _ _ => rfl, fun p _ => ?_⟩
  · by_cases e : a = b
    · subst e; show (if a = a then upd (u.2.1 a) g x else u.2.1 a) j = _; rw [if_pos rfl]; exact pk_un hj
    · show (if a = b then upd (u.2.1 b) g x else u.2.1 a) j = _; rw [if_neg e]
  · show (if 13 = b then upd (u.2.1 b) g x else u.2.1 13) p = _; rw [if_neg (by omega)]
theorem OG.j {u : St} {g W b : Nat} {x : Int64} (hb : b = 1 ∨ b = 2) : OG u (sJ u b g x) g W := by
  refine ⟨Frm.rfl'.sJ (by rcases hb with h | h <;> subst h <;> decide), fun _ _ _ _ => rfl, fun a _ j hj => ?_, fun _ _ => rfl⟩
  by_cases e : a = b
  · subst e; show (if a = a then vp_updL (u.2.2 a) g x else u.2.2 a) j = _; rw [if_pos rfl]; exact pk_uLn hj
  · show (if a = b then vp_updL (u.2.2 b) g x else u.2.2 a) j = _; rw [if_neg e]
theorem OGM.i {v : St} {g b : Nat} {x : Int32} (hb : b = 10 ∨ b = 11 ∨ b = 12 ∨ b = 13) : OGM v (sI v b g x) g := by
  refine ⟨Frm.rfl'.sI (by rcases hb with h | h | h | h <;> subst h <;> decide), fun a _ j hj => ?_, fun _ _ _ _ => rfl, fun p _ => ?_⟩
  · by_cases e : a = b
    · subst e; show (if a = a then upd (v.2.1 a) g x else v.2.1 a) j = _; rw [if_pos rfl]; exact pk_un hj
    · show (if a = b then upd (v.2.1 b) g x else v.2.1 a) j = _; rw [if_neg e]
  · show (if 14 = b then upd (v.2.1 b) g x else v.2.1 14) p = _; rw [if_neg (by omega)]
theorem OGM.j {v : St} {g b : Nat} {x : Int64} (hb : b = 0 ∨ b = 1) : OGM v (sJ v b g x) g := by
  refine ⟨Frm.rfl'.sJ (by rcases hb with h | h <;> subst h <;> decide), fun _ _ _ _ => rfl, fun a _ j hj => ?_, fun _ _ => rfl⟩
  by_cases e : a = b
  · subst e; show (if a = a then vp_updL (v.2.2 a) g x else v.2.2 a) j = _; rw [if_pos rfl]; exact pk_uLn hj
  · show (if a = b then vp_updL (v.2.2 b) g x else v.2.2 a) j = _; rw [if_neg e]
theorem AppA.og {u u' : St} {cs : List Nat} {g W : Nat} (h : AppA u u' cs) (hW : W < 100000) (hu : ∃ W0, W ≤ W0 ∧ W0 < 100000 ∧ u.1 6 = nI W0) : OG u u' g W := by
  obtain ⟨f, W', h1, h2, h3, h4, _⟩ := h
  obtain ⟨W0, w1, w2, w3⟩ := hu
  have e : W' = W0 := (nI_eq (by omega) (by omega)).mp (h2.symm.trans w3)
  subst e
  refine ⟨f.mono (by decide) (by decide) (by decide), fun a ha j _ => ?_, fun a _ j _ => ?_, fun p hp => h4 p (by omega)⟩
  · rw [f.2.1 a (by rcases ha with h | h | h | h | h <;> subst h <;> decide)]
  · rw [f.2.2 a (by simp)]
theorem AppM.og {v v' : St} {cs : List Nat} {g : Nat} (h : AppM g v v' cs) : OGM v v' g := by
  obtain ⟨f, Z, h1, h2, h3, h4, _⟩ := h
  refine ⟨f.mono (by decide) (by decide) (by decide), fun a ha j hj => ?_, fun a _ j _ => ?_, fun p hp => h4 p (by omega)⟩
  · by_cases e : a = 13
    · subst e; rw [h3]; exact pk_un hj
    · rw [f.2.1 a (by simp; omega)]
  · rw [f.2.2 a (by simp)]
def GC (u v : St) (g W : Nat) : Prop := ∃ s k, k ≤ 80 ∧ s + k ≤ W ∧ u.2.1 11 g = nI s ∧ u.2.1 12 g = nI k ∧ v.2.1 13 g = nI k ∧ ∀ i, i < k → u.2.1 13 (s + i) = v.2.1 14 (80 * g + i)
/-- a group before its result is told -/
def PRE (u v : St) (g : Nat) : Prop := Fresh u g ∧ u.2.1 6 g = v.2.1 8 g ∧ u.2.1 7 g = v.2.1 9 g ∧ v.2.1 11 g = 0 ∧ v.2.2 0 g = 0 ∧ v.2.2 1 g = 1 ∧ v.2.1 12 g = -1 ∧ v.2.1 13 g = 0
/-- how the telling goes in both -/
def STEP (u v : St) (g W B : Nat) (X M : Option (Unit × St)) : Prop := ∃ u' v' W', X = some ((), u') ∧ M = some ((), v') ∧ W ≤ W' ∧ W' ≤ W + B ∧ u'.1 6 = nI W' ∧ OG u u' g W ∧ OGM v v' g ∧ GrpT u' v' g ∧ GC u' v' g W'
theorem num_STEP {u v : St} {g W B : Nat} (h : PRE u v g) (hu : u.1 6 = nI W) {x y x' y' d d' : Int64} (e1 : x / d = x' / d') (e2 : y / d = y' / d') : STEP u v g W B (some ((), sn u g x y d)) (some ((), tn v g x' y' d')) := by
  obtain ⟨⟨f1, f2, f3, f4, f5, f6, f7⟩, p1, p2, p3, p4, p5, p6, p7⟩ := h
  refine ⟨_, _, W, rfl, rfl, Nat.le_refl _, by omega, hu, ?_, ?_, ⟨p1, p2, ?_, ?_, ?_, ?_, ?_⟩, ⟨0, 0, by omega, by omega, f6, f7, p7, fun i hi => by omega⟩⟩
  · exact ((OG.i (by omega)).trans (OG.j (by omega))).trans (OG.j (by omega))
  · exact ((OGM.i (by omega)).trans (OGM.j (by omega))).trans (OGM.j (by omega))
  · show upd _ g 0 g = upd _ g 0 g; rw [pk_us, pk_us]
  · exact f2.trans p3.symm
  · exact f5.trans p6.symm
  · show vp_updL _ g (x / d) g = vp_updL _ g (x' / d') g; rw [pk_uLs, pk_uLs, e1]
  · show vp_updL _ g (y / d) g = vp_updL _ g (y' / d') g; rw [pk_uLs, pk_uLs, e2]
theorem err_STEP {u v : St} {g W B : Nat} (hg : g < 60) (h : PRE u v g) (hu : u.1 6 = nI W) (r : Int32) : STEP u v g W B (fX0_setError u (nI g) r) (fX5_fail v (nI g) r) := by
  obtain ⟨⟨f1, f2, f3, f4, f5, f6, f7⟩, p1, p2, p3, p4, p5, p6, p7⟩ := h
  unfold fX0_setError fX5_fail
  simp (disch := omega) only [okI_t, gd_1, nc_, lt_]
  refine ⟨_, _, W, rfl, rfl, Nat.le_refl _, by omega, hu, ?_, ?_, ⟨p1, p2, ?_, ?_, ?_, ?_, ?_⟩, ⟨0, 0, by omega, by omega, f6, f7, p7, fun i hi => by omega⟩⟩
  · exact (OG.i (by omega)).trans (OG.i (by omega))
  · exact (OGM.i (by omega)).trans (OGM.i (by omega))
  · show upd _ g 2 g = upd _ g 2 g; rw [pk_us, pk_us]
  · show upd _ g r g = upd _ g r g; rw [pk_us, pk_us]
  · exact f5.trans p6.symm
  · exact f3.trans p4.symm
  · exact f4.trans p5.symm
theorem non_STEP {u v : St} {g W B : Nat} (h : PRE u v g) (hu : u.1 6 = nI W) : STEP u v g W B (some ((), u)) (some ((), sI v 10 g 3)) := by
  obtain ⟨⟨f1, f2, f3, f4, f5, f6, f7⟩, p1, p2, p3, p4, p5, p6, p7⟩ := h
  refine ⟨_, _, W, rfl, rfl, Nat.le_refl _, by omega, hu, OG.rf, OGM.i (by omega), ⟨p1, p2, ?_, ?_, ?_, ?_, ?_⟩, ⟨0, 0, by omega, by omega, f6, f7, p7, fun i hi => by omega⟩⟩
  · show _ = upd _ g 3 g; rw [pk_us]; exact f1
  · exact f2.trans p3.symm
  · exact f5.trans p6.symm
  · exact f3.trans p4.symm
  · exact f4.trans p5.symm
theorem bnd_id {o : Option (Unit × St)} : bnd o (fun _ w => some ((), w)) = o := by
  cases o with
  | none => rfl
  | some q => rfl
