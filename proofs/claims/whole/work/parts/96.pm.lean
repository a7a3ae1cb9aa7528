/-! ===== what is written ===== -/
def AppA (u u' : St) (cs : List Nat) : Prop := Frm [6] [13] [] u u' ∧ ∃ W, W + cs.length ≤ 600 ∧ u.1 6 = nI W ∧ u'.1 6 = nI (W + cs.length) ∧ (∀ p, p < W → u'.2.1 13 p = u.2.1 13 p) ∧ ∀ i, (h : i < cs.length) → u'.2.1 13 (W + i) = nI (cs[i])
def AppM (g : Nat) (v v' : St) (cs : List Nat) : Prop := Frm [] [13, 14] [] v v' ∧ ∃ Z, Z + cs.length < 100000 ∧ v.2.1 13 g = nI Z ∧ v'.2.1 13 = upd (v.2.1 13) g (nI (Z + cs.length)) ∧ (∀ p, p < 80 * g + Z ∨ 80 * g + 80 ≤ p → v'.2.1 14 p = v.2.1 14 p) ∧ ∀ i, (h : i < cs.length) → Z + i < 80 → v'.2.1 14 (80 * g + Z + i) = nI (cs[i])
theorem upd_upd {f : Nat → Int32} {k : Nat} {x y : Int32} : upd (upd f k x) k y = upd f k y := by
  funext j
  unfold upd
  by_cases h : j = k
  · rw [if_pos h, if_pos h]
  · rw [if_neg h, if_neg h, if_neg h]
theorem upd_self {f : Nat → Int32} {k : Nat} {x : Int32} (h : f k = x) : upd f k x = f := by
  funext j
  unfold upd
  by_cases e : j = k
  · rw [if_pos e, e, h]
  · rw [if_neg e]
theorem AppA.nil {u : St} {W : Nat} (hW : W ≤ 600) (h : u.1 6 = nI W) : AppA u u [] := ⟨Frm.rfl', W, by simp; omega, h, by simpa using h, fun _ _ => rfl, fun i hi => absurd hi (by simp)⟩
theorem AppM.nil {g Z : Nat} {v : St} (hZ : Z < 100000) (h : v.2.1 13 g = nI Z) : AppM g v v [] := ⟨Frm.rfl', Z, by simp; omega, h, (upd_self (by simpa using h)).symm, fun _ _ => rfl, fun i hi => absurd hi (by simp)⟩
theorem AppA.trans {u v w : St} {a b : List Nat} (h : AppA u v a) (k : AppA v w b) : AppA u w (a ++ b) := by
  obtain ⟨f, W, h1, h2, h3, h4, h5⟩ := h
  obtain ⟨f', W', k1, k2, k3, k4, k5⟩ := k
  have e : W' = W + a.length := (nI_eq (by omega) (by omega)).mp (k2.symm.trans h3)
  subst e
  refine ⟨f.trans f', W, by rw [List.length_append]; omega, h2, by rw [k3, List.length_append, Nat.add_assoc], fun p hp => (k4 p (by omega)).trans (h4 p hp), fun i hi => ?_⟩
  rw [List.length_append] at hi
  by_cases c : i < a.length
  · rw [List.getElem_append_left c, k4 _ (by omega)]; exact h5 i c
  · rw [List.getElem_append_right (by omega)]
    have := k5 (i - a.length) (by omega)
    rw [show W + i = W + a.length + (i - a.length) by omega]; exact this
theorem AppM.trans {g : Nat} {u v w : St} {a b : List Nat} (h : AppM g u v a) (k : AppM g v w b) : AppM g u w (a ++ b) := by
  obtain ⟨f, W, h1, h2, h3, h4, h5⟩ := h
  obtain ⟨f', W', k1, k2, k3, k4, k5⟩ := k
  rw [h3, pk_us] at k2
  have e : W' = W + a.length := ((nI_eq (by omega) (by omega)).mp k2).symm
  subst e
  refine ⟨f.trans f', W, by rw [List.length_append]; omega, h2, by rw [k3, h3, upd_upd, List.length_append, Nat.add_assoc], fun p hp => (k4 p (by omega)).trans (h4 p hp), fun i hi hz => ?_⟩
  rw [List.length_append] at hi
  by_cases c : i < a.length
  · rw [List.getElem_append_left c, k4 _ (by omega)]; exact h5 i c hz
  · rw [List.getElem_append_right (by omega)]
    have := k5 (i - a.length) (by omega) (by omega)
    rw [show 80 * g + W + i = 80 * g + (W + a.length) + (i - a.length) by omega]; exact this
theorem put_A {u : St} {W c : Nat} (hW : W < 600) (h : u.1 6 = nI W) (hc : c < 65536) : ∃ u', fX0_put u (nI c) = some ((), u') ∧ AppA u u' [c] := by
  have hn : vp_nar .char (nI c) = nI c := by
    rw [vp_nar_char]
    apply Int32.toBitVec_inj.mp
    apply BitVec.eq_of_toNat_eq
    unfold nI
    simp
    omega
  refine ⟨sS (sI u 13 W (nI c)) 6 (nI (W + 1)), ?_, ?_⟩
  · unfold fX0_put
    rw [h, if_neg (show ¬ 600 ≤ nI W from nI_ge (b := 600) hW (by omega))]
    simp (disch := omega) only [okI_t, gd_1, nc_, lt_, hn]
    rw [h, nI_1]
  · refine ⟨(Frm.rfl'.sI (by decide)).sS (by decide), W, by simp; omega, h, rfl, fun p hp => pk_un (by omega), fun i hi => ?_⟩
    have : i = 0 := by simp at hi; omega
    subst this
    exact pk_us
theorem i2c_n {c : Nat} (hc : c < 65536) : i2c_ (nI c) = nI c := by
  apply Int32.toBitVec_inj.mp
  apply BitVec.eq_of_toNat_eq
  show (c % 2 ^ 32 % 65536 : Nat) = c % 2 ^ 32
  omega
theorem say_M {v : St} {g Z c : Nat} (hg : g < 60) (hZ : Z < 90000) (h : v.2.1 13 g = nI Z) : ∃ v', fX5_say v (nI g) (nI c) = some ((), v') ∧ AppM g v v' [c] := by
  unfold fX5_say fX5_say_28
  simp (disch := omega) only [okI_t, gd_1, nc_, lt_, h]
  by_cases q : 80 ≤ Z
  · refine ⟨sI v 13 g (nI (Z + 1)), ?_, ?_⟩
    · rw [if_pos (show 80 ≤ nI Z from nI_le (a := 80) q (by omega)), nI_1]
    · refine ⟨Frm.rfl'.sI (by decide), Z, by simp; omega, h, rfl, fun p hp => rfl, fun i hi hz => by omega⟩
  · refine ⟨sI (sI v 14 (80 * g + Z) (nI c)) 13 g (nI (Z + 1)), ?_, ?_⟩
    · rw [if_neg (show ¬ 80 ≤ nI Z from nI_ge (b := 80) (by omega) (by omega))]
      simp (disch := omega) only [idx80, okI_t, gd_1, nc_]
      show some ((), sI (sI v 14 (80 * g + Z) (nI c)) 13 g (v.2.1 13 g + 1)) = _
      rw [h, nI_1]
    · refine ⟨(Frm.rfl'.sI (by decide)).sI (by decide), Z, by simp; omega, h, rfl, fun p hp => pk_un (by omega), fun i hi hz => ?_⟩
      have : i = 0 := by simp at hi; omega
      subst this
      exact pk_us
/-! letters -/
theorem nz_wdk : ∀ (k : Nat) (cs : List Nat) (w : Nat), k ≤ 8 → w < 2 ^ 64 → cs.length ≤ k → (∀ c ∈ cs, 1 ≤ c ∧ c < 256) → w % 256 ^ k = wdk k cs → nz (lN w) k = cs
  | 0, cs, w, _, _, hl, _, _ => by
    rw [List.length_eq_zero_iff.mp (by omega : cs.length = 0)]; rfl
  | k + 1, cs, w, hk, hw, hl, hc, h => by
    have hb : bt (lN w) k = w / 256 ^ k % 256 := by
      unfold bt
      rw [BitVec.toNat_and, BitVec.toNat_ushiftRight]
      show ((w % 2 ^ 64) >>> (8 * k)) &&& 255 = _
      rw [Nat.mod_eq_of_lt hw, Nat.shiftRight_eq_div_pow, Nat.pow_mul, show (255 : Nat) = 2 ^ 8 - 1 from rfl, Nat.and_two_pow_sub_one_eq_mod]
    have hp : 0 < 256 ^ k := Nat.pow_pos (by omega)
    have hs : w % 256 ^ (k + 1) = w % 256 ^ k + 256 ^ k * (w / 256 ^ k % 256) := Nat.mod_pow_succ
    have hm := Nat.mod_lt w hp
    rw [hs] at h
    cases cs with
    | nil =>
      simp only [wdk] at h
      have e1 : w % 256 ^ k = 0 := by omega
      have e2 : 256 ^ k * (w / 256 ^ k % 256) = 0 := by omega
      have e3 : w / 256 ^ k % 256 = 0 := by
        rcases Nat.mul_eq_zero.mp e2 with q | q
        · omega
        · exact q
      rw [nz_s0 (by rw [hb]; exact e3)]
      exact nz_wdk k [] w (by omega) hw (by simp) (fun c hc => absurd hc (by simp)) (by rw [e1, wdk_nil])
    | cons c cs =>
      simp only [wdk] at h
      have m1 := wdk_lt k cs (fun x hx => (hc x (List.mem_cons_of_mem _ hx)).2)
      have hcc := hc c List.mem_cons_self
      rw [Nat.mul_comm] at h
      have e : w / 256 ^ k % 256 = c := by
        rcases Nat.lt_trichotomy (w / 256 ^ k % 256) c with g | g | g
        · have k3 : (w / 256 ^ k % 256 + 1) * 256 ^ k ≤ c * 256 ^ k := Nat.mul_le_mul_right _ (by omega)
          rw [Nat.add_mul] at k3; omega
        · exact g
        · have k3 : (c + 1) * 256 ^ k ≤ (w / 256 ^ k % 256) * 256 ^ k := Nat.mul_le_mul_right _ (by omega)
          rw [Nat.add_mul] at k3; omega
      rw [e] at h
      rw [nz_s1 (by rw [hb, e]; omega), hb, e, nz_wdk k cs w (by omega) hw (by simp at hl; omega) (fun x hx => hc x (List.mem_cons_of_mem _ hx)) (by omega)]
theorem wl_loop (x : Int64) : ∀ (k f W : Nat) (u : St), k < f → k ≤ 8 → u.1 6 = nI W → W + (nz x k).length ≤ 600 → ∃ u', fX2_writeLetters_3 f x (shI k) u = some ((), u') ∧ AppA u u' (nz x k) := by
  intro k
  induction k with
  | zero =>
    intro f W u hf hk hu hW
    obtain ⟨f, rfl⟩ : ∃ a, f = a + 1 := ⟨f - 1, by omega⟩
    refine ⟨u, ?_, AppA.nil (by simp [nz] at hW; omega) hu⟩
    rw [fX2_writeLetters_3]
    rw [if_pos (by decide)]
  | succ k ih =>
    intro f W u hf hk hu hW
    obtain ⟨f, rfl⟩ : ∃ a, f = a + 1 := ⟨f - 1, by omega⟩
    have hb := bt_lt x k
    rw [fX2_writeLetters_3]
    rw [shI_s k, if_neg (nI_pos (by omega)), bt_A x k (by omega)]
    simp only [lt_]
    by_cases h0 : bt x k = 0
    · rw [nz_s0 h0] at hW ⊢
      rw [if_pos (by rw [h0]; rfl)]
      exact ih f W u (by omega) (by omega) hu hW
    · rw [nz_s1 h0] at hW ⊢
      rw [List.length_cons] at hW
      rw [if_neg (fun c => h0 ((lN_eq0 (by omega)).mp c)), lN_i, i2c_n (by omega)]
      obtain ⟨u1, a1, a2⟩ := put_A (c := bt x k) (by omega : W < 600) hu (by omega)
      have hu1 : u1.1 6 = nI (W + 1) := by
        obtain ⟨_, W', _, b2, b3, _⟩ := a2
        have e : W' = W := (nI_eq (by omega) (by omega)).mp (b2.symm.trans hu)
        rw [b3, e]; rfl
      obtain ⟨u', c1, c2⟩ := ih f (W + 1) u1 (by omega) (by omega) hu1 (by omega)
      refine ⟨u', ?_, a2.trans c2⟩
      rw [bnd_t a1]; exact c1
theorem sl_loop {v0 : St} {g t : Nat} {cs : List Nat} (hg : g < 60) (ht : t < 60) (hl8 : cs.length ≤ 8) : ∀ (d i f Z : Nat) (v : St), i + d = cs.length → d < f → Z + d < 90000 → v.2.1 13 g = nI Z → v.2.1 3 t = nI cs.length → (∀ i, (h : i < cs.length) → v.2.1 4 (8 * t + i) = nI (cs[i])) → ∃ v', fX5_sayTerm_11 f (nI g) (nI t) (nI i) v = some ((), v') ∧ AppM g v v' (cs.drop i) := by
  intro d
  induction d with
  | zero =>
    intro i f Z v hi hf hZ hz h3 h4
    obtain ⟨f, rfl⟩ : ∃ a, f = a + 1 := ⟨f - 1, by omega⟩
    refine ⟨v, ?_, ?_⟩
    · rw [fX5_sayTerm_11]
      simp (disch := omega) only [okI_t, gd_1, nc_, h3]
      rw [if_pos (nI_le (by omega) (by omega))]
    · rw [List.drop_eq_nil_of_le (by omega)]; exact AppM.nil (by omega) hz
  | succ d ih =>
    intro i f Z v hi hf hZ hz h3 h4
    obtain ⟨f, rfl⟩ : ∃ a, f = a + 1 := ⟨f - 1, by omega⟩
    obtain ⟨v1, a1, a2⟩ := say_M (c := cs[i]'(by omega)) hg (by omega : Z < 90000) hz
    have fv := a2.1
    have hz1 : v1.2.1 13 g = nI (Z + 1) := by
      obtain ⟨_, Z', _, b2, b3, _⟩ := a2
      have e : Z' = Z := (nI_eq (by omega) (by omega)).mp (b2.symm.trans hz)
      rw [b3, pk_us, e]; rfl
    obtain ⟨v', c1, c2⟩ := ih (i + 1) f (Z + 1) v1 (by omega) (by omega) (by omega) hz1 (by rw [fv.2.1 3 (by decide)]; exact h3) (by rw [fv.2.1 4 (by decide)]; exact h4)
    refine ⟨v', ?_, ?_⟩
    · rw [fX5_sayTerm_11]
      simp (disch := omega) only [okI_t, gd_1, nc_, h3, idx8]
      rw [if_neg (nI_ge (by omega) (by omega)), h4 i (by omega), bnd_t a1]
      simp only [lt_, nI_1]; exact c1
    · have e : cs.drop i = [cs[i]'(by omega)] ++ cs.drop (i + 1) := by rw [List.drop_eq_getElem_cons (by omega)]; rfl
      rw [e]; exact a2.trans c2
