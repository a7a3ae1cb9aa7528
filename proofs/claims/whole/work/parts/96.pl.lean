/-! ===== fractions ===== -/
theorem lN_div {a b : Nat} (ha : a < 2 ^ 63) (hb : b < 2 ^ 63) : lN a / lN b = lN (a / b) := by
  have h1 : a / b ≤ a := Nat.div_le_self _ _
  rw [← Int64.toInt_inj, Int64.toInt_div, lN_toInt63 ha, lN_toInt63 hb, lN_toInt63 (by omega)]
  have e : (a : Int).tdiv (b : Int) = ((a / b : Nat) : Int) := (Int.ofNat_tdiv a b).symm
  rw [e]
  generalize a / b = q at h1
  exact Int.bmod_eq_of_le (by omega) (by omega)
theorem lN_mod {a b : Nat} (ha : a < 2 ^ 63) (hb : b < 2 ^ 63) : lN a - lN a / lN b * lN b = lN (a % b) := by
  rw [lN_div ha hb, lN_mul]
  have h : a / b * b ≤ a := Nat.div_mul_le_self a b
  rw [lN_sub h]
  congr 1
  have := Nat.div_add_mod a b
  rw [Nat.mul_comm] at this
  omega
theorem gcd_st (a b : Nat) : Nat.gcd a b = Nat.gcd b (a % b) := by
  rw [Nat.gcd_comm a b, Nat.gcd_rec b a, Nat.gcd_comm]
theorem mod_half {a b k : Nat} (hb : 0 < b) (h : b < 2 ^ (k + 1)) (hr : 0 < a % b) : b % (a % b) < 2 ^ k := by
  have h1 := Nat.mod_lt a hb
  have h2 := Nat.mod_lt b hr
  have h3 := Nat.div_add_mod b (a % b)
  have h4 : 0 < b / (a % b) := Nat.div_pos (by omega) hr
  have h5 : (a % b) * 1 ≤ (a % b) * (b / (a % b)) := Nat.mul_le_mul_left _ h4
  rw [Nat.pow_succ] at h
  omega
theorem cdA_0 (f a : Nat) (ha : a < 2 ^ 63) (h0 : 0 < a) (s : Nat) (w : St) : fX0_commonDivisor_9 (f + 1) (lN a) 0 (nI s) w = some (lN a, w) := by
  have h1 : ¬ lN a < 1 := by
    rw [Int64.lt_iff_toInt_lt, lN_toInt63 ha]
    show ¬ (a : Int) < 1
    omega
  rw [fX0_commonDivisor_9]
  simp only [lt_, if_neg h1, if_true, ite_self]
theorem cdA_s (f a b s : Nat) (ha : a < 2 ^ 63) (hb : b < 2 ^ 63) (h0 : 0 < b) (hs : s < 100) (w : St) : fX0_commonDivisor_9 (f + 1) (lN a) (lN b) (nI s) w = fX0_commonDivisor_9 f (lN b) (lN (a % b)) (nI (s + 1)) w := by
  have h1 : ¬ lN b = 0 := fun e => by have := (lN_eq0 hb).mp e; omega
  rw [fX0_commonDivisor_9]
  rw [if_neg (show ¬ 100 ≤ nI s from nI_ge (b := 100) hs (by omega)), if_neg h1, gd_t (decide_eq_true h1), lN_mod ha hb]
  simp only [lt_, nI_1]
theorem cdA (w : St) : ∀ (k a b s f : Nat), b < 2 ^ k → k ≤ 20 → s + 2 * k ≤ 99 → 2 * k < f → a < 2 ^ 63 → 0 < a ∨ 0 < b → fX0_commonDivisor_9 f (lN a) (lN b) (nI s) w = some (lN (Nat.gcd a b), w) := by
  intro k
  induction k with
  | zero =>
    intro a b s f hb hk hs hf ha h0
    obtain ⟨f, rfl⟩ : ∃ x, f = x + 1 := ⟨f - 1, by omega⟩
    have e : b = 0 := by omega
    subst e
    rw [Nat.gcd_zero_right]
    exact cdA_0 f a ha (by omega) s w
  | succ k ih =>
    intro a b s f hb hk hs hf ha h0
    obtain ⟨f, rfl⟩ : ∃ x, f = x + 1 + 1 := ⟨f - 2, by omega⟩
    have hb21 : b < 2 ^ 21 := Nat.lt_of_lt_of_le hb (Nat.pow_le_pow_right (by omega) (by omega))
    by_cases c : b = 0
    · subst c
      rw [Nat.gcd_zero_right]
      exact cdA_0 (f + 1) a ha (by omega) s w
    · rw [cdA_s (f + 1) a b s ha (by omega) (by omega) (by omega), gcd_st a b]
      have hm := Nat.mod_lt a (by omega : 0 < b)
      by_cases c2 : a % b = 0
      · rw [c2, Nat.gcd_zero_right]
        exact cdA_0 f b (by omega) (by omega) (s + 1) w
      · rw [cdA_s f b (a % b) (s + 1) (by omega) (by omega) (by omega) (by omega), gcd_st b (a % b)]
        exact ih _ _ (s + 1 + 1) f (mod_half (by omega) hb (by omega)) (by omega) (by omega) (by omega) (by omega) (.inl (by omega))
/-- what the reference does when its loop ends -/
def tn (v : St) (g : Nat) (x y d : Int64) : St := sJ (sJ (sI v 10 g 0) 0 g (x / d)) 1 g (y / d)
theorem cdM_0 (f a g : Nat) (x y : Int64) (ha : a < 2 ^ 63) (h0 : 0 < a) (hg : g < 60) (v : St) : fX5_tellNumber_18 (f + 1) (nI g) x y (lN a) 0 v = some ((), tn v g x y (lN a)) := by
  have h1 : ¬ lN a = 0 := fun e => by have := (lN_eq0 ha).mp e; omega
  rw [fX5_tellNumber_18]
  rw [if_pos rfl]
  simp (disch := omega) only [okI_t, gd_1, nc_, lt_]
  rw [gd_t (decide_eq_true h1), gd_t (decide_eq_true h1)]
  rfl
theorem cdM_s (f a b g : Nat) (x y : Int64) (ha : a < 2 ^ 63) (hb : b < 2 ^ 63) (h0 : 0 < b) (v : St) : fX5_tellNumber_18 (f + 1) (nI g) x y (lN a) (lN b) v = fX5_tellNumber_18 f (nI g) x y (lN b) (lN (a % b)) v := by
  have h1 : ¬ lN b = 0 := fun e => by have := (lN_eq0 hb).mp e; omega
  rw [fX5_tellNumber_18]
  rw [if_neg h1, gd_t (decide_eq_true h1), lN_mod ha hb]
  simp only [lt_]
theorem cdM (v : St) (g : Nat) (x y : Int64) (hg : g < 60) : ∀ (k a b f : Nat), b < 2 ^ k → k ≤ 20 → 2 * k < f → a < 2 ^ 63 → 0 < a ∨ 0 < b → fX5_tellNumber_18 f (nI g) x y (lN a) (lN b) v = some ((), tn v g x y (lN (Nat.gcd a b))) := by
  intro k
  induction k with
  | zero =>
    intro a b f hb hk hf ha h0
    obtain ⟨f, rfl⟩ : ∃ x, f = x + 1 := ⟨f - 1, by omega⟩
    have e : b = 0 := by omega
    subst e
    rw [Nat.gcd_zero_right]
    exact cdM_0 f a g x y ha (by omega) hg v
  | succ k ih =>
    intro a b f hb hk hf ha h0
    obtain ⟨f, rfl⟩ : ∃ x, f = x + 1 + 1 := ⟨f - 2, by omega⟩
    have hb21 : b < 2 ^ 21 := Nat.lt_of_lt_of_le hb (Nat.pow_le_pow_right (by omega) (by omega))
    by_cases c : b = 0
    · subst c
      rw [Nat.gcd_zero_right]
      exact cdM_0 (f + 1) a g x y ha (by omega) hg v
    · rw [cdM_s (f + 1) a b g x y ha (by omega) (by omega), gcd_st a b]
      have hm := Nat.mod_lt a (by omega : 0 < b)
      by_cases c2 : a % b = 0
      · rw [c2, Nat.gcd_zero_right]
        exact cdM_0 f b g x y (by omega) (by omega) hg v
      · rw [cdM_s f b (a % b) g x y (by omega) (by omega) (by omega), gcd_st b (a % b)]
        exact ih _ _ f (mod_half (by omega) hb (by omega)) (by omega) (by omega) (by omega) (.inl (by omega))
def sn (u : St) (g : Nat) (x y d : Int64) : St := sJ (sJ (sI u 8 g 0) 1 g (x / d)) 2 g (y / d)
theorem abs_e {x : Int64} (h1 : -60000000000 ≤ x.toInt) (h2 : x.toInt ≤ 60000000000) : (if 0 < x then x else -x) = lN x.toInt.natAbs ∧ (0 ≤ x → x = lN x.toInt.natAbs) ∧ (¬ 0 ≤ x → -x = lN x.toInt.natAbs) := by
  have e : (lN x.toInt.natAbs).toInt = (x.toInt.natAbs : Int) := lN_toInt63 (by omega)
  have en : (-x).toInt = - x.toInt := by
    rw [Int64.toInt_neg]
    exact Int.bmod_eq_of_le (by omega) (by omega)
  have z : (0 : Int64).toInt = 0 := rfl
  refine ⟨?_, ?_, ?_⟩
  · rw [← Int64.toInt_inj, e]
    by_cases c : 0 < x
    · rw [if_pos c]
      rw [Int64.lt_iff_toInt_lt, z] at c
      omega
    · rw [if_neg c, en]
      rw [Int64.lt_iff_toInt_lt, z] at c
      omega
  · intro c
    rw [Int64.le_iff_toInt_le, z] at c
    rw [← Int64.toInt_inj, e]
    omega
  · intro c
    rw [Int64.le_iff_toInt_le, z] at c
    rw [← Int64.toInt_inj, e, en]
    omega
theorem setNumber_A {u : St} {g b : Nat} {x : Int64} (hg : g < 60) (h1 : -60000000000 ≤ x.toInt) (h2 : x.toInt ≤ 60000000000) (hb : 0 < b) (hb2 : b ≤ 60000) : fX0_setNumber u (nI g) x (lN b) = some ((), sn u g x (lN b) (lN (Nat.gcd x.toInt.natAbs b))) := by
  have hgp : 0 < Nat.gcd x.toInt.natAbs b := Nat.gcd_pos_of_pos_right _ hb
  have hgl : Nat.gcd x.toInt.natAbs b ≤ b := Nat.gcd_le_right _ hb
  have h3 : ¬ lN (Nat.gcd x.toInt.natAbs b) = 0 := fun e => by have := (lN_eq0 (by omega)).mp e; omega
  have cd : fX0_commonDivisor u (lN x.toInt.natAbs) (lN b) = some (lN (Nat.gcd x.toInt.natAbs b), u) := by
    unfold fX0_commonDivisor
    have := cdA u 16 x.toInt.natAbs b 0 FU (by omega) (by omega) (by omega) (by rw [FU_]; omega) (by omega) (.inr hb)
    rw [nI_0] at this
    exact this
  unfold fX0_setNumber
  rw [(abs_e h1 h2).1]
  simp only [lt_]
  rw [bnd_t cd]
  simp (disch := omega) only [okI_t, gd_1, nc_]
  rw [gd_t (decide_eq_true h3), gd_t (decide_eq_true h3)]
  rfl
theorem tellNumber_M {v : St} {g b : Nat} {x : Int64} (hg : g < 60) (h1 : -60000000000 ≤ x.toInt) (h2 : x.toInt ≤ 60000000000) (hb : 0 < b) (hb2 : b ≤ 60000) : fX5_tellNumber v (nI g) x (lN b) = some ((), tn v g x (lN b) (lN (Nat.gcd x.toInt.natAbs b))) := by
  have L := cdM v g x (lN b) hg 16 x.toInt.natAbs b FU (by omega) (by omega) (by rw [FU_]; omega) (by omega) (.inr hb)
  unfold fX5_tellNumber
  by_cases c : 0 ≤ x
  · rw [if_pos c]
    have e := (abs_e h1 h2).2.1 c
    have : fX5_tellNumber_18 FU (nI g) x (lN b) x (lN b) v = fX5_tellNumber_18 FU (nI g) x (lN b) (lN x.toInt.natAbs) (lN b) v := by rw [← e]
    rw [this]; exact L
  · rw [if_neg c]
    simp only [lt_]
    rw [(abs_e h1 h2).2.2 c]; exact L
