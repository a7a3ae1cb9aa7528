/-! ===== the text of a number ===== -/
theorem nI_div {a b : Nat} (ha : a < 2 ^ 31) (hb : b < 2 ^ 31) : nI a / nI b = nI (a / b) := by
  have h1 : a / b ≤ a := Nat.div_le_self _ _
  rw [← Int32.toInt_inj, Int32.toInt_div, nI_toInt ha, nI_toInt hb, nI_toInt (by omega)]
  have e : (a : Int).tdiv (b : Int) = ((a / b : Nat) : Int) := (Int.ofNat_tdiv a b).symm
  rw [e]
  generalize a / b = q at h1
  exact Int.bmod_eq_of_le (by omega) (by omega)
theorem nI_mul (a b : Nat) : nI a * nI b = nI (a * b) := by unfold nI; rw [Int32.ofNat_mul]
theorem nI_sub {a b : Nat} (h : b ≤ a) (ha : a < 2 ^ 30) : nI a - nI b = nI (a - b) := by
  rw [← Int32.toInt_inj, nI_sub_toInt ha (by omega), nI_toInt (by omega)]
  omega
theorem nI_mod10 {a : Nat} (ha : a < 2 ^ 30) : nI a - nI a / 10 * 10 = nI (a % 10) := by
  have e : (10 : Int32) = nI 10 := rfl
  rw [e, nI_div (by omega) (by omega), nI_mul, nI_sub (by omega) ha]
  congr 1; omega
theorem p10 : ∀ p, p ≤ 6 → tens p = nI (10 ^ p) ∧ 10 ^ p ≤ 1000000 ∧ 0 < 10 ^ p := by
  intro p hp
  have h : p = 0 ∨ p = 1 ∨ p = 2 ∨ p = 3 ∨ p = 4 ∨ p = 5 ∨ p = 6 := by omega
  rcases h with h | h | h | h | h | h | h <;> subst h <;> exact ⟨rfl, by decide, by decide⟩
def db (n s : Nat) : Nat → List Nat
  | 0 => []
  | k + 1 => (48 + n / 10 ^ k % 10) :: ((if k = s ∧ 0 < s then [46] else []) ++ db n s k)
def dw (n s : Nat) : Nat → List Nat
  | 0 => []
  | k + 1 => if ¬ n / 10 ^ k % 10 = 0 ∨ k = s then db n s (k + 1) else dw n s k
theorem db_len (n s : Nat) : ∀ k, (db n s k).length ≤ k + (if s < k then 1 else 0)
  | 0 => Nat.le_refl _
  | k + 1 => by
    have := db_len n s k
    unfold db
    rw [List.length_cons, List.length_append]
    by_cases c : k = s ∧ 0 < s
    · obtain ⟨c1, c2⟩ := c
      subst c1
      rw [if_pos ⟨rfl, c2⟩, if_pos (by omega), List.length_singleton]
      rw [if_neg (by omega)] at this
      omega
    · rw [if_neg c, List.length_nil]
      by_cases c2 : s < k
      · rw [if_pos c2] at this; rw [if_pos (by omega)]; omega
      · rw [if_neg c2] at this
        split <;> omega
theorem db_le (n s k : Nat) : (db n s k).length ≤ k + 1 := by
  have := db_len n s k
  split at this <;> omega
theorem dw_le (n s : Nat) : ∀ k, (dw n s k).length ≤ k + 1
  | 0 => Nat.zero_le _
  | k + 1 => by
    have := dw_le n s k
    have h2 := db_le n s (k + 1)
    unfold dw
    split <;> omega
theorem AppA.at_ {u u' : St} {cs : List Nat} {W : Nat} (h : AppA u u' cs) (hW : W < 100000) (hu : u.1 6 = nI W) : u'.1 6 = nI (W + cs.length) ∧ W + cs.length ≤ 600 := by
  obtain ⟨_, W', h1, h2, h3, _⟩ := h
  have e : W' = W := (nI_eq (by omega) (by omega)).mp (h2.symm.trans hu)
  subst e; exact ⟨h3, h1⟩
theorem AppM.at_ {g : Nat} {v v' : St} {cs : List Nat} {Z : Nat} (h : AppM g v v' cs) (hZ : Z < 100000) (hv : v.2.1 13 g = nI Z) : v'.2.1 13 g = nI (Z + cs.length) := by
  obtain ⟨_, Z', h1, h2, h3, _⟩ := h
  have e : Z' = Z := (nI_eq (by omega) (by omega)).mp (h2.symm.trans hv)
  subst e; rw [h3]; exact pk_us
theorem dig_e {n p : Nat} (hn : n ≤ 1000000) (hp : p ≤ 6) : nI n / tens p - nI n / tens p / 10 * 10 = nI (n / 10 ^ p % 10) := by
  obtain ⟨h1, h2, h3⟩ := p10 p hp
  have : n / 10 ^ p ≤ n := Nat.div_le_self _ _
  rw [h1, nI_div (by omega) (by omega), nI_mod10 (by omega)]
theorem wn82 {n s k f W : Nat} (hs : s ≤ 3) (hk : k ≤ 6) (y : Int32) (u : St) (hu : u.1 6 = nI W) (cs : List Nat) (hW : W + ((if k = s ∧ 0 < s then [46] else []) ++ cs).length ≤ 600)
    (ih : ∀ (W : Nat) (u : St), u.1 6 = nI W → W + cs.length ≤ 600 → ∃ u', fX2_writeNumber_26 f (nI s) (nI n) y (dI k) u = some ((), u') ∧ AppA u u' cs) :
    ∃ u', fX2_writeNumber_82 (fX2_writeNumber_26 f) (nI s) (nI n) y (nI k) u = some ((), u') ∧ AppA u u' ((if k = s ∧ 0 < s then [46] else []) ++ cs) := by
  unfold fX2_writeNumber_82
  simp (disch := omega) only [lt_, nI_eq]
  have e0 : (nI s ≤ 0) ↔ s ≤ 0 := nI_leI (b := 0) (by omega) (by omega)
  by_cases c : k = s
  · rw [if_pos c]
    by_cases c2 : s ≤ 0
    · have d0 : (if k = s ∧ 0 < s then [46] else ([] : List Nat)) = [] := if_neg (by omega)
      rw [d0, List.nil_append] at hW ⊢
      rw [if_pos (e0.mpr c2)]
      exact ih W u hu hW
    · have d0 : (if k = s ∧ 0 < s then [46] else ([] : List Nat)) = [46] := if_pos ⟨c, by omega⟩
      rw [d0] at hW ⊢
      rw [List.length_append, List.length_singleton] at hW
      rw [if_neg (fun e => c2 (e0.mp e))]
      obtain ⟨u1, a1, a2⟩ := put_A (c := 46) (by omega : W < 600) hu (by omega)
      obtain ⟨h1, _⟩ := a2.at_ (by omega) hu
      obtain ⟨u', b1, b2⟩ := ih (W + 1) u1 h1 (by omega)
      refine ⟨u', ?_, a2.trans b2⟩
      have a1' : fX0_put u 46 = some ((), u1) := a1
      rw [bnd_t a1']; exact b1
  · have d0 : (if k = s ∧ 0 < s then [46] else ([] : List Nat)) = [] := if_neg (fun e => c e.1)
    rw [d0, List.nil_append] at hW ⊢
    rw [if_neg c]
    exact ih W u hu hW
theorem wn65 {n s k f W d : Nat} (hs : s ≤ 3) (hk : k ≤ 6) (hd : d < 10) (y : Int32) (hy : ¬ y = 0) (u : St) (hu : u.1 6 = nI W) (cs : List Nat) (hW : W + ((48 + d) :: ((if k = s ∧ 0 < s then [46] else []) ++ cs)).length ≤ 600)
    (ih : ∀ (W : Nat) (u : St), u.1 6 = nI W → W + cs.length ≤ 600 → ∃ u', fX2_writeNumber_26 f (nI s) (nI n) y (dI k) u = some ((), u') ∧ AppA u u' cs) :
    ∃ u', fX2_writeNumber_65 (fX2_writeNumber_26 f) (nI s) (nI n) (nI k) (nI d) y u = some ((), u') ∧ AppA u u' ((48 + d) :: ((if k = s ∧ 0 < s then [46] else []) ++ cs)) := by
  unfold fX2_writeNumber_65
  rw [if_neg hy]
  rw [List.length_cons] at hW
  obtain ⟨u1, a1, a2⟩ := put_A (c := 48 + d) (by omega : W < 600) hu (by omega)
  obtain ⟨h1, _⟩ := a2.at_ (by omega) hu
  obtain ⟨u', b1, b2⟩ := wn82 hs hk y u1 h1 cs (by rw [List.length_singleton]; omega) ih
  refine ⟨u', ?_, a2.trans b2⟩
  have e : (48 : Int32) + nI d = nI (48 + d) := nI_add 48 d
  rw [e, i2c_n (by omega), bnd_t a1]; exact b1
theorem wn26 {n s k : Nat} (hn : n ≤ 1000000) (hk : k ≤ 6) (f : Nat) (y : Int32) (u : St) : fX2_writeNumber_26 (f + 1) (nI s) (nI n) y (dI (k + 1)) u = (if y = 0 then (if nI (n / 10 ^ k % 10) = 0 then (if nI k = nI s then fX2_writeNumber_65 (fX2_writeNumber_26 f) (nI s) (nI n) (nI k) (nI (n / 10 ^ k % 10)) 1 u else fX2_writeNumber_65 (fX2_writeNumber_26 f) (nI s) (nI n) (nI k) (nI (n / 10 ^ k % 10)) 0 u) else fX2_writeNumber_65 (fX2_writeNumber_26 f) (nI s) (nI n) (nI k) (nI (n / 10 ^ k % 10)) 1 u) else fX2_writeNumber_65 (fX2_writeNumber_26 f) (nI s) (nI n) (nI k) (nI (n / 10 ^ k % 10)) 1 u) := by
  obtain ⟨p1, p2, p3⟩ := p10 k hk
  have ht0 : ¬ tens k = 0 := by rw [p1]; exact nI_ne0 p3 (by omega)
  rw [dI_s, fX2_writeNumber_26]
  rw [if_neg (nI_pos (by omega)), gd_t (okI_t (by omega) (by omega)), nc_ (by omega), gd_t (decide_eq_true ht0), dig_e hn hk]
  simp only [lt_]
theorem wb_loop {n s : Nat} (hn : n ≤ 1000000) (hs : s ≤ 3) : ∀ (k f W : Nat) (u : St), k ≤ 7 → k < f → u.1 6 = nI W → W + (db n s k).length ≤ 600 → ∃ u', fX2_writeNumber_26 f (nI s) (nI n) 1 (dI k) u = some ((), u') ∧ AppA u u' (db n s k) := by
  intro k
  induction k with
  | zero =>
    intro f W u hk hf hu hW
    obtain ⟨f, rfl⟩ : ∃ a, f = a + 1 := ⟨f - 1, by omega⟩
    refine ⟨u, ?_, AppA.nil (by omega) hu⟩
    rw [fX2_writeNumber_26]
    rw [if_pos (by decide)]
  | succ k ih =>
    intro f W u hk hf hu hW
    obtain ⟨f, rfl⟩ : ∃ a, f = a + 1 := ⟨f - 1, by omega⟩
    rw [wn26 hn (by omega), if_neg (by decide)]
    exact wn65 hs (by omega) (Nat.mod_lt _ (by omega)) 1 (by decide) u hu (db n s k) hW (fun W u h1 h2 => ih f W u (by omega) (by omega) h1 h2)
theorem ww_loop {n s : Nat} (hn : n ≤ 1000000) (hs : s ≤ 3) : ∀ (k f W : Nat) (u : St), k ≤ 7 → k < f → u.1 6 = nI W → W + (dw n s k).length ≤ 600 → ∃ u', fX2_writeNumber_26 f (nI s) (nI n) 0 (dI k) u = some ((), u') ∧ AppA u u' (dw n s k) := by
  intro k
  induction k with
  | zero =>
    intro f W u hk hf hu hW
    obtain ⟨f, rfl⟩ : ∃ a, f = a + 1 := ⟨f - 1, by omega⟩
    refine ⟨u, ?_, AppA.nil (by omega) hu⟩
    rw [fX2_writeNumber_26]
    rw [if_pos (by decide)]
  | succ k ih =>
    intro f W u hk hf hu hW
    obtain ⟨f, rfl⟩ : ∃ a, f = a + 1 := ⟨f - 1, by omega⟩
    have hd := Nat.mod_lt (n / 10 ^ k) (by omega : 10 > 0)
    have e0 : (nI (n / 10 ^ k % 10) = 0) ↔ n / 10 ^ k % 10 = 0 := nI_eq (b := 0) (by omega) (by omega)
    have e1 : (nI k = nI s) ↔ k = s := nI_eq (by omega) (by omega)
    rw [wn26 hn (by omega), if_pos rfl]
    have BEG : W + (db n s (k + 1)).length ≤ 600 → ∃ u', fX2_writeNumber_65 (fX2_writeNumber_26 f) (nI s) (nI n) (nI k) (nI (n / 10 ^ k % 10)) 1 u = some ((), u') ∧ AppA u u' (db n s (k + 1)) := fun h => wn65 hs (by omega) hd 1 (by decide) u hu (db n s k) h (fun W u h1 h2 => wb_loop hn hs k f W u (by omega) (by omega) h1 h2)
    by_cases c : n / 10 ^ k % 10 = 0
    · rw [if_pos (e0.mpr c)]
      by_cases c2 : k = s
      · have e : dw n s (k + 1) = db n s (k + 1) := by rw [dw, if_pos (.inr c2)]
        rw [e] at hW ⊢
        rw [if_pos (e1.mpr c2)]; exact BEG hW
      · have e : dw n s (k + 1) = dw n s k := by rw [dw, if_neg (by omega)]
        rw [e] at hW ⊢
        rw [if_neg (fun q => c2 (e1.mp q))]
        unfold fX2_writeNumber_65 fX2_writeNumber_82
        rw [if_pos rfl, if_neg (fun q => c2 (e1.mp q))]
        simp only [lt_]
        exact ih f W u (by omega) (by omega) hu hW
    · have e : dw n s (k + 1) = db n s (k + 1) := by rw [dw, if_pos (.inl c)]
      rw [e] at hW ⊢
      rw [if_neg (fun q => c (e0.mp q))]; exact BEG hW
/-! the same, the reference's way -/
def fr (n : Nat) : Nat → List Nat
  | 0 => []
  | j + 1 => (48 + n / 10 ^ j % 10) :: fr n j
theorem fr_len (n : Nat) : ∀ j, (fr n j).length = j
  | 0 => rfl
  | j + 1 => by rw [fr, List.length_cons, fr_len n j]
theorem db_fr (n s : Nat) : ∀ k, k ≤ s → db n s k = fr n k
  | 0, _ => rfl
  | k + 1, h => by
    rw [db, fr, db_fr n s k (by omega), if_neg (by omega)]; rfl
theorem db_whole (n s : Nat) : ∀ j, fr (n / 10 ^ s) (j + 1) ++ ((if 0 < s then [46] else []) ++ fr n s) = db n s (s + j + 1)
  | 0 => by
    rw [Nat.add_zero, db, db_fr n s s (Nat.le_refl _)]
    simp only [fr, Nat.pow_zero, Nat.div_one, List.singleton_append, true_and]
  | j + 1 => by
    have ih := db_whole n s j
    have e : db n s (s + (j + 1) + 1) = (48 + n / 10 ^ (s + (j + 1)) % 10) :: db n s (s + j + 1) := by
      rw [db, if_neg (by omega)]; rfl
    rw [e, fr, List.cons_append, ih, Nat.div_div_eq_div_mul, ← Nat.pow_add]
theorem dw_start {n s k : Nat} (h9 : n / 10 ^ s / 10 ^ k ≤ 9) (h10 : k = 0 ∨ 1 ≤ n / 10 ^ s / 10 ^ k) : ∀ d, dw n s (s + k + 1 + d) = db n s (s + k + 1)
  | 0 => by
    rw [Nat.add_zero, dw, if_pos]
    rw [Nat.div_div_eq_div_mul, ← Nat.pow_add] at h9 h10
    rcases h10 with h | h
    · right; omega
    · left
      rw [Nat.mod_eq_of_lt (by omega)]; omega
  | d + 1 => by
    have ih := dw_start h9 h10 d
    rw [← ih]
    show dw n s (s + k + 1 + d + 1) = _
    rw [dw, if_neg]
    rw [Nat.div_div_eq_div_mul, ← Nat.pow_add] at h9
    have e : n / 10 ^ (s + k + 1 + d) = n / 10 ^ (s + k) / 10 ^ (1 + d) := by
      rw [Nat.div_div_eq_div_mul, ← Nat.pow_add, Nat.add_assoc]
    have e2 : n / 10 ^ (s + k) / 10 ^ (1 + d) = 0 := by
      apply Nat.div_eq_of_lt
      have : 10 ^ 1 ≤ 10 ^ (1 + d) := Nat.pow_le_pow_right (by omega) (by omega)
      omega
    rw [e, e2]
    omega
def pw : Nat → Int32
  | 0 => 0
  | j + 1 => nI (10 ^ j)
theorem pw_div (j : Nat) (hj : j ≤ 6) : nI (10 ^ j) / 10 = pw j := by
  have h : j = 0 ∨ j = 1 ∨ j = 2 ∨ j = 3 ∨ j = 4 ∨ j = 5 ∨ j = 6 := by omega
  rcases h with h | h | h | h | h | h | h <;> subst h <;> decide +kernel
theorem s199_loop {n g : Nat} (hn : n ≤ 1000000) (hg : g < 60) : ∀ (j f Z : Nat) (v : St), j ≤ 7 → j < f → Z + j < 90000 → v.2.1 13 g = nI Z → ∃ v', fX5_sayTerm_199 f (nI g) (nI n) (pw j) v = some ((), v') ∧ AppM g v v' (fr n j) := by
  intro j
  induction j with
  | zero =>
    intro f Z v hj hf hZ hz
    obtain ⟨f, rfl⟩ : ∃ a, f = a + 1 := ⟨f - 1, by omega⟩
    refine ⟨v, ?_, AppM.nil (by omega) hz⟩
    rw [fX5_sayTerm_199]
    rw [if_pos (by decide)]
  | succ j ih =>
    intro f Z v hj hf hZ hz
    obtain ⟨f, rfl⟩ : ∃ a, f = a + 1 := ⟨f - 1, by omega⟩
    obtain ⟨p1, p2, p3⟩ := p10 j (by omega)
    have hd := Nat.mod_lt (n / 10 ^ j) (by omega : 10 > 0)
    obtain ⟨v1, a1, a2⟩ := say_M (c := 48 + n / 10 ^ j % 10) hg (by omega : Z < 90000) hz
    have h1 := a2.at_ (by omega) hz
    obtain ⟨v', b1, b2⟩ := ih f (Z + 1) v1 (by omega) (by omega) (by omega) h1
    refine ⟨v', ?_, a2.trans b2⟩
    rw [fX5_sayTerm_199]
    have e2 : pw (j + 1) = nI (10 ^ j) := rfl
    rw [e2, if_neg (nI_nle p3 (by omega)), gd_t (decide_eq_true (nI_ne0 p3 (by omega)))]
    have e := dig_e hn (p := j) (by omega)
    rw [p1] at e
    rw [e, show (48 : Int32) + nI (n / 10 ^ j % 10) = nI (48 + n / 10 ^ j % 10) from nI_add 48 _, bnd_t a1]
    simp only [lt_]
    rw [pw_div j (by omega)]; exact b1
theorem s145_loop {q n s t g : Nat} (hq : q ≤ 1000000) (hn : n ≤ 1000000) (hs : s ≤ 3) (ht : t < 60) (hg : g < 60) : ∀ (j f Z : Nat) (v : St), j ≤ 7 → j < f → Z + j + 10 < 90000 → v.2.1 13 g = nI Z → v.2.1 2 t = nI s → ∃ v', fX5_sayTerm_145 f (nI g) (nI t) (nI n) (nI (10 ^ s)) (nI q) (pw j) v = some ((), v') ∧ AppM g v v' (fr q j ++ ((if 0 < s then [46] else []) ++ fr n s)) := by
  intro j
  induction j with
  | zero =>
    intro f Z v hj hf hZ hz h2
    obtain ⟨f, rfl⟩ : ∃ a, f = a + 1 := ⟨f - 1, by omega⟩
    have e0 : (nI s ≤ 0) ↔ s ≤ 0 := nI_leI (b := 0) (by omega) (by omega)
    have e192 : ∀ w, fX5_sayTerm_192 (nI g) (nI n) (nI (10 ^ s)) w = fX5_sayTerm_199 FU (nI g) (nI n) (pw s) w := by
      intro w
      unfold fX5_sayTerm_192
      simp only [lt_]
      rw [pw_div s (by omega)]
    rw [fX5_sayTerm_145]
    rw [if_pos (show pw 0 ≤ 0 by decide)]
    simp (disch := omega) only [okI_t, gd_1, nc_, h2, e192]
    rw [fr, List.nil_append]
    by_cases c : s ≤ 0
    · rw [if_pos (e0.mpr c), if_neg (by omega), List.nil_append]
      exact s199_loop hn hg s FU Z v (by omega) (by rw [FU_]; omega) (by omega) hz
    · rw [if_neg (fun e => c (e0.mp e)), if_pos (by omega)]
      obtain ⟨v1, a1, a2⟩ := say_M (c := 46) hg (by omega : Z < 90000) hz
      have h1 := a2.at_ (by omega) hz
      obtain ⟨v', b1, b2⟩ := s199_loop hn hg s FU (Z + 1) v1 (by omega) (by rw [FU_]; omega) (by omega) h1
      refine ⟨v', ?_, a2.trans b2⟩
      have a1' : fX5_say v (nI g) 46 = some ((), v1) := a1
      rw [bnd_t a1']; exact b1
  | succ j ih =>
    intro f Z v hj hf hZ hz h2
    obtain ⟨f, rfl⟩ : ∃ a, f = a + 1 := ⟨f - 1, by omega⟩
    obtain ⟨p1, p2, p3⟩ := p10 j (by omega)
    have hd := Nat.mod_lt (q / 10 ^ j) (by omega : 10 > 0)
    obtain ⟨v1, a1, a2⟩ := say_M (c := 48 + q / 10 ^ j % 10) hg (by omega : Z < 90000) hz
    have h1 := a2.at_ (by omega) hz
    obtain ⟨v', b1, b2⟩ := ih f (Z + 1) v1 (by omega) (by omega) (by omega) h1 (by rw [a2.1.2.1 2 (by decide)]; exact h2)
    refine ⟨v', ?_, a2.trans b2⟩
    rw [fX5_sayTerm_145]
    have e2 : pw (j + 1) = nI (10 ^ j) := rfl
    rw [e2, if_neg (nI_nle p3 (by omega)), gd_t (decide_eq_true (nI_ne0 p3 (by omega)))]
    have e := dig_e hq (p := j) (by omega)
    rw [p1] at e
    rw [e, show (48 : Int32) + nI (q / 10 ^ j % 10) = nI (48 + q / 10 ^ j % 10) from nI_add 48 _, bnd_t a1]
    simp only [lt_]
    rw [pw_div j (by omega)]; exact b1
theorem s125_loop {q n s t g K : Nat} (hq : q ≤ 1000000) (hK : K ≤ 6) (h9 : q / 10 ^ K ≤ 9) (h10 : ∀ j, j < K → 10 ≤ q / 10 ^ j) (v : St) : ∀ (d j f : Nat), j + d = K → d < f → fX5_sayTerm_125 f (nI g) (nI t) (nI n) (nI (10 ^ s)) (nI q) (nI (10 ^ j)) v = fX5_sayTerm_145 FU (nI g) (nI t) (nI n) (nI (10 ^ s)) (nI q) (nI (10 ^ K)) v := by
  intro d
  induction d with
  | zero =>
    intro j f hj hf
    obtain ⟨f, rfl⟩ : ∃ a, f = a + 1 := ⟨f - 1, by omega⟩
    have e : j = K := by omega
    subst e
    obtain ⟨p1, p2, p3⟩ := p10 j (by omega)
    have hl : q / 10 ^ j ≤ q := Nat.div_le_self _ _
    rw [fX5_sayTerm_125]
    rw [gd_t (decide_eq_true (nI_ne0 p3 (by omega))), nI_div (by omega) (by omega), if_pos (show nI (q / 10 ^ j) ≤ 9 from nI_le (b := 9) h9 (by omega))]
  | succ d ih =>
    intro j f hj hf
    obtain ⟨f, rfl⟩ : ∃ a, f = a + 1 := ⟨f - 1, by omega⟩
    obtain ⟨p1, p2, p3⟩ := p10 j (by omega)
    have hl : q / 10 ^ j ≤ q := Nat.div_le_self _ _
    have := h10 j (by omega)
    rw [fX5_sayTerm_125]
    rw [gd_t (decide_eq_true (nI_ne0 p3 (by omega))), nI_div (by omega) (by omega), if_neg (show ¬ nI (q / 10 ^ j) ≤ 9 from nI_ge (a := 9) (by omega) (by omega))]
    simp only [lt_]
    rw [show (10 : Int32) = nI 10 from rfl, nI_mul, ← Nat.pow_succ]
    exact ih (j + 1) f (by omega) (by omega)
theorem s92_loop {n s t g : Nat} (hs : s ≤ 3) (ht : t < 60) (hn : n ≤ 1000000) {v : St} (h2 : v.2.1 2 t = nI s) : ∀ (d i f : Nat), i + d = s → d < f → fX5_sayTerm_92 f (nI g) (nI t) (nI n) (nI (10 ^ i)) (nI i) v = fX5_sayTerm_125 FU (nI g) (nI t) (nI n) (nI (10 ^ s)) (nI (n / 10 ^ s)) 1 v := by
  intro d
  induction d with
  | zero =>
    intro i f hi hf
    obtain ⟨f, rfl⟩ : ∃ a, f = a + 1 := ⟨f - 1, by omega⟩
    have e : i = s := by omega
    subst e
    obtain ⟨p1, p2, p3⟩ := p10 i (by omega)
    rw [fX5_sayTerm_92]
    simp (disch := omega) only [okI_t, gd_1, nc_, h2]
    rw [if_pos Int32.le_rfl, gd_t (decide_eq_true (nI_ne0 p3 (by omega))), nI_div (by omega) (by omega)]
    simp only [lt_]
  | succ d ih =>
    intro i f hi hf
    obtain ⟨f, rfl⟩ : ∃ a, f = a + 1 := ⟨f - 1, by omega⟩
    rw [fX5_sayTerm_92]
    simp (disch := omega) only [okI_t, gd_1, nc_, h2]
    rw [if_neg (nI_ge (by omega) (by omega))]
    simp only [lt_, nI_1]
    rw [show (10 : Int32) = nI 10 from rfl, nI_mul, ← Nat.pow_succ]
    exact ih (i + 1) f (by omega) (by omega)
theorem ex_K {q : Nat} (hq : q ≤ 1000000) : ∃ K, K ≤ 6 ∧ q / 10 ^ K ≤ 9 ∧ (K = 0 ∨ 1 ≤ q / 10 ^ K) ∧ ∀ j, j < K → 10 ≤ q / 10 ^ j := by
  have fin : ∀ K, K ≤ 6 → q < 10 ^ (K + 1) → (K = 0 ∨ 10 ^ K ≤ q) → ∃ K, K ≤ 6 ∧ q / 10 ^ K ≤ 9 ∧ (K = 0 ∨ 1 ≤ q / 10 ^ K) ∧ ∀ j, j < K → 10 ≤ q / 10 ^ j := by
    intro K hK h1 h2
    have hp : 0 < 10 ^ K := Nat.pow_pos (by omega)
    refine ⟨K, hK, ?_, ?_, ?_⟩
    · have : q / 10 ^ K < 10 := (Nat.div_lt_iff_lt_mul hp).mpr (by rw [Nat.pow_succ, Nat.mul_comm] at h1; exact h1)
      omega
    · exact h2.imp id (fun h => (Nat.le_div_iff_mul_le hp).mpr (by omega))
    · intro j hj
      have hpj : 0 < 10 ^ j := Nat.pow_pos (by omega)
      rw [Nat.le_div_iff_mul_le hpj]
      have h3 : 10 ^ (j + 1) ≤ 10 ^ K := Nat.pow_le_pow_right (by omega) (by omega)
      rw [Nat.pow_succ, Nat.mul_comm] at h3
      omega
  by_cases c0 : q < 10
  · exact fin 0 (by omega) (by omega) (.inl rfl)
  by_cases c1 : q < 100
  · exact fin 1 (by omega) (by omega) (.inr (by omega))
  by_cases c2 : q < 1000
  · exact fin 2 (by omega) (by omega) (.inr (by omega))
  by_cases c3 : q < 10000
  · exact fin 3 (by omega) (by omega) (.inr (by omega))
  by_cases c4 : q < 100000
  · exact fin 4 (by omega) (by omega) (.inr (by omega))
  by_cases c5 : q < 1000000
  · exact fin 5 (by omega) (by omega) (.inr (by omega))
  · exact fin 6 (by omega) (by omega) (.inr (by omega))
theorem say86 {n s t g Z : Nat} (hs : s ≤ 3) (ht : t < 60) (hg : g < 60) (hn : n ≤ 1000000) {v : St} (h2 : v.2.1 2 t = nI s) (hZ : Z < 80000) (hz : v.2.1 13 g = nI Z) : ∃ v', fX5_sayTerm_86 (nI g) (nI t) (nI n) v = some ((), v') ∧ AppM g v v' (dw n s 7) := by
  have hq : n / 10 ^ s ≤ 1000000 := Nat.le_trans (Nat.div_le_self _ _) hn
  obtain ⟨K, k1, k2, k3, k4⟩ := ex_K hq
  obtain ⟨v', b1, b2⟩ := s145_loop hq hn hs ht hg (K + 1) FU Z v (by omega) (by rw [FU_]; omega) (by omega) hz h2
  refine ⟨v', ?_, ?_⟩
  · unfold fX5_sayTerm_86
    have L := s92_loop (g := g) hs ht hn h2 s 0 FU (by omega) (by rw [FU_]; omega)
    have L2 := s125_loop (n := n) (s := s) (t := t) (g := g) hq k1 k2 k4 v K 0 FU (by omega) (by rw [FU_]; omega)
    have z1 : nI (10 ^ 0) = 1 := rfl
    rw [z1] at L L2
    rw [nI_0] at L
    rw [L, L2]; exact b1
  · have hsk : s + K ≤ 6 := by
      rcases k3 with h | h
      · omega
      · rcases Nat.lt_or_ge (s + K) 7 with g | g
        · omega
        · exfalso
          rw [Nat.div_div_eq_div_mul, ← Nat.pow_add] at h
          have hp : 0 < 10 ^ (s + K) := Nat.pow_pos (by omega)
          have h5 := (Nat.le_div_iff_mul_le hp).mp h
          have h6 : 10 ^ 7 ≤ 10 ^ (s + K) := Nat.pow_le_pow_right (by omega) g
          omega
    have e1 := dw_start k2 k3 (6 - (s + K))
    have e2 : s + K + 1 + (6 - (s + K)) = 7 := by omega
    rw [e2] at e1
    rw [e1, ← db_whole n s K]
    exact b2
