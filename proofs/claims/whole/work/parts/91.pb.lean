/-! ===== terms: what one is in the class and in the reference ===== -/
def wdk : Nat → List Nat → Nat
  | 0, _ => 0
  | _ + 1, [] => 0
  | k + 1, c :: cs => c * 256 ^ k + wdk k cs
theorem wdk_lt : ∀ (k : Nat) (cs : List Nat), (∀ c ∈ cs, c < 256) → wdk k cs < 256 ^ k := by
  intro k
  induction k with
  | zero => intro cs _; simp [wdk]
  | succ k ih =>
    intro cs h
    cases cs with
    | nil => simp only [wdk]; exact Nat.pow_pos (by omega)
    | cons c cs =>
      simp only [wdk]
      have h1 := ih cs (fun x hx => h x (List.mem_cons_of_mem _ hx))
      have h2 := h c List.mem_cons_self
      have h3 : c * 256 ^ k ≤ 255 * 256 ^ k := Nat.mul_le_mul_right _ (by omega)
      rw [Nat.pow_succ]; omega
theorem wdk_lt8 {cs : List Nat} (h : ∀ c ∈ cs, 97 ≤ c ∧ c ≤ 122) : wdk 8 cs < 2 ^ 63 := by
  cases cs with
  | nil => simp [wdk]
  | cons c cs =>
    simp only [wdk]
    have h1 := wdk_lt 7 cs (fun x hx => by have := h x (List.mem_cons_of_mem _ hx); omega)
    have h2 := h c List.mem_cons_self
    have h3 : c * 256 ^ 7 ≤ 122 * 256 ^ 7 := Nat.mul_le_mul_right _ (by omega)
    omega
/-- a list of small letters -/
def LT (cs : List Nat) : Prop := 0 < cs.length ∧ cs.length ≤ 8 ∧ ∀ c ∈ cs, 97 ≤ c ∧ c ≤ 122
theorem LT.pos {cs : List Nat} (h : LT cs) : 0 < wdk 8 cs := by
  cases cs with
  | nil => exact absurd h.1 (by simp)
  | cons c cs =>
    simp only [wdk]
    have h2 := h.2.2 c List.mem_cons_self
    have h3 : 1 * 256 ^ 7 ≤ c * 256 ^ 7 := Nat.mul_le_mul_right _ (by omega)
    omega
def NumR (u v : St) (t : Nat) : Prop := u.2.2 0 t = 0 ∧ v.2.1 0 t = 0 ∧ v.2.1 1 t = u.2.1 0 t ∧ v.2.1 2 t = u.2.1 1 t ∧ (-1000000 ≤ (u.2.1 0 t).toInt ∧ (u.2.1 0 t).toInt ≤ 1000000) ∧ ∃ s : Nat, s ≤ 3 ∧ u.2.1 1 t = nI s
def TxtR (u v : St) (t : Nat) (cs : List Nat) : Prop := LT cs ∧ u.2.2 0 t = lN (wdk 8 cs) ∧ u.2.1 0 t = 0 ∧ u.2.1 1 t = 0 ∧ v.2.1 0 t = 1 ∧ v.2.1 3 t = nI cs.length ∧ ∀ i, (h : i < cs.length) → v.2.1 4 (8 * t + i) = nI (cs[i])
def TermR (u v : St) (t : Nat) : Prop := NumR u v t ∨ ∃ cs, TxtR u v t cs
def TR (u v : St) (n : Nat) : Prop := n ≤ 60 ∧ u.1 3 = nI n ∧ v.1 1 = nI n ∧ ∀ t, t < n → TermR u v t
theorem TxtR.ne0 {u v : St} {t : Nat} {cs : List Nat} (h : TxtR u v t cs) : ¬ u.2.2 0 t = 0 := by
  rw [h.2.1]
  have h1 := h.1.pos
  have h2 := wdk_lt8 h.1.2.2
  intro e
  have e' : lN (wdk 8 cs) = lN 0 := e
  rw [lN_eq63 h2 (by omega)] at e'
  omega
/-! the thousandths of a number -/
theorem thM_loop (s : Nat) (hs : s ≤ 3) (x : Int64) (v : St) : fX5_thousandths_16 FU x (nI s) v = some (x * lN (10 ^ (3 - s)), v) := by
  obtain ⟨m, e⟩ : ∃ m, FU = m + 1 + 1 + 1 + 1 := ⟨99996, rfl⟩
  rw [e]
  have l0 : ¬ (3 : Int32) ≤ 0 := by decide
  have l1 : ¬ (3 : Int32) ≤ 0 + 1 := by decide
  have l2 : ¬ (3 : Int32) ≤ 0 + 1 + 1 := by decide
  have l3 : (3 : Int32) ≤ 0 + 1 + 1 + 1 := by decide
  have m1 : ¬ (3 : Int32) ≤ 1 := by decide
  have m2 : ¬ (3 : Int32) ≤ 1 + 1 := by decide
  have m3 : (3 : Int32) ≤ 1 + 1 + 1 := by decide
  have k2 : ¬ (3 : Int32) ≤ 2 := by decide
  have k3 : (3 : Int32) ≤ 2 + 1 := by decide
  have j3 : (3 : Int32) ≤ 3 := by decide
  have hs4 : s = 0 ∨ s = 1 ∨ s = 2 ∨ s = 3 := by omega
  rcases hs4 with h | h | h | h <;> subst h
  · show fX5_thousandths_16 _ x 0 v = _
    simp only [fX5_thousandths_16, lt_, if_neg l0, if_neg l1, if_neg l2, if_pos l3]
    rw [Int64.mul_assoc, Int64.mul_assoc]; rfl
  · show fX5_thousandths_16 _ x 1 v = _
    simp only [fX5_thousandths_16, lt_, if_neg m1, if_neg m2, if_pos m3]
    rw [Int64.mul_assoc]; rfl
  · show fX5_thousandths_16 _ x 2 v = _
    simp only [fX5_thousandths_16, lt_, if_neg k2, if_pos k3]; rfl
  · show fX5_thousandths_16 _ x 3 v = _
    simp only [fX5_thousandths_16, lt_, if_pos j3]
    show some (x, v) = some (x * 1, v)
    rw [Int64.mul_one]
theorem thM {v : St} {t s : Nat} (ht : t < 60) (hs : s ≤ 3) (h : v.2.1 2 t = nI s) : fX5_thousandths v (nI t) = some ((v.2.1 1 t).toInt64 * lN (10 ^ (3 - s)), v) := by
  unfold fX5_thousandths
  rw [gd_t (okI_t ht (by omega)), nc_ (by omega)]
  show gd _ (fX5_thousandths_16 FU (v.2.1 1 t).toInt64 (v.2.1 2 t) v) = _
  rw [gd_t (okI_t ht (by omega)), h]
  exact thM_loop s hs _ v
theorem tens_sub : ∀ s, s ≤ 3 → okI (3 - nI s) 7 = true ∧ (tens (3 - nI s).toNatClampNeg).toInt64 = lN (10 ^ (3 - s)) := by
  intro s hs
  have hs4 : s = 0 ∨ s = 1 ∨ s = 2 ∨ s = 3 := by omega
  rcases hs4 with h | h | h | h <;> subst h <;> exact ⟨by decide +kernel, by decide +kernel⟩
theorem thA {u : St} {t s : Nat} (ht : t < 60) (hs : s ≤ 3) (h : u.2.1 1 t = nI s) : fX2_thousandths u (nI t) = some ((u.2.1 0 t).toInt64 * lN (10 ^ (3 - s)), u) := by
  unfold fX2_thousandths
  rw [gd_t (okI_t ht (by omega)), gd_t (okI_t ht (by omega)), nc_ (by omega), h, gd_t (tens_sub s hs).1, (tens_sub s hs).2]
/-- the thousandths of a number are the same, and not far from 0 -/
theorem NumR.th {u v : St} {t : Nat} (ht : t < 60) (h : NumR u v t) : ∃ x : Int64, fX2_thousandths u (nI t) = some (x, u) ∧ fX5_thousandths v (nI t) = some (x, v) ∧ -1000000000 ≤ x.toInt ∧ x.toInt ≤ 1000000000 := by
  obtain ⟨_, _, h1, h2, h3, s, hs, h4⟩ := h
  refine ⟨(u.2.1 0 t).toInt64 * lN (10 ^ (3 - s)), thA ht hs h4, ?_, ?_⟩
  · rw [thM ht hs (h2.trans h4), h1]
  · have hs4 : s = 0 ∨ s = 1 ∨ s = 2 ∨ s = 3 := by omega
    have e : ((u.2.1 0 t).toInt64 * lN (10 ^ (3 - s))).toInt = ((u.2.1 0 t).toInt * (10 ^ (3 - s) : Nat)).bmod (2 ^ 64) := by
      rw [Int64.toInt_mul, Int32.toInt_toInt64, lN_toInt63 (by rcases hs4 with h | h | h | h <;> subst h <;> omega)]
    rw [e]
    rcases hs4 with h | h | h | h <;> subst h <;> (rw [Int.bmod_eq_of_le (by omega) (by omega)]; omega)
/-! the comparison of two texts -/
theorem cmp_loop {v : St} {p q : Nat} {a b : List Nat} (hp : p < 60) (hq : q < 60) (ha : LT a) (hb : LT b) (za : v.2.1 3 p = nI a.length) (zb : v.2.1 3 q = nI b.length) (la : ∀ i, (h : i < a.length) → v.2.1 4 (8 * p + i) = nI (a[i])) (lb : ∀ i, (h : i < b.length) → v.2.1 4 (8 * q + i) = nI (b[i])) :
    ∀ (d i n : Nat), i + d = 8 → i ≤ a.length → i ≤ b.length → d < n → ∃ r, fX5_compare_78 n (nI p) (nI q) (nI i) v = some (r, v) ∧ SG (cmpN (wdk d (a.drop i)) (wdk d (b.drop i))) r := by
  have hal := ha.2.1
  have hbl := hb.2.1
  intro d
  induction d with
  | zero =>
    intro i n hi ia ib hn
    obtain ⟨n, rfl⟩ : ∃ k, n = k + 1 := ⟨n - 1, by omega⟩
    have e1 : a.length = 8 := by omega
    have e2 : b.length = 8 := by omega
    refine ⟨nI a.length - nI b.length, ?_, ?_⟩
    · unfold fX5_compare_78
      simp (disch := omega) only [okI_t, gd_1, nc_, za, nI_leI]
      rw [if_pos (by omega)]
      unfold fX5_compare_153
      simp (disch := omega) only [okI_t, gd_1, nc_, za, zb]
    · rw [e1, e2]; exact .inr (.inl ⟨rfl, by decide +kernel⟩)
  | succ d ih =>
    intro i n hi ia ib hn
    obtain ⟨n, rfl⟩ : ∃ k, n = k + 1 := ⟨n - 1, by omega⟩
    by_cases h1 : a.length ≤ i
    · refine ⟨nI a.length - nI b.length, ?_, ?_⟩
      · unfold fX5_compare_78
        simp (disch := omega) only [okI_t, gd_1, nc_, za, nI_leI]
        rw [if_pos h1]
        unfold fX5_compare_153
        simp (disch := omega) only [okI_t, gd_1, nc_, za, zb]
      · have e1 : a.drop i = [] := List.drop_eq_nil_of_le h1
        rw [e1]
        have k := SG_sub (a := a.length) (b := b.length) (by omega) (by omega)
        by_cases h2 : b.length ≤ i
        · rw [List.drop_eq_nil_of_le h2, cmpN_eq rfl]
          rw [cmpN_eq (by omega)] at k; exact k
        · have e2 : b.drop i = b[i]'(by omega) :: b.drop (i + 1) := List.drop_eq_getElem_cons (by omega)
          have k2 := hb.2.2 (b[i]'(by omega)) (List.getElem_mem _)
          have k3 : 1 * 256 ^ d ≤ b[i]'(by omega) * 256 ^ d := Nat.mul_le_mul_right _ (by omega)
          have k4 : 0 < 256 ^ d := Nat.pow_pos (by omega)
          rw [e2]; simp only [wdk]
          rw [cmpN_lt (by omega)]
          rw [cmpN_lt (by omega)] at k; exact k
    · by_cases h2 : b.length ≤ i
      · refine ⟨nI a.length - nI b.length, ?_, ?_⟩
        · unfold fX5_compare_78
          simp (disch := omega) only [okI_t, gd_1, nc_, za, zb, nI_leI]
          rw [if_neg h1, if_pos h2]
          unfold fX5_compare_153
          simp (disch := omega) only [okI_t, gd_1, nc_, za, zb]
        · have e1 : b.drop i = [] := List.drop_eq_nil_of_le h2
          have k := SG_sub (a := a.length) (b := b.length) (by omega) (by omega)
          have e2 : a.drop i = a[i]'(by omega) :: a.drop (i + 1) := List.drop_eq_getElem_cons (by omega)
          have k2 := ha.2.2 (a[i]'(by omega)) (List.getElem_mem _)
          have k3 : 1 * 256 ^ d ≤ a[i]'(by omega) * 256 ^ d := Nat.mul_le_mul_right _ (by omega)
          have k4 : 0 < 256 ^ d := Nat.pow_pos (by omega)
          rw [e1, e2]; simp only [wdk]
          rw [cmpN_gt (by omega)]
          rw [cmpN_gt (by omega)] at k; exact k
      · have e1 : a.drop i = a[i]'(by omega) :: a.drop (i + 1) := List.drop_eq_getElem_cons (by omega)
        have e2 : b.drop i = b[i]'(by omega) :: b.drop (i + 1) := List.drop_eq_getElem_cons (by omega)
        have k1 := ha.2.2 (a[i]'(by omega)) (List.getElem_mem _)
        have k2 := hb.2.2 (b[i]'(by omega)) (List.getElem_mem _)
        have m1 := wdk_lt d (a.drop (i + 1)) (fun x hx => by have := ha.2.2 x (List.mem_of_mem_drop hx); omega)
        have m2 := wdk_lt d (b.drop (i + 1)) (fun x hx => by have := hb.2.2 x (List.mem_of_mem_drop hx); omega)
        have q1 := la i (by omega)
        have q2 := lb i (by omega)
        have x1 : (8 : Int32) * nI p + nI i = nI (8 * p + i) := by
          show nI 8 * nI p + nI i = _
          unfold nI; rw [Int32.ofNat_add, Int32.ofNat_mul]
        have x2 : (8 : Int32) * nI q + nI i = nI (8 * q + i) := by
          show nI 8 * nI q + nI i = _
          unfold nI; rw [Int32.ofNat_add, Int32.ofNat_mul]
        by_cases h3 : a[i]'(by omega) = b[i]'(by omega)
        · obtain ⟨r, hr, sr⟩ := ih (i + 1) n (by omega) (by omega) (by omega) (by omega)
          refine ⟨r, ?_, ?_⟩
          · unfold fX5_compare_78
            simp (disch := omega) only [okI_t, gd_1, nc_, za, zb, nI_leI, x1, x2, q1, q2, nI_1, lt_]
            rw [if_neg h1, if_neg h2, if_pos (by rw [h3])]; exact hr
          · rw [e1, e2]; simp only [wdk, h3]
            simpa only [cmpN, Nat.add_lt_add_iff_left, Nat.add_left_cancel_iff] using sr
        · refine ⟨nI (a[i]'(by omega)) - nI (b[i]'(by omega)), ?_, ?_⟩
          · unfold fX5_compare_78
            simp (disch := omega) only [okI_t, gd_1, nc_, za, zb, nI_leI, x1, x2, q1, q2, nI_eq]
            rw [if_neg h1, if_neg h2, if_neg h3]
          · have k := SG_sub (a := a[i]'(by omega)) (b := b[i]'(by omega)) (by omega) (by omega)
            rw [e1, e2]; simp only [wdk]
            by_cases h4 : a[i]'(by omega) < b[i]'(by omega)
            · rw [cmpN_lt h4] at k
              have k3 : (a[i]'(by omega) + 1) * 256 ^ d ≤ b[i]'(by omega) * 256 ^ d := Nat.mul_le_mul_right _ (by omega)
              rw [Nat.add_mul] at k3
              rw [cmpN_lt (by omega)]; exact k
            · rw [cmpN_gt (by omega)] at k
              have k3 : (b[i]'(by omega) + 1) * 256 ^ d ≤ a[i]'(by omega) * 256 ^ d := Nat.mul_le_mul_right _ (by omega)
              rw [Nat.add_mul] at k3
              rw [cmpN_gt (by omega)]; exact k
/-- the comparisons: in both the same sign -/
theorem cmp_R {u v : St} {p q : Nat} (hp : p < 60) (hq : q < 60) (h1 : TermR u v p) (h2 : TermR u v q) : ∃ c r, fX2_order u (nI p) (nI q) = some (c, u) ∧ fX5_compare v (nI p) (nI q) = some (r, v) ∧ SG c r := by
  have z01 : ¬ (0 : Int32) = 1 := by decide
  have z10 : ¬ (1 : Int32) = 0 := by decide
  rcases h1 with h1 | ⟨a, h1⟩ <;> rcases h2 with h2 | ⟨b, h2⟩
  · obtain ⟨x, xa, xm, _⟩ := h1.th hp
    obtain ⟨y, ya, ym, _⟩ := h2.th hq
    refine ⟨if y ≤ x then (if x = y then 0 else 1) else -1, if y ≤ x then (if x = y then 0 else 1) else -1, ?_, ?_, ?_⟩
    · unfold fX2_order
      simp (disch := omega) only [okI_t, gd_1, nc_, h1.1, h2.1, if_true]
      rw [bnd_t xa, bnd_t ya]
      unfold fJ13_compare_74951
      split
      · split <;> rfl
      · rfl
    · unfold fX5_compare
      simp (disch := omega) only [okI_t, gd_1, nc_, h1.2.1, h2.2.1, if_true]
      rw [bnd_t xm, bnd_t ym]
      by_cases e1 : y ≤ x
      · rw [if_pos e1, if_pos e1]
        by_cases e2 : x = y
        · rw [if_pos e2, if_pos (by subst e2; exact Int64.le_refl _)]
        · rw [if_neg e2, if_neg (fun c => e2 (Int64.le_antisymm c e1))]
      · rw [if_neg e1, if_neg e1]
    · by_cases e1 : y ≤ x
      · rw [if_pos e1]
        by_cases e2 : x = y
        · rw [if_pos e2]; exact .inr (.inl ⟨rfl, rfl⟩)
        · rw [if_neg e2]; exact .inr (.inr ⟨rfl, by decide, by decide⟩)
      · rw [if_neg e1]; exact .inl ⟨rfl, by decide, by decide⟩
  · refine ⟨-1, -1, ?_, ?_, .inl ⟨rfl, by decide, by decide⟩⟩
    · unfold fX2_order
      have k1 := h2.1.pos
      have k2 := wdk_lt8 h2.1.2.2
      simp (disch := omega) only [okI_t, gd_1, nc_, h1.1, h2.2.1]
      rw [if_neg (fun e => h2.ne0 (by rw [h2.2.1]; exact e.symm)), if_neg]
      intro e
      have e' : lN (wdk 8 b) ≤ lN 0 := e
      rw [lN_le63 k2 (by omega)] at e'
      omega
    · unfold fX5_compare
      simp (disch := omega) only [okI_t, gd_1, nc_, h1.2.1, h2.2.2.2.2.1, if_neg z01, if_neg z10]
  · refine ⟨1, 1, ?_, ?_, .inr (.inr ⟨rfl, by decide, by decide⟩)⟩
    · unfold fX2_order
      have k2 := wdk_lt8 h1.1.2.2
      simp (disch := omega) only [okI_t, gd_1, nc_, h2.1, h1.2.1]
      rw [if_neg (fun e => h1.ne0 (by rw [h1.2.1]; exact e)), if_pos]
      show lN 0 ≤ lN (wdk 8 a)
      rw [lN_le63 (by omega) k2]
      omega
    · unfold fX5_compare
      simp (disch := omega) only [okI_t, gd_1, nc_, h2.2.1, h1.2.2.2.2.1, if_neg z01, if_neg z10, if_true]
  · have k1 := wdk_lt8 h1.1.2.2
    have k2 := wdk_lt8 h2.1.2.2
    obtain ⟨r, hr, sr⟩ := cmp_loop hp hq h1.1 h2.1 h1.2.2.2.2.2.1 h2.2.2.2.2.2.1 h1.2.2.2.2.2.2 h2.2.2.2.2.2.2 8 0 FU (by omega) (by omega) (by omega) (by decide)
    simp only [List.drop_zero] at sr
    refine ⟨_, r, ?_, ?_, sr⟩
    · unfold fX2_order
      simp (disch := omega) only [okI_t, gd_1, nc_, h1.2.1, h2.2.1, lN_eq63, lN_le63]
      by_cases e : wdk 8 a = wdk 8 b
      · rw [if_pos e, bnd_t (thA hp (s := 0) (by omega) h1.2.2.2.1), bnd_t (thA hq (s := 0) (by omega) h2.2.2.2.1), h1.2.2.1, h2.2.2.1]
        rw [cmpN_eq e]; rfl
      · rw [if_neg e]
        by_cases e2 : wdk 8 a < wdk 8 b
        · rw [if_neg (by omega), cmpN_lt e2]
        · rw [if_pos (by omega), cmpN_gt (by omega)]
    · unfold fX5_compare
      simp (disch := omega) only [okI_t, gd_1, nc_, h1.2.2.2.2.1, h2.2.2.2.2.1, if_true, if_neg z10]
      exact hr
/-- is it a text -/
theorem isT_R {u v : St} {t : Nat} (ht : t < 60) (h : TermR u v t) : (NumR u v t ∧ fX2_isText u (nI t) = some (0, u) ∧ v.2.1 0 t = 0) ∨ ((∃ cs, TxtR u v t cs) ∧ fX2_isText u (nI t) = some (1, u) ∧ v.2.1 0 t = 1) := by
  rcases h with h | ⟨cs, h⟩
  · refine .inl ⟨h, ?_, h.2.1⟩
    unfold fX2_isText
    simp (disch := omega) only [okI_t, gd_1, nc_, h.1, if_true]
  · refine .inr ⟨⟨cs, h⟩, ?_, h.2.2.2.2.1⟩
    unfold fX2_isText
    simp (disch := omega) only [okI_t, gd_1, nc_, if_neg h.ne0]
