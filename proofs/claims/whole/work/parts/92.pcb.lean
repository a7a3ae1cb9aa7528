/-! ===== the text of a word: the class's way ===== -/
theorem lN_eq0 {n : Nat} (h : n < 2 ^ 63) : (lN n = 0) ↔ n = 0 := lN_eq63 (b := 0) h (by omega)
theorem okL_cons {c : Nat} {cs : List Nat} : okL (c :: cs) = (decide (97 ≤ c) && decide (c ≤ 122) && okL cs) := rfl
theorem al_loop (x : Int64) (w : St) : ∀ (k n : Nat) (pre : List Nat), k < n → pre.length + k ≤ 8 → (∀ c ∈ pre, 97 ≤ c ∧ c ≤ 122) →
    fX2_aligned_10 n x (lN (wdk 8 pre)) (shI (8 - pre.length)) (shI k) w = some (if okL (nz x k) = true then lN (wdk 8 (pre ++ nz x k)) else 0, w) := by
  intro k
  induction k with
  | zero =>
    intro n pre hn hl hp
    obtain ⟨n, rfl⟩ : ∃ j, n = j + 1 := ⟨n - 1, by omega⟩
    unfold fX2_aligned_10
    rw [if_pos (by decide)]
    rw [if_pos (by rfl)]
    simp only [nz, List.append_nil]
  | succ k ih =>
    intro n pre hn hl hp
    obtain ⟨n, rfl⟩ : ∃ j, n = j + 1 := ⟨n - 1, by omega⟩
    unfold fX2_aligned_10
    rw [shI_s k, if_neg (nI_pos (by omega)), bt_A x k (by omega)]
    have hb := bt_lt x k
    simp only [lt_]
    by_cases h0 : bt x k = 0
    · rw [if_pos (by rw [h0]; rfl)]
      have e : nz x (k + 1) = nz x k := by unfold nz; rw [if_pos h0]; cases k <;> rfl
      rw [e]; exact ih n pre (by omega) (by omega) hp
    · rw [if_neg (fun c => h0 ((lN_eq0 (by omega)).mp c))]
      have e : nz x (k + 1) = bt x k :: nz x k := by
        conv => lhs; unfold nz
        rw [if_neg h0]
      have e97 : (lN (bt x k) < 97) ↔ bt x k < 97 := lN_lt (b := 97) (by omega) (by omega)
      have e122 : (lN (bt x k) ≤ 122) ↔ bt x k ≤ 122 := lN_le (b := 122) (by omega) (by omega)
      rw [e, okL_cons]
      by_cases h1 : bt x k < 97
      · rw [if_pos (e97.mpr h1), if_neg]
        simp; omega
      · rw [if_neg (fun c => h1 (e97.mp c))]
        by_cases h2 : bt x k ≤ 122
        · rw [if_pos (e122.mpr h2)]
          have hq : 8 - pre.length = (7 - pre.length) + 1 := by omega
          have hpre : ∀ c ∈ pre ++ [bt x k], 97 ≤ c ∧ c ≤ 122 := by
            intro c hc
            rcases List.mem_append.mp hc with h | h
            · exact hp c h
            · rw [List.mem_singleton.mp h]; omega
          have hw := wdk_lt8 hpre
          have ew : wdk 8 (pre ++ [bt x k]) = wdk 8 pre + bt x k * 256 ^ (7 - pre.length) := by
            rw [wdk_app 8 pre _ (by omega), hq]; simp only [wdk, wdk_nil]; omega
          rw [hq, shI_s, or_word (by omega) hb (by rw [← hq]; exact wdk_dvd 8 pre (by omega)) (by rw [← ew]; omega), ← ew]
          have e2 : nI (8 * (7 - pre.length)) + (-8) = shI (8 - (pre ++ [bt x k]).length) := by
            rw [List.length_append, List.length_singleton, show 8 - (pre.length + 1) = 7 - pre.length by omega]
          rw [e2, ih n (pre ++ [bt x k]) (by omega) (by rw [List.length_append, List.length_singleton]; omega) hpre]
          rw [List.append_assoc, List.singleton_append, decide_eq_true (by omega : 97 ≤ bt x k), decide_eq_true h2]
          rfl
        · rw [if_neg (fun c => h2 (e122.mp c)), if_neg]
          simp; omega
/-- the class: the aligned word, or 0 -/
theorem al_R (x : Int64) (u : St) : fX2_aligned u x = some (if okL (nz x 8) = true then lN (wdk 8 (nz x 8)) else 0, u) := by
  have := al_loop x u 8 FU [] (by decide) (by decide) (fun c h => absurd h (by simp))
  rw [List.nil_append] at this
  unfold fX2_aligned
  exact this
/-! ===== the reference's way ===== -/
theorem byte_lt {b : Nat} (hb : b < 256) : ((nI b = 0) ↔ b = 0) ∧ ((nI b < 97) ↔ b < 97) ∧ ((122 < nI b) ↔ 122 < b) :=
  ⟨nI_eq (b := 0) (by omega) (by omega), nI_ltI (b := 97) (by omega) (by omega), nI_ltI (a := 122) (by omega) (by omega)⟩
theorem tx_loop (x : Int64) (s : Int32) (w : St) : ∀ (k n a : Nat) (f : Bool), k < n → a + k ≤ 8 →
    fX5_text_29 n x (nI a) (if f then 1 else 0) s (dI k) w = fX5_text_113 x (nI (a + (nz x k).length)) s (if f && okL (nz x k) && decide (0 < a + (nz x k).length) then 0 else 1) w := by
  intro k
  induction k with
  | zero =>
    intro n a f hn ha
    obtain ⟨n, rfl⟩ : ∃ j, n = j + 1 := ⟨n - 1, by omega⟩
    unfold fX5_text_29
    rw [if_pos (by decide)]
    have e0 : (nI a ≤ 0) ↔ a ≤ 0 := nI_leI (b := 0) (by omega) (by omega)
    cases f
    · rfl
    · rw [if_neg (by decide)]
      by_cases h : a ≤ 0
      · have q : (true && okL (nz x 0) && decide (0 < a + (nz x 0).length)) = false := by
          have : ¬ 0 < a + (nz x 0).length := by show ¬ 0 < a + 0; omega
          rw [decide_eq_false this, Bool.and_false]
        rw [if_pos (e0.mpr h), q]; rfl
      · have q : (true && okL (nz x 0) && decide (0 < a + (nz x 0).length)) = true := by
          have : 0 < a + (nz x 0).length := by show 0 < a + 0; omega
          rw [decide_eq_true this]; rfl
        rw [if_neg (fun c => h (e0.mp c)), q]; rfl
  | succ k ih =>
    intro n a f hn ha
    obtain ⟨n, rfl⟩ : ∃ j, n = j + 1 := ⟨n - 1, by omega⟩
    unfold fX5_text_29
    have hb := bt_lt x k
    obtain ⟨b0, b97, b122⟩ := byte_lt hb
    rw [dI_s k, if_neg (nI_pos (by omega)), bt_M x k (by omega)]
    simp only [lt_, b0, b97, b122]
    have st : ∀ (g : Bool) (y0 : Int32), y0 = (if g then 1 else 0) → (g = (f && (decide (bt x k = 0) || (decide (97 ≤ bt x k) && decide (bt x k ≤ 122))))) →
        fX5_text_77 (fX5_text_29 n) x (nI a) s (nI k) (nI (bt x k)) y0 w = fX5_text_113 x (nI (a + (nz x (k + 1)).length)) s (if f && okL (nz x (k + 1)) && decide (0 < a + (nz x (k + 1)).length) then 0 else 1) w := by
      intro g y0 hy hg
      subst hy
      unfold fX5_text_77 fX5_text_90
      simp only [lt_, b0]
      by_cases h0 : bt x k = 0
      · have e : nz x (k + 1) = nz x k := by unfold nz; rw [if_pos h0]; cases k <;> rfl
        rw [if_pos h0, e, Int32.add_zero, ih n a g (by omega) (by omega), hg, decide_eq_true h0, Bool.true_or, Bool.and_true]
      · have e : nz x (k + 1) = bt x k :: nz x k := by
          conv => lhs; unfold nz
          rw [if_neg h0]
        rw [if_neg h0, e, nI_1, ih n (a + 1) g (by omega) (by omega), hg, decide_eq_false h0, Bool.false_or, okL_cons, List.length_cons, Bool.and_assoc f, show a + 1 + (nz x k).length = a + ((nz x k).length + 1) by omega]
    cases f
    · rw [if_pos (by decide)]
      exact st false 0 rfl rfl
    · rw [if_neg (by decide)]
      by_cases h0 : bt x k = 0
      · rw [if_pos h0]; exact st true 1 rfl (by rw [decide_eq_true h0]; rfl)
      · rw [if_neg h0]
        by_cases h1 : bt x k < 97
        · rw [if_pos h1]; exact st false 0 rfl (by rw [decide_eq_false h0, decide_eq_false (by omega : ¬ 97 ≤ bt x k)]; rfl)
        · rw [if_neg h1]
          by_cases h2 : 122 < bt x k
          · rw [if_pos h2]; exact st false 0 rfl (by rw [decide_eq_false h0, decide_eq_false (by omega : ¬ bt x k ≤ 122), Bool.and_false]; rfl)
          · rw [if_neg h2]; exact st true 1 rfl (by rw [decide_eq_true (by omega : bt x k ≤ 122), decide_eq_true (by omega : 97 ≤ bt x k)]; simp)
theorem idx8 (p i : Nat) : (8 : Int32) * nI p + nI i = nI (8 * p + i) := by
  show nI 8 * nI p + nI i = _
  unfold nI; rw [Int32.ofNat_add, Int32.ofNat_mul]
/-- is the word the text of that term -/
theorem iw_loop (x : Int64) {v : St} {t : Nat} {cs : List Nat} (ht : t < 60) (hz : v.2.1 3 t = nI cs.length) (hl8 : cs.length ≤ 8) (hc : ∀ c ∈ cs, c < 256) (hl : ∀ i, (h : i < cs.length) → v.2.1 4 (8 * t + i) = nI (cs[i])) :
    ∀ (k n i : Nat) (f : Bool), k < n → i + k ≤ 8 → fX5_isWord_10 n (nI t) x (if f then 1 else 0) (nI i) (dI k) v = some (if f && decide (i ≤ cs.length) && decide (cs.drop i = nz x k) then 1 else 0, v) ∨ (cs.length < i ∧ f = true) := by
  intro k
  induction k with
  | zero =>
    intro n i f hn hi
    obtain ⟨n, rfl⟩ : ∃ j, n = j + 1 := ⟨n - 1, by omega⟩
    by_cases hlt : cs.length < i ∧ f = true
    · exact .inr hlt
    left
    unfold fX5_isWord_10
    rw [if_pos (by decide)]
    cases f
    · rfl
    · rw [if_neg (by decide)]
      simp (disch := omega) only [okI_t, gd_1, nc_, hz, nI_eq]
      by_cases h : i = cs.length
      · rw [if_pos h]
        have : cs.drop i = nz x 0 := by rw [h]; simp [nz]
        rw [decide_eq_true this, decide_eq_true (by omega)]; rfl
      · rw [if_neg h]
        have : ¬ cs.drop i = nz x 0 := by
          simp only [nz, List.drop_eq_nil_iff]
          intro c; exact hlt ⟨by omega, rfl⟩
        rw [decide_eq_false this, Bool.and_false]; rfl
  | succ k ih =>
    intro n i f hn hi
    obtain ⟨n, rfl⟩ : ∃ j, n = j + 1 := ⟨n - 1, by omega⟩
    by_cases hlt : cs.length < i ∧ f = true
    · exact .inr hlt
    left
    unfold fX5_isWord_10
    have hb := bt_lt x k
    obtain ⟨b0, b97, b122⟩ := byte_lt hb
    rw [dI_s k, if_neg (nI_pos (by omega)), bt_M x k (by omega)]
    simp only [lt_, b0]
    by_cases h0 : bt x k = 0
    · have e : nz x (k + 1) = nz x k := by unfold nz; rw [if_pos h0]; cases k <;> rfl
      rw [if_pos h0, e]
      rcases ih n i f (by omega) (by omega) with h | h
      · exact h
      · exact absurd h hlt
    · have e : nz x (k + 1) = bt x k :: nz x k := by
        conv => lhs; unfold nz
        rw [if_neg h0]
      rw [if_neg h0, e]
      unfold fX5_isWord_72
      simp only [lt_, nI_1]
      have no : fX5_isWord_10 n (nI t) x 0 (nI (i + 1)) (nI k + (-1)) v = some (0, v) := by
        rcases ih n (i + 1) false (by omega) (by omega) with h | h
        · exact h
        · exact absurd h.2 (by decide)
      cases f
      · rw [if_pos (by decide)]; exact no
      · rw [if_neg (by decide)]
        have hle : i ≤ cs.length := by
          rcases Nat.lt_or_ge cs.length i with g | g
          · exact absurd ⟨g, rfl⟩ hlt
          · exact g
        simp (disch := omega) only [okI_t, gd_1, nc_, hz, nI_leI, idx8]
        by_cases h1 : cs.length ≤ i
        · rw [if_pos h1, no]
          have : ¬ cs.drop i = bt x k :: nz x k := by rw [List.drop_eq_nil_of_le h1]; simp
          rw [decide_eq_false this, Bool.and_false]; rfl
        · have hci := hc (cs[i]'(by omega)) (List.getElem_mem _)
          have ed : cs.drop i = cs[i]'(by omega) :: cs.drop (i + 1) := List.drop_eq_getElem_cons (by omega)
          have q1 := hl i (by omega)
          rw [if_neg h1, q1]
          simp (disch := omega) only [nI_eq]
          by_cases h2 : cs[i]'(by omega) = bt x k
          · rw [if_pos h2]
            rcases ih n (i + 1) true (by omega) (by omega) with h | h
            · have h' : fX5_isWord_10 n (nI t) x 1 (nI (i + 1)) (nI k + (-1)) v = _ := h
              rw [h', ed, h2]
              simp [show i + 1 ≤ cs.length by omega, hle]
            · omega
          · rw [if_neg h2, no]
            have : ¬ (cs.drop i = bt x k :: nz x k) := by
              rw [ed]; intro c; exact h2 (List.cons.inj c).1
            rw [decide_eq_false this, Bool.and_false]; rfl
theorem iw_R (x : Int64) {u v : St} {t : Nat} {cs : List Nat} (ht : t < 60) (h : TxtR u v t cs) : fX5_isWord v (nI t) x = some (if cs = nz x 8 then 1 else 0, v) := by
  rcases iw_loop x ht h.2.2.2.2.2.1 h.1.2.1 (fun c hc => by have := h.1.2.2 c hc; omega) h.2.2.2.2.2.2 8 FU 0 true (by decide) (by decide) with g | g
  · unfold fX5_isWord
    have g' : fX5_isWord_10 FU (nI t) x 1 0 7 v = _ := g
    rw [g']; simp
  · omega
