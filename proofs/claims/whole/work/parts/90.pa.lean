/-! ===== numbers ===== -/
theorem nc_ {n : Nat} (h : n < 2 ^ 31) : (nI n).toNatClampNeg = n := nI_clamp h
theorem FU_ : FU = 100000 := rfl
theorem lN_toInt63 {n : Nat} (h : n < 2 ^ 63) : (lN n).toInt = (n : Int) := by
  unfold lN
  rw [Int64.toInt_ofNat']
  have e : Int64.size = 2 ^ 64 := rfl
  exact Int.bmod_eq_of_le (by omega) (by omega)
theorem lN_le63 {a b : Nat} (ha : a < 2 ^ 63) (hb : b < 2 ^ 63) : lN a ≤ lN b ↔ a ≤ b := by
  rw [Int64.le_iff_toInt_le, lN_toInt63 ha, lN_toInt63 hb]; omega
theorem lN_eq63 {a b : Nat} (ha : a < 2 ^ 63) (hb : b < 2 ^ 63) : lN a = lN b ↔ a = b := by
  rw [← Int64.toInt_inj, lN_toInt63 ha, lN_toInt63 hb]; omega
/-- a state that differs from another in some fields alone -/
def Frm (S A J : List Nat) (u u' : St) : Prop := (∀ k, k ∉ S → u'.1 k = u.1 k) ∧ (∀ a, a ∉ A → u'.2.1 a = u.2.1 a) ∧ (∀ a, a ∉ J → u'.2.2 a = u.2.2 a)
theorem Frm.rfl' {S A J : List Nat} {u : St} : Frm S A J u u := ⟨fun _ _ => rfl, fun _ _ => rfl, fun _ _ => rfl⟩
theorem Frm.trans {S A J : List Nat} {u v w : St} (h : Frm S A J u v) (k : Frm S A J v w) : Frm S A J u w := ⟨fun i hi => (k.1 i hi).trans (h.1 i hi), fun i hi => (k.2.1 i hi).trans (h.2.1 i hi), fun i hi => (k.2.2 i hi).trans (h.2.2 i hi)⟩
theorem Frm.mono {S A J S' A' J' : List Nat} {u v : St} (h : Frm S A J u v) (hS : ∀ x ∈ S, x ∈ S') (hA : ∀ x ∈ A, x ∈ A') (hJ : ∀ x ∈ J, x ∈ J') : Frm S' A' J' u v := ⟨fun i hi => h.1 i (fun c => hi (hS i c)), fun i hi => h.2.1 i (fun c => hi (hA i c)), fun i hi => h.2.2 i (fun c => hi (hJ i c))⟩
theorem Frm.sS {S A J : List Nat} {u v : St} (h : Frm S A J u v) {k : Nat} {x : Int32} (hk : k ∈ S) : Frm S A J u (sS v k x) := ⟨fun i hi => (pk_un (f := v.1) (x := x) (fun (e : i = k) => hi (by rw [e]; exact hk))).trans (h.1 i hi), h.2.1, h.2.2⟩
theorem Frm.sI {S A J : List Nat} {u v : St} (h : Frm S A J u v) {a k : Nat} {x : Int32} (hk : a ∈ A) : Frm S A J u (sI v a k x) := ⟨h.1, fun i hi => (if_neg (fun (e : i = a) => hi (by rw [e]; exact hk))).trans (h.2.1 i hi), h.2.2⟩
theorem Frm.sJ {S A J : List Nat} {u v : St} (h : Frm S A J u v) {a k : Nat} {x : Int64} (hk : a ∈ J) : Frm S A J u (sJ v a k x) := ⟨h.1, h.2.1, fun i hi => (if_neg (fun (e : i = a) => hi (by rw [e]; exact hk))).trans (h.2.2 i hi)⟩
/-- what the two comparisons have in common: the sign -/
def SG (c r : Int32) : Prop := (c = -1 ∧ r < 0 ∧ -200 ≤ r) ∨ (c = 0 ∧ r = 0) ∨ (c = 1 ∧ 0 < r ∧ r ≤ 200)
theorem SG.i {c r : Int32} (h : SG c r) : (c.toInt = -1 ∧ r.toInt < 0 ∧ -200 ≤ r.toInt) ∨ (c.toInt = 0 ∧ r.toInt = 0) ∨ (c.toInt = 1 ∧ 0 < r.toInt ∧ r.toInt ≤ 200) := by
  rcases h with ⟨h1, h2, h3⟩ | ⟨h1, h2⟩ | ⟨h1, h2, h3⟩
  · refine .inl ⟨by rw [h1]; rfl, ?_, ?_⟩
    · exact Int32.lt_iff_toInt_lt.mp h2
    · exact Int32.le_iff_toInt_le.mp h3
  · exact .inr (.inl ⟨by rw [h1]; rfl, by rw [h2]; rfl⟩)
  · refine .inr (.inr ⟨by rw [h1]; rfl, ?_, ?_⟩)
    · exact Int32.lt_iff_toInt_lt.mp h2
    · exact Int32.le_iff_toInt_le.mp h3
theorem SG.eq0 {c r : Int32} (h : SG c r) : (c = 0 ↔ r = 0) := by
  have := h.i
  rw [← Int32.toInt_inj, ← Int32.toInt_inj (x := r)]
  show c.toInt = 0 ↔ r.toInt = 0
  omega
theorem SG.lt0 {c r : Int32} (h : SG c r) : (c < 0 ↔ r < 0) := by
  have := h.i
  rw [Int32.lt_iff_toInt_lt, Int32.lt_iff_toInt_lt]
  show c.toInt < 0 ↔ r.toInt < 0
  omega
theorem SG.up {c r : Int32} (h : SG c r) : (c ≤ 0 ↔ r * 1 ≤ 0) := by
  have := h.i
  rw [Int32.mul_one, Int32.le_iff_toInt_le, Int32.le_iff_toInt_le]
  show c.toInt ≤ 0 ↔ r.toInt ≤ 0
  omega
theorem SG.dn {c r : Int32} (h : SG c r) : (0 ≤ c ↔ r * (-1) ≤ 0) := by
  have h9 := h.i
  rw [Int32.le_iff_toInt_le, Int32.le_iff_toInt_le, Int32.toInt_mul]
  show 0 ≤ c.toInt ↔ (r.toInt * (-1)).bmod (2 ^ 32) ≤ 0
  rw [Int.bmod_eq_of_le (by omega) (by omega)]
  omega
theorem nI_sub_toInt {a b : Nat} (ha : a < 2 ^ 30) (hb : b < 2 ^ 30) : (nI a - nI b).toInt = (a : Int) - b := by
  rw [Int32.toInt_sub, nI_toInt (by omega), nI_toInt (by omega)]
  exact Int.bmod_eq_of_le (by omega) (by omega)
theorem gd_1 {α : Type} {k : Option α} : gd true k = k := rfl
def cmpN (x y : Nat) : Int32 := if x < y then -1 else if x = y then 0 else 1
theorem cmpN_lt {x y : Nat} (h : x < y) : cmpN x y = -1 := if_pos h
theorem cmpN_eq {x y : Nat} (h : x = y) : cmpN x y = 0 := by unfold cmpN; rw [if_neg (by omega), if_pos h]
theorem cmpN_gt {x y : Nat} (h : y < x) : cmpN x y = 1 := by unfold cmpN; rw [if_neg (by omega), if_neg (by omega)]
theorem SG_sub {a b : Nat} (ha : a ≤ 200) (hb : b ≤ 200) : SG (cmpN a b) (nI a - nI b) := by
  unfold cmpN
  have e := nI_sub_toInt (a := a) (b := b) (by omega) (by omega)
  by_cases h1 : a < b
  · rw [if_pos h1]
    refine .inl ⟨rfl, ?_, ?_⟩
    · rw [Int32.lt_iff_toInt_lt, e]; show _ < (0 : Int); omega
    · rw [Int32.le_iff_toInt_le, e]; show (-200 : Int) ≤ _; omega
  · rw [if_neg h1]
    by_cases h2 : a = b
    · rw [if_pos h2]; subst h2
      exact .inr (.inl ⟨rfl, by rw [← Int32.toInt_inj, e]; show _ = (0 : Int); omega⟩)
    · rw [if_neg h2]
      refine .inr (.inr ⟨rfl, ?_, ?_⟩)
      · rw [Int32.lt_iff_toInt_lt, e]; show (0 : Int) < _; omega
      · rw [Int32.le_iff_toInt_le, e]; show _ ≤ (200 : Int); omega
