/-! ===== a word's letters ===== -/
def bt (x : Int64) (k : Nat) : Nat := (x.toBitVec >>> (8 * k) &&& 255#64).toNat
theorem bt_lt (x : Int64) (k : Nat) : bt x k < 256 := by
  unfold bt
  rw [BitVec.toNat_and]
  have : (255#64).toNat = 255 := rfl
  rw [this]
  exact Nat.lt_of_le_of_lt Nat.and_le_right (by omega)
theorem bt_A (x : Int64) (k : Nat) (hk : k < 8) : (lushr_ x (nI (8 * k))) &&& 255 = lN (bt x k) := by
  have e : (lushr_ x (nI (8 * k))).toBitVec = x.toBitVec >>> (8 * k) := by
    have h8 : k = 0 ∨ k = 1 ∨ k = 2 ∨ k = 3 ∨ k = 4 ∨ k = 5 ∨ k = 6 ∨ k = 7 := by omega
    rcases h8 with h | h | h | h | h | h | h | h <;> subst h <;> rfl
  apply Int64.toBitVec_inj.mp
  rw [Int64.toBitVec_and, e]
  unfold lN bt
  apply BitVec.eq_of_toNat_eq
  show _ = ((x.toBitVec >>> (8 * k) &&& 255#64).toNat) % 2 ^ 64
  rw [Nat.mod_eq_of_lt (BitVec.isLt _)]
  rfl
theorem bt_M (x : Int64) (k : Nat) (hk : k < 8) : ((lshr_ x (8 * nI k)) &&& 255).toInt32 = nI (bt x k) := by
  have e : (lshr_ x (8 * nI k)) &&& 255 = lN (bt x k) := by
    have e : (lshr_ x (8 * nI k)).toBitVec = x.toBitVec.sshiftRight (8 * k) := by
      have h8 : k = 0 ∨ k = 1 ∨ k = 2 ∨ k = 3 ∨ k = 4 ∨ k = 5 ∨ k = 6 ∨ k = 7 := by omega
      rcases h8 with h | h | h | h | h | h | h | h <;> subst h <;> rfl
    apply Int64.toBitVec_inj.mp
    rw [Int64.toBitVec_and, e]
    have e2 : x.toBitVec.sshiftRight (8 * k) &&& (255 : Int64).toBitVec = x.toBitVec >>> (8 * k) &&& 255#64 := by
      apply BitVec.eq_of_getLsbD_eq
      intro i hi
      rw [BitVec.getLsbD_and, BitVec.getLsbD_and, BitVec.getLsbD_sshiftRight, BitVec.getLsbD_ushiftRight]
      by_cases h9 : i < 8
      · rw [if_pos (by omega), decide_eq_false (by omega)]; rfl
      · have : (255#64).getLsbD i = false := by
          rw [BitVec.getLsbD_ofNat]
          have : Nat.testBit 255 i = false := Nat.testBit_lt_two_pow (Nat.lt_of_lt_of_le (by omega : 255 < 2 ^ 8) (Nat.pow_le_pow_right (by omega) (by omega)))
          rw [this, Bool.and_false]
        show (_ && (255#64).getLsbD i) = _
        rw [this, Bool.and_false, Bool.and_false]
    rw [e2]
    unfold lN bt
    apply BitVec.eq_of_toNat_eq
    show _ = ((x.toBitVec >>> (8 * k) &&& 255#64).toNat) % 2 ^ 64
    rw [Nat.mod_eq_of_lt (BitVec.isLt _)]
  rw [e, lN_i]
/-- the letters of a word: the bytes below k that are not 0, the highest first -/
def nz (x : Int64) : Nat → List Nat
  | 0 => []
  | k + 1 => if bt x k = 0 then nz x k else bt x k :: nz x k
theorem nz_len (x : Int64) : ∀ k, (nz x k).length ≤ k
  | 0 => Nat.le_refl 0
  | k + 1 => by
    unfold nz
    have := nz_len x k
    split
    · omega
    · rw [List.length_cons]; omega
/-- small letters all of them -/
def okL (cs : List Nat) : Bool := cs.all (fun c => decide (97 ≤ c) && decide (c ≤ 122))
theorem okL_mem {cs : List Nat} (h : okL cs = true) : ∀ c ∈ cs, 97 ≤ c ∧ c ≤ 122 := by
  intro c hc
  have := List.all_eq_true.mp h c hc
  simpa using this
theorem wdk_nil : ∀ k, wdk k [] = 0
  | 0 => rfl
  | _ + 1 => rfl
theorem wdk_app : ∀ (k : Nat) (a b : List Nat), a.length ≤ k → wdk k (a ++ b) = wdk k a + wdk (k - a.length) b
  | k, [], b, _ => by rw [wdk_nil]; simp
  | 0, c :: a, b, h => absurd h (by simp)
  | k + 1, c :: a, b, h => by
    have := wdk_app k a b (by simp at h; omega)
    simp only [List.cons_append, wdk, this, List.length_cons, Nat.add_sub_add_right]
    omega
theorem wdk_dvd : ∀ (k : Nat) (a : List Nat), a.length ≤ k → ∃ q, wdk k a = 256 ^ (k - a.length) * q
  | k, [], _ => ⟨0, by rw [wdk_nil]; omega⟩
  | 0, c :: a, h => absurd h (by simp)
  | k + 1, c :: a, h => by
    have hl : a.length ≤ k := by simp at h; omega
    obtain ⟨q, hq⟩ := wdk_dvd k a hl
    refine ⟨c * 256 ^ a.length + q, ?_⟩
    simp only [wdk, hq, List.length_cons, Nat.add_sub_add_right]
    rw [Nat.mul_add, Nat.mul_left_comm, ← Nat.pow_add, Nat.sub_add_cancel hl]
theorem wdk_inj : ∀ (k : Nat) (a b : List Nat), a.length ≤ k → b.length ≤ k → (∀ c ∈ a, 1 ≤ c ∧ c < 256) → (∀ c ∈ b, 1 ≤ c ∧ c < 256) → wdk k a = wdk k b → a = b
  | 0, a, b, ha, hb, _, _, _ => by
    rw [List.length_eq_zero_iff.mp (by omega : a.length = 0), List.length_eq_zero_iff.mp (by omega : b.length = 0)]
  | k + 1, [], [], _, _, _, _, _ => rfl
  | k + 1, [], d :: b, _, _, _, hb, h => by
    simp only [wdk] at h
    have h1 := hb d List.mem_cons_self
    have h2 : 1 * 256 ^ k ≤ d * 256 ^ k := Nat.mul_le_mul_right _ (by omega)
    have h3 : 0 < 256 ^ k := Nat.pow_pos (by omega)
    omega
  | k + 1, c :: a, [], _, _, ha, _, h => by
    simp only [wdk] at h
    have h1 := ha c List.mem_cons_self
    have h2 : 1 * 256 ^ k ≤ c * 256 ^ k := Nat.mul_le_mul_right _ (by omega)
    have h3 : 0 < 256 ^ k := Nat.pow_pos (by omega)
    omega
  | k + 1, c :: a, d :: b, la, lb, ha, hb, h => by
    simp only [wdk] at h
    have m1 := wdk_lt k a (fun x hx => (ha x (List.mem_cons_of_mem _ hx)).2)
    have m2 := wdk_lt k b (fun x hx => (hb x (List.mem_cons_of_mem _ hx)).2)
    have e : c = d := by
      rcases Nat.lt_trichotomy c d with g | g | g
      · have k3 : (c + 1) * 256 ^ k ≤ d * 256 ^ k := Nat.mul_le_mul_right _ (by omega)
        rw [Nat.add_mul] at k3; omega
      · exact g
      · have k3 : (d + 1) * 256 ^ k ≤ c * 256 ^ k := Nat.mul_le_mul_right _ (by omega)
        rw [Nat.add_mul] at k3; omega
    subst e
    rw [wdk_inj k a b (by simp at la; omega) (by simp at lb; omega) (fun x hx => ha x (List.mem_cons_of_mem _ hx)) (fun x hx => hb x (List.mem_cons_of_mem _ hx)) (by omega)]
theorem or_word {W c q : Nat} (hq : q < 8) (hc : c < 256) (hW : ∃ j, W = 256 ^ (q + 1) * j) (hb : W + c * 256 ^ q < 2 ^ 64) : lN W ||| (lshl_ (lN c) (nI (8 * q))) = lN (W + c * 256 ^ q) := by
  obtain ⟨j, hj⟩ := hW
  have hp : 256 ^ q = 2 ^ (8 * q) := by rw [show 256 = 2 ^ 8 from rfl, ← Nat.pow_mul]
  have hp1 : 256 ^ (q + 1) = 2 ^ (8 * q + 8) := by rw [show 256 = 2 ^ 8 from rfl, ← Nat.pow_mul]; rfl
  have e : (lshl_ (lN c) (nI (8 * q))).toBitVec = (BitVec.ofNat 64 c) <<< (8 * q) := by
    have h8 : q = 0 ∨ q = 1 ∨ q = 2 ∨ q = 3 ∨ q = 4 ∨ q = 5 ∨ q = 6 ∨ q = 7 := by omega
    rcases h8 with h | h | h | h | h | h | h | h <;> subst h <;> rfl
  have hcq : c * 256 ^ q < 2 ^ (8 * q + 8) := by
    rw [← hp1, Nat.pow_succ, Nat.mul_comm]
    exact Nat.mul_lt_mul_of_pos_left hc (Nat.pow_pos (by omega))
  apply Int64.toBitVec_inj.mp
  rw [Int64.toBitVec_or, e]
  apply BitVec.eq_of_toNat_eq
  rw [BitVec.toNat_or, BitVec.toNat_shiftLeft]
  show (W % 2 ^ 64) ||| ((c % 2 ^ 64) <<< (8 * q)) % 2 ^ 64 = (W + c * 256 ^ q) % 2 ^ 64
  rw [Nat.shiftLeft_eq, ← hp, Nat.mod_eq_of_lt (by omega : W < 2 ^ 64), Nat.mod_eq_of_lt (by omega : c < 2 ^ 64), Nat.mod_eq_of_lt (by omega : c * 256 ^ q < 2 ^ 64), Nat.mod_eq_of_lt hb, hj, hp1]
  exact (Nat.two_pow_add_eq_or_of_lt hcq j).symm
/-! counters that go down -/
abbrev shI (k : Nat) : Int32 := nI (8 * k) + (-8)
abbrev dI (k : Nat) : Int32 := nI k + (-1)
theorem shI_s (k : Nat) : shI (k + 1) = nI (8 * k) := by
  show nI (8 * k + 8) + (-8) = nI (8 * k)
  rw [← nI_add, Int32.add_assoc]
  show nI (8 * k) + 0 = _
  rw [Int32.add_zero]
theorem dI_s (k : Nat) : dI (k + 1) = nI k := by
  show nI (k + 1) + (-1) = nI k
  rw [← nI_add, Int32.add_assoc]
  show nI k + 0 = _
  rw [Int32.add_zero]
