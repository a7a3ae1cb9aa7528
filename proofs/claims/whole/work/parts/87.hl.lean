abbrev LO : Type := Nat → Int64
def bndH {β : Type} (o : Option (Int32 × (St × LO))) (k : Int32 → (St × LO) → Option β) : Option β := match o with
  | none => none
  | some q => k q.1 q.2
theorem bndH_some {β : Type} {o : Option (Int32 × (St × LO))} {k : Int32 → (St × LO) → Option β} {x : β} (h : bndH o k = some x) : ∃ (r : Int32) (z : St × LO), o = some (r, z) ∧ k r z = some x := by
  cases o with
  | none => cases h
  | some q => exact ⟨q.1, q.2, rfl, h⟩
theorem bndH_t {β : Type} {o : Option (Int32 × (St × LO))} {k : Int32 → (St × LO) → Option β} {r : Int32} {z : St × LO} (h : o = some (r, z)) : bndH o k = k r z := by rw [h]; rfl
def hlp {α : Type} (cd : Nat → Option Int32) (cv : α → Int64) (res : Option ((Nat ⊕ α) × St)) (o : LO) : Option (Int32 × (St × LO)) := match res with
  | none => none
  | some (.inl k, u) => (cd k).map (fun c => (c, (u, o)))
  | some (.inr r, u) => some (0, (u, vp_updL o (0 : Int32).toNatClampNeg (cv r)))
def cd_1 (k : Nat) : Option Int32 := if k = 1 then some 1 else none
def cd_3 (k : Nat) : Option Int32 := if k = 3 then some 1 else none
def cd_12 (k : Nat) : Option Int32 := if k = 1 then some 1 else if k = 2 then some 2 else none
def cd_31 (k : Nat) : Option Int32 := if k = 3 then some 1 else if k = 1 then some 2 else none
def hL_number (z : St × LO) (a1 : Int32) (a2 : Int32) : Option (Int32 × (St × LO)) := hlp cd_12 (fun r : Int32 => r.toInt64) (fX4_number z.1 a1 a2) z.2
theorem kk_L_number (l : Launch) (ad : Nat → Nat) (aO : Nat) (ck : Nat → ClassId) (D : va_G) (tt : Nat) (hst : l.stackTraces = false) {z : St × LO} {a1 : Int32} {a2 : Int32} {k : Int32} {z' : St × LO} (hf : hL_number z a1 a2 = some (k, z')) : MH l yL_number wsL_number rmL_number (wApp (wA ad ck) (wO aO ck)) ck D tt [.ref (ad 0), .int a1, .int a2, .ref aO] z k z' := by
  obtain ⟨u, o⟩ := z
  have hf : hlp cd_12 (fun r : Int32 => r.toInt64) (fX4_number u a1 a2) o = some (k, z') := hf
  rcases hres : fX4_number u a1 a2 with _ | ⟨k1 | r, u1⟩
  · rw [hres] at hf; cases hf
  · rw [hres] at hf
    by_cases h1 : k1 = 1
    · subst h1
      have hf : some ((1 : Int32), (u1, o)) = some (k, z') := hf
      cases hf
      exact t_L_number_1 l ad aO ck D tt hst hres
    by_cases h2 : k1 = 2
    · subst h2
      have hf : some ((2 : Int32), (u1, o)) = some (k, z') := hf
      cases hf
      exact t_L_number_2 l ad aO ck D tt hst hres
    simp [hlp, cd_12, h1, h2] at hf
  · rw [hres] at hf
    cases hf
    exact k_L_number l ad aO ck D tt hst hres
def hL_text (z : St × LO) (a1 : Int64) : Option (Int32 × (St × LO)) := hlp cd_12 (fun r : Int32 => r.toInt64) (fX4_text z.1 a1) z.2
theorem kk_L_text (l : Launch) (ad : Nat → Nat) (aO : Nat) (ck : Nat → ClassId) (D : va_G) (tt : Nat) (hst : l.stackTraces = false) {z : St × LO} {a1 : Int64} {k : Int32} {z' : St × LO} (hf : hL_text z a1 = some (k, z')) : MH l yL_text wsL_text rmL_text (wApp (wA ad ck) (wO aO ck)) ck D tt [.ref (ad 0), .long a1, .ref aO] z k z' := by
  obtain ⟨u, o⟩ := z
  have hf : hlp cd_12 (fun r : Int32 => r.toInt64) (fX4_text u a1) o = some (k, z') := hf
  rcases hres : fX4_text u a1 with _ | ⟨k1 | r, u1⟩
  · rw [hres] at hf; cases hf
  · rw [hres] at hf
    by_cases h1 : k1 = 1
    · subst h1
      have hf : some ((1 : Int32), (u1, o)) = some (k, z') := hf
      cases hf
      exact t_L_text_1 l ad aO ck D tt hst hres
    by_cases h2 : k1 = 2
    · subst h2
      have hf : some ((2 : Int32), (u1, o)) = some (k, z') := hf
      cases hf
      exact t_L_text_2 l ad aO ck D tt hst hres
    simp [hlp, cd_12, h1, h2] at hf
  · rw [hres] at hf
    cases hf
    exact k_L_text l ad aO ck D tt hst hres
def hL_row (z : St × LO) (a1 : Int32) (a2 : Int32) (a3 : Int32) : Option (Int32 × (St × LO)) := hlp cd_12 (fun r : Int32 => r.toInt64) (fX4_row z.1 a1 a2 a3) z.2
theorem kk_L_row (l : Launch) (ad : Nat → Nat) (aO : Nat) (ck : Nat → ClassId) (D : va_G) (tt : Nat) (hst : l.stackTraces = false) {z : St × LO} {a1 : Int32} {a2 : Int32} {a3 : Int32} {k : Int32} {z' : St × LO} (hf : hL_row z a1 a2 a3 = some (k, z')) : MH l yL_row wsL_row rmL_row (wApp (wA ad ck) (wO aO ck)) ck D tt [.ref (ad 0), .int a1, .int a2, .int a3, .ref aO] z k z' := by
  obtain ⟨u, o⟩ := z
  have hf : hlp cd_12 (fun r : Int32 => r.toInt64) (fX4_row u a1 a2 a3) o = some (k, z') := hf
  rcases hres : fX4_row u a1 a2 a3 with _ | ⟨k1 | r, u1⟩
  · rw [hres] at hf; cases hf
  · rw [hres] at hf
    by_cases h1 : k1 = 1
    · subst h1
      have hf : some ((1 : Int32), (u1, o)) = some (k, z') := hf
      cases hf
      exact t_L_row_1 l ad aO ck D tt hst hres
    by_cases h2 : k1 = 2
    · subst h2
      have hf : some ((2 : Int32), (u1, o)) = some (k, z') := hf
      cases hf
      exact t_L_row_2 l ad aO ck D tt hst hres
    simp [hlp, cd_12, h1, h2] at hf
  · rw [hres] at hf
    cases hf
    exact k_L_row l ad aO ck D tt hst hres
def hL_by (z : St × LO) (a1 : Int32) : Option (Int32 × (St × LO)) := hlp cd_1 (fun r : Int32 => r.toInt64) (fX4_by z.1 a1) z.2
theorem kk_L_by (l : Launch) (ad : Nat → Nat) (aO : Nat) (ck : Nat → ClassId) (D : va_G) (tt : Nat) (hst : l.stackTraces = false) {z : St × LO} {a1 : Int32} {k : Int32} {z' : St × LO} (hf : hL_by z a1 = some (k, z')) : MH l yL_by wsL_by rmL_by (wApp (wA ad ck) (wO aO ck)) ck D tt [.ref (ad 0), .int a1, .ref aO] z k z' := by
  obtain ⟨u, o⟩ := z
  have hf : hlp cd_1 (fun r : Int32 => r.toInt64) (fX4_by u a1) o = some (k, z') := hf
  rcases hres : fX4_by u a1 with _ | ⟨k1 | r, u1⟩
  · rw [hres] at hf; cases hf
  · rw [hres] at hf
    by_cases h1 : k1 = 1
    · subst h1
      have hf : some ((1 : Int32), (u1, o)) = some (k, z') := hf
      cases hf
      exact t_L_by_1 l ad aO ck D tt hst hres
    simp [hlp, cd_1, h1] at hf
  · rw [hres] at hf
    cases hf
    exact k_L_by l ad aO ck D tt hst hres
def hL_separator (z : St × LO) (a1 : Int32) : Option (Int32 × (St × LO)) := hlp cd_1 (fun r : Int32 => r.toInt64) (fX4_separator z.1 a1) z.2
theorem kk_L_separator (l : Launch) (ad : Nat → Nat) (aO : Nat) (ck : Nat → ClassId) (D : va_G) (tt : Nat) (hst : l.stackTraces = false) {z : St × LO} {a1 : Int32} {k : Int32} {z' : St × LO} (hf : hL_separator z a1 = some (k, z')) : MH l yL_separator wsL_separator rmL_separator (wApp (wA ad ck) (wO aO ck)) ck D tt [.ref (ad 0), .int a1, .ref aO] z k z' := by
  obtain ⟨u, o⟩ := z
  have hf : hlp cd_1 (fun r : Int32 => r.toInt64) (fX4_separator u a1) o = some (k, z') := hf
  rcases hres : fX4_separator u a1 with _ | ⟨k1 | r, u1⟩
  · rw [hres] at hf; cases hf
  · rw [hres] at hf
    by_cases h1 : k1 = 1
    · subst h1
      have hf : some ((1 : Int32), (u1, o)) = some (k, z') := hf
      cases hf
      exact t_L_separator_1 l ad aO ck D tt hst hres
    simp [hlp, cd_1, h1] at hf
  · rw [hres] at hf
    cases hf
    exact k_L_separator l ad aO ck D tt hst hres
def hL_own (z : St × LO) (a1 : Int32) : Option (Int32 × (St × LO)) := hlp cd_1 (fun r : Int32 => r.toInt64) (fX4_own z.1 a1) z.2
theorem kk_L_own (l : Launch) (ad : Nat → Nat) (aO : Nat) (ck : Nat → ClassId) (D : va_G) (tt : Nat) (hst : l.stackTraces = false) {z : St × LO} {a1 : Int32} {k : Int32} {z' : St × LO} (hf : hL_own z a1 = some (k, z')) : MH l yL_own wsL_own rmL_own (wApp (wA ad ck) (wO aO ck)) ck D tt [.ref (ad 0), .int a1, .ref aO] z k z' := by
  obtain ⟨u, o⟩ := z
  have hf : hlp cd_1 (fun r : Int32 => r.toInt64) (fX4_own u a1) o = some (k, z') := hf
  rcases hres : fX4_own u a1 with _ | ⟨k1 | r, u1⟩
  · rw [hres] at hf; cases hf
  · rw [hres] at hf
    by_cases h1 : k1 = 1
    · subst h1
      have hf : some ((1 : Int32), (u1, o)) = some (k, z') := hf
      cases hf
      exact t_L_own_1 l ad aO ck D tt hst hres
    simp [hlp, cd_1, h1] at hf
  · rw [hres] at hf
    cases hf
    exact k_L_own l ad aO ck D tt hst hres
def hL_run (z : St × LO) (a1 : Int32) (a2 : Int32) : Option (Int32 × (St × LO)) := hlp cd_1 (fun r : Int32 => r.toInt64) (fX4_run z.1 a1 a2) z.2
theorem kk_L_run (l : Launch) (ad : Nat → Nat) (aO : Nat) (ck : Nat → ClassId) (D : va_G) (tt : Nat) (hst : l.stackTraces = false) {z : St × LO} {a1 : Int32} {a2 : Int32} {k : Int32} {z' : St × LO} (hf : hL_run z a1 a2 = some (k, z')) : MH l yL_run wsL_run rmL_run (wApp (wA ad ck) (wO aO ck)) ck D tt [.ref (ad 0), .int a1, .int a2, .ref aO] z k z' := by
  obtain ⟨u, o⟩ := z
  have hf : hlp cd_1 (fun r : Int32 => r.toInt64) (fX4_run u a1 a2) o = some (k, z') := hf
  rcases hres : fX4_run u a1 a2 with _ | ⟨k1 | r, u1⟩
  · rw [hres] at hf; cases hf
  · rw [hres] at hf
    by_cases h1 : k1 = 1
    · subst h1
      have hf : some ((1 : Int32), (u1, o)) = some (k, z') := hf
      cases hf
      exact t_L_run_1 l ad aO ck D tt hst hres
    simp [hlp, cd_1, h1] at hf
  · rw [hres] at hf
    cases hf
    exact k_L_run l ad aO ck D tt hst hres
def hL_key (z : St × LO) (a1 : Int32) : Option (Int32 × (St × LO)) := hlp cd_3 (fun r : Int32 => r.toInt64) (fX4_key z.1 a1) z.2
theorem kk_L_key (l : Launch) (ad : Nat → Nat) (aO : Nat) (ck : Nat → ClassId) (D : va_G) (tt : Nat) (hst : l.stackTraces = false) {z : St × LO} {a1 : Int32} {k : Int32} {z' : St × LO} (hf : hL_key z a1 = some (k, z')) : MH l yL_key wsL_key rmL_key (wApp (wA ad ck) (wO aO ck)) ck D tt [.ref (ad 0), .int a1, .ref aO] z k z' := by
  obtain ⟨u, o⟩ := z
  have hf : hlp cd_3 (fun r : Int32 => r.toInt64) (fX4_key u a1) o = some (k, z') := hf
  rcases hres : fX4_key u a1 with _ | ⟨k1 | r, u1⟩
  · rw [hres] at hf; cases hf
  · rw [hres] at hf
    by_cases h3 : k1 = 3
    · subst h3
      have hf : some ((1 : Int32), (u1, o)) = some (k, z') := hf
      cases hf
      exact t_L_key_3 l ad aO ck D tt hst hres
    simp [hlp, cd_3, h3] at hf
  · rw [hres] at hf
    cases hf
    exact k_L_key l ad aO ck D tt hst hres
def hL_rows (z : St × LO) (a1 : Int32) : Option (Int32 × (St × LO)) := hlp cd_3 (fun r : Int32 => r.toInt64) (fX4_rows z.1 a1) z.2
theorem kk_L_rows (l : Launch) (ad : Nat → Nat) (aO : Nat) (ck : Nat → ClassId) (D : va_G) (tt : Nat) (hst : l.stackTraces = false) {z : St × LO} {a1 : Int32} {k : Int32} {z' : St × LO} (hf : hL_rows z a1 = some (k, z')) : MH l yL_rows wsL_rows rmL_rows (wApp (wA ad ck) (wO aO ck)) ck D tt [.ref (ad 0), .int a1, .ref aO] z k z' := by
  obtain ⟨u, o⟩ := z
  have hf : hlp cd_3 (fun r : Int32 => r.toInt64) (fX4_rows u a1) o = some (k, z') := hf
  rcases hres : fX4_rows u a1 with _ | ⟨k1 | r, u1⟩
  · rw [hres] at hf; cases hf
  · rw [hres] at hf
    by_cases h3 : k1 = 3
    · subst h3
      have hf : some ((1 : Int32), (u1, o)) = some (k, z') := hf
      cases hf
      exact t_L_rows_3 l ad aO ck D tt hst hres
    simp [hlp, cd_3, h3] at hf
  · rw [hres] at hf
    cases hf
    exact k_L_rows l ad aO ck D tt hst hres
def hL_sort (z : St × LO) (a1 : Int32) : Option (Int32 × (St × LO)) := hlp cd_3 (fun r : Int32 => r.toInt64) (fX4_sort z.1 a1) z.2
theorem kk_L_sort (l : Launch) (ad : Nat → Nat) (aO : Nat) (ck : Nat → ClassId) (D : va_G) (tt : Nat) (hst : l.stackTraces = false) {z : St × LO} {a1 : Int32} {k : Int32} {z' : St × LO} (hf : hL_sort z a1 = some (k, z')) : MH l yL_sort wsL_sort rmL_sort (wApp (wA ad ck) (wO aO ck)) ck D tt [.ref (ad 0), .int a1, .ref aO] z k z' := by
  obtain ⟨u, o⟩ := z
  have hf : hlp cd_3 (fun r : Int32 => r.toInt64) (fX4_sort u a1) o = some (k, z') := hf
  rcases hres : fX4_sort u a1 with _ | ⟨k1 | r, u1⟩
  · rw [hres] at hf; cases hf
  · rw [hres] at hf
    by_cases h3 : k1 = 3
    · subst h3
      have hf : some ((1 : Int32), (u1, o)) = some (k, z') := hf
      cases hf
      exact t_L_sort_3 l ad aO ck D tt hst hres
    simp [hlp, cd_3, h3] at hf
  · rw [hres] at hf
    cases hf
    exact k_L_sort l ad aO ck D tt hst hres
def hL_why (z : St × LO) (a1 : Int32) : Option (Int32 × (St × LO)) := hlp cd_3 (fun r : Int32 => r.toInt64) (fX4_why z.1 a1) z.2
theorem kk_L_why (l : Launch) (ad : Nat → Nat) (aO : Nat) (ck : Nat → ClassId) (D : va_G) (tt : Nat) (hst : l.stackTraces = false) {z : St × LO} {a1 : Int32} {k : Int32} {z' : St × LO} (hf : hL_why z a1 = some (k, z')) : MH l yL_why wsL_why rmL_why (wApp (wA ad ck) (wO aO ck)) ck D tt [.ref (ad 0), .int a1, .ref aO] z k z' := by
  obtain ⟨u, o⟩ := z
  have hf : hlp cd_3 (fun r : Int32 => r.toInt64) (fX4_why u a1) o = some (k, z') := hf
  rcases hres : fX4_why u a1 with _ | ⟨k1 | r, u1⟩
  · rw [hres] at hf; cases hf
  · rw [hres] at hf
    by_cases h3 : k1 = 3
    · subst h3
      have hf : some ((1 : Int32), (u1, o)) = some (k, z') := hf
      cases hf
      exact t_L_why_3 l ad aO ck D tt hst hres
    simp [hlp, cd_3, h3] at hf
  · rw [hres] at hf
    cases hf
    exact k_L_why l ad aO ck D tt hst hres
def hL_value (z : St × LO) (a1 : Int32) (a2 : Int32) : Option (Int32 × (St × LO)) := hlp cd_31 (fun r : Int64 => r) (fX4_value z.1 a1 a2) z.2
theorem kk_L_value (l : Launch) (ad : Nat → Nat) (aO : Nat) (ck : Nat → ClassId) (D : va_G) (tt : Nat) (hst : l.stackTraces = false) {z : St × LO} {a1 : Int32} {a2 : Int32} {k : Int32} {z' : St × LO} (hf : hL_value z a1 a2 = some (k, z')) : MH l yL_value wsL_value rmL_value (wApp (wA ad ck) (wO aO ck)) ck D tt [.ref (ad 0), .int a1, .int a2, .ref aO] z k z' := by
  obtain ⟨u, o⟩ := z
  have hf : hlp cd_31 (fun r : Int64 => r) (fX4_value u a1 a2) o = some (k, z') := hf
  rcases hres : fX4_value u a1 a2 with _ | ⟨k1 | r, u1⟩
  · rw [hres] at hf; cases hf
  · rw [hres] at hf
    by_cases h3 : k1 = 3
    · subst h3
      have hf : some ((1 : Int32), (u1, o)) = some (k, z') := hf
      cases hf
      exact t_L_value_3 l ad aO ck D tt hst hres
    by_cases h1 : k1 = 1
    · subst h1
      have hf : some ((2 : Int32), (u1, o)) = some (k, z') := hf
      cases hf
      exact t_L_value_1 l ad aO ck D tt hst hres
    simp [hlp, cd_31, h3, h1] at hf
  · rw [hres] at hf
    cases hf
    exact k_L_value l ad aO ck D tt hst hres
def hL_term (z : St × LO) (a1 : Int32) : Option (Int32 × (St × LO)) := hlp cd_3 (fun r : Int32 => r.toInt64) (fX4_term z.1 a1) z.2
theorem kk_L_term (l : Launch) (ad : Nat → Nat) (aO : Nat) (ck : Nat → ClassId) (D : va_G) (tt : Nat) (hst : l.stackTraces = false) {z : St × LO} {a1 : Int32} {k : Int32} {z' : St × LO} (hf : hL_term z a1 = some (k, z')) : MH l yL_term wsL_term rmL_term (wApp (wA ad ck) (wO aO ck)) ck D tt [.ref (ad 0), .int a1, .ref aO] z k z' := by
  obtain ⟨u, o⟩ := z
  have hf : hlp cd_3 (fun r : Int32 => r.toInt64) (fX4_term u a1) o = some (k, z') := hf
  rcases hres : fX4_term u a1 with _ | ⟨k1 | r, u1⟩
  · rw [hres] at hf; cases hf
  · rw [hres] at hf
    by_cases h3 : k1 = 3
    · subst h3
      have hf : some ((1 : Int32), (u1, o)) = some (k, z') := hf
      cases hf
      exact t_L_term_3 l ad aO ck D tt hst hres
    simp [hlp, cd_3, h3] at hf
  · rw [hres] at hf
    cases hf
    exact k_L_term l ad aO ck D tt hst hres
def hL_length (z : St × LO) (a1 : Int32) : Option (Int32 × (St × LO)) := hlp cd_3 (fun r : Int32 => r.toInt64) (fX4_length z.1 a1) z.2
theorem kk_L_length (l : Launch) (ad : Nat → Nat) (aO : Nat) (ck : Nat → ClassId) (D : va_G) (tt : Nat) (hst : l.stackTraces = false) {z : St × LO} {a1 : Int32} {k : Int32} {z' : St × LO} (hf : hL_length z a1 = some (k, z')) : MH l yL_length wsL_length rmL_length (wApp (wA ad ck) (wO aO ck)) ck D tt [.ref (ad 0), .int a1, .ref aO] z k z' := by
  obtain ⟨u, o⟩ := z
  have hf : hlp cd_3 (fun r : Int32 => r.toInt64) (fX4_length u a1) o = some (k, z') := hf
  rcases hres : fX4_length u a1 with _ | ⟨k1 | r, u1⟩
  · rw [hres] at hf; cases hf
  · rw [hres] at hf
    by_cases h3 : k1 = 3
    · subst h3
      have hf : some ((1 : Int32), (u1, o)) = some (k, z') := hf
      cases hf
      exact t_L_length_3 l ad aO ck D tt hst hres
    simp [hlp, cd_3, h3] at hf
  · rw [hres] at hf
    cases hf
    exact k_L_length l ad aO ck D tt hst hres
def hL_charAt (z : St × LO) (a1 : Int32) (a2 : Int32) : Option (Int32 × (St × LO)) := hlp cd_3 (fun r : Int32 => r.toInt64) (fX4_charAt z.1 a1 a2) z.2
theorem kk_L_charAt (l : Launch) (ad : Nat → Nat) (aO : Nat) (ck : Nat → ClassId) (D : va_G) (tt : Nat) (hst : l.stackTraces = false) {z : St × LO} {a1 : Int32} {a2 : Int32} {k : Int32} {z' : St × LO} (hf : hL_charAt z a1 a2 = some (k, z')) : MH l yL_charAt wsL_charAt rmL_charAt (wApp (wA ad ck) (wO aO ck)) ck D tt [.ref (ad 0), .int a1, .int a2, .ref aO] z k z' := by
  obtain ⟨u, o⟩ := z
  have hf : hlp cd_3 (fun r : Int32 => r.toInt64) (fX4_charAt u a1 a2) o = some (k, z') := hf
  rcases hres : fX4_charAt u a1 a2 with _ | ⟨k1 | r, u1⟩
  · rw [hres] at hf; cases hf
  · rw [hres] at hf
    by_cases h3 : k1 = 3
    · subst h3
      have hf : some ((1 : Int32), (u1, o)) = some (k, z') := hf
      cases hf
      exact t_L_charAt_3 l ad aO ck D tt hst hres
    simp [hlp, cd_3, h3] at hf
  · rw [hres] at hf
    cases hf
    exact k_L_charAt l ad aO ck D tt hst hres
def hL_having (z : St × LO) (a1 : Int32) (a2 : Int32) (a3 : Int64) (a5 : Int64) : Option (Int32 × (St × LO)) := hlp cd_31 (fun r : Int32 => if r = 0 then 0 else 1) (fX4_having z.1 a1 a2 a3 a5) z.2
theorem kk_L_having (l : Launch) (ad : Nat → Nat) (aO : Nat) (ck : Nat → ClassId) (D : va_G) (tt : Nat) (hst : l.stackTraces = false) {z : St × LO} {a1 : Int32} {a2 : Int32} {a3 : Int64} {a5 : Int64} {k : Int32} {z' : St × LO} (hf : hL_having z a1 a2 a3 a5 = some (k, z')) : MH l yL_having wsL_having rmL_having (wApp (wA ad ck) (wO aO ck)) ck D tt [.ref (ad 0), .int a1, .int a2, .long a3, .long a5, .ref aO] z k z' := by
  obtain ⟨u, o⟩ := z
  have hf : hlp cd_31 (fun r : Int32 => if r = 0 then 0 else 1) (fX4_having u a1 a2 a3 a5) o = some (k, z') := hf
  rcases hres : fX4_having u a1 a2 a3 a5 with _ | ⟨k1 | r, u1⟩
  · rw [hres] at hf; cases hf
  · rw [hres] at hf
    by_cases h3 : k1 = 3
    · subst h3
      have hf : some ((1 : Int32), (u1, o)) = some (k, z') := hf
      cases hf
      exact t_L_having_3 l ad aO ck D tt hst hres
    by_cases h1 : k1 = 1
    · subst h1
      have hf : some ((2 : Int32), (u1, o)) = some (k, z') := hf
      cases hf
      exact t_L_having_1 l ad aO ck D tt hst hres
    simp [hlp, cd_31, h3, h1] at hf
  · rw [hres] at hf
    cases hf
    exact k_L_having l ad aO ck D tt hst hres
def hL_told (z : St × LO) (a1 : Int32) : Option (Int32 × (St × LO)) := hlp cd_1 (fun r : Int32 => r.toInt64) (fX4_told z.1 a1) z.2
theorem kk_L_told (l : Launch) (ad : Nat → Nat) (aO : Nat) (ck : Nat → ClassId) (D : va_G) (tt : Nat) (hst : l.stackTraces = false) {z : St × LO} {a1 : Int32} {k : Int32} {z' : St × LO} (hf : hL_told z a1 = some (k, z')) : MH l yL_told wsL_told rmL_told (wApp (wA ad ck) (wO aO ck)) ck D tt [.ref (ad 0), .int a1, .ref aO] z k z' := by
  obtain ⟨u, o⟩ := z
  have hf : hlp cd_1 (fun r : Int32 => r.toInt64) (fX4_told u a1) o = some (k, z') := hf
  rcases hres : fX4_told u a1 with _ | ⟨k1 | r, u1⟩
  · rw [hres] at hf; cases hf
  · rw [hres] at hf
    by_cases h1 : k1 = 1
    · subst h1
      have hf : some ((1 : Int32), (u1, o)) = some (k, z') := hf
      cases hf
      exact t_L_told_1 l ad aO ck D tt hst hres
    simp [hlp, cd_1, h1] at hf
  · rw [hres] at hf
    cases hf
    exact k_L_told l ad aO ck D tt hst hres
