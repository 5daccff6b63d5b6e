/-! Pure: the leaves of emit and feed, in class and reference. No machine word. -/
def bI (P : Prop) [Decidable P] : Int32 := if P then 1 else 0
theorem bI_t {P : Prop} [Decidable P] (h : P) : bI P = 1 := by unfold bI; exact if_pos h
theorem bI_f {P : Prop} [Decidable P] (h : ¬ P) : bI P = 0 := by unfold bI; exact if_neg h
theorem bI_or (P : Prop) [Decidable P] : bI P = 0 ∨ bI P = 1 := by
  by_cases h : P
  · exact Or.inr (bI_t h)
  · exact Or.inl (bI_f h)
theorem v_isRegister (a : Int32) (M : Mem) : s_PR_isRegister a M = some (bI (0 ≤ a ∧ a < 4), M) := by
  unfold s_PR_isRegister
  by_cases h1 : a < 0
  · rw [if_pos h1, bI_f (fun h => Int32.not_le.mpr h1 h.1)]
  · rw [if_neg h1]
    by_cases h2 : (4 : Int32) ≤ a
    · rw [if_pos h2, bI_f (fun h => Int32.not_lt.mpr h2 h.2)]
    · rw [if_neg h2, bI_t ⟨Int32.not_lt.mp h1, Int32.not_le.mp h2⟩]
theorem v_isPlace (a : Int32) (M : Mem) : s_PR_isPlace a M = some (bI (0 ≤ a ∧ a < 24), M) := by
  unfold s_PR_isPlace
  by_cases h1 : a < 0
  · rw [if_pos h1, bI_f (fun h => Int32.not_le.mpr h1 h.1)]
  · rw [if_neg h1]
    by_cases h2 : (24 : Int32) ≤ a
    · rw [if_pos h2, bI_f (fun h => Int32.not_lt.mpr h2 h.2)]
    · rw [if_neg h2, bI_t ⟨Int32.not_lt.mp h1, Int32.not_le.mp h2⟩]
theorem v_within (a n : Int32) (M : Mem) : s_MO_within a n M = some (bI (0 ≤ a ∧ a < n), M) := by
  unfold s_MO_within
  by_cases h1 : a < 0
  · rw [if_pos h1, bI_f (fun h => Int32.not_le.mpr h1 h.1)]
  · rw [if_neg h1]
    by_cases h2 : n ≤ a
    · rw [if_pos h2, bI_f (fun h => Int32.not_lt.mpr h2 h.2)]
    · rw [if_neg h2, bI_t ⟨Int32.not_lt.mp h1, Int32.not_le.mp h2⟩]
theorem cb_t {α : Type} {v : Int32} {k : Option α} (h : v = 0 ∨ v = 1) : cb v k = k := by unfold cb; exact if_pos h
/-- what a second number must be, by the op: 0, a register, a place, or anything -/
def fitv (op b : Int32) : Int32 := if op = 0 ∨ op = 10 ∨ op = 15 then bI (b = 0) else if op = 1 ∨ op = 12 then 1 else if op = 6 ∨ op = 7 ∨ op = 8 ∨ op = 9 then bI (0 ≤ b ∧ b < 24) else bI (0 ≤ b ∧ b < 4)
theorem fitv_or (op b : Int32) : fitv op b = 0 ∨ fitv op b = 1 := by
  unfold fitv
  split
  · exact bI_or _
  · split
    · exact Or.inr rfl
    · split
      · exact bI_or _
      · exact bI_or _
theorem op_cases {op : Int32} (h : 0 ≤ op ∧ op < 16) : op = 0 ∨ op = 1 ∨ op = 2 ∨ op = 3 ∨ op = 4 ∨ op = 5 ∨ op = 6 ∨ op = 7 ∨ op = 8 ∨ op = 9 ∨ op = 10 ∨ op = 11 ∨ op = 12 ∨ op = 13 ∨ op = 14 ∨ op = 15 := by
  obtain ⟨j, hj, rfl⟩ := nI_of2 (M := 15) (n := 15) (by decide) (Int32.not_lt.mpr h.1) (by
    have h1 : op.toInt < 16 := Int32.lt_iff_toInt_lt.mp h.2
    exact Int32.le_iff_toInt_le.mpr (by show op.toInt ≤ 15; omega))
  rcases (show j = 0 ∨ j = 1 ∨ j = 2 ∨ j = 3 ∨ j = 4 ∨ j = 5 ∨ j = 6 ∨ j = 7 ∨ j = 8 ∨ j = 9 ∨ j = 10 ∨ j = 11 ∨ j = 12 ∨ j = 13 ∨ j = 14 ∨ j = 15 by omega) with rfl | rfl | rfl | rfl | rfl | rfl | rfl | rfl | rfl | rfl | rfl | rfl | rfl | rfl | rfl | rfl <;> decide
theorem v_fits98 (b : Int32) (M : Mem) : j_PR_fits_98 b M = some (bI (b = 0), M) := by
  unfold j_PR_fits_98
  by_cases h : b = 0
  · rw [if_pos h, bI_t h]
  · rw [if_neg h, bI_f h]
theorem v_fits87 (b : Int32) (M : Mem) : j_PR_fits_87 b M = some (bI (0 ≤ b ∧ b < 24), M) := by
  unfold j_PR_fits_87
  rw [v_isPlace]
  show cb _ _ = _
  rw [cb_t (bI_or _)]
theorem v_fits80 (b : Int32) (M : Mem) : j_PR_fits_80 b M = some (bI (0 ≤ b ∧ b < 4), M) := by
  unfold j_PR_fits_80
  rw [v_isRegister]
  show cb _ _ = _
  rw [cb_t (bI_or _)]
theorem v_mfits48 (b : Int32) (M : Mem) : j_MO_fits_48 b M = some (bI (b = 0), M) := by
  unfold j_MO_fits_48
  by_cases h : b = 0
  · rw [if_pos h, bI_t h]
  · rw [if_neg h, bI_f h]
theorem v_PR_fits {op : Int32} (h : 0 ≤ op ∧ op < 16) (b : Int32) (M : Mem) : s_PR_fits op b M = some (fitv op b, M) := by
  rcases op_cases h with rfl | rfl | rfl | rfl | rfl | rfl | rfl | rfl | rfl | rfl | rfl | rfl | rfl | rfl | rfl | rfl <;> simp [s_PR_fits, fitv, v_fits98, v_fits87, v_fits80]
theorem v_PR_fitsN {op : Int32} (h : ¬ (0 ≤ op ∧ op < 16)) (b : Int32) (M : Mem) : s_PR_fits op b M = some (0, M) := by
  have hn : ∀ k : Int32, (0 ≤ k ∧ k < 16) → ¬ op = k := fun k hk e => h (e ▸ hk)
  unfold s_PR_fits
  rw [if_neg (hn 0 (by decide)), if_neg (hn 1 (by decide)), if_neg (hn 2 (by decide)), if_neg (hn 3 (by decide)), if_neg (hn 4 (by decide)), if_neg (hn 5 (by decide)), if_neg (hn 6 (by decide)), if_neg (hn 7 (by decide)), if_neg (hn 8 (by decide)), if_neg (hn 9 (by decide)), if_neg (hn 10 (by decide)), if_neg (hn 11 (by decide)), if_neg (hn 12 (by decide)), if_neg (hn 13 (by decide)), if_neg (hn 14 (by decide)), if_neg (hn 15 (by decide))]
theorem v_MO_fits {op : Int32} (h : 0 ≤ op ∧ op < 16) (b : Int32) (M : Mem) : s_MO_fits op b M = some (fitv op b, M) := by
  have h1 : ∀ (n : Int32), (bi (s_MO_within b n M) (fun r M1 => cb r (some (r, M1)))) = some (bI (0 ≤ b ∧ b < n), M) := fun n => by
    rw [v_within]
    show cb _ _ = _
    rw [cb_t (bI_or _)]
  rcases op_cases h with rfl | rfl | rfl | rfl | rfl | rfl | rfl | rfl | rfl | rfl | rfl | rfl | rfl | rfl | rfl | rfl <;> simp [s_MO_fits, j_MO_fits_19, fitv, v_mfits48, h1]
