/-! Pure: Input.append, feed; state, current. -/
theorem lt_256 {b : Int32} : b < 256 ↔ ¬ (255 : Int32) < b := by
  rw [Int32.lt_iff_toInt_lt, Int32.lt_iff_toInt_lt]
  have h1 : (256 : Int32).toInt = 256 := by decide
  have h2 : (255 : Int32).toInt = 255 := by decide
  omega
def apX (M : Mem) (j n : Nat) (b : Int32) : Mem := st (st M (j + 1) n b) j 1 (nI n + 1)
theorem v_IN_append {M : Mem} {j n : Nat} (b : Int32) (hn : M j 1 = nI n) (hl : n ≤ 6) : s_IN_append j b M = if n < 6 ∧ 0 ≤ b ∧ b < 256 then some (1, apX M j n b) else some (0, M) := by
  unfold s_IN_append
  by_cases h1 : b < 0
  · rw [if_pos h1, if_neg (fun h => Int32.not_le.mpr h1 h.2.1)]
  · rw [if_neg h1]
    by_cases h2 : (255 : Int32) < b
    · rw [if_pos h2, if_neg (fun h => lt_256.mp h.2.2 h2)]
    · rw [if_neg h2]
      by_cases h3 : n < 6
      · have h4 : M j 1 < (6 : Int32) := by rw [hn]; exact nI_lt (a := n) (b := 6) h3 (by decide)
        rw [if_pos h4, if_pos ⟨h3, Int32.not_lt.mp h1, lt_256.mpr h2⟩]
        have e1 : (st M (j + 1) n b) j 1 = nI n := by rw [st_other (by omega)]; exact hn
        have hi : vp_in (nI n) 6 := vp_in_nI h3 (by decide)
        have hc : (nI n).toNatClampNeg = n := nI_clamp (by omega)
        simp only [nx, hn, hc, e1, ck_i hi]
        rfl
      · have h4 : ¬ M j 1 < (6 : Int32) := by rw [hn, show n = 6 by omega]; decide
        rw [if_neg h4, if_neg (fun h => h3 h.1)]
theorem v_EC_feed {M : Mem} {n : Nat} (b : Int32) (hn : M 52 1 = nI n) (hl : n ≤ 6) : s_EC_feed b M = if n < 6 ∧ 0 ≤ b ∧ b < 256 then some (1, apX M 52 n b) else some (0, M) := by
  unfold s_EC_feed
  rw [v_IN_append b hn hl]
  by_cases h : n < 6 ∧ 0 ≤ b ∧ b < 256
  · rw [if_pos h]; exact cb_t (Or.inr rfl)
  · rw [if_neg h]; exact cb_t (Or.inl rfl)
theorem v_MO_feed {M : Mem} {n : Nat} (b : Int32) (hn : M 26 5 = nI n) (hl : n ≤ 6) : s_MO_feed b M = if n < 6 ∧ 0 ≤ b ∧ b < 256 then some (1, st (st M 30 n b) 26 5 (nI n + 1)) else some (0, M) := by
  unfold s_MO_feed
  rw [v_within]
  show (if bI (0 ≤ b ∧ b < 256) = 0 then _ else _) = _
  by_cases h1 : 0 ≤ b ∧ b < 256
  · rw [bI_t h1, if_neg (by decide)]
    by_cases h3 : n < 6
    · have h2 : ¬ M 26 5 = (6 : Int32) := by rw [hn]; exact fun e => absurd ((nI_eq (a := n) (b := 6) (by omega) (by decide)).mp e) (by omega)
      rw [if_neg h2, if_pos ⟨h3, h1⟩]
      have e1 : (st M 30 n b) 26 5 = nI n := by rw [st_other (by decide)]; exact hn
      have hi : vp_in (nI n) 6 := vp_in_nI h3 (by decide)
      have hc : (nI n).toNatClampNeg = n := nI_clamp (by omega)
      simp only [nx, hn, hc, e1, ck_i hi]
    · have h2 : M 26 5 = (6 : Int32) := by rw [hn, show n = 6 by omega]; rfl
      rw [if_pos h2, if_neg (fun h => h3 h.1)]
  · rw [bI_f h1, if_pos rfl, if_neg (fun h => h1 h.2)]
theorem v_current {M M' : Mem} (w : Int32) (h0 : M 5 3 = M' 26 18) (h1 : M 13 0 = M' 26 40) (h2 : M 13 1 = M' 26 41) (h3 : M 13 2 = M' 26 42) : ∃ r, s_EC_current w M = some (r, M) ∧ s_MO_current w M' = some (r, M') := by
  unfold s_EC_current s_MO_current
  rw [v_within]
  by_cases e0 : M 5 3 = 0
  · exact ⟨-1, if_pos e0, if_pos (h0 ▸ e0)⟩
  · have e0' : ¬ M' 26 18 = 0 := fun h => e0 (h0.trans h)
    rw [if_neg e0, if_neg e0', bi_s]
    by_cases a0 : w = 0
    · subst a0
      exact ⟨M 13 0, rfl, by rw [h1]; rfl⟩
    · by_cases a1 : w = 1
      · subst a1
        exact ⟨M 13 1, rfl, by rw [h2]; rfl⟩
      · by_cases a2 : w = 2
        · subst a2
          exact ⟨M 13 2, rfl, by rw [h3]; rfl⟩
        · refine ⟨-1, by rw [if_neg a0, if_neg a1, if_neg a2], ?_⟩
          have hw : ¬ (0 ≤ w ∧ w < 3) := fun h => by
            obtain ⟨j, hj, rfl⟩ := nI_of2 (M := 2) (n := 2) (by decide) (Int32.not_lt.mpr h.1) (by
              have q : w.toInt < 3 := Int32.lt_iff_toInt_lt.mp h.2
              exact Int32.le_iff_toInt_le.mpr (by show w.toInt ≤ 2; omega))
            rcases (show j = 0 ∨ j = 1 ∨ j = 2 by omega) with rfl | rfl | rfl
            · exact a0 rfl
            · exact a1 rfl
            · exact a2 rfl
          rw [bI_f hw, if_pos rfl]
