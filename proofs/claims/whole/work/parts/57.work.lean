/-! Pure: the reference's ops that are no jumps, and its whole step. -/
theorem bI_T {i : Decidable True} : @bI True i = 1 := by unfold bI; exact if_pos trivial
theorem bI_F {i : Decidable False} : @bI False i = 0 := by unfold bI; exact if_neg (fun h => h)
theorem in_of_lt {z : Int32} {L : Nat} (hL : L < 2 ^ 31) (h : 0 ≤ z ∧ z < nI L) : vp_in z L := by
  refine vp_in_iff.mpr ⟨?_, ?_⟩
  · have := Int32.le_iff_toInt_le.mp h.1
    have h0 : (0 : Int32).toInt = 0 := by decide
    omega
  · have := Int32.lt_iff_toInt_lt.mp h.2
    rw [nI_toInt hL] at this
    exact this
theorem in_mono {z : Int32} {m n : Nat} (h : vp_in z m) (hm : m ≤ n) : vp_in z n := fun h2 => h (h2.elim Or.inl (fun h3 => Or.inr (Nat.le_trans hm h3)))
theorem v_MO_work {M : Mem} {s : Rs} {op a b : Int32} {L : Nat} (ho : op = 0 ∨ op = 1 ∨ op = 2 ∨ op = 3 ∨ op = 4 ∨ op = 5 ∨ op = 11 ∨ op = 12 ∨ op = 13 ∨ op = 14 ∨ op = 15) (ha : vp_in a 4) (hb : op ≠ 0 → op ≠ 1 → op ≠ 12 → op ≠ 15 → vp_in b 4) (hL : M 26 8 = nI L) (hL6 : L ≤ 6) : s_MO_work op a b (stM M s) = some (stM M (rWk (M 31, M 26 8) op a b s)) := by
  have e8 : stM M s 26 8 = M 26 8 := stM_f (Or.inl (by decide))
  have e31 : stM M s 31 = M 31 := stM_o (by decide) (by decide) (by decide) (by decide) (by decide)
  rcases ho with rfl | rfl | rfl | rfl | rfl | rfl | rfl | rfl | rfl | rfl | rfl
  · simp [s_MO_work, rWk, nx, stM_wOc]
  · simp [s_MO_work, rWk, nx, ck_i ha, stM_wR]
  · have hb := hb (by decide) (by decide) (by decide) (by decide)
    simp only [s_MO_work, rWk, nx, v_within, stM_r, e8, e31, bi_s, ck_i hb, ck_i ha, stM_wR]
    by_cases h : 0 ≤ s.1.1 b.toNatClampNeg ∧ s.1.1 b.toNatClampNeg < M 26 8
    · have hi : vp_in (s.1.1 b.toNatClampNeg) 6 := in_mono (in_of_lt (L := L) (by omega) (by rw [← hL]; exact h)) hL6
      simp [bI_T, bI_t h, h, ck_i hi]
    · simp [bI_F, bI_f h, h]
  · have hb := hb (by decide) (by decide) (by decide) (by decide)
    simp [s_MO_work, rWk, nx, ck_i ha, ck_i hb, stM_wR, stM_r]
  · have hb := hb (by decide) (by decide) (by decide) (by decide)
    simp [s_MO_work, rWk, nx, ck_i ha, ck_i hb, stM_wR, stM_r]
  · have hb := hb (by decide) (by decide) (by decide) (by decide)
    simp [s_MO_work, rWk, nx, ck_i ha, ck_i hb, stM_wR, stM_r]
  · have hb := hb (by decide) (by decide) (by decide) (by decide)
    by_cases h : s.1.1 b.toNatClampNeg = 0
    · simp [s_MO_work, rWk, nx, ck_i ha, ck_i hb, stM_wR, stM_wOc, stM_r, h]
    · simp [s_MO_work, rWk, nx, ck_i ha, ck_i hb, stM_wR, stM_wOc, stM_r, h, cz]
  · by_cases h : s.1.1 a.toNatClampNeg = b
    · simp [s_MO_work, rWk, nx, ck_i ha, stM_wOc, stM_r, h]
    · simp [s_MO_work, rWk, nx, ck_i ha, stM_wOc, stM_r, h]
      rfl
  · have hb := hb (by decide) (by decide) (by decide) (by decide)
    by_cases h : 0 ≤ s.1.1 b.toNatClampNeg ∧ s.1.1 b.toNatClampNeg < 4
    · have hi : vp_in (s.1.1 b.toNatClampNeg) 4 := in_of_lt (L := 4) (by decide) h
      simp [s_MO_work, j_MO_work_281, s_MO_word, rWk, nx, v_within, bi_s, bv_s, stM_r, stM_me, ck_i ha, ck_i hb, ck_i hi, bI_T, bI_t h, h, stM_wR]
    · simp [s_MO_work, j_MO_work_281, s_MO_word, rWk, nx, v_within, bi_s, bv_s, stM_r, ck_i hb, bI_F, bI_f h, h, stM_wOc]
  · have hb := hb (by decide) (by decide) (by decide) (by decide)
    by_cases h : 0 ≤ s.1.1 b.toNatClampNeg ∧ s.1.1 b.toNatClampNeg < 4
    · have hi : vp_in (s.1.1 b.toNatClampNeg) 4 := in_of_lt (L := 4) (by decide) h
      simp [s_MO_work, j_MO_work_281, s_MO_word, rWk, nx, v_within, bi_s, bv_s, stM_r, stM_me, ck_i ha, ck_i hb, ck_i hi, bI_T, bI_t h, h, stM_wMe]
    · simp [s_MO_work, j_MO_work_281, s_MO_word, rWk, nx, v_within, bi_s, bv_s, stM_r, ck_i hb, bI_F, bI_f h, h, stM_wOc]
  · simp [s_MO_work, rWk, nx, ck_i ha, stM_wR, e8]
