/-! Pure: the class's step: the op's effect, then the tail. -/
theorem v_RU_step {j i : Nat} {M : Mem} {s : Rs} {p L : Nat} (hj : 5 < j) (hi : i + 1 < j ∨ j + 4 < i) (hpc : s.2.2.1 = nI p) (hp : p < 24) (hop : 0 ≤ M 2 p ∧ M 2 p < 16) (ha : vp_in (M 3 p) 4) (hb : (M 2 p < 6 ∨ 10 < M 2 p) → M 2 p ≠ 0 → M 2 p ≠ 1 → M 2 p ≠ 12 → M 2 p ≠ 15 → vp_in (M 4 p) 4) (hL : M i 1 = nI L) (hL6 : L ≤ 6) (hd : ∃ d, d ≤ 3 ∧ s.2.1 = nI d) (hoc : s.2.2.2.2.2 = -1) :
    s_RU_step j i (stC j M s) = j_RU_step_392 j (M 2 p) (stC j M (if M 2 p < 6 ∨ 10 < M 2 p then rWk (M (i + 1), M i 1) (M 2 p) (M 3 p) (M 4 p) (rS1 s) else rJp (M 2 p) (M 3 p) (M 4 p) (rS1 s))) := by
  unfold s_RU_step
  simp only [nx, stC_pc, stC_wHr, stC_hr, stC_wPc, stC_st, stC_wSt]
  have e1 : rSt (rPc (rHr s s.2.2.1) ((rHr s s.2.2.1).2.2.2.1 + 1)) ((rPc (rHr s s.2.2.1) ((rHr s s.2.2.1).2.2.2.1 + 1)).2.2.2.2.1 + 1) = rS1 s := rfl
  rw [e1]
  have hd1 : ∃ d, d ≤ 3 ∧ (rS1 s).2.1 = nI d := hd
  have hoc1 : (rS1 s).2.2.2.2.2 = -1 := hoc
  have f14 : (rS1 s).2.2.2.1 = nI p := hpc
  have f2 : stC j M (rS1 s) 2 = M 2 := stC_o (Or.inl (by omega))
  have f3 : stC j M (rS1 s) 3 = M 3 := stC_o (Or.inl (by omega))
  have f4 : stC j M (rS1 s) 4 = M 4 := stC_o (Or.inl (by omega))
  have fi : stC j M (rS1 s) i = M i := stC_o (by omega)
  have fi1 : stC j M (rS1 s) (i + 1) = M (i + 1) := stC_o (by omega)
  have hc : (nI p).toNatClampNeg = p := nI_clamp (by omega)
  have hin : vp_in (nI p) 24 := vp_in_nI hp (by decide)
  have hat : ∀ k, s_IN_at i k (stC j M (rS1 s)) = some (if 0 ≤ k ∧ k < M i 1 then M (i + 1) k.toNatClampNeg else -1, stC j M (rS1 s)) := fun k => by
    have h := v_IN_at (j := i) (n := L) (M := stC j M (rS1 s)) k (by rw [fi]; exact hL) hL6
    rw [fi1, ← hL] at h
    exact h
  rw [f14, hc, f2, f3, f4, ck_i hin, ck_i hin, ck_i hin]
  generalize rS1 s = s1 at hd1 hoc1 hat fi fi1 ⊢
  generalize M 2 p = op at hop hb ⊢
  generalize M 3 p = a at ha ⊢
  generalize M 4 p = b at hb ⊢
  have hpc7 : s1.2.2.1 = s1.2.2.1 := rfl
  rcases op_cases hop with rfl | rfl | rfl | rfl | rfl | rfl | rfl | rfl | rfl | rfl | rfl | rfl | rfl | rfl | rfl | rfl
  · simp [rWk, stC_wOc]
  · simp [rWk, ck_i ha, stC_wR]
  · have hb := hb (by decide) (by decide) (by decide) (by decide) (by decide)
    simp [rWk, ck_i ha, ck_i hb, stC_r, hat, bi_s, stC_wR]
  · have hb := hb (by decide) (by decide) (by decide) (by decide) (by decide)
    simp [rWk, ck_i ha, ck_i hb, stC_r, stC_wR]
  · have hb := hb (by decide) (by decide) (by decide) (by decide) (by decide)
    simp [rWk, ck_i ha, ck_i hb, stC_r, stC_wR]
  · have hb := hb (by decide) (by decide) (by decide) (by decide) (by decide)
    simp [rWk, ck_i ha, ck_i hb, stC_r, stC_wR]
  · by_cases h : s1.1.1 a.toNatClampNeg = 0
    · simp [rJp, ck_i ha, stC_r, h, j_RU_step_249, nx, stC_wPc]
    · simp [rJp, ck_i ha, stC_r, h, j_RU_step_249, nx, stC_pc, stC_wPc, rPc_same]
  · by_cases h : 0 ≤ s1.1.1 a.toNatClampNeg
    · have h2 : ¬ s1.1.1 a.toNatClampNeg < 0 := Int32.not_lt.mpr h
      simp [rJp, ck_i ha, stC_r, h, h2, j_RU_step_275, nx, stC_pc, stC_wPc, rPc_same]
    · have h2 : s1.1.1 a.toNatClampNeg < 0 := Int32.not_le.mp h
      simp [rJp, ck_i ha, stC_r, h, h2, j_RU_step_275, nx, stC_wPc]
  · simp [rJp, stC_wPc]
  · simp [rJp, v_RU_goInto b hd1, bv_s]
  · simp [rJp, v_RU_goBack hd1, bv_s]
  · have hb := hb (by decide) (by decide) (by decide) (by decide) (by decide)
    simp [rWk, v_RU_divide ha hb, bv_s]
  · by_cases h : s1.1.1 a.toNatClampNeg = b
    · simp [rWk, ck_i ha, stC_r, h, j_RU_step_335, nx, stC_wOc]
    · have h2 : rOc s1 (-1) = s1 := by rw [← hoc1]; rfl
      simp [rWk, ck_i ha, stC_r, h, j_RU_step_335, nx, stC_wOc, h2]
  · have hb := hb (by decide) (by decide) (by decide) (by decide) (by decide)
    simp [rWk, ck_i hb, stC_r, v_RU_load ha, bv_s]
  · have hb := hb (by decide) (by decide) (by decide) (by decide) (by decide)
    simp [rWk, ck_i hb, stC_r, v_RU_save ha, bv_s]
  · simp [rWk, ck_i ha, fi, stC_wR]
