/-! Pure: the reference's whole step is rstep. -/
def rS1 (s : Rs) : Rs := rSt (rPc (rHr s s.2.2.1) (s.2.2.1 + 1)) (s.2.2.2.2.1 + 1)
theorem op_split {op : Int32} (h : 0 ≤ op ∧ op < 16) (h2 : op < 6 ∨ 10 < op) : op = 0 ∨ op = 1 ∨ op = 2 ∨ op = 3 ∨ op = 4 ∨ op = 5 ∨ op = 11 ∨ op = 12 ∨ op = 13 ∨ op = 14 ∨ op = 15 := by
  rcases op_cases h with rfl | rfl | rfl | rfl | rfl | rfl | rfl | rfl | rfl | rfl | rfl | rfl | rfl | rfl | rfl | rfl <;> first | decide | (exfalso; revert h2; decide)
theorem v_MO_step {M : Mem} {s : Rs} {p L : Nat} (hpc : s.2.2.1 = nI p) (hp : p < 24) (hop : 0 ≤ M 27 p ∧ M 27 p < 16) (ha : vp_in (M 28 p) 4) (hb : (M 27 p < 6 ∨ 10 < M 27 p) → M 27 p ≠ 0 → M 27 p ≠ 1 → M 27 p ≠ 12 → M 27 p ≠ 15 → vp_in (M 29 p) 4) (hL : M 26 8 = nI L) (hL6 : L ≤ 6) (hd : ∃ d, d ≤ 3 ∧ s.2.1 = nI d)
    (hE : ¬ (M 27 p < 6 ∨ 10 < M 27 p) → (rJp (M 27 p) (M 28 p) (M 29 p) (rS1 s)).2.2.2.2.2 < 0 → (rJp (M 27 p) (M 28 p) (M 29 p) (rS1 s)).2.2.1 < M 26 0 → vp_in ((24 : Int32) * (rJp (M 27 p) (M 28 p) (M 29 p) (rS1 s)).2.2.2.1 + (rJp (M 27 p) (M 28 p) (M 29 p) (rS1 s)).2.2.1) 576) :
    s_MO_step (stM M s) = some (stM M (rstep (M 27, M 28, M 29, M 26 0) (M 31, M 26 8) s)) := by
  unfold s_MO_step rstep
  simp only [nx]
  rw [show stM M s 26 13 = s.2.2.1 from rfl, stM_wHr, show stM M (rHr s s.2.2.1) 26 14 = s.2.2.1 from rfl, stM_wPc, show stM M (rPc (rHr s s.2.2.1) (s.2.2.1 + 1)) 26 15 = s.2.2.2.2.1 from rfl, stM_wSt]
  have e1 : rSt (rPc (rHr s s.2.2.1) (s.2.2.1 + 1)) (s.2.2.2.2.1 + 1) = rS1 s := rfl
  rw [e1]
  have hd1 : ∃ d, d ≤ 3 ∧ (rS1 s).2.1 = nI d := hd
  have f14 : stM M (rS1 s) 26 14 = nI p := hpc
  have f27 : stM M (rS1 s) 27 = M 27 := stM_o (by decide) (by decide) (by decide) (by decide) (by decide)
  have f28 : stM M (rS1 s) 28 = M 28 := stM_o (by decide) (by decide) (by decide) (by decide) (by decide)
  have f29 : stM M (rS1 s) 29 = M 29 := stM_o (by decide) (by decide) (by decide) (by decide) (by decide)
  have hc : (nI p).toNatClampNeg = p := nI_clamp (by omega)
  have hi : vp_in (nI p) 24 := vp_in_nI hp (by decide)
  rw [f14, hc, f27, f28, f29, ck_i hi, ck_i hi, ck_i hi, hpc, hc]
  generalize rS1 s = s1 at hd1 hE ⊢
  by_cases h1 : M 27 p < 6 ∨ 10 < M 27 p
  · rw [if_pos h1]
    have hw := v_MO_work (M := M) (s := s1) (a := M 28 p) (b := M 29 p) (op_split hop h1) ha (hb h1) hL hL6
    have hj : j_MO_step_119 (M 27 p) (M 28 p) (M 29 p) (stM M s1) = some (stM M (rWk (M 31, M 26 8) (M 27 p) (M 28 p) (M 29 p) s1)) := by
      unfold j_MO_step_119
      rw [hw]
      rfl
    by_cases h2 : M 27 p < 6
    · rw [if_pos h2]; exact hj
    · rw [if_neg h2, if_pos (h1.resolve_left h2)]; exact hj
  · rw [if_neg h1, if_neg (fun h => h1 (Or.inl h)), if_neg (fun h => h1 (Or.inr h)), v_MO_jump ha hd1, bv_s]
    have hE := hE h1
    generalize rJp (M 27 p) (M 28 p) (M 29 p) s1 = s2 at hE ⊢
    have g16 : stM M s2 26 16 = s2.2.2.2.2.2 := rfl
    have g13 : stM M s2 26 13 = s2.2.2.1 := rfl
    have g14 : stM M s2 26 14 = s2.2.2.2.1 := rfl
    have g0 : stM M s2 26 0 = M 26 0 := stM_f (Or.inl (by decide))
    rw [g16, g13, g14, g0, stM_tm, stM_wTm]
    unfold rEg
    by_cases h3 : 0 ≤ s2.2.2.2.2.2
    · rw [if_pos h3, if_neg (fun h => Int32.not_lt.mpr h3 h.1)]
    · rw [if_neg h3]
      by_cases h4 : M 26 0 ≤ s2.2.2.1
      · rw [if_pos h4, if_neg (fun h => Int32.not_lt.mpr h4 h.2)]
      · rw [if_neg h4, if_pos ⟨Int32.not_le.mp h3, Int32.not_le.mp h4⟩, ck_i (hE (Int32.not_le.mp h3) (Int32.not_le.mp h4)), ck_i (hE (Int32.not_le.mp h3) (Int32.not_le.mp h4))]
