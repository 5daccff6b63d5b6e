/-! Pure: the class's goAlong and what follows every op. -/
def egC (j : Nat) (M : Mem) (t g : Int32) : Mem := if t = 0 then st (st M (j + 5) (M j 5).toNatClampNeg g) j 5 (M j 5 + 1) else M
theorem v_RU_goAlong {j : Nat} {M : Mem} {s : Rs} {g : Int32} (hg : vp_in g 576) (he : s.1.2.2.2 g.toNatClampNeg = 0 → vp_in (M j 5) 64) : s_RU_goAlong j g (stC j M s) = some (stC j (egC j M (s.1.2.2.2 g.toNatClampNeg) g) (rTm s g.toNatClampNeg (s.1.2.2.2 g.toNatClampNeg + 1))) := by
  have h5 : stC j M s j 5 = M j 5 := stC_f (Or.inl (by decide))
  have tail : ∀ X : Mem, j_RU_goAlong_29 j g (stC j X s) = some (stC j X (rTm s g.toNatClampNeg (s.1.2.2.2 g.toNatClampNeg + 1))) := fun X => by
    unfold j_RU_goAlong_29
    simp only [nx, stC_tm, stC_wTm, ck_i hg]
  unfold s_RU_goAlong egC
  simp only [nx, stC_tm, ck_i hg, h5, stC_wEd]
  by_cases h : s.1.2.2.2 g.toNatClampNeg = 0
  · have h6 : stC j (st M (j + 5) (M j 5).toNatClampNeg g) s j 5 = M j 5 := by rw [stC_f (Or.inl (by decide)), st_other (by omega)]
    rw [if_pos h, if_pos h, ck_i (he h), h6, stC_wEc, tail]
  · rw [if_neg h, if_neg h, tail]
theorem v_isJump (op : Int32) (M : Mem) : s_PR_isJump op M = some (bI (¬ (op < 6 ∨ 10 < op)), M) := by
  unfold s_PR_isJump
  by_cases h1 : op < 6
  · have h3 : ¬ ¬ (op < 6 ∨ 10 < op) := fun h => h (Or.inl h1)
    rw [if_pos h1, bI_f h3]
  · rw [if_neg h1]
    by_cases h2 : (10 : Int32) < op
    · have h3 : ¬ ¬ (op < 6 ∨ 10 < op) := fun h => h (Or.inr h2)
      rw [if_pos h2, bI_f h3]
    · have h3 : ¬ (op < 6 ∨ 10 < op) := fun h => h.elim h1 h2
      rw [if_neg h2, bI_t h3]
theorem v_has (a : Int32) (M : Mem) : s_PR_has a M = some (bI (0 ≤ a ∧ a < M 1 3), M) := by
  unfold s_PR_has
  by_cases h1 : a < 0
  · rw [if_pos h1, bI_f (fun h => Int32.not_le.mpr h1 h.1)]
  · rw [if_neg h1]
    by_cases h2 : M 1 3 ≤ a
    · rw [if_pos h2, bI_f (fun h => Int32.not_lt.mpr h2 h.2)]
    · rw [if_neg h2, bI_t ⟨Int32.not_lt.mp h1, Int32.not_le.mp h2⟩]
/-- the edge that the step went along, as the class counts it -/
def egI (s : Rs) : Int32 := (24 : Int32) * s.2.2.2.1 + s.2.2.1
theorem v_RU_tail {j : Nat} {M : Mem} {s : Rs} (op : Int32) (hj : 1 < j) (hE : s.2.2.2.2.2 = -1 → ¬ (op < 6 ∨ 10 < op) → (0 ≤ s.2.2.1 ∧ s.2.2.1 < M 1 3) → vp_in (egI s) 576 ∧ (s.1.2.2.2 (egI s).toNatClampNeg = 0 → vp_in (M j 5) 64)) :
    j_RU_step_392 j op (stC j M s) = some (if s.2.2.2.2.2 = -1 ∧ ¬ (op < 6 ∨ 10 < op) ∧ 0 ≤ s.2.2.1 ∧ s.2.2.1 < M 1 3 then stC j (egC j M (s.1.2.2.2 (egI s).toNatClampNeg) (egI s)) (rTm s (egI s).toNatClampNeg (s.1.2.2.2 (egI s).toNatClampNeg + 1)) else stC j M s) := by
  have h1 : stC j M s 1 = M 1 := stC_o (Or.inl hj)
  unfold j_RU_step_392
  simp only [stC_oc, v_isJump, bi_s, stC_pc, v_has, stC_hr, h1]
  by_cases a1 : s.2.2.2.2.2 = -1
  · rw [if_pos a1]
    by_cases a2 : ¬ (op < 6 ∨ 10 < op)
    · rw [bI_t a2, if_neg (by decide)]
      by_cases a3 : 0 ≤ s.2.2.1 ∧ s.2.2.1 < M 1 3
      · obtain ⟨e1, e2⟩ := hE a1 a2 a3
        rw [bI_t a3, if_neg (by decide), if_pos ⟨a1, a2, a3⟩]
        have hg := v_RU_goAlong (j := j) (M := M) (s := s) e1 e2
        unfold egI at hg
        rw [hg]
        rfl
      · rw [bI_f a3, if_pos rfl, if_neg (fun h => a3 h.2.2)]
    · rw [bI_f a2, if_pos rfl, if_neg (fun h => a2 h.2.1)]
  · rw [if_neg a1, if_neg (fun h => a1 h.1)]
