/-! Pure: the reference's run: its start. -/
theorem fl_st {X : Mem} {j n i k : Nat} {v w : Int32} (h : i ≠ j) : st (fl X j n v) i k w = fl (st X i k w) j n v := by
  funext a
  by_cases h1 : a = i
  · subst h1
    rw [st_same, fl_o h, fl_o h, st_same]
  · rw [st_other h1]
    by_cases h2 : a = j
    · subst h2
      unfold fl
      rw [if_pos rfl, if_pos rfl, st_other h1]
    · rw [fl_o h2, fl_o h2, st_other h1]
theorem lp_last {S E : Type} {b : S → Option (S ⊕ E)} {s : S} {o : Option E} (h : b s = jw1 o) : lp b s = o := by
  cases o with
  | none => exact lp_none h
  | some r => exact lp_inr h
theorem v_MO_init (M : Mem) : j_MO_run_22 M = j_MO_run_49 (fl (fl M 32 4 0) 33 4 0) := by
  unfold j_MO_run_22
  simp only [nx]
  have h : ∀ n, n < 4 → (fun q : Int32 × Mem => l_MO_run_24 q.1 q.2) (nI n, fl (fl M 32 n 0) 33 n 0) = some (.inl (nI (n + 1), fl (fl M 32 (n + 1) 0) 33 (n + 1) 0)) := fun n hn => by
    show l_MO_run_24 (nI n) (fl (fl M 32 n 0) 33 n 0) = _
    unfold l_MO_run_24
    rw [if_neg (show ¬ (4 : Int32) ≤ nI n from nI_ge (a := n) (b := 4) hn (by decide)), ck_i (vp_in_nI hn (by decide))]
    simp only [nx]
    rw [ck_i (vp_in_nI hn (by decide)), nI_clamp (by omega), fl_st (by decide), fl_s, fl_s, nI_succ]
  have h0 := lp_cnt0 (b := fun q : Int32 × Mem => l_MO_run_24 q.1 q.2) (fun n => (nI n, fl (fl M 32 n 0) 33 n 0)) 4 h
  rw [fl_0, fl_0] at h0
  refine h0.trans (lp_last ?_)
  show l_MO_run_24 (nI 4) (fl (fl M 32 4 0) 33 4 0) = _
  unfold l_MO_run_24
  rw [if_pos (by decide)]
/-- a run's memory at its start: times, registers and memory 0, depth, pc, steps 0, outcome -1; here and the stack as they were -/
def mi (M : Mem) : Mem := st (st (st (st (fl (fl (fl M 35 576 0) 32 4 0) 33 4 0) 26 12 0) 26 13 0) 26 15 0) 26 16 (-1)
theorem v_MO_run (M : Mem) : s_MO_run M = lp (fun q : Mem => l_MO_run_69 q) (mi M) := by
  rw [v_MO_clear, v_MO_init]
  rfl
/-- what a run's state is: registers, memory, stack, times; depth, pc, here, steps, outcome -/
abbrev Rs : Type := ((Nat → Int32) × (Nat → Int32) × (Nat → Int32) × (Nat → Int32)) × (Int32 × Int32 × Int32 × Int32 × Int32)
def prM (M : Mem) : Rs := ((M 32, M 33, M 34, M 35), (M 26 12, M 26 13, M 26 14, M 26 15, M 26 16))
def prC (j : Nat) (M : Mem) : Rs := ((M (j + 1), M (j + 2), M (j + 3), M (j + 4)), (M j 6, M j 7, M j 8, M j 9, M j 10))
