/-! Pure: counted loops; the fills of both runs. -/
theorem lp_cnt {S E : Type} {b : S → Option (S ⊕ E)} (g : Nat → S) (N : Nat) (h : ∀ n, n < N → b (g n) = some (.inl (g (n + 1)))) : ∀ d n, n + d = N → lp b (g n) = lp b (g N) := by
  intro d
  induction d with
  | zero => intro n hn; rw [show n = N by omega]
  | succ d ih =>
    intro n hn
    rw [lp_inl (h n (by omega))]
    exact ih (n + 1) (by omega)
theorem lp_cnt0 {S E : Type} {b : S → Option (S ⊕ E)} (g : Nat → S) (N : Nat) (h : ∀ n, n < N → b (g n) = some (.inl (g (n + 1)))) : lp b (g 0) = lp b (g N) := lp_cnt g N h N 0 (by omega)
/-- the first n places of cell j hold v -/
def fl (M : Mem) (j n : Nat) (v : Int32) : Mem := fun a => if a = j then (fun k => if k < n then v else M j k) else M a
theorem fl_0 (M : Mem) (j : Nat) (v : Int32) : fl M j 0 v = M := by
  funext a
  unfold fl
  by_cases h : a = j
  · subst h; rw [if_pos rfl]; funext k; rw [if_neg (Nat.not_lt_zero k)]
  · rw [if_neg h]
theorem fl_s (M : Mem) (j n : Nat) (v : Int32) : st (fl M j n v) j n v = fl M j (n + 1) v := by
  funext a
  by_cases h : a = j
  · subst h
    rw [st_same]
    funext k
    unfold fl upd
    rw [if_pos rfl, if_pos rfl]
    by_cases hk : k = n
    · subst hk; rw [if_pos rfl, if_pos (by omega)]
    · rw [if_neg hk]
      by_cases h2 : k < n
      · rw [if_pos h2, if_pos (by omega)]
      · rw [if_neg h2, if_neg (by omega)]
  · rw [st_other h]
    unfold fl
    rw [if_neg h, if_neg h]
theorem fl_o {M : Mem} {j n a : Nat} {v : Int32} (h : a ≠ j) : fl M j n v a = M a := by unfold fl; rw [if_neg h]
theorem fl_i {M : Mem} {j n k : Nat} {v : Int32} (h : k < n) : fl M j n v j k = v := by unfold fl; rw [if_pos rfl, if_pos h]
theorem v_fill (j : Nat) (v : Int32) (M : Mem) : s_JA_fill j v M = some (fl M j 4 v) := by
  unfold s_JA_fill
  simp only [nx]
  have h : ∀ n, n < 4 → (fun q : Int32 × Mem => l_JA_fill_5 j v 4 q.1 q.2) (nI n, fl M j n v) = some (.inl (nI (n + 1), fl M j (n + 1) v)) := fun n hn => by
    show l_JA_fill_5 j v 4 (nI n) (fl M j n v) = _
    unfold l_JA_fill_5
    rw [if_neg (show ¬ (4 : Int32) ≤ nI n from nI_ge (a := n) (b := 4) hn (by decide)), ck_i (vp_in_nI hn (by decide))]
    simp only [nx]
    rw [nI_clamp (by omega), fl_s, nI_succ]
  have h0 := lp_cnt0 (b := fun q : Int32 × Mem => l_JA_fill_5 j v 4 q.1 q.2) (fun n => (nI n, fl M j n v)) 4 h
  rw [fl_0] at h0
  refine h0.trans (lp_inr ?_)
  show l_JA_fill_5 j v 4 (nI 4) (fl M j 4 v) = _
  unfold l_JA_fill_5
  rw [if_pos (by decide)]
theorem v_MO_clear (M : Mem) : s_MO_run M = j_MO_run_22 (fl M 35 576 0) := by
  unfold s_MO_run
  simp only [nx]
  have h : ∀ n, n < 576 → (fun q : Int32 × Mem => l_MO_run_2 q.1 q.2) (nI n, fl M 35 n 0) = some (.inl (nI (n + 1), fl M 35 (n + 1) 0)) := fun n hn => by
    show l_MO_run_2 (nI n) (fl M 35 n 0) = _
    unfold l_MO_run_2
    rw [if_neg (show ¬ (576 : Int32) ≤ nI n from nI_ge (a := n) (b := 576) hn (by decide)), ck_i (vp_in_nI hn (by decide))]
    simp only [nx]
    rw [nI_clamp (by omega), fl_s, nI_succ]
  have h0 := lp_cnt0 (b := fun q : Int32 × Mem => l_MO_run_2 q.1 q.2) (fun n => (nI n, fl M 35 n 0)) 576 h
  rw [fl_0] at h0
  refine h0.trans ?_
  have h1 : l_MO_run_2 (nI 576) (fl M 35 576 0) = jw1 (j_MO_run_22 (fl M 35 576 0)) := by
    unfold l_MO_run_2
    rw [if_pos (by decide)]
  cases hj : j_MO_run_22 (fl M 35 576 0) with
  | none => exact lp_none (by show l_MO_run_2 (nI 576) (fl M 35 576 0) = none; rw [h1, hj]; rfl)
  | some r => exact lp_inr (by show l_MO_run_2 (nI 576) (fl M 35 576 0) = some (.inr r); rw [h1, hj]; rfl)
