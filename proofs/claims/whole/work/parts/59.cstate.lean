/-! Pure: a run's state laid into the memory of the class: cells j (object), j+1 .. j+4; edges (j 5, j+5) stay with the memory. -/
def stC (j : Nat) (M : Mem) (s : Rs) : Mem := fun a => if a = j + 1 then s.1.1 else if a = j + 2 then s.1.2.1 else if a = j + 3 then s.1.2.2.1 else if a = j + 4 then s.1.2.2.2 else if a = j then (fun k => if k = 6 then s.2.1 else if k = 7 then s.2.2.1 else if k = 8 then s.2.2.2.1 else if k = 9 then s.2.2.2.2.1 else if k = 10 then s.2.2.2.2.2 else M j k) else M a
theorem stC_r (j : Nat) (M : Mem) (s : Rs) : stC j M s (j + 1) = s.1.1 := by unfold stC; rw [if_pos rfl]
theorem stC_me (j : Nat) (M : Mem) (s : Rs) : stC j M s (j + 2) = s.1.2.1 := by unfold stC; rw [if_neg (by omega), if_pos rfl]
theorem stC_sk (j : Nat) (M : Mem) (s : Rs) : stC j M s (j + 3) = s.1.2.2.1 := by unfold stC; rw [if_neg (by omega), if_neg (by omega), if_pos rfl]
theorem stC_tm (j : Nat) (M : Mem) (s : Rs) : stC j M s (j + 4) = s.1.2.2.2 := by unfold stC; rw [if_neg (by omega), if_neg (by omega), if_neg (by omega), if_pos rfl]
theorem stC_j (j : Nat) (M : Mem) (s : Rs) : stC j M s j = (fun k => if k = 6 then s.2.1 else if k = 7 then s.2.2.1 else if k = 8 then s.2.2.2.1 else if k = 9 then s.2.2.2.2.1 else if k = 10 then s.2.2.2.2.2 else M j k) := by unfold stC; rw [if_neg (by omega), if_neg (by omega), if_neg (by omega), if_neg (by omega), if_pos rfl]
theorem stC_dp (j : Nat) (M : Mem) (s : Rs) : stC j M s j 6 = s.2.1 := by rw [stC_j]; rfl
theorem stC_pc (j : Nat) (M : Mem) (s : Rs) : stC j M s j 7 = s.2.2.1 := by rw [stC_j]; rfl
theorem stC_hr (j : Nat) (M : Mem) (s : Rs) : stC j M s j 8 = s.2.2.2.1 := by rw [stC_j]; rfl
theorem stC_st (j : Nat) (M : Mem) (s : Rs) : stC j M s j 9 = s.2.2.2.2.1 := by rw [stC_j]; rfl
theorem stC_oc (j : Nat) (M : Mem) (s : Rs) : stC j M s j 10 = s.2.2.2.2.2 := by rw [stC_j]; rfl
theorem stC_f {j : Nat} {M : Mem} {s : Rs} {k : Nat} (h : k < 6 ∨ 10 < k) : stC j M s j k = M j k := by
  rw [stC_j]
  show (if k = 6 then _ else if k = 7 then _ else if k = 8 then _ else if k = 9 then _ else if k = 10 then _ else M j k) = M j k
  rw [if_neg (by omega), if_neg (by omega), if_neg (by omega), if_neg (by omega), if_neg (by omega)]
theorem stC_o {j : Nat} {M : Mem} {s : Rs} {a : Nat} (h : a < j ∨ j + 4 < a) : stC j M s a = M a := by
  unfold stC
  rw [if_neg (by omega), if_neg (by omega), if_neg (by omega), if_neg (by omega), if_neg (by omega)]
theorem stC_ext {j : Nat} {M : Mem} {s : Rs} {X : Mem} (h1 : X (j + 1) = s.1.1) (h2 : X (j + 2) = s.1.2.1) (h3 : X (j + 3) = s.1.2.2.1) (h4 : X (j + 4) = s.1.2.2.2) (h5 : X j = stC j M s j) (h6 : ∀ a, (a < j ∨ j + 4 < a) → X a = M a) : X = stC j M s := by
  funext a
  by_cases e1 : a = j + 1
  · subst e1; rw [h1, stC_r]
  by_cases e2 : a = j + 2
  · subst e2; rw [h2, stC_me]
  by_cases e3 : a = j + 3
  · subst e3; rw [h3, stC_sk]
  by_cases e4 : a = j + 4
  · subst e4; rw [h4, stC_tm]
  by_cases e5 : a = j
  · subst e5; exact h5
  rw [h6 a (by omega), stC_o (by omega)]
theorem stC_wR (j : Nat) (M : Mem) (s : Rs) (k : Nat) (v : Int32) : st (stC j M s) (j + 1) k v = stC j M (rR s k v) := stC_ext (by rw [st_same, stC_r]; rfl) (by rw [st_other (by omega), stC_me]; rfl) (by rw [st_other (by omega), stC_sk]; rfl) (by rw [st_other (by omega), stC_tm]; rfl) (by rw [st_other (by omega), stC_j, stC_j]; rfl) (fun a h => by rw [st_other (by omega), stC_o h])
theorem stC_wMe (j : Nat) (M : Mem) (s : Rs) (k : Nat) (v : Int32) : st (stC j M s) (j + 2) k v = stC j M (rMe s k v) := stC_ext (by rw [st_other (by omega), stC_r]; rfl) (by rw [st_same, stC_me]; rfl) (by rw [st_other (by omega), stC_sk]; rfl) (by rw [st_other (by omega), stC_tm]; rfl) (by rw [st_other (by omega), stC_j, stC_j]; rfl) (fun a h => by rw [st_other (by omega), stC_o h])
theorem stC_wSk (j : Nat) (M : Mem) (s : Rs) (k : Nat) (v : Int32) : st (stC j M s) (j + 3) k v = stC j M (rSk s k v) := stC_ext (by rw [st_other (by omega), stC_r]; rfl) (by rw [st_other (by omega), stC_me]; rfl) (by rw [st_same, stC_sk]; rfl) (by rw [st_other (by omega), stC_tm]; rfl) (by rw [st_other (by omega), stC_j, stC_j]; rfl) (fun a h => by rw [st_other (by omega), stC_o h])
theorem stC_wTm (j : Nat) (M : Mem) (s : Rs) (k : Nat) (v : Int32) : st (stC j M s) (j + 4) k v = stC j M (rTm s k v) := stC_ext (by rw [st_other (by omega), stC_r]; rfl) (by rw [st_other (by omega), stC_me]; rfl) (by rw [st_other (by omega), stC_sk]; rfl) (by rw [st_same, stC_tm]; rfl) (by rw [st_other (by omega), stC_j, stC_j]; rfl) (fun a h => by rw [st_other (by omega), stC_o h])
theorem stC_wDp (j : Nat) (M : Mem) (s : Rs) (v : Int32) : st (stC j M s) j 6 v = stC j M (rDp s v) := stC_ext (by rw [st_other (by omega), stC_r]; rfl) (by rw [st_other (by omega), stC_me]; rfl) (by rw [st_other (by omega), stC_sk]; rfl) (by rw [st_other (by omega), stC_tm]; rfl) (by
  rw [st_same, stC_j, stC_j]
  funext i
  unfold upd rDp
  by_cases e : i = 6
  · subst e; rfl
  · rw [if_neg e]; simp only [e, if_false]) (fun a h => by rw [st_other (by omega), stC_o h])
theorem stC_wPc (j : Nat) (M : Mem) (s : Rs) (v : Int32) : st (stC j M s) j 7 v = stC j M (rPc s v) := stC_ext (by rw [st_other (by omega), stC_r]; rfl) (by rw [st_other (by omega), stC_me]; rfl) (by rw [st_other (by omega), stC_sk]; rfl) (by rw [st_other (by omega), stC_tm]; rfl) (by
  rw [st_same, stC_j, stC_j]
  funext i
  unfold upd rPc
  by_cases e : i = 7
  · subst e; rfl
  · rw [if_neg e]; simp only [e, if_false]) (fun a h => by rw [st_other (by omega), stC_o h])
theorem stC_wHr (j : Nat) (M : Mem) (s : Rs) (v : Int32) : st (stC j M s) j 8 v = stC j M (rHr s v) := stC_ext (by rw [st_other (by omega), stC_r]; rfl) (by rw [st_other (by omega), stC_me]; rfl) (by rw [st_other (by omega), stC_sk]; rfl) (by rw [st_other (by omega), stC_tm]; rfl) (by
  rw [st_same, stC_j, stC_j]
  funext i
  unfold upd rHr
  by_cases e : i = 8
  · subst e; rfl
  · rw [if_neg e]; simp only [e, if_false]) (fun a h => by rw [st_other (by omega), stC_o h])
theorem stC_wSt (j : Nat) (M : Mem) (s : Rs) (v : Int32) : st (stC j M s) j 9 v = stC j M (rSt s v) := stC_ext (by rw [st_other (by omega), stC_r]; rfl) (by rw [st_other (by omega), stC_me]; rfl) (by rw [st_other (by omega), stC_sk]; rfl) (by rw [st_other (by omega), stC_tm]; rfl) (by
  rw [st_same, stC_j, stC_j]
  funext i
  unfold upd rSt
  by_cases e : i = 9
  · subst e; rfl
  · rw [if_neg e]; simp only [e, if_false]) (fun a h => by rw [st_other (by omega), stC_o h])
theorem stC_wOc (j : Nat) (M : Mem) (s : Rs) (v : Int32) : st (stC j M s) j 10 v = stC j M (rOc s v) := stC_ext (by rw [st_other (by omega), stC_r]; rfl) (by rw [st_other (by omega), stC_me]; rfl) (by rw [st_other (by omega), stC_sk]; rfl) (by rw [st_other (by omega), stC_tm]; rfl) (by
  rw [st_same, stC_j, stC_j]
  funext i
  unfold upd rOc
  by_cases e : i = 10
  · subst e; rfl
  · rw [if_neg e]; simp only [e, if_false]) (fun a h => by rw [st_other (by omega), stC_o h])
theorem stC_wEc (j : Nat) (M : Mem) (s : Rs) (v : Int32) : st (stC j M s) j 5 v = stC j (st M j 5 v) s := stC_ext (by rw [st_other (by omega), stC_r]) (by rw [st_other (by omega), stC_me]) (by rw [st_other (by omega), stC_sk]) (by rw [st_other (by omega), stC_tm]) (by
  rw [st_same, stC_j, stC_j]
  funext i
  unfold upd
  rw [st_same]
  unfold upd
  by_cases e : i = 5
  · subst e; rfl
  · simp only [e, if_false]) (fun a h => by rw [st_other (by omega), stC_o h, st_other (by omega)])
theorem stC_wEd (j : Nat) (M : Mem) (s : Rs) (k : Nat) (v : Int32) : st (stC j M s) (j + 5) k v = stC j (st M (j + 5) k v) s := stC_ext (by rw [st_other (by omega), stC_r]) (by rw [st_other (by omega), stC_me]) (by rw [st_other (by omega), stC_sk]) (by rw [st_other (by omega), stC_tm]) (by rw [st_other (by omega), stC_j, stC_j, st_other (by omega)]) (fun a h => by
  by_cases e : a = j + 5
  · subst e; rw [st_same, st_same, stC_o (by omega)]
  · rw [st_other e, stC_o h, st_other e])
