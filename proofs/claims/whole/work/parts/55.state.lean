/-! Pure: a run's state laid into the memory (reference), and back; one step of a run as a function of its state. -/
def rR (s : Rs) (k : Nat) (v : Int32) : Rs := ((upd s.1.1 k v, s.1.2), s.2)
def rMe (s : Rs) (k : Nat) (v : Int32) : Rs := ((s.1.1, upd s.1.2.1 k v, s.1.2.2), s.2)
def rSk (s : Rs) (k : Nat) (v : Int32) : Rs := ((s.1.1, s.1.2.1, upd s.1.2.2.1 k v, s.1.2.2.2), s.2)
def rTm (s : Rs) (k : Nat) (v : Int32) : Rs := ((s.1.1, s.1.2.1, s.1.2.2.1, upd s.1.2.2.2 k v), s.2)
def rDp (s : Rs) (v : Int32) : Rs := (s.1, (v, s.2.2))
def rPc (s : Rs) (v : Int32) : Rs := (s.1, (s.2.1, v, s.2.2.2))
def rHr (s : Rs) (v : Int32) : Rs := (s.1, (s.2.1, s.2.2.1, v, s.2.2.2.2))
def rSt (s : Rs) (v : Int32) : Rs := (s.1, (s.2.1, s.2.2.1, s.2.2.2.1, v, s.2.2.2.2.2))
def rOc (s : Rs) (v : Int32) : Rs := (s.1, (s.2.1, s.2.2.1, s.2.2.2.1, s.2.2.2.2.1, v))
/-- the memory M with the reference's run's cells as s says -/
def stM (M : Mem) (s : Rs) : Mem := fun a => if a = 32 then s.1.1 else if a = 33 then s.1.2.1 else if a = 34 then s.1.2.2.1 else if a = 35 then s.1.2.2.2 else if a = 26 then (fun k => if k = 12 then s.2.1 else if k = 13 then s.2.2.1 else if k = 14 then s.2.2.2.1 else if k = 15 then s.2.2.2.2.1 else if k = 16 then s.2.2.2.2.2 else M 26 k) else M a
theorem stM_eta (M : Mem) : stM M (prM M) = M := by
  funext a
  unfold stM prM
  by_cases h1 : a = 32
  · subst h1; rfl
  by_cases h2 : a = 33
  · subst h2; rfl
  by_cases h3 : a = 34
  · subst h3; rfl
  by_cases h4 : a = 35
  · subst h4; rfl
  rw [if_neg h1, if_neg h2, if_neg h3, if_neg h4]
  by_cases h5 : a = 26
  · subst h5
    rw [if_pos rfl]
    funext k
    by_cases e1 : k = 12
    · subst e1; rfl
    by_cases e2 : k = 13
    · subst e2; rfl
    by_cases e3 : k = 14
    · subst e3; rfl
    by_cases e4 : k = 15
    · subst e4; rfl
    by_cases e5 : k = 16
    · subst e5; rfl
    rw [if_neg e1, if_neg e2, if_neg e3, if_neg e4, if_neg e5]
  · rw [if_neg h5]
theorem stM_pr (M : Mem) (s : Rs) : prM (stM M s) = s := rfl
theorem stM_r (M : Mem) (s : Rs) : stM M s 32 = s.1.1 := rfl
theorem stM_me (M : Mem) (s : Rs) : stM M s 33 = s.1.2.1 := rfl
theorem stM_sk (M : Mem) (s : Rs) : stM M s 34 = s.1.2.2.1 := rfl
theorem stM_tm (M : Mem) (s : Rs) : stM M s 35 = s.1.2.2.2 := rfl
theorem stM_o {M : Mem} {s : Rs} {a : Nat} (h1 : a ≠ 32) (h2 : a ≠ 33) (h3 : a ≠ 34) (h4 : a ≠ 35) (h5 : a ≠ 26) : stM M s a = M a := by
  unfold stM
  rw [if_neg h1, if_neg h2, if_neg h3, if_neg h4, if_neg h5]
theorem stM_f {M : Mem} {s : Rs} {k : Nat} (h : k < 12 ∨ 16 < k) : stM M s 26 k = M 26 k := by
  unfold stM
  rw [if_neg (by decide), if_neg (by decide), if_neg (by decide), if_neg (by decide), if_pos rfl, if_neg (by omega), if_neg (by omega), if_neg (by omega), if_neg (by omega), if_neg (by omega)]
theorem stM_wR (M : Mem) (s : Rs) (k : Nat) (v : Int32) : st (stM M s) 32 k v = stM M (rR s k v) := by
  funext a
  by_cases h : a = 32
  · subst h; rw [st_same]; rfl
  · rw [st_other h]; unfold stM rR; rw [if_neg h, if_neg h]
theorem stM_wMe (M : Mem) (s : Rs) (k : Nat) (v : Int32) : st (stM M s) 33 k v = stM M (rMe s k v) := by
  funext a
  by_cases h : a = 33
  · subst h; rw [st_same]; rfl
  · rw [st_other h]
    unfold stM rMe
    by_cases h1 : a = 32
    · rw [if_pos h1, if_pos h1]
    · rw [if_neg h1, if_neg h1, if_neg h, if_neg h]
theorem stM_wSk (M : Mem) (s : Rs) (k : Nat) (v : Int32) : st (stM M s) 34 k v = stM M (rSk s k v) := by
  funext a
  by_cases h : a = 34
  · subst h; rw [st_same]; rfl
  · rw [st_other h]
    unfold stM rSk
    by_cases h1 : a = 32
    · rw [if_pos h1, if_pos h1]
    by_cases h2 : a = 33
    · rw [if_neg h1, if_neg h1, if_pos h2, if_pos h2]
    rw [if_neg h1, if_neg h1, if_neg h2, if_neg h2, if_neg h, if_neg h]
theorem stM_wTm (M : Mem) (s : Rs) (k : Nat) (v : Int32) : st (stM M s) 35 k v = stM M (rTm s k v) := by
  funext a
  by_cases h : a = 35
  · subst h; rw [st_same]; rfl
  · rw [st_other h]
    unfold stM rTm
    by_cases h1 : a = 32
    · rw [if_pos h1, if_pos h1]
    by_cases h2 : a = 33
    · rw [if_neg h1, if_neg h1, if_pos h2, if_pos h2]
    by_cases h3 : a = 34
    · rw [if_neg h1, if_neg h1, if_neg h2, if_neg h2, if_pos h3, if_pos h3]
    rw [if_neg h1, if_neg h1, if_neg h2, if_neg h2, if_neg h3, if_neg h3, if_neg h, if_neg h]
theorem stM_w26 {M : Mem} {s s' : Rs} {k : Nat} {v : Int32} (h1 : s'.1 = s.1) (h : upd (stM M s 26) k v = stM M s' 26) : st (stM M s) 26 k v = stM M s' := by
  funext a
  by_cases ha : a = 26
  · subst ha; rw [st_same]; exact h
  · rw [st_other ha]; unfold stM; rw [h1, if_neg ha, if_neg ha]
theorem stM_wDp (M : Mem) (s : Rs) (v : Int32) : st (stM M s) 26 12 v = stM M (rDp s v) := stM_w26 rfl (by
  funext k
  show (if k = 12 then v else stM M s 26 k) = stM M (rDp s v) 26 k
  by_cases e : k = 12
  · subst e; rfl
  · rw [if_neg e]; show (if k = 12 then s.2.1 else _) = (if k = 12 then v else _); rw [if_neg e, if_neg e]; rfl)
theorem stM_wPc (M : Mem) (s : Rs) (v : Int32) : st (stM M s) 26 13 v = stM M (rPc s v) := stM_w26 rfl (by
  funext k
  show (if k = 13 then v else stM M s 26 k) = stM M (rPc s v) 26 k
  by_cases e : k = 13
  · subst e; rfl
  · rw [if_neg e]; show (if k = 12 then s.2.1 else if k = 13 then s.2.2.1 else _) = (if k = 12 then s.2.1 else if k = 13 then v else _); rw [if_neg e, if_neg e]; rfl)
theorem stM_wHr (M : Mem) (s : Rs) (v : Int32) : st (stM M s) 26 14 v = stM M (rHr s v) := stM_w26 rfl (by
  funext k
  show (if k = 14 then v else stM M s 26 k) = stM M (rHr s v) 26 k
  by_cases e : k = 14
  · subst e; rfl
  · rw [if_neg e]; show (if k = 12 then s.2.1 else if k = 13 then s.2.2.1 else if k = 14 then s.2.2.2.1 else _) = (if k = 12 then s.2.1 else if k = 13 then s.2.2.1 else if k = 14 then v else _); rw [if_neg e, if_neg e]; rfl)
theorem stM_wSt (M : Mem) (s : Rs) (v : Int32) : st (stM M s) 26 15 v = stM M (rSt s v) := stM_w26 rfl (by
  funext k
  show (if k = 15 then v else stM M s 26 k) = stM M (rSt s v) 26 k
  by_cases e : k = 15
  · subst e; rfl
  · rw [if_neg e]; show (if k = 12 then s.2.1 else if k = 13 then s.2.2.1 else if k = 14 then s.2.2.2.1 else if k = 15 then s.2.2.2.2.1 else _) = (if k = 12 then s.2.1 else if k = 13 then s.2.2.1 else if k = 14 then s.2.2.2.1 else if k = 15 then v else _); rw [if_neg e, if_neg e]; rfl)
theorem stM_wOc (M : Mem) (s : Rs) (v : Int32) : st (stM M s) 26 16 v = stM M (rOc s v) := stM_w26 rfl (by
  funext k
  show (if k = 16 then v else stM M s 26 k) = stM M (rOc s v) 26 k
  by_cases e : k = 16
  · subst e; rfl
  · rw [if_neg e]; show (if k = 12 then s.2.1 else if k = 13 then s.2.2.1 else if k = 14 then s.2.2.2.1 else if k = 15 then s.2.2.2.2.1 else if k = 16 then s.2.2.2.2.2 else _) = (if k = 12 then s.2.1 else if k = 13 then s.2.2.1 else if k = 14 then s.2.2.2.1 else if k = 15 then s.2.2.2.2.1 else if k = 16 then v else _); rw [if_neg e, if_neg e])
