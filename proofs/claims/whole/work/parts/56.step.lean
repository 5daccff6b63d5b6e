/-! Pure: one step of a run, of the program (ops, as, bs, size) and the input (bytes, length). -/
abbrev Pg : Type := (Nat → Int32) × (Nat → Int32) × (Nat → Int32) × Int32
abbrev Ip : Type := (Nat → Int32) × Int32
/-- what an op that is no jump does -/
def rWk (I : Ip) (op a b : Int32) (s : Rs) : Rs :=
  let x := a.toNatClampNeg; let y := b.toNatClampNeg
  if op = 0 then rOc s 0
  else if op = 1 then rR s x b
  else if op = 2 then rR s x (if 0 ≤ s.1.1 y ∧ s.1.1 y < I.2 then I.1 (s.1.1 y).toNatClampNeg else -1)
  else if op = 3 then rR s x (s.1.1 x + s.1.1 y)
  else if op = 4 then rR s x (s.1.1 x - s.1.1 y)
  else if op = 5 then rR s x (s.1.1 x * s.1.1 y)
  else if op = 11 then (if s.1.1 y = 0 then rOc s 2 else rR s x (s.1.1 x / s.1.1 y))
  else if op = 12 then (if s.1.1 x = b then rOc s 1 else s)
  else if op = 15 then rR s x I.2
  else if 0 ≤ s.1.1 y ∧ s.1.1 y < 4 then (if op = 13 then rR s x (s.1.2.1 (s.1.1 y).toNatClampNeg) else rMe s (s.1.1 y).toNatClampNeg (s.1.1 x))
  else rOc s 3
/-- what a jump does -/
def rJp (op a b : Int32) (s : Rs) : Rs :=
  let x := a.toNatClampNeg
  if op = 6 then (if s.1.1 x = 0 then rPc s b else s)
  else if op = 7 then (if s.1.1 x < 0 then rPc s b else s)
  else if op = 8 then rPc s b
  else if op = 9 then (if s.2.1 = 3 then rOc s 4 else rPc (rDp (rSk s s.2.1.toNatClampNeg (s.2.2.2.1 + 1)) (s.2.1 + 1)) b)
  else (if s.2.1 = 0 then rOc s 0 else rPc (rDp s (s.2.1 - 1)) (s.1.2.2.1 (s.2.1 - 1).toNatClampNeg))
def rEg (n : Int32) (s : Rs) : Rs := if s.2.2.2.2.2 < 0 ∧ s.2.2.1 < n then rTm s ((24 : Int32) * s.2.2.2.1 + s.2.2.1).toNatClampNeg (s.1.2.2.2 ((24 : Int32) * s.2.2.2.1 + s.2.2.1).toNatClampNeg + 1) else s
def rstep (P : Pg) (I : Ip) (s : Rs) : Rs :=
  let h := s.2.2.1.toNatClampNeg
  let s1 := rSt (rPc (rHr s s.2.2.1) (s.2.2.1 + 1)) (s.2.2.2.2.1 + 1)
  if P.1 h < 6 ∨ 10 < P.1 h then rWk I (P.1 h) (P.2.1 h) (P.2.2.1 h) s1 else rEg P.2.2.2 (rJp (P.1 h) (P.2.1 h) (P.2.2.1 h) s1)
theorem rPc_same (s : Rs) : rPc s s.2.2.1 = s := rfl
theorem rOc_same (s : Rs) : rOc s s.2.2.2.2.2 = s := rfl
theorem v_MO_jump {M : Mem} {s : Rs} {op a b : Int32} (ha : vp_in a 4) (hd : ∃ d, d ≤ 3 ∧ s.2.1 = nI d) : s_MO_jump op a b (stM M s) = some (stM M (rJp op a b s)) := by
  obtain ⟨d, hd3, hd⟩ := hd
  unfold s_MO_jump rJp
  simp only [nx, stM_r, stM_wPc, stM_wOc]
  by_cases h6 : op = 6
  · rw [if_pos h6, if_pos h6, ck_i ha]
    by_cases e : s.1.1 a.toNatClampNeg = 0
    · rw [if_pos e, if_pos e]
    · rw [if_neg e, if_neg e]; rfl
  rw [if_neg h6, if_neg h6]
  by_cases h7 : op = 7
  · rw [if_pos h7, if_pos h7, ck_i ha]
    by_cases e : 0 ≤ s.1.1 a.toNatClampNeg
    · rw [if_pos e, if_neg (Int32.not_lt.mpr e)]; rfl
    · rw [if_neg e, if_pos (Int32.not_le.mp e)]
  rw [if_neg h7, if_neg h7]
  by_cases h8 : op = 8
  · rw [if_pos h8, if_pos h8]
  rw [if_neg h8, if_neg h8]
  by_cases h9 : op = 9
  · rw [if_pos h9, if_pos h9]
    have e0 : stM M s 26 12 = s.2.1 := rfl
    by_cases e : s.2.1 = 3
    · rw [if_pos (e0.trans e), if_pos e]
    · rw [if_neg (fun h => e (e0.symm.trans h)), if_neg e]
      have hd2 : d < 3 := by
        rcases Nat.lt_or_ge d 3 with h | h
        · exact h
        · exact absurd (by rw [hd, show d = 3 by omega]; rfl) e
      rw [ck_i (by rw [e0, hd]; exact vp_in_nI hd2 (by decide)), stM_wSk, stM_wDp, stM_wPc]
      rfl
  rw [if_neg h9, if_neg h9]
  have e0 : stM M s 26 12 = s.2.1 := rfl
  by_cases e : s.2.1 = 0
  · rw [if_pos (e0.trans e), if_pos e]
  · rw [if_neg (fun h => e (e0.symm.trans h)), if_neg e, stM_wDp]
    have hd2 : 0 < d := by
      rcases Nat.eq_zero_or_pos d with h | h
      · exact absurd (by rw [hd, h]; rfl) e
      · exact h
    have e1 : stM M (rDp s (stM M s 26 12 - 1)) 26 12 = s.2.1 - 1 := rfl
    rw [ck_i (by rw [e1, hd, show (1 : Int32) = nI 1 from rfl, pk_sub (by omega)]; exact vp_in_nI (by omega) (by decide)), stM_wPc]
    rfl
