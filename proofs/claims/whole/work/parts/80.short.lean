/-! Pure: shortening: what it is. -/
/-- the i-th candidate of h: one part alone, or all but it -/
def cdL (l : List Int32) (i h : Nat) (only : Bool) : List Int32 := if only then (l.take ((i + 1) * l.length / h)).drop (i * l.length / h) else l.take (i * l.length / h) ++ l.drop ((i + 1) * l.length / h)
noncomputable def kfR (P : Pg) (g : Sg) (l : List Int32) (h : Nat) (only : Bool) : Nat → Nat → Option (List Int32)
  | 0, _ => none
  | d + 1, i => if sgn (RUN P (cdL l i h only)) = g then some (cdL l i h only) else kfR P g l h only d (i + 1)
noncomputable def shR (P : Pg) (g : Sg) : Nat → Nat → List Int32 → List Int32
  | 0, _, l => l
  | f + 1, r, l => if l.length = 0 then l else
    match (if 2 ≤ min r l.length then kfR P g l (min r l.length) true (min r l.length) 0 else none) with
    | some l' => shR P g f 2 l'
    | none => match kfR P g l (min r l.length) false (min r l.length) 0 with
      | some l' => shR P g f (max (min r l.length - 1) 2) l'
      | none => if min r l.length = l.length then l else shR P g f (min (2 * min r l.length) l.length) l
theorem dv_1 {i n h : Nat} (h0 : 0 < h) (hn : h ≤ n) : i * n / h + 1 ≤ (i + 1) * n / h := by
  have h1 : i * n / h + 1 = (i * n + h) / h := (Nat.add_div_right _ h0).symm
  rw [h1]
  apply Nat.div_le_div_right
  rw [Nat.succ_mul]
  omega
theorem dv_2 {i n h : Nat} (h0 : 0 < h) (hi : i < h) : (i + 1) * n / h ≤ n := by
  have : (i + 1) * n / h ≤ h * n / h := Nat.div_le_div_right (Nat.mul_le_mul_right n (by omega))
  rw [Nat.mul_div_cancel_left n h0] at this
  exact this
theorem dv_3 {i n h : Nat} (h0 : 2 ≤ h) (hn : h ≤ n) (hi : i < h) : (i + 1) * n / h - i * n / h < n := by
  have h2 := dv_2 (i := i) (n := n) (by omega) hi
  rcases Nat.eq_zero_or_pos i with e | e
  · subst e
    have h3 : 1 * n / h + 1 ≤ 2 * n / h := dv_1 (i := 1) (n := n) (h := h) (by omega) hn
    have h4 : 2 * n / h ≤ n := dv_2 (i := 1) (n := n) (h := h) (by omega) (by omega)
    rw [Nat.zero_mul, Nat.zero_div, Nat.sub_zero]
    show 1 * n / h < n
    exact Nat.le_trans h3 h4
  · obtain ⟨k, rfl⟩ : ∃ k, i = k + 1 := ⟨i - 1, by omega⟩
    have h3 := dv_1 (i := k) (n := n) (h := h) (by omega) hn
    have h5 : 1 ≤ (k + 1) * n / h := Nat.le_trans (Nat.le_add_left 1 _) h3
    clear h3
    generalize (k + 1 + 1) * n / h = A at h2 ⊢
    generalize (k + 1) * n / h = B at h5 ⊢
    omega
theorem cd_len {l : List Int32} {i h : Nat} {only : Bool} (h1 : 1 ≤ h) (h2 : only = true → 2 ≤ h) (hn : h ≤ l.length) (hi : i < h) : (cdL l i h only).length < l.length := by
  have e1 := dv_1 (i := i) (n := l.length) (h := h) (by omega) hn
  have e2 := dv_2 (i := i) (n := l.length) (h := h) (by omega) hi
  have e3' : only = true → (i + 1) * l.length / h - i * l.length / h < l.length := fun q => dv_3 (h2 q) hn hi
  unfold cdL
  generalize (i + 1) * l.length / h = A at *
  generalize i * l.length / h = B at *
  cases only with
  | true =>
    have e3 := e3' rfl
    simp only [if_true]
    rw [List.length_drop, List.length_take]
    omega
  | false =>
    simp only [Bool.false_eq_true, if_false]
    rw [List.length_append, List.length_drop, List.length_take]
    omega
theorem cd_byt {l : List Int32} {i h : Nat} {only : Bool} (hb : Byt l) : Byt (cdL l i h only) := by
  intro x hx
  unfold cdL at hx
  cases only with
  | true =>
    simp only [if_true] at hx
    exact hb x (List.mem_of_mem_take (List.mem_of_mem_drop hx))
  | false =>
    simp only [Bool.false_eq_true, if_false, List.mem_append] at hx
    rcases hx with q | q
    · exact hb x (List.mem_of_mem_take q)
    · exact hb x (List.mem_of_mem_drop q)
theorem kf_some {P : Pg} {g : Sg} {l : List Int32} {h : Nat} {only : Bool} : ∀ d i l', i + d = h → kfR P g l h only d i = some l' → ∃ k, k < h ∧ l' = cdL l k h only := by
  intro d
  induction d with
  | zero => intro i l' _ h; cases h
  | succ d ih =>
    intro i l' hi hs
    unfold kfR at hs
    by_cases c : sgn (RUN P (cdL l i h only)) = g
    · rw [if_pos c] at hs
      exact ⟨i, by omega, (Option.some.inj hs).symm⟩
    · rw [if_neg c] at hs
      exact ih (i + 1) l' (by omega) hs
