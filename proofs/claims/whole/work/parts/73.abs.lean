/-! Pure: what a store of entries is worth: times, buckets, goers, costs, the favoured ones. -/
noncomputable def tN (P : Pg) (l : List Int32) (g : Nat) : Nat := ((RUN P l).1.2.2.2 g).toNatClampNeg
theorem tN_eq {P : Pg} {n g : Nat} (l : List Int32) (hP : wfP P n) (hg : g < 576) : (RUN P l).1.2.2.2 g = nI (tN P l g) ∧ tN P l g ≤ 64 := by
  obtain ⟨-, ⟨k, hk, -, -, h⟩, -⟩ := RUN_wf l hP
  obtain ⟨m, hm, e⟩ := h g hg
  unfold tN
  rw [e, nI_clamp (by omega)]
  exact ⟨rfl, by omega⟩
noncomputable def stN (P : Pg) (l : List Int32) : Int32 := (RUN P l).2.2.2.2.1
noncomputable def ecN (P : Pg) (l : List Int32) : Nat := hid (sm (fun g => if tN P l g ≠ 0 then 1 else 0) KE)
theorem ecN_K (P : Pg) (l : List Int32) : ecN P l = sm (fun g => if tN P l g ≠ 0 then 1 else 0) KE := hid_eq _
theorem ecN_eq (P : Pg) (l : List Int32) : ecN P l = sm (fun g => if tN P l g ≠ 0 then 1 else 0) 576 := by
  rw [ecN_K, KE_eq]
noncomputable def wN (P : Pg) (es : List (List Int32)) (g : Nat) : Nat → Nat
  | 0 => 0
  | m + 1 => if tN P (es.getD m []) g = 0 then wN P es g m else wN P es g m ||| 2 ^ m
noncomputable def bN (P : Pg) (es : List (List Int32)) (g : Nat) : Nat → Nat
  | 0 => 0
  | m + 1 => if tN P (es.getD m []) g = 0 then bN P es g m else bN P es g m ||| 2 ^ bkN (tN P (es.getD m []) g)
theorem wN_lt (P : Pg) (es : List (List Int32)) (g : Nat) : ∀ m, wN P es g m < 2 ^ m := by
  intro m
  induction m with
  | zero => exact Nat.one_pos
  | succ m ih =>
    have h2 : 2 ^ m < 2 ^ (m + 1) := Nat.pow_lt_pow_right (by decide) (by omega)
    show (if _ then _ else _) < _
    split
    · omega
    · exact Nat.or_lt_two_pow (by omega) h2
theorem bN_lt (P : Pg) (es : List (List Int32)) (g : Nat) : ∀ m, bN P es g m < 64 := by
  intro m
  induction m with
  | zero => show 0 < 64; decide
  | succ m ih =>
    show (if _ then _ else _) < _
    split
    · exact ih
    · exact Nat.or_lt_two_pow (n := 6) ih (Nat.pow_lt_pow_right (by decide) (bkN_lt _))
theorem wN_t (P : Pg) (es : List (List Int32)) (g e : Nat) : ∀ m, e < m → (wN P es g m).testBit e = decide (tN P (es.getD e []) g ≠ 0) := by
  intro m
  induction m with
  | zero => intro h; omega
  | succ m ih =>
    intro h
    show (if _ then _ else _ : Nat).testBit e = _
    by_cases c : e = m
    · subst c
      have h1 : (wN P es g e).testBit e = false := Nat.testBit_lt_two_pow (wN_lt P es g e)
      split
      · rename_i q; rw [h1]; exact (decide_eq_false (fun c => c q)).symm
      · rename_i q; rw [Nat.testBit_or, h1, Nat.testBit_two_pow_self]; exact (decide_eq_true q).symm
    · split
      · exact ih (by omega)
      · rw [Nat.testBit_or, ih (by omega), Nat.testBit_two_pow_of_ne (by omega), Bool.or_false]
theorem or_0 {a b : Nat} : a ||| b = 0 ↔ a = 0 ∧ b = 0 := by
  constructor
  · intro h
    have h1 : a ≤ a ||| b := Nat.left_le_or
    have h2 : b ≤ a ||| b := Nat.right_le_or
    omega
  · rintro ⟨rfl, rfl⟩; rfl
theorem wb_0 (P : Pg) (es : List (List Int32)) (g : Nat) : ∀ m, wN P es g m = 0 ↔ bN P es g m = 0 := by
  intro m
  induction m with
  | zero => exact Iff.rfl
  | succ m ih =>
    show (if _ then _ else _) = 0 ↔ (if _ then _ else _) = 0
    split
    · exact ih
    · have h1 : 0 < 2 ^ m := Nat.two_pow_pos m
      have h2 : 0 < 2 ^ bkN (tN P (es.getD m []) g) := Nat.two_pow_pos _
      rw [or_0, or_0]
      constructor
      · intro q; omega
      · intro q; omega
theorem getD_ap {es : List (List Int32)} {l : List Int32} {m : Nat} (h : m < es.length) : (es ++ [l]).getD m [] = es.getD m [] := by
  rw [List.getD_eq_getElem?_getD, List.getD_eq_getElem?_getD, List.getElem?_append_left h]
theorem getD_la (es : List (List Int32)) (l : List Int32) : (es ++ [l]).getD es.length [] = l := by
  rw [List.getD_eq_getElem?_getD]; simp
theorem getD_el {es : List (List Int32)} {m : Nat} (h : m < es.length) : es.getD m [] = es[m] := by
  rw [List.getD_eq_getElem?_getD, List.getElem?_eq_getElem h]; rfl
theorem wN_ap (P : Pg) (es : List (List Int32)) (l : List Int32) (g : Nat) : ∀ m, m ≤ es.length → wN P (es ++ [l]) g m = wN P es g m ∧ bN P (es ++ [l]) g m = bN P es g m := by
  intro m
  induction m with
  | zero => intro _; exact ⟨rfl, rfl⟩
  | succ m ih =>
    intro h
    obtain ⟨i1, i2⟩ := ih (by omega)
    unfold wN bN
    rw [getD_ap (by omega), i1, i2]
    exact ⟨rfl, rfl⟩
/-- what an entry costs -/
noncomputable def coN (P : Pg) (es : List (List Int32)) (e : Nat) : Int32 := stN P (es.getD e []) * (1 + nI (es.getD e []).length)
/-- the best of the first n entries in the set w, and what it costs -/
def tpR (C : Nat → Int32) (w : Int32) : Nat → Int32 × Int32
  | 0 => (-1, 0)
  | e + 1 => if (w >>> (nI e &&& 31)) &&& 1 = 1 ∧ ((tpR C w e).1 < 0 ∨ C e < (tpR C w e).2) then (nI e, C e) else tpR C w e
def fvR (W : Nat → Int32) (C : Nat → Int32) (n : Nat) : Nat → Int32
  | 0 => 0
  | g + 1 => if W g ≠ 0 ∧ W g &&& fvR W C n g = 0 then fvR W C n g ||| (1 <<< ((tpR C (W g) n).1 &&& 31)) else fvR W C n g
noncomputable def fav (P : Pg) (es : List (List Int32)) : Int32 := hid (fvR (fun g => nI (wN P es g es.length)) (coN P es) es.length KE)
theorem fav_K (P : Pg) (es : List (List Int32)) : fav P es = fvR (fun g => nI (wN P es g es.length)) (coN P es) es.length KE := hid_eq _
theorem fav_eq (P : Pg) (es : List (List Int32)) : fav P es = fvR (fun g => nI (wN P es g es.length)) (coN P es) es.length 576 := by
  rw [fav_K, KE_eq]
theorem tp_or (C : Nat → Int32) (w : Int32) : ∀ n, (tpR C w n).1 = -1 ∨ ∃ b, b < n ∧ (tpR C w n).1 = nI b ∧ (tpR C w n).2 = C b := by
  intro n
  induction n with
  | zero => exact Or.inl rfl
  | succ n ih =>
    unfold tpR
    split
    · exact Or.inr ⟨n, by omega, rfl, rfl⟩
    · rcases ih with h | ⟨b, h1, h2, h3⟩
      · exact Or.inl h
      · exact Or.inr ⟨b, by omega, h2, h3⟩
/-- a run brings news -/
noncomputable def nwB (P : Pg) (es : List (List Int32)) (l : List Int32) : Nat → Bool
  | 0 => false
  | g + 1 => nwB P es l g || (decide (tN P l g ≠ 0) && !(bN P es g es.length).testBit (bkN (tN P l g)))
theorem nwB_iff (P : Pg) (es : List (List Int32)) (l : List Int32) : ∀ n, nwB P es l n = true ↔ ∃ g, g < n ∧ tN P l g ≠ 0 ∧ (bN P es g es.length).testBit (bkN (tN P l g)) = false := by
  intro n
  induction n with
  | zero => simp [nwB]
  | succ n ih =>
    unfold nwB
    rw [Bool.or_eq_true, ih, Bool.and_eq_true, decide_eq_true_iff, Bool.not_eq_true']
    constructor
    · rintro (⟨g, h1, h2⟩ | h)
      · exact ⟨g, by omega, h2⟩
      · exact ⟨n, by omega, h⟩
    · rintro ⟨g, h1, h2⟩
      by_cases e : g = n
      · subst e; exact Or.inr h2
      · exact Or.inl ⟨g, by omega, h2⟩
noncomputable def news (P : Pg) (es : List (List Int32)) (l : List Int32) : Bool := hid (nwB P es l KE)
theorem news_K (P : Pg) (es : List (List Int32)) (l : List Int32) : news P es l = nwB P es l KE := hid_eq _
theorem news_eq (P : Pg) (es : List (List Int32)) (l : List Int32) : news P es l = nwB P es l 576 := by
  rw [news_K, KE_eq]
theorem news_iff (P : Pg) (es : List (List Int32)) (l : List Int32) : news P es l = true ↔ ∃ g, g < 576 ∧ tN P l g ≠ 0 ∧ (bN P es g es.length).testBit (bkN (tN P l g)) = false := by
  rw [news_eq]
  exact nwB_iff P es l 576
theorem news_ec {P : Pg} {es : List (List Int32)} {l : List Int32} (h : news P es l = true) : 1 ≤ ecN P l := by
  obtain ⟨g, h1, h2, -⟩ := (news_iff P es l).mp h
  have := sm_one (f := fun i => if tN P l i ≠ 0 then 1 else 0) (g := fun i => if i = g then 0 else if tN P l i ≠ 0 then 1 else 0) (x := g) 576 h1 (fun i _ hi => by simp only [hi, if_false])
  simp only [if_pos h2, if_true] at this
  rw [ecN_eq]
  omega
/-- how many edges, how many pairs are seen -/
noncomputable def seE (P : Pg) (es : List (List Int32)) : Nat := hid (sm (fun g => if bN P es g es.length = 0 then 0 else 1) KE)
theorem seE_K (P : Pg) (es : List (List Int32)) : seE P es = sm (fun g => if bN P es g es.length = 0 then 0 else 1) KE := hid_eq _
theorem seE_eq (P : Pg) (es : List (List Int32)) : seE P es = sm (fun g => if bN P es g es.length = 0 then 0 else 1) 576 := by
  rw [seE_K, KE_eq]
def pc6 (b : Nat) : Nat := sm (fun k => b / 2 ^ k % 2) 6
noncomputable def seP (P : Pg) (es : List (List Int32)) : Nat := hid (sm (fun g => pc6 (bN P es g es.length)) KE)
theorem seP_K (P : Pg) (es : List (List Int32)) : seP P es = sm (fun g => pc6 (bN P es g es.length)) KE := hid_eq _
theorem seP_eq (P : Pg) (es : List (List Int32)) : seP P es = sm (fun g => pc6 (bN P es g es.length)) 576 := by
  rw [seP_K, KE_eq]
/-- a copy: n places of f, from o on, laid at p -/
def cpR (f g : Nat → Int32) (o p n : Nat) : Nat → Int32 := fun q => if p ≤ q ∧ q < p + n then f (o + (q - p)) else g q
theorem cp_0 (f g : Nat → Int32) (o p : Nat) : cpR f g o p 0 = g := by
  funext q; unfold cpR; rw [if_neg (by omega)]
theorem cp_s (f g : Nat → Int32) (o p n : Nat) : upd (cpR f g o p n) (p + n) (f (o + n)) = cpR f g o p (n + 1) := by
  funext q
  unfold upd cpR
  by_cases e : q = p + n
  · subst e
    rw [if_pos rfl, if_pos (by omega)]
    congr 2
    omega
  · rw [if_neg e]
    by_cases c : p ≤ q ∧ q < p + n
    · rw [if_pos c, if_pos (by omega)]
    · rw [if_neg c, if_neg (by omega)]
theorem Row_cp {f g : Nat → Int32} {o p : Nat} {l : List Int32} (h : Row f o l) : Row (cpR f g o p l.length) p l := by
  intro k hk
  unfold cpR
  rw [if_pos (by omega), show o + (p + k - p) = o + k by omega]
  exact h k hk
theorem cp_o {f g : Nat → Int32} {o p n q : Nat} (h : q < p ∨ p + n ≤ q) : cpR f g o p n q = g q := by
  unfold cpR; rw [if_neg (by omega)]
theorem Row_o {f g : Nat → Int32} {o p n r : Nat} {l : List Int32} (h : Row g r l) (hd : r + l.length ≤ p ∨ p + n ≤ r) : Row (cpR f g o p n) r l := by
  intro k hk
  rw [cp_o (by omega)]
  exact h k hk
