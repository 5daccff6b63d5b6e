/-! Pure: the class's Input as a list of bytes. -/
theorem Inp_fr {M M1 : Mem} {i : Nat} {l : List Int32} (h : Inp M i l) (h0 : M1 i = M i) (h1 : M1 (i + 1) = M (i + 1)) : Inp M1 i l := by
  unfold Inp
  rw [h0, h1]
  exact h
theorem Inp_ap {M : Mem} {j : Nat} {l : List Int32} {b : Int32} (h : Inp M j l) (hl : l.length < 6) (hb : 0 ≤ b ∧ b < 256) : Inp (apX M j l.length b) j (l ++ [b]) := by
  obtain ⟨h1, h2, h3, h4⟩ := h
  unfold apX
  refine ⟨?_, by simp; omega, ?_, ?_⟩
  · rw [st_ap, if_pos rfl, if_pos rfl, List.length_append, List.length_singleton, nI_succ]
  · intro k hk
    rw [st_other (by omega), st_same, Nat.zero_add]
    rw [List.length_append, List.length_singleton] at hk
    by_cases e : k = l.length
    · subst e; rw [pk_us]; simp
    · rw [pk_un e]
      have := h3 k (by omega)
      rw [Nat.zero_add] at this
      rw [this, List.getElem_append_left]
  · intro x hx
    rw [List.mem_append, List.mem_singleton] at hx
    rcases hx with hx | hx
    · exact h4 x hx
    · subst hx; exact hb
theorem v_IN_at' {M : Mem} {i k : Nat} {m : List Int32} (h : Inp M i m) (hk : k < m.length) : s_IN_at i (nI k) M = some (m[k], M) := by
  obtain ⟨h1, h2, h3, h4⟩ := h
  rw [v_IN_at (nI k) h1 h2, if_pos ⟨nI_pos' (by omega), nI_lt hk (by omega)⟩, nI_clamp (by omega)]
  have := h3 k hk
  rw [Nat.zero_add] at this
  rw [this]
theorem v_IN_append' {M : Mem} {j : Nat} {l : List Int32} {b : Int32} (h : Inp M j l) (hl : l.length < 6) (hb : 0 ≤ b ∧ b < 256) : s_IN_append j b M = some (1, apX M j l.length b) := by
  rw [v_IN_append b h.1 h.2.1, if_pos ⟨hl, hb⟩]
theorem apX_o {M : Mem} {j n a : Nat} {b : Int32} (h0 : a ≠ j) (h1 : a ≠ j + 1) : apX M j n b a = M a := by
  unfold apX
  rw [st_other h0, st_other h1]
theorem v_apLoop {i j e : Nat} {m : List Int32} (hij : j + 1 < i ∨ i + 1 < j) (he : e ≤ m.length) : ∀ d k M l, k + d = e → Inp M j l → Inp M i m → l.length + d ≤ 6 → ∃ M1, lp (fun q : Int32 × Mem => l_IN_appendPart_13 j i (nI e) q.1 q.2) (nI k, M) = some M1 ∧ Inp M1 j (l ++ (m.take e).drop k) ∧ ∀ a, a ≠ j → a ≠ j + 1 → M1 a = M a := by
  intro d
  induction d with
  | zero =>
    intro k M l hk hl hm h6
    refine ⟨M, lp_inr ?_, ?_, fun _ _ _ => rfl⟩
    · show l_IN_appendPart_13 j i (nI e) (nI k) M = _
      unfold l_IN_appendPart_13
      rw [if_pos (nI_le (by omega) (by have := hm.2.1; omega))]
    · rw [List.drop_eq_nil_of_le (by simp; omega), List.append_nil]
      exact hl
  | succ d ih =>
    intro k M l hk hl hm h6
    have hkm : k < m.length := by omega
    have hb := hm.2.2.2 m[k] (List.getElem_mem hkm)
    obtain ⟨M1, i1, i2, i3⟩ := ih (k + 1) (apX M j l.length m[k]) (l ++ [m[k]]) (by omega) (Inp_ap hl (by omega) hb) (Inp_fr hm (apX_o (by omega) (by omega)) (apX_o (by omega) (by omega))) (by simp; omega)
    refine ⟨M1, ?_, ?_, fun a h0 h1 => by rw [i3 a h0 h1, apX_o h0 h1]⟩
    · refine (lp_inl (b := fun q : Int32 × Mem => l_IN_appendPart_13 j i (nI e) q.1 q.2) ?_).trans i1
      show l_IN_appendPart_13 j i (nI e) (nI k) M = _
      unfold l_IN_appendPart_13
      rw [if_neg (nI_ge (by omega) (by have := hm.2.1; omega)), v_IN_at' hm hkm, bi_s, v_IN_append' hl (by omega) hb, bi_s, nI_succ]
      rfl
    · rw [List.drop_eq_getElem_cons (by simp; omega)]
      rw [List.getElem_take]
      simpa using i2
theorem v_IN_appendPart {i j a b : Nat} {M : Mem} {l m : List Int32} (hij : j + 1 < i ∨ i + 1 < j) (hl : Inp M j l) (hm : Inp M i m) (hb : b < 2 ^ 31) (hab : a ≤ min b m.length) (h6 : l.length + (min b m.length - a) ≤ 6) : ∃ M1, s_IN_appendPart j i (nI a) (nI b) M = some M1 ∧ Inp M1 j (l ++ (m.take b).drop a) ∧ ∀ c, c ≠ j → c ≠ j + 1 → M1 c = M c := by
  obtain ⟨M1, h1, h2, h3⟩ := v_apLoop hij (e := min b m.length) (Nat.min_le_right _ _) (min b m.length - a) a M l (by omega) hl hm h6
  refine ⟨M1, ?_, ?_, h3⟩
  · rw [← h1]
    unfold s_IN_appendPart
    simp only [nx]
    have : (if M i 1 < nI b then M i 1 else nI b) = nI (min b m.length) := by
      have hm6 := hm.2.1
      rw [hm.1]
      by_cases c : m.length < b
      · rw [if_pos (nI_lt c hb), Nat.min_eq_right (by omega)]
      · rw [if_neg (fun q => c ((nI_ltI (by omega) hb).mp q)), Nat.min_eq_left (by omega)]
    rw [this]
  · have : m.take b = m.take (min b m.length) := by
      rcases Nat.le_total b m.length with c | c
      · rw [Nat.min_eq_left c]
      · rw [Nat.min_eq_right c, List.take_of_length_le c, List.take_length]
    rw [this]
    exact h2
theorem Inp_nil {M : Mem} (j : Nat) : Inp (st M j 1 0) j [] := ⟨by rw [st_ap, if_pos rfl, if_pos rfl]; rfl, by simp, fun k hk => absurd hk (by simp), fun b hb => absurd hb (by simp)⟩
theorem v_IN_copy {i j : Nat} {M : Mem} {m : List Int32} (hij : j + 1 < i ∨ i + 1 < j) (hm : Inp M i m) : ∃ M1, s_IN_copy j i M = some M1 ∧ Inp M1 j m ∧ ∀ c, c ≠ j → c ≠ j + 1 → M1 c = M c := by
  have hm1 : Inp (st M j 1 0) i m := Inp_fr hm (st_other (by omega)) (st_other (by omega))
  have h6 := hm.2.1
  obtain ⟨M1, h1, h2, h3⟩ := v_IN_appendPart (a := 0) (b := m.length) hij (Inp_nil j) hm1 (by omega) (by omega) (by simp; omega)
  refine ⟨M1, ?_, ?_, fun c c0 c1 => by rw [h3 c c0 c1, st_other c0]⟩
  · unfold s_IN_copy
    simp only [nx]
    rw [hm1.1, show (0 : Int32) = nI 0 from rfl, show (st M j 1 (nI 0)) = st M j 1 0 from rfl, h1]
    rfl
  · simpa using h2
theorem v_IN_cutTo {j c : Nat} {M : Mem} {l : List Int32} (hl : Inp M j l) (hc : c < 2 ^ 31) : ∃ M1, s_IN_cutTo j (nI c) M = some M1 ∧ Inp M1 j (l.take c) ∧ ∀ a, a ≠ j → M1 a = M a := by
  obtain ⟨h1, h2, h3, h4⟩ := hl
  have e1 : (if nI c < M j 1 then nI c else M j 1) = nI (min c l.length) := by
    rw [h1]
    by_cases q : c < l.length
    · rw [if_pos (nI_lt q (by omega)), Nat.min_eq_left (by omega)]
    · rw [if_neg (fun p => q ((nI_ltI hc (by omega)).mp p)), Nat.min_eq_right (by omega)]
  have e2 : (if (0 : Int32) < nI (min c l.length) then nI (min c l.length) else 0) = nI (min c l.length) := by
    by_cases q : 0 < min c l.length
    · rw [if_pos (show (0 : Int32) < nI (min c l.length) from nI_lt (a := 0) q (by omega))]
    · rw [show min c l.length = 0 by omega]; rfl
  refine ⟨st M j 1 (nI (min c l.length)), ?_, ⟨?_, ?_, ?_, ?_⟩, fun a ha => st_other ha⟩
  · unfold s_IN_cutTo
    simp only [nx]
    rw [e1, e2]
  · rw [st_ap, if_pos rfl, if_pos rfl, List.length_take]
  · rw [List.length_take]; omega
  · intro k hk
    rw [st_other (by omega), List.getElem_take]
    exact h3 k (by rw [List.length_take] at hk; omega)
  · intro b hb
    exact h4 b (List.mem_of_mem_take hb)
theorem b_255 (x : Int32) : 0 ≤ x &&& 255 ∧ x &&& 255 < 256 := by
  obtain ⟨j, hj, e⟩ := pk_andE x (m := 255) 8 (by decide)
  rw [e]
  exact ⟨nI_pos' (by omega), nI_lt (b := 256) hj (by decide)⟩
theorem Inp_set {M : Mem} {j k : Nat} {l : List Int32} {b : Int32} (h : Inp M j l) (hb : 0 ≤ b ∧ b < 256) : Inp (st M (j + 1) k b) j (l.set k b) := by
  obtain ⟨h1, h2, h3, h4⟩ := h
  refine ⟨?_, by rw [List.length_set]; exact h2, ?_, ?_⟩
  · rw [st_other (by omega), List.length_set]; exact h1
  · intro p hp
    rw [List.length_set] at hp
    rw [st_same, Nat.zero_add, List.getElem_set]
    have := h3 p hp
    rw [Nat.zero_add] at this
    by_cases e : p = k
    · subst e; rw [pk_us, if_pos rfl]
    · rw [pk_un e, if_neg (fun q => e q.symm)]; exact this
  · intro x hx
    rcases List.mem_or_eq_of_mem_set hx with q | q
    · exact h4 x q
    · subst q; exact hb
theorem v_IN_put {j k : Nat} {M : Mem} {l : List Int32} (v : Int32) (hl : Inp M j l) (hk : k < l.length) : s_IN_put j (nI k) v M = some (st M (j + 1) k (v &&& 255)) := by
  have h6 := hl.2.1
  unfold s_IN_put
  rw [if_neg (nI_pos (by omega)), hl.1, if_neg (nI_ge hk (by omega)), ck_i (vp_in_nI (by omega) (by decide)), nI_clamp (by omega)]
  rfl
theorem v_IN_turnBit {j k : Nat} {M : Mem} {l : List Int32} (bit : Int32) (hl : Inp M j l) (hk : k < l.length) : s_IN_turnBit j (nI k) bit M = some (st M (j + 1) k ((l[k] ^^^ ((1 : Int32) <<< (bit &&& 31))) &&& 255)) := by
  unfold s_IN_turnBit
  rw [v_IN_at' hl hk, bi_s, v_IN_put _ hl hk]
  rfl
theorem v_IN_addTo {j k : Nat} {M : Mem} {l : List Int32} (d : Int32) (hl : Inp M j l) (hk : k < l.length) : s_IN_addTo j (nI k) d M = some (st M (j + 1) k ((l[k] + d) &&& 255)) := by
  unfold s_IN_addTo
  rw [v_IN_at' hl hk, bi_s, v_IN_put _ hl hk]
  rfl
/-- places i+1 .. n hold what stood one before -/
def shU (f : Nat → Int32) (i n : Nat) : Nat → Int32 := fun p => if i < p ∧ p ≤ n then f (p - 1) else f p
theorem shU_n (f : Nat → Int32) (n : Nat) : shU f n n = f := by
  funext p; unfold shU; rw [if_neg (by omega)]
theorem shU_s {f : Nat → Int32} {i n : Nat} (h : i < n) : upd (shU f (i + 1) n) (i + 1) (shU f (i + 1) n i) = shU f i n := by
  funext p
  unfold upd shU
  by_cases e : p = i + 1
  · subst e
    rw [if_pos rfl, if_neg (by omega), if_pos (by omega)]
    rfl
  · rw [if_neg e]
    by_cases c : i + 1 < p ∧ p ≤ n
    · rw [if_pos c, if_pos (by omega)]
    · rw [if_neg c, if_neg (by omega)]
/-- places k .. i-1 hold what stood one behind -/
def shD (f : Nat → Int32) (k i : Nat) : Nat → Int32 := fun p => if k ≤ p ∧ p < i then f (p + 1) else f p
theorem shD_k (f : Nat → Int32) (k : Nat) : shD f k k = f := by
  funext p; unfold shD; rw [if_neg (by omega)]
theorem shD_s {f : Nat → Int32} {k i : Nat} (h : k ≤ i) : upd (shD f k i) i (shD f k i (i + 1)) = shD f k (i + 1) := by
  funext p
  unfold upd shD
  by_cases e : p = i
  · subst e
    rw [if_pos rfl, if_neg (by omega), if_pos (by omega)]
  · rw [if_neg e]
    by_cases c : k ≤ p ∧ p < i
    · rw [if_pos c, if_pos (by omega)]
    · rw [if_neg c, if_neg (by omega)]
def insL (l : List Int32) (k : Nat) (b : Int32) : List Int32 := l.take k ++ b :: l.drop k
def outL (l : List Int32) (k : Nat) : List Int32 := l.take k ++ l.drop (k + 1)
theorem Row_ins {f : Nat → Int32} {l : List Int32} {k : Nat} {b : Int32} (h : Row f 0 l) (hk : k ≤ l.length) : Row (upd (shU f k l.length) k b) 0 (insL l k b) := by
  intro p hp
  unfold insL at hp ⊢
  rw [Nat.zero_add]
  have hl : (l.take k).length = k := by rw [List.length_take]; omega
  rw [List.length_append, hl, List.length_cons, List.length_drop] at hp
  rw [List.getElem_append]
  by_cases c : p < k
  · rw [dif_pos (by omega), List.getElem_take]
    unfold upd shU
    rw [if_neg (by omega), if_neg (by omega)]
    have := h p (by omega)
    rw [Nat.zero_add] at this
    exact this
  · rw [dif_neg (by omega)]
    by_cases e : p = k
    · subst e
      rw [pk_us]
      simp [hl]
    · unfold upd shU
      rw [if_neg e, if_pos (by omega)]
      have := h (p - 1) (by omega)
      rw [Nat.zero_add] at this
      rw [this]
      rw [List.getElem_cons]
      rw [dif_neg (by omega), List.getElem_drop]
      congr 1
      omega
theorem Row_out {f : Nat → Int32} {l : List Int32} {k : Nat} (h : Row f 0 l) (hk : k < l.length) : Row (shD f k (l.length - 1)) 0 (outL l k) := by
  intro p hp
  unfold outL at hp ⊢
  rw [Nat.zero_add]
  have hl : (l.take k).length = k := by rw [List.length_take]; omega
  rw [List.length_append, hl, List.length_drop] at hp
  rw [List.getElem_append]
  unfold shD
  by_cases c : p < k
  · rw [dif_pos (by omega), List.getElem_take, if_neg (by omega)]
    have := h p (by omega)
    rw [Nat.zero_add] at this
    exact this
  · rw [dif_neg (by omega), if_pos (by omega), List.getElem_drop]
    have := h (p + 1) (by omega)
    rw [Nat.zero_add] at this
    rw [this]
    congr 1
    omega
theorem Byt_ins {l : List Int32} {k : Nat} {b : Int32} (h : Byt l) (hb : 0 ≤ b ∧ b < 256) : Byt (insL l k b) := by
  intro x hx
  unfold insL at hx
  rw [List.mem_append, List.mem_cons] at hx
  rcases hx with q | q | q
  · exact h x (List.mem_of_mem_take q)
  · subst q; exact hb
  · exact h x (List.mem_of_mem_drop q)
theorem Byt_out {l : List Int32} {k : Nat} (h : Byt l) : Byt (outL l k) := by
  intro x hx
  unfold outL at hx
  rw [List.mem_append] at hx
  rcases hx with q | q
  · exact h x (List.mem_of_mem_take q)
  · exact h x (List.mem_of_mem_drop q)
theorem len_ins {l : List Int32} {k : Nat} {b : Int32} (hk : k ≤ l.length) : (insL l k b).length = l.length + 1 := by
  unfold insL
  rw [List.length_append, List.length_take, List.length_cons, List.length_drop]
  omega
theorem len_out {l : List Int32} {k : Nat} (hk : k < l.length) : (outL l k).length = l.length - 1 := by
  unfold outL
  rw [List.length_append, List.length_take, List.length_drop]
  omega
