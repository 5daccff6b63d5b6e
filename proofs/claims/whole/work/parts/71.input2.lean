/-! Pure: the class's Input: insert, takeOut. -/
theorem v_IN_insert {j k : Nat} {M : Mem} {l : List Int32} {b : Int32} (hl : Inp M j l) (h6 : l.length < 6) (hk : k ≤ l.length) (hb : 0 ≤ b ∧ b < 256) : ∃ M1, s_IN_insert j (nI k) b M = some M1 ∧ Inp M1 j (insL l k b) ∧ ∀ c, c ≠ j → c ≠ j + 1 → M1 c = M c := by
  obtain ⟨h1, h2, h3, h4⟩ := id hl
  have hap := Inp_ap hl h6 hb
  have hs : apX M j l.length b j 1 = nI (l.length + 1) := by have := hap.1; rw [List.length_append, List.length_singleton] at this; exact this
  have hg : Row (apX M j l.length b (j + 1)) 0 l := by
    intro p hp
    have := hap.2.2.1 p (by simp; omega)
    rw [this, List.getElem_append_left]
  have hloop : ∀ d i, i = k + d → i ≤ l.length → lp (fun q : Int32 × Mem => l_IN_insert_28 j (nI k) b q.1 q.2) (nI i, pt (apX M j l.length b) (j + 1) (shU (apX M j l.length b (j + 1)) i l.length)) = some (pt (apX M j l.length b) (j + 1) (upd (shU (apX M j l.length b (j + 1)) k l.length) k b)) := by
    intro d
    induction d with
    | zero =>
      intro i hi hil
      refine lp_last ?_
      show l_IN_insert_28 j (nI k) b (nI i) _ = _
      unfold l_IN_insert_28
      rw [if_pos (nI_le (by omega) (by omega))]
      unfold j_IN_insert_53
      rw [ck_i (vp_in_nI (by omega) (by decide)), nI_clamp (by omega)]
      simp only [nx]
      rw [pt_st, show i = k by omega]
    | succ d ih =>
      intro i hi hil
      obtain ⟨i', rfl⟩ : ∃ i', i = i' + 1 := ⟨i - 1, by omega⟩
      refine (lp_inl (b := fun q : Int32 × Mem => l_IN_insert_28 j (nI k) b q.1 q.2) (s1 := (nI i', _)) ?_).trans (ih i' (by omega) (by omega))
      show l_IN_insert_28 j (nI k) b (nI (i' + 1)) _ = _
      unfold l_IN_insert_28
      rw [if_neg (nI_ge (by omega) (by omega)), nI_pred, ck_i (vp_in_nI (by omega) (by decide)), ck_i (vp_in_nI (by omega) (by decide)), nI_clamp (by omega), nI_clamp (by omega)]
      simp only [nx]
      rw [pt_st, pt_same, shU_s (by omega), pk_m1]
  refine ⟨pt (apX M j l.length b) (j + 1) (upd (shU (apX M j l.length b (j + 1)) k l.length) k b), ?_, ⟨?_, ?_, ?_, ?_⟩, ?_⟩
  · unfold s_IN_insert
    rw [if_neg (nI_pos (by omega)), h1, if_neg (fun q => absurd ((nI_ltI (by omega) (by omega)).mp q) (by omega)), v_IN_append' hl h6 hb, bi_s, if_neg (by decide)]
    simp only [nx]
    rw [hs, nI_pred]
    have := hloop (l.length - k) l.length (by omega) (by omega)
    rw [shU_n, pt_id] at this
    exact this
  · rw [pt_o (by omega), hs, len_ins hk]
  · rw [len_ins hk]; omega
  · rw [pt_same]; exact Row_ins hg hk
  · exact Byt_ins h4 hb
  · intro c c0 c1
    rw [pt_o c1, apX_o c0 c1]
theorem v_IN_takeOut {j k : Nat} {M : Mem} {l : List Int32} (hl : Inp M j l) (hk : k < l.length) : ∃ M1, s_IN_takeOut j (nI k) M = some M1 ∧ Inp M1 j (outL l k) ∧ ∀ c, c ≠ j → c ≠ j + 1 → M1 c = M c := by
  obtain ⟨h1, h2, h3, h4⟩ := id hl
  have hloop : ∀ d i, i + d = l.length - 1 → k ≤ i → lp (fun q : Int32 × Mem => l_IN_takeOut_15 j q.1 q.2) (nI i, pt M (j + 1) (shD (M (j + 1)) k i)) = some (st (pt M (j + 1) (shD (M (j + 1)) k (l.length - 1))) j 1 (nI (l.length - 1))) := by
    have hs : ∀ f : Nat → Int32, pt M (j + 1) f j 1 - 1 = nI (l.length - 1) := fun f => by
      rw [pt_o (by omega), h1]
      obtain ⟨n, hn⟩ : ∃ n, l.length = n + 1 := ⟨l.length - 1, by omega⟩
      rw [hn, nI_pred]
      rfl
    intro d
    induction d with
    | zero =>
      intro i hi hki
      refine lp_last ?_
      show l_IN_takeOut_15 j (nI i) _ = _
      unfold l_IN_takeOut_15
      rw [hs, if_pos (nI_le (by omega) (by omega))]
      unfold j_IN_takeOut_45
      simp only [nx]
      rw [hs, show i = l.length - 1 by omega]
    | succ d ih =>
      intro i hi hki
      refine (lp_inl (b := fun q : Int32 × Mem => l_IN_takeOut_15 j q.1 q.2) (s1 := (nI (i + 1), _)) ?_).trans (ih (i + 1) (by omega) (by omega))
      show l_IN_takeOut_15 j (nI i) _ = _
      unfold l_IN_takeOut_15
      rw [hs, if_neg (nI_ge (by omega) (by omega)), ← nI_succ, ck_i (vp_in_nI (by omega) (by decide)), ck_i (vp_in_nI (by omega) (by decide)), nI_clamp (by omega), nI_clamp (by omega)]
      simp only [nx]
      rw [pt_st, pt_same, shD_s hki]
  refine ⟨st (pt M (j + 1) (shD (M (j + 1)) k (l.length - 1))) j 1 (nI (l.length - 1)), ?_, ⟨?_, ?_, ?_, ?_⟩, ?_⟩
  · unfold s_IN_takeOut
    rw [if_neg (nI_pos (by omega)), h1, if_pos (nI_lt hk (by omega))]
    have := hloop (l.length - 1 - k) k (by omega) (by omega)
    rw [shD_k, pt_id] at this
    exact this
  · rw [st_ap, if_pos rfl, if_pos rfl, len_out hk]
  · rw [len_out hk]; omega
  · rw [st_other (by omega), pt_same]; exact Row_out h3 hk
  · exact Byt_out h4
  · intro c c0 c1
    rw [st_other c0, pt_o c1]
