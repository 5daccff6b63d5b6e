/-! Pure: the reference's edgesOf, newPair, seenEdges, seenPairs. -/
theorem v_MO_edgesOf {M : Mem} {P : Pg} {es : List (List Int32)} {e : Nat} (h2 : ∀ q, q < 576 → M 49 q = nI (wN P es q es.length)) (h16 : es.length ≤ 16) (he : e < es.length) : s_MO_edgesOf (nI e) M = some (nI (ecN P (es.getD e [])), M) := by
  have hb : ∀ g, g < 576 → (fun q : Int32 × Int32 × Mem => l_MO_edgesOf_4 (nI e) q.1 q.2.1 q.2.2) (nI (sm (fun g => if tN P (es.getD e []) g ≠ 0 then 1 else 0) g), nI g, M) = some (.inl (nI (sm (fun g => if tN P (es.getD e []) g ≠ 0 then 1 else 0) (g + 1)), nI (g + 1), M)) := fun g hg => by
    show l_MO_edgesOf_4 (nI e) (nI (sm (fun g => if tN P (es.getD e []) g ≠ 0 then 1 else 0) g)) (nI g) M = _
    unfold l_MO_edgesOf_4
    have hw : wN P es g es.length < 2 ^ 31 := Nat.lt_of_lt_of_le (wN_lt P es g es.length) (Nat.pow_le_pow_right (by decide) (by omega))
    rw [if_neg (show ¬ (576 : Int32) ≤ nI g from nI_ge (b := 576) hg (by decide)), ck_i (vp_in_nI hg (by decide)), nI_clamp (by omega), h2 g hg, sr_1 hw (by omega), tb_d, wN_t P es g e es.length he]
    simp only [nx]
    rw [nI_add, ← nI_succ]
    by_cases c : tN P (es.getD e []) g = 0
    · rw [if_neg (by rw [decide_eq_true_iff]; exact fun q => q c), show sm (fun g => if tN P (es.getD e []) g ≠ 0 then 1 else 0) (g + 1) = sm (fun g => if tN P (es.getD e []) g ≠ 0 then 1 else 0) g + (if tN P (es.getD e []) g ≠ 0 then 1 else 0) from rfl, if_neg (fun q => q c)]
    · rw [if_pos (by rw [decide_eq_true_iff]; exact c), show sm (fun g => if tN P (es.getD e []) g ≠ 0 then 1 else 0) (g + 1) = sm (fun g => if tN P (es.getD e []) g ≠ 0 then 1 else 0) g + (if tN P (es.getD e []) g ≠ 0 then 1 else 0) from rfl, if_pos c]
  rw [ecN_eq]
  have h0 := lp_cnt0 (b := fun q : Int32 × Int32 × Mem => l_MO_edgesOf_4 (nI e) q.1 q.2.1 q.2.2) (fun g => (nI (sm (fun g => if tN P (es.getD e []) g ≠ 0 then 1 else 0) g), nI g, M)) 576 hb
  refine h0.trans (lp_inr ?_)
  show l_MO_edgesOf_4 (nI e) _ (nI 576) M = _
  unfold l_MO_edgesOf_4
  rw [if_pos (by decide)]
theorem tb_c {b k : Nat} (hb : b < 64) (hk : k < 6) : ((nI b >>> (nI k &&& 31)) &&& 1) = 0 ↔ b.testBit k = false := by
  rw [sr_t (by omega) (by omega)]
  cases b.testBit k <;> decide
theorem v_MO_newPair {M : Mem} {P : Pg} {n : Nat} {es : List (List Int32)} {l : List Int32} (hP : wfP P n) (h1 : ∀ q, q < 576 → M 48 q = nI (bN P es q es.length)) (h3 : ∀ q, q < 576 → M 35 q = nI (tN P l q)) : s_MO_newPair M = some (bI (news P es l = true), M) := by
  have hb : ∀ g, g < 576 → (fun q : Int32 × Int32 × Mem => l_MO_newPair_4 q.1 q.2.1 q.2.2) (bI (nwB P es l g = true), nI g, M) = some (.inl (bI (nwB P es l (g + 1) = true), nI (g + 1), M)) := fun g hg => by
    show l_MO_newPair_4 (bI (nwB P es l g = true)) (nI g) M = _
    have hs : nwB P es l (g + 1) = (nwB P es l g || (decide (tN P l g ≠ 0) && !(bN P es g es.length).testBit (bkN (tN P l g)))) := rfl
    have ht := (tN_eq l hP hg).2
    unfold l_MO_newPair_4 j_MO_newPair_45 j_MO_newPair_49 j_MO_newPair_50
    rw [if_neg (show ¬ (576 : Int32) ≤ nI g from nI_ge (b := 576) hg (by decide)), ck_i (vp_in_nI hg (by decide)), ck_i (vp_in_nI hg (by decide)), ck_i (vp_in_nI hg (by decide)), nI_clamp (by omega), h1 g hg, h3 g hg, hs]
    simp only [nx]
    rw [← nI_succ]
    by_cases c0 : nwB P es l g = true
    · rw [bI_t c0, if_neg (by decide), bI_t (by rw [c0]; rfl)]
    · rw [bI_f c0, if_pos rfl]
      have c0' : nwB P es l g = false := by cases q : nwB P es l g <;> simp_all
      rw [c0', Bool.false_or]
      by_cases c1 : tN P l g = 0
      · rw [c1, if_pos (by decide), bI_f (by simp)]
      · rw [if_neg (nI_nle (by omega) (by omega)), v_MO_bucket M (by omega) ht, bi_s]
        by_cases c2 : (bN P es g es.length).testBit (bkN (tN P l g)) = false
        · rw [if_pos ((tb_c (bN_lt P es g _) (bkN_lt _)).mpr c2), bI_t (by rw [c2]; simp [c1])]
        · rw [if_neg (fun q => c2 ((tb_c (bN_lt P es g _) (bkN_lt _)).mp q)), bI_f (by simp at c2; rw [c2]; simp)]
  have h0 := lp_cnt0 (b := fun q : Int32 × Int32 × Mem => l_MO_newPair_4 q.1 q.2.1 q.2.2) (fun g => (bI (nwB P es l g = true), nI g, M)) 576 hb
  have e0 : bI (nwB P es l 0 = true) = 0 := bI_f (by show ¬ (false = true); decide)
  rw [e0] at h0
  have hs : s_MO_newPair M = lp (fun q : Int32 × Int32 × Mem => l_MO_newPair_4 q.1 q.2.1 q.2.2) (0, nI 0, M) := rfl
  rw [hs, h0]
  rw [news_eq]
  generalize nwB P es l 576 = b
  refine lp_inr ?_
  show l_MO_newPair_4 (bI (b = true)) (nI 576) M = _
  unfold l_MO_newPair_4
  rw [if_pos (by decide), cb_t (bI_or _)]
theorem v_MO_seenEdges {M : Mem} {P : Pg} {es : List (List Int32)} (h16 : es.length ≤ 16) (h2 : ∀ q, q < 576 → M 49 q = nI (wN P es q es.length)) : s_MO_seenEdges M = some (nI (seE P es), M) := by
  have hb : ∀ g, g < 576 → (fun q : Int32 × Int32 × Mem => l_MO_seenEdges_4 q.1 q.2.1 q.2.2) (nI (sm (fun g => if bN P es g es.length = 0 then 0 else 1) g), nI g, M) = some (.inl (nI (sm (fun g => if bN P es g es.length = 0 then 0 else 1) (g + 1)), nI (g + 1), M)) := fun g hg => by
    show l_MO_seenEdges_4 (nI (sm (fun g => if bN P es g es.length = 0 then 0 else 1) g)) (nI g) M = _
    have hw : wN P es g es.length < 2 ^ 31 := Nat.lt_of_lt_of_le (wN_lt P es g es.length) (Nat.pow_le_pow_right (by decide) (by omega))
    unfold l_MO_seenEdges_4 j_MO_seenEdges_27
    rw [if_neg (show ¬ (576 : Int32) ≤ nI g from nI_ge (b := 576) hg (by decide)), ck_i (vp_in_nI hg (by decide)), nI_clamp (by omega), h2 g hg]
    simp only [nx]
    rw [← nI_succ, show sm (fun g => if bN P es g es.length = 0 then 0 else 1) (g + 1) = sm (fun g => if bN P es g es.length = 0 then 0 else 1) g + (if bN P es g es.length = 0 then 0 else 1) from rfl]
    by_cases c : wN P es g es.length = 0
    · rw [c, if_pos (by decide), if_pos ((wb_0 P es g _).mp c)]
      rfl
    · rw [if_neg (nI_ne0 (by omega) hw), if_neg (fun q => c ((wb_0 P es g _).mpr q)), nI_1]
  rw [seE_eq]
  have h0 := lp_cnt0 (b := fun q : Int32 × Int32 × Mem => l_MO_seenEdges_4 q.1 q.2.1 q.2.2) (fun g => (nI (sm (fun g => if bN P es g es.length = 0 then 0 else 1) g), nI g, M)) 576 hb
  refine h0.trans (lp_inr ?_)
  show l_MO_seenEdges_4 _ (nI 576) M = _
  unfold l_MO_seenEdges_4
  rw [if_pos (by decide)]
theorem v_MO_seenPairs {M : Mem} {P : Pg} {es : List (List Int32)} (h1 : ∀ q, q < 576 → M 48 q = nI (bN P es q es.length)) : s_MO_seenPairs M = some (nI (seP P es), M) := by
  have hb : ∀ g, g < 576 → (fun q : Int32 × Int32 × Mem => l_MO_seenPairs_4 q.1 q.2.1 q.2.2) (nI (sm (fun g => pc6 (bN P es g es.length)) g), nI g, M) = some (.inl (nI (sm (fun g => pc6 (bN P es g es.length)) (g + 1)), nI (g + 1), M)) := fun g hg => by
    show l_MO_seenPairs_4 (nI (sm (fun g => pc6 (bN P es g es.length)) g)) (nI g) M = _
    have hbl := bN_lt P es g es.length
    unfold l_MO_seenPairs_4
    rw [if_neg (show ¬ (576 : Int32) ≤ nI g from nI_ge (b := 576) hg (by decide))]
    simp only [nx]
    generalize hS : sm (fun g => pc6 (bN P es g es.length)) g = S
    have hb2 : ∀ k, k < 6 → (fun q : Int32 × Int32 × Mem => l_MO_seenPairs_13 (nI g) q.1 q.2.1 q.2.2) (nI (S + sm (fun k => bN P es g es.length / 2 ^ k % 2) k), nI k, M) = some (.inl (nI (S + sm (fun k => bN P es g es.length / 2 ^ k % 2) (k + 1)), nI (k + 1), M)) := fun k hk => by
      show l_MO_seenPairs_13 (nI g) (nI (S + sm (fun k => bN P es g es.length / 2 ^ k % 2) k)) (nI k) M = _
      unfold l_MO_seenPairs_13
      rw [if_neg (show ¬ (6 : Int32) ≤ nI k from nI_ge (b := 6) hk (by decide)), ck_i (vp_in_nI hg (by decide)), nI_clamp (by omega), h1 g hg, sr_1 (by omega) (by omega)]
      simp only [nx]
      rw [nI_add, ← nI_succ, Nat.add_assoc]
      rfl
    have h02 := lp_cnt0 (b := fun q : Int32 × Int32 × Mem => l_MO_seenPairs_13 (nI g) q.1 q.2.1 q.2.2) (fun k => (nI (S + sm (fun k => bN P es g es.length / 2 ^ k % 2) k), nI k, M)) 6 hb2
    refine h02.trans (lp_last ?_)
    show l_MO_seenPairs_13 (nI g) (nI (S + sm (fun k => bN P es g es.length / 2 ^ k % 2) 6)) (nI 6) M = _
    unfold l_MO_seenPairs_13
    rw [if_pos (by decide)]
    unfold j_MO_seenPairs_38
    simp only [nx]
    rw [← nI_succ, show sm (fun g => pc6 (bN P es g es.length)) (g + 1) = sm (fun g => pc6 (bN P es g es.length)) g + pc6 (bN P es g es.length) from rfl, hS]
    rfl
  rw [seP_eq]
  have h0 := lp_cnt0 (b := fun q : Int32 × Int32 × Mem => l_MO_seenPairs_4 q.1 q.2.1 q.2.2) (fun g => (nI (sm (fun g => pc6 (bN P es g es.length)) g), nI g, M)) 576 hb
  refine h0.trans (lp_inr ?_)
  show l_MO_seenPairs_4 _ (nI 576) M = _
  unfold l_MO_seenPairs_4
  rw [if_pos (by decide)]
