/-! Pure: the class's store: hasNews, markSeen, top, chooseFavoured. -/
theorem Ed_t {P : Pg} {n : Nat} {l : List Int32} {t : Nat → Int32} {f : Nat → Int32} {c : Int32} {E : List Nat} (hP : wfP P n) (hE : EdL f c t E) (ht : ∀ g, g < 576 → t g = nI (tN P l g)) : (∀ g, g ∈ E ↔ g < 576 ∧ tN P l g ≠ 0) ∧ E.length = ecN P l := by
  have h1 : ∀ g, g ∈ E ↔ g < 576 ∧ tN P l g ≠ 0 := fun g => by
    rw [hE.2.1 g]
    constructor
    · rintro ⟨a, b⟩
      exact ⟨a, fun q => b (by rw [ht g a, q]; rfl)⟩
    · rintro ⟨a, b⟩
      have := (tN_eq l hP a).2
      exact ⟨a, by rw [ht g a]; exact nI_ne0 (by omega) (by omega)⟩
  refine ⟨h1, ?_⟩
  have := len_sm (p := fun g => decide (tN P l g ≠ 0)) (n := 576) hE.1 (fun g => by rw [h1 g, decide_eq_true_iff])
  rw [this]
  rw [ecN_eq]
  exact sm_ext 576 (fun i _ => by
    by_cases c : tN P l i ≠ 0
    · rw [if_pos c, if_pos (decide_eq_true c)]
    · rw [if_neg c, if_neg (by rw [decide_eq_true_iff]; exact c)])
theorem and_c {b k : Nat} (hb : b < 64) (hk : k < 6) : nI b &&& nI (2 ^ k) = 0 ↔ b.testBit k = false := by
  rw [nx_and, ← bt_c b hb k hk]
  have : b &&& 2 ^ k < 2 ^ 31 := Nat.lt_of_le_of_lt Nat.and_le_left (by omega)
  exact nI_eq (b := 0) this (by decide)
theorem v_ST_hasNews {j : Nat} {M : Mem} {P : Pg} {n : Nat} {es : List (List Int32)} {l : List Int32} {E : List Nat} (hP : wfP P n) (hE : EdL (M (j + 5)) (M j 5) (M (j + 4)) E) (hEl : E.length ≤ 64) (ht : ∀ g, g < 576 → M (j + 4) g = nI (tN P l g)) (h7 : ∀ g, g < 576 → M 7 g = nI (bN P es g es.length)) : s_ST_hasNews j M = some (bI (news P es l = true), M) := by
  obtain ⟨hm, -⟩ := Ed_t hP hE ht
  have hloop : ∀ d i, i + d = E.length → (∀ k (hk : k < E.length), k < i → (bN P es E[k] es.length).testBit (bkN (tN P l E[k])) = true) → lp (fun q : Int32 × Mem => l_ST_hasNews_2 j q.1 q.2) (nI i, M) = some (bI (news P es l = true), M) := by
    intro d
    induction d with
    | zero =>
      intro i hi hall
      have hno : ¬ news P es l = true := fun q => by
        obtain ⟨g, g1, g2, g3⟩ := (news_iff P es l).mp q
        obtain ⟨k, hk, e⟩ := List.getElem_of_mem ((hm g).mpr ⟨g1, g2⟩)
        have := hall k hk (by omega)
        rw [e, g3] at this
        exact absurd this (by decide)
      rw [bI_f hno]
      refine lp_inr ?_
      show l_ST_hasNews_2 j (nI i) M = _
      unfold l_ST_hasNews_2
      rw [hE.2.2.1, if_pos (nI_le (by omega) (by omega))]
    | succ d ih =>
      intro i hi hall
      have hi2 : i < E.length := by omega
      obtain ⟨g1, g2⟩ := (hm E[i]).mp (List.getElem_mem hi2)
      have ht64 := (tN_eq l hP g1).2
      have hst : l_ST_hasNews_2 j (nI i) M = if nI (bN P es E[i] es.length) &&& nI (2 ^ bkN (tN P l E[i])) = 0 then some (.inr (1, M)) else some (.inl (nI (i + 1), M)) := by
        unfold l_ST_hasNews_2
        rw [hE.2.2.1, if_neg (nI_ge hi2 (by omega)), ck_i (vp_in_nI (by omega) (by decide)), nI_clamp (by omega), hE.2.2.2 i hi2]
        simp only [nx]
        rw [ck_i (vp_in_nI g1 (by decide)), v_RU_pairBit g1 (ht _ g1) (by omega) ht64, bi_s, nI_clamp (by omega), h7 _ g1, nI_succ]
      by_cases c : (bN P es E[i] es.length).testBit (bkN (tN P l E[i])) = false
      · rw [if_pos ((and_c (bN_lt P es _ _) (bkN_lt _)).mpr c)] at hst
        have hyes : news P es l = true := (news_iff P es l).mpr ⟨E[i], g1, g2, c⟩
        rw [bI_t hyes]
        exact lp_inr hst
      · rw [if_neg (fun q => c ((and_c (bN_lt P es _ _) (bkN_lt _)).mp q))] at hst
        refine (lp_inl (b := fun q : Int32 × Mem => l_ST_hasNews_2 j q.1 q.2) hst).trans (ih (i + 1) (by omega) (fun k hk hki => ?_))
        by_cases e : k = i
        · subst e
          cases q : (bN P es E[k] es.length).testBit (bkN (tN P l E[k])) with
          | true => rfl
          | false => exact absurd q c
        · exact hall k hk (by omega)
  have := hloop E.length 0 (by omega) (fun k hk h0 => absurd h0 (by omega))
  exact this
/-- the class's store: sizes, inputs, costs -/
def XS0 (M : Mem) (P : Pg) (es : List (List Int32)) : Prop := M 5 3 = nI es.length ∧ es.length ≤ 16 ∧ ∀ e, e < es.length → Inp M (58 + 2 * e) (es.getD e []) ∧ M (122 + e) 1 = stN P (es.getD e []) ∧ M (122 + e) 2 = nI (ecN P (es.getD e []))
theorem v_cost {M : Mem} {P : Pg} {es : List (List Int32)} {e : Nat} (h : XS0 M P es) (he : e < es.length) : s_EN_cost (122 + e) M = some (coN P es e, M) := by
  obtain ⟨h1, h2, h3⟩ := h
  obtain ⟨a1, a2, a3⟩ := h3 e he
  unfold s_EN_cost coN
  rw [a2, show 2 * (122 + e) - 186 = 58 + 2 * e by omega, a1.1]
theorem v_ST_top {M : Mem} {P : Pg} {es : List (List Int32)} (w : Int32) (h : XS0 M P es) : s_ST_top w M = some ((tpR (coN P es) w es.length).1, M) := by
  have h16 := h.2.1
  have hb : ∀ e, e < es.length → (fun q : Int32 × Int32 × Mem => l_ST_top_4 w q.1 q.2.1 q.2.2) ((tpR (coN P es) w e).1, nI e, M) = some (.inl ((tpR (coN P es) w (e + 1)).1, nI (e + 1), M)) := fun e he => by
    show l_ST_top_4 w (tpR (coN P es) w e).1 (nI e) M = _
    unfold l_ST_top_4
    have hr : ∀ v : Int32, j_ST_top_61 w v (nI e) M = some (.inl (v, nI (e + 1), M)) := fun v => by
      unfold j_ST_top_61
      rw [nI_succ]
      rfl
    rw [h.1, if_neg (nI_ge he (by omega)), show tpR (coN P es) w (e + 1) = if (w >>> (nI e &&& 31)) &&& 1 = 1 ∧ ((tpR (coN P es) w e).1 < 0 ∨ coN P es e < (tpR (coN P es) w e).2) then (nI e, coN P es e) else tpR (coN P es) w e from rfl]
    by_cases c1 : (w >>> (nI e &&& 31)) &&& 1 = 1
    · rw [if_pos c1]
      unfold j_ST_top_26 j_ST_top_59
      rw [if_neg (by decide)]
      rcases tp_or (coN P es) w e with t | ⟨b, b1, b2, b3⟩
      · rw [if_pos t, if_pos ⟨c1, Or.inl (by rw [t]; decide)⟩, hr]
      · have hb0 : ¬ nI b < 0 := nI_pos (by omega)
        have hbm : ¬ nI b = (-1 : Int32) := fun q => hb0 (by rw [q]; decide)
        rw [b2, b3, if_neg hbm, ck_i (vp_in_nI (by omega) (by decide)), nI_clamp (by omega), v_cost h he, bi_s, ck_i (vp_in_nI (by omega) (by decide)), nI_clamp (by omega), v_cost h (by omega), bi_s, hr, hr]
        by_cases c3 : coN P es b ≤ coN P es e
        · rw [if_pos c3, if_neg (fun q => q.2.elim hb0 (fun r => Int32.not_lt.mpr c3 r)), b2]
        · rw [if_neg c3, if_pos ⟨c1, Or.inr (Int32.not_le.mp c3)⟩]
    · rw [if_neg c1, if_neg (fun q => c1 q.1)]
      unfold j_ST_top_26
      rw [if_pos rfl, hr]
  have h0 := lp_cnt0 (b := fun q : Int32 × Int32 × Mem => l_ST_top_4 w q.1 q.2.1 q.2.2) (fun e => ((tpR (coN P es) w e).1, nI e, M)) es.length hb
  refine h0.trans (lp_inr ?_)
  show l_ST_top_4 w _ (nI es.length) M = _
  unfold l_ST_top_4
  rw [h.1, if_pos (nI_le (Nat.le_refl _) (by omega))]
theorem XS0_fr {M M1 : Mem} {P : Pg} {es : List (List Int32)} (h : XS0 M P es) (h5 : M1 5 3 = M 5 3) (ha : ∀ e, e < es.length → M1 (58 + 2 * e) = M (58 + 2 * e) ∧ M1 (58 + 2 * e + 1) = M (58 + 2 * e + 1) ∧ M1 (122 + e) 1 = M (122 + e) 1 ∧ M1 (122 + e) 2 = M (122 + e) 2) : XS0 M1 P es := by
  obtain ⟨h1, h2, h3⟩ := h
  refine ⟨h5.trans h1, h2, fun e he => ?_⟩
  obtain ⟨a1, a2, a3⟩ := h3 e he
  obtain ⟨b1, b2, b3, b4⟩ := ha e he
  exact ⟨Inp_fr a1 b1 b2, b3.trans a2, b4.trans a3⟩
theorem v_ST_fav {M : Mem} {P : Pg} {es : List (List Int32)} (h : XS0 M P es) (h8 : ∀ g, g < 576 → M 8 g = nI (wN P es g es.length)) : s_ST_chooseFavoured M = some (st M 5 4 (fav P es)) := by
  have ss : ∀ v w : Int32, st (st M 5 4 v) 5 4 w = st M 5 4 w := fun v w => by
    funext a
    by_cases h : a = 5
    · subst h
      rw [st_same, st_same, st_same]
      funext k
      unfold upd
      by_cases e : k = 4
      · rw [if_pos e, if_pos e]
      · rw [if_neg e, if_neg e, if_neg e]
    · rw [st_other h, st_other h, st_other h]
  have hX : ∀ v, XS0 (st M 5 4 v) P es := fun v => XS0_fr h (by rw [st_ap, if_pos rfl, if_neg (by decide)]) (fun e he => ⟨st_other (by omega), st_other (by omega), by rw [st_other (by omega)], by rw [st_other (by omega)]⟩)
  have hb : ∀ g, g < 576 → (fun q : Int32 × Mem => l_ST_chooseFavoured_7 q.1 q.2) (nI g, st M 5 4 (fvR (fun g => nI (wN P es g es.length)) (coN P es) es.length g)) = some (.inl (nI (g + 1), st M 5 4 (fvR (fun g => nI (wN P es g es.length)) (coN P es) es.length (g + 1)))) := fun g hg => by
    show l_ST_chooseFavoured_7 (nI g) (st M 5 4 (fvR (fun g => nI (wN P es g es.length)) (coN P es) es.length g)) = _
    unfold l_ST_chooseFavoured_7
    have hr : ∀ v : Int32, st M 5 4 v 5 4 = v := fun v => by rw [st_ap, if_pos rfl, if_pos rfl]
    have hs : ∀ v : Int32, st M 5 4 v 8 = M 8 := fun v => st_other (by decide)
    rw [if_neg (show ¬ (576 : Int32) ≤ nI g from nI_ge (b := 576) hg (by decide)), ck_i (vp_in_nI hg (by decide)), ck_i (vp_in_nI hg (by decide)), ck_i (vp_in_nI hg (by decide)), nI_clamp (by omega), hs, h8 g hg, hr]
    unfold j_ST_chooseFavoured_58
    simp only [nx]
    rw [← nI_succ]
    rw [show ∀ W : Nat → Int32, fvR W (coN P es) es.length (g + 1) = if W g ≠ 0 ∧ W g &&& fvR W (coN P es) es.length g = 0 then fvR W (coN P es) es.length g ||| (1 <<< ((tpR (coN P es) (W g) es.length).1 &&& 31)) else fvR W (coN P es) es.length g from fun _ => rfl]
    by_cases c1 : nI (wN P es g es.length) = 0
    · rw [if_pos c1, if_neg (fun q => q.1 c1)]
    · rw [if_neg c1]
      by_cases c2 : nI (wN P es g es.length) &&& fvR (fun g => nI (wN P es g es.length)) (coN P es) es.length g = 0
      · rw [if_pos c2, if_pos ⟨c1, c2⟩, v_ST_top _ (hX _), bi_s, ss]
      · rw [if_neg c2, if_neg (fun q => c2 q.2)]
  have h0 := lp_cnt0 (b := fun q : Int32 × Mem => l_ST_chooseFavoured_7 q.1 q.2) (fun g => (nI g, st M 5 4 (fvR (fun g => nI (wN P es g es.length)) (coN P es) es.length g))) 576 hb
  unfold s_ST_chooseFavoured
  simp only [nx]
  rw [fav_eq]
  refine h0.trans (lp_inr ?_)
  show l_ST_chooseFavoured_7 (nI 576) _ = _
  unfold l_ST_chooseFavoured_7
  rw [if_pos (by decide)]
