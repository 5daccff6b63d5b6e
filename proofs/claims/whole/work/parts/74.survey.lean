/-! Pure: the reference: runEntry, runCurrent, top, survey. -/
theorem wN_0 {P : Pg} {es : List (List Int32)} {g m : Nat} (h : tN P (es.getD m []) g = 0) : wN P es g (m + 1) = wN P es g m := by rw [wN, if_pos h]
theorem wN_1 {P : Pg} {es : List (List Int32)} {g m : Nat} (h : ¬ tN P (es.getD m []) g = 0) : wN P es g (m + 1) = wN P es g m ||| 2 ^ m := by rw [wN, if_neg h]
theorem bN_0 {P : Pg} {es : List (List Int32)} {g m : Nat} (h : tN P (es.getD m []) g = 0) : bN P es g (m + 1) = bN P es g m := by rw [bN, if_pos h]
theorem bN_1 {P : Pg} {es : List (List Int32)} {g m : Nat} (h : ¬ tN P (es.getD m []) g = 0) : bN P es g (m + 1) = bN P es g m ||| 2 ^ bkN (tN P (es.getD m []) g) := by rw [bN, if_neg h]
theorem ite_s {q g : Nat} (e : q ≠ g) (x y : Nat) : (if q < g then x else y) = (if q < g + 1 then x else y) := by
  by_cases f : q < g
  · rw [if_pos f, if_pos (by omega)]
  · rw [if_neg f, if_neg (by omega)]
/-- frame of a run of the reference -/
def RF (M M1 : Mem) : Prop := (∀ a, a ≠ 26 → ¬ (31 ≤ a ∧ a ≤ 35) → M1 a = M a) ∧ (∀ k, k ≠ 8 → ¬ (12 ≤ k ∧ k ≤ 16) → M1 26 k = M 26 k)
theorem RF_r (M : Mem) : RF M M := ⟨fun _ _ _ => rfl, fun _ _ _ => rfl⟩
theorem RF_t {M M1 M2 : Mem} (h : RF M M1) (g : RF M1 M2) : RF M M2 := ⟨fun a a1 a2 => (g.1 a a1 a2).trans (h.1 a a1 a2), fun k k1 k2 => (g.2 k k1 k2).trans (h.2 k k1 k2)⟩
theorem RF_stM (M : Mem) (s : Rs) : RF M (stM M s) := ⟨fun a a1 a2 => stM_o (by omega) (by omega) (by omega) (by omega) a1, fun k _ k2 => stM_f (by omega)⟩
theorem v_MO_RUN' {M : Mem} {n : Nat} {P : Pg} {l : List Int32} (hM : (M 27, M 28, M 29, M 26 0) = P) (hP : wfP P n) (hr : Row (M 31) 0 l) (hL : M 26 8 = nI l.length) (hL6 : l.length ≤ 6) : ∃ M1, s_MO_run M = some M1 ∧ RF M M1 ∧ Req (RUN P l) (prM M1) ∧ M1 31 = M 31 ∧ M1 26 8 = M 26 8 := by
  obtain ⟨s, h1, h2⟩ := v_MO_RUN (by rw [hM]; exact hP) hr hL hL6
  rw [hM] at h2
  exact ⟨_, h1, RF_stM M s, by rw [stM_pr]; exact h2, stM_o (by decide) (by decide) (by decide) (by decide) (by decide), stM_f (Or.inl (by decide))⟩
theorem v_MO_runEntry {M : Mem} {n e : Nat} {P : Pg} {l : List Int32} (hM : (M 27, M 28, M 29, M 26 0) = P) (hP : wfP P n) (he : e < 16) (hr : Row (M 36) (6 * e) l) (hL : M 37 e = nI l.length) (hL6 : l.length ≤ 6) : ∃ M1, s_MO_runEntry (nI e) M = some M1 ∧ RF M M1 ∧ Req (RUN P l) (prM M1) := by
  have hb : ∀ k, k < l.length → (fun q : Int32 × Mem => l_MO_runEntry_12 (nI e) q.1 q.2) (nI k, pt (st M 26 8 (nI l.length)) 31 (cpR (M 36) (M 31) (6 * e) 0 k)) = some (.inl (nI (k + 1), pt (st M 26 8 (nI l.length)) 31 (cpR (M 36) (M 31) (6 * e) 0 (k + 1)))) := fun k hk => by
    show l_MO_runEntry_12 (nI e) (nI k) (pt (st M 26 8 (nI l.length)) 31 (cpR (M 36) (M 31) (6 * e) 0 k)) = _
    unfold l_MO_runEntry_12
    have e1 : (6 : Int32) * nI e + nI k = nI (6 * e + k) := by rw [show (6 : Int32) = nI 6 from rfl, pk_mul, nI_add]
    rw [pt_o (by decide), show st M 26 8 (nI l.length) 26 8 = nI l.length from rfl, if_neg (nI_ge hk (by omega)), e1, ck_i (vp_in_nI (by omega) (by decide)), ck_i (vp_in_nI (by omega) (by decide)), nI_clamp (by omega), nI_clamp (by omega)]
    simp only [nx]
    rw [pt_st, pt_o (by decide), st_other (by decide)]
    have := cp_s (M 36) (M 31) (6 * e) 0 k
    rw [Nat.zero_add] at this
    rw [this, nI_succ]
  have h0 := lp_cnt0 (b := fun q : Int32 × Mem => l_MO_runEntry_12 (nI e) q.1 q.2) (fun k => (nI k, pt (st M 26 8 (nI l.length)) 31 (cpR (M 36) (M 31) (6 * e) 0 k))) l.length hb
  have hX : RF M (pt (st M 26 8 (nI l.length)) 31 (cpR (M 36) (M 31) (6 * e) 0 l.length)) := ⟨fun a a1 a2 => by rw [pt_o (by omega), st_other a1], fun k k1 k2 => by rw [pt_o (by decide), st_ap, if_pos rfl, if_neg k1]⟩
  generalize hXd : pt (st M 26 8 (nI l.length)) 31 (cpR (M 36) (M 31) (6 * e) 0 l.length) = X at hX h0
  have x31 : X 31 = cpR (M 36) (M 31) (6 * e) 0 l.length := by rw [← hXd, pt_same]
  have x8 : X 26 8 = nI l.length := by rw [← hXd]; rfl
  obtain ⟨M1, r1, r2, r3, -, -⟩ := v_MO_RUN' (M := X) (l := l) (P := P) (by rw [hX.1 27 (by decide) (by decide), hX.1 28 (by decide) (by decide), hX.1 29 (by decide) (by decide), hX.2 0 (by decide) (by decide)]; exact hM) hP (by rw [x31]; exact Row_cp hr) x8 hL6
  refine ⟨M1, ?_, RF_t hX r2, r3⟩
  unfold s_MO_runEntry
  rw [ck_i (vp_in_nI he (by decide)), nI_clamp (by omega), hL]
  simp only [nx]
  rw [cp_0, show pt (st M 26 8 (nI l.length)) 31 (M 31) = st M 26 8 (nI l.length) by
    have := pt_id (st M 26 8 (nI l.length)) 31
    rw [st_other (by decide)] at this
    exact this] at h0
  refine h0.trans (lp_last ?_)
  show l_MO_runEntry_12 (nI e) (nI l.length) X = _
  unfold l_MO_runEntry_12
  rw [x8, if_pos (nI_le (Nat.le_refl _) (by omega))]
  unfold j_MO_runEntry_43
  rw [r1]
  rfl
theorem v_MO_runCurrent {M : Mem} {n : Nat} {P : Pg} {l : List Int32} (hM : (M 27, M 28, M 29, M 26 0) = P) (hP : wfP P n) (hr : Row (M 51) 0 l) (hL : M 26 44 = nI l.length) (hL6 : l.length ≤ 6) : ∃ M1, s_MO_runCurrent M = some M1 ∧ RF M M1 ∧ Req (RUN P l) (prM M1) := by
  have hb : ∀ k, k < l.length → (fun q : Int32 × Mem => l_MO_runCurrent_10 q.1 q.2) (nI k, pt (st M 26 8 (nI l.length)) 31 (cpR (M 51) (M 31) 0 0 k)) = some (.inl (nI (k + 1), pt (st M 26 8 (nI l.length)) 31 (cpR (M 51) (M 31) 0 0 (k + 1)))) := fun k hk => by
    show l_MO_runCurrent_10 (nI k) (pt (st M 26 8 (nI l.length)) 31 (cpR (M 51) (M 31) 0 0 k)) = _
    unfold l_MO_runCurrent_10
    rw [pt_o (by decide), show st M 26 8 (nI l.length) 26 44 = M 26 44 from rfl, hL, if_neg (nI_ge hk (by omega)), ck_i (vp_in_nI (by omega) (by decide)), ck_i (vp_in_nI (by omega) (by decide)), nI_clamp (by omega)]
    simp only [nx]
    rw [pt_st, pt_o (by decide), st_other (by decide)]
    have := cp_s (M 51) (M 31) 0 0 k
    rw [Nat.zero_add] at this
    rw [this, nI_succ]
  have h0 := lp_cnt0 (b := fun q : Int32 × Mem => l_MO_runCurrent_10 q.1 q.2) (fun k => (nI k, pt (st M 26 8 (nI l.length)) 31 (cpR (M 51) (M 31) 0 0 k))) l.length hb
  have hX : RF M (pt (st M 26 8 (nI l.length)) 31 (cpR (M 51) (M 31) 0 0 l.length)) := ⟨fun a a1 a2 => by rw [pt_o (by omega), st_other a1], fun k k1 k2 => by rw [pt_o (by decide), st_ap, if_pos rfl, if_neg k1]⟩
  generalize hXd : pt (st M 26 8 (nI l.length)) 31 (cpR (M 51) (M 31) 0 0 l.length) = X at hX h0
  have x31 : X 31 = cpR (M 51) (M 31) 0 0 l.length := by rw [← hXd, pt_same]
  have x8 : X 26 8 = nI l.length := by rw [← hXd]; rfl
  obtain ⟨M1, r1, r2, r3, -, -⟩ := v_MO_RUN' (M := X) (l := l) (P := P) (by rw [hX.1 27 (by decide) (by decide), hX.1 28 (by decide) (by decide), hX.1 29 (by decide) (by decide), hX.2 0 (by decide) (by decide)]; exact hM) hP (by rw [x31]; exact Row_cp hr) x8 hL6
  refine ⟨M1, ?_, RF_t hX r2, r3⟩
  unfold s_MO_runCurrent
  simp only [nx]
  rw [hL]
  rw [cp_0, show pt (st M 26 8 (nI l.length)) 31 (M 31) = st M 26 8 (nI l.length) by
    have := pt_id (st M 26 8 (nI l.length)) 31
    rw [st_other (by decide)] at this
    exact this] at h0
  refine h0.trans (lp_last ?_)
  show l_MO_runCurrent_10 (nI l.length) X = _
  unfold l_MO_runCurrent_10
  rw [hX.2 44 (by decide) (by decide), hL, if_pos (nI_le (Nat.le_refl _) (by omega))]
  unfold j_MO_runCurrent_36
  rw [r1]
  rfl
theorem v_MO_top {M : Mem} {C : Nat → Int32} {n : Nat} (w : Int32) (hn : M 26 18 = nI n) (h16 : n ≤ 16) (hC : ∀ e, e < n → M 50 e * (1 + M 37 e) = C e) : s_MO_top w M = some ((tpR C w n).1, M) := by
  have hb : ∀ e, e < n → (fun q : Int32 × Int32 × Int32 × Mem => l_MO_top_7 w q.1 q.2.1 q.2.2.1 q.2.2.2) ((tpR C w e).1, (tpR C w e).2, nI e, M) = some (.inl ((tpR C w (e + 1)).1, (tpR C w (e + 1)).2, nI (e + 1), M)) := fun e he => by
    show l_MO_top_7 w (tpR C w e).1 (tpR C w e).2 (nI e) M = _
    unfold l_MO_top_7
    rw [hn, if_neg (nI_ge he (by omega)), ck_i (vp_in_nI (by omega) (by decide)), ck_i (vp_in_nI (by omega) (by decide)), nI_clamp (by omega)]
    simp only [nx]
    rw [hC e he]
    unfold j_MO_top_55 j_MO_top_61
    simp only [nx]
    rw [← nI_succ]
    rw [show tpR C w (e + 1) = if (w >>> (nI e &&& 31)) &&& 1 = 1 ∧ ((tpR C w e).1 < 0 ∨ C e < (tpR C w e).2) then (nI e, C e) else tpR C w e from rfl]
    by_cases c1 : (w >>> (nI e &&& 31)) &&& 1 = 1
    · rw [if_pos c1]
      by_cases c2 : (tpR C w e).1 < 0
      · rw [if_pos c2, if_pos ⟨c1, Or.inl c2⟩]
      · rw [if_neg c2]
        by_cases c3 : (tpR C w e).2 ≤ C e
        · rw [if_pos c3, if_neg (fun q => q.2.elim c2 (fun r => Int32.not_lt.mpr c3 r))]
        · rw [if_neg c3, if_pos ⟨c1, Or.inr (Int32.not_le.mp c3)⟩]
    · rw [if_neg c1, if_neg (fun q => c1 q.1)]
  have h0 := lp_cnt0 (b := fun q : Int32 × Int32 × Int32 × Mem => l_MO_top_7 w q.1 q.2.1 q.2.2.1 q.2.2.2) (fun e => ((tpR C w e).1, (tpR C w e).2, nI e, M)) n hb
  refine h0.trans (lp_inr ?_)
  show l_MO_top_7 w _ _ (nI n) M = _
  unfold l_MO_top_7
  rw [hn, if_pos (nI_le (Nat.le_refl _) (by omega))]
/-- the reference's cells of the survey -/
def Srv (M : Mem) (P : Pg) (es : List (List Int32)) : Prop := (∀ g, g < 576 → M 48 g = nI (bN P es g es.length)) ∧ (∀ g, g < 576 → M 49 g = nI (wN P es g es.length)) ∧ (∀ e, e < es.length → M 50 e = stN P (es.getD e [])) ∧ M 26 39 = fav P es
/-- the reference's entries -/
def MS (M : Mem) (es : List (List Int32)) : Prop := M 26 18 = nI es.length ∧ es.length ≤ 16 ∧ ∀ e, e < es.length → M 37 e = nI (es.getD e []).length ∧ (es.getD e []).length ≤ 6 ∧ Row (M 36) (6 * e) (es.getD e [])
theorem v_MO_sv76 {P : Pg} {es : List (List Int32)} {m : Nat} (hm : m < 16) (ht : ∀ q, q < 576 → tN P (es.getD m []) q ≤ 64) : ∀ d g M, g + d = 576 → (∀ q, q < 576 → M 48 q = nI (if q < g then bN P es q (m + 1) else bN P es q m)) → (∀ q, q < 576 → M 49 q = nI (if q < g then wN P es q (m + 1) else wN P es q m)) → (∀ q, q < 576 → M 35 q = nI (tN P (es.getD m []) q)) →
    ∃ M1, lp (fun q : Int32 × Mem => l_MO_survey_76 (nI m) q.1 q.2) (nI g, M) = some (.inl (nI (m + 1), M1)) ∧ (∀ q, q < 576 → M1 48 q = nI (bN P es q (m + 1))) ∧ (∀ q, q < 576 → M1 49 q = nI (wN P es q (m + 1))) ∧ ∀ a, a ≠ 48 → a ≠ 49 → M1 a = M a := by
  intro d
  induction d with
  | zero =>
    intro g M hg h1 h2 h3
    refine ⟨M, lp_last ?_, fun q hq => by rw [h1 q hq, if_pos (by omega)], fun q hq => by rw [h2 q hq, if_pos (by omega)], fun _ _ _ => rfl⟩
    show l_MO_survey_76 (nI m) (nI g) M = _
    unfold l_MO_survey_76
    rw [if_pos (show (576 : Int32) ≤ nI g from nI_le (a := 576) (by omega) (by omega))]
    unfold j_MO_survey_138
    rw [nI_succ]
    rfl
  | succ d ih =>
    intro g M hg h1 h2 h3
    have hstep : ∃ M2, l_MO_survey_76 (nI m) (nI g) M = some (.inl (nI (g + 1), M2)) ∧ (∀ q, q < 576 → M2 48 q = nI (if q < g + 1 then bN P es q (m + 1) else bN P es q m)) ∧ (∀ q, q < 576 → M2 49 q = nI (if q < g + 1 then wN P es q (m + 1) else wN P es q m)) ∧ ∀ a, a ≠ 48 → a ≠ 49 → M2 a = M a := by
      unfold l_MO_survey_76
      rw [if_neg (show ¬ (576 : Int32) ≤ nI g from nI_ge (b := 576) (by omega) (by decide)), ck_i (vp_in_nI (by omega) (by decide)), nI_clamp (by omega), h3 g (by omega)]
      have ht := ht g (by omega)
      have k1 := h1 g (by omega)
      have k2 := h2 g (by omega)
      rw [if_neg (by omega)] at k1 k2
      by_cases c : tN P (es.getD m []) g = 0
      · refine ⟨M, ?_, fun q hq => ?_, fun q hq => ?_, fun _ _ _ => rfl⟩
        · rw [c, if_pos (by decide)]
          unfold j_MO_survey_132
          rw [nI_succ]
          rfl
        · rw [h1 q hq]
          by_cases e : q = g
          · subst e
            rw [if_neg (by omega), if_pos (by omega)]
            rw [bN_0 c]
          · rw [ite_s e]
        · rw [h2 q hq]
          by_cases e : q = g
          · subst e
            rw [if_neg (by omega), if_pos (by omega)]
            rw [wN_0 c]
          · rw [ite_s e]
      · have hbk := bkN_lt (tN P (es.getD m []) g)
        refine ⟨st (st M 48 g (nI (bN P es g m) ||| nI (2 ^ bkN (tN P (es.getD m []) g)))) 49 g (nI (wN P es g m) ||| nI (2 ^ m)), ?_, fun q hq => ?_, fun q hq => ?_, fun a a1 a2 => ?_⟩
        · rw [if_neg (nI_nle (by omega) (by omega)), ck_i (vp_in_nI (by omega) (by decide)), ck_i (vp_in_nI (by omega) (by decide)), v_MO_bucket M (by omega) ht, bi_s, ck_i (vp_in_nI (by omega) (by decide))]
          simp only [nx]
          rw [ck_i (vp_in_nI (by omega) (by decide)), ck_i (vp_in_nI (by omega) (by decide)), sh_1 (by omega), sh_1 (by omega), k1, st_other (by decide), k2]
          unfold j_MO_survey_132
          rw [nI_succ]
          rfl
        · rw [st_other (by decide), st_same]
          by_cases e : q = g
          · subst e
            rw [pk_us, if_pos (by omega), nx_or]
            rw [bN_1 c]
          · rw [pk_un e, h1 q hq]
            rw [ite_s e]
        · rw [st_same]
          by_cases e : q = g
          · subst e
            rw [pk_us, if_pos (by omega), nx_or]
            rw [wN_1 c]
          · rw [pk_un e, st_other (by decide), h2 q hq]
            rw [ite_s e]
        · rw [st_other a2, st_other a1]
    obtain ⟨M2, s1, s2, s3, s4⟩ := hstep
    obtain ⟨M1, i1, i2, i3, i4⟩ := ih (g + 1) M2 (by omega) s2 s3 (fun q hq => by rw [s4 35 (by decide) (by decide)]; exact h3 q hq)
    exact ⟨M1, (lp_inl (b := fun q : Int32 × Mem => l_MO_survey_76 (nI m) q.1 q.2) s1).trans i1, i2, i3, fun a a1 a2 => (i4 a a1 a2).trans (s4 a a1 a2)⟩
