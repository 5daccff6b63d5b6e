/-! Pure: the reference's survey, whole. -/
def SF (M M1 : Mem) : Prop := (∀ a, a ≠ 26 → ¬ (31 ≤ a ∧ a ≤ 35) → ¬ (48 ≤ a ∧ a ≤ 50) → M1 a = M a) ∧ (∀ k, k ≠ 8 → ¬ (12 ≤ k ∧ k ≤ 16) → k ≠ 35 → k ≠ 39 → M1 26 k = M 26 k)
theorem SF_r (M : Mem) : SF M M := ⟨fun _ _ _ _ => rfl, fun _ _ _ _ _ => rfl⟩
theorem SF_t {M M1 M2 : Mem} (h : SF M M1) (g : SF M1 M2) : SF M M2 := ⟨fun a a1 a2 a3 => (g.1 a a1 a2 a3).trans (h.1 a a1 a2 a3), fun k k1 k2 k3 k4 => (g.2 k k1 k2 k3 k4).trans (h.2 k k1 k2 k3 k4)⟩
theorem RF_SF {M M1 : Mem} (h : RF M M1) : SF M M1 := ⟨fun a a1 a2 _ => h.1 a a1 a2, fun k k1 k2 _ _ => h.2 k k1 k2⟩
theorem MS_fr {M M1 : Mem} {es : List (List Int32)} (h : MS M es) (h18 : M1 26 18 = M 26 18) (h36 : M1 36 = M 36) (h37 : M1 37 = M 37) : MS M1 es := by
  unfold MS
  rw [h18, h36, h37]
  exact h
theorem MS_SF {M M1 : Mem} {es : List (List Int32)} (h : MS M es) (f : SF M M1) : MS M1 es := MS_fr h (f.2 18 (by decide) (by decide) (by decide) (by decide)) (f.1 36 (by decide) (by decide) (by decide)) (f.1 37 (by decide) (by decide) (by decide))
/-- the program as the reference has it -/
def MP (M : Mem) (P : Pg) : Prop := (M 27, M 28, M 29, M 26 0) = P
theorem MP_SF {M M1 : Mem} {P : Pg} (h : MP M P) (f : SF M M1) : MP M1 P := by
  unfold MP
  rw [f.1 27 (by decide) (by decide) (by decide), f.1 28 (by decide) (by decide) (by decide), f.1 29 (by decide) (by decide) (by decide), f.2 0 (by decide) (by decide) (by decide) (by decide)]
  exact h
theorem v_MO_sv51 {P : Pg} {n : Nat} {es : List (List Int32)} (hP : wfP P n) : ∀ d m M, m + d = es.length → MP M P → MS M es → (∀ q, q < 576 → M 48 q = nI (bN P es q m)) → (∀ q, q < 576 → M 49 q = nI (wN P es q m)) → (∀ e, e < m → M 50 e = stN P (es.getD e [])) →
    ∃ M1, lp (fun q : Int32 × Mem => l_MO_survey_51 q.1 q.2) (nI m, M) = j_MO_survey_144 M1 ∧ SF M M1 ∧ M1 26 35 = M 26 35 ∧ (∀ q, q < 576 → M1 48 q = nI (bN P es q es.length)) ∧ (∀ q, q < 576 → M1 49 q = nI (wN P es q es.length)) ∧ (∀ e, e < es.length → M1 50 e = stN P (es.getD e [])) := by
  intro d
  induction d with
  | zero =>
    intro m M hm hMP hMS h1 h2 h3
    have : m = es.length := by omega
    subst this
    refine ⟨M, lp_last ?_, SF_r M, rfl, h1, h2, h3⟩
    show l_MO_survey_51 (nI es.length) M = _
    unfold l_MO_survey_51
    rw [hMS.1, if_pos (nI_le (Nat.le_refl _) (by have := hMS.2.1; omega))]
  | succ d ih =>
    intro m M hm hMP hMS h1 h2 h3
    obtain ⟨n18, n16, hall⟩ := id hMS
    obtain ⟨e1, e2, e3⟩ := hall m (by omega)
    obtain ⟨M2, r1, r2, r3⟩ := v_MO_runEntry hMP hP (by omega) e3 e1 e2
    have t35 : ∀ q, q < 576 → st M2 50 m (M2 26 15) 35 q = nI (tN P (es.getD m []) q) := fun q hq => by
      rw [st_other (by decide), ← (tN_eq (es.getD m []) hP hq).1]
      exact (r3.2.2.2.1 q hq).symm
    obtain ⟨M3, s1, s2, s3, s4⟩ := v_MO_sv76 (P := P) (es := es) (m := m) (by omega) (fun q hq => (tN_eq (es.getD m []) hP hq).2) 576 0 (st M2 50 m (M2 26 15)) (by omega) (fun q hq => by rw [st_other (by decide), r2.1 48 (by decide) (by decide), h1 q hq, if_neg (by omega)]) (fun q hq => by rw [st_other (by decide), r2.1 49 (by decide) (by decide), h2 q hq, if_neg (by omega)]) t35
    have f : SF M M3 := by
      refine SF_t (RF_SF r2) ⟨fun a a1 a2 a3 => ?_, fun k k1 k2 k3 k4 => ?_⟩
      · rw [s4 a (by omega) (by omega), st_other (by omega)]
      · rw [s4 26 (by decide) (by decide), st_other (by decide)]
    have f35 : M3 26 35 = M 26 35 := by rw [s4 26 (by decide) (by decide), st_other (by decide), r2.2 35 (by decide) (by decide)]
    obtain ⟨M1, i1, i2, i3, i4, i5, i6⟩ := ih (m + 1) M3 (by omega) (MP_SF hMP f) (MS_SF hMS f) s2 s3 (fun e he => by
      rw [s4 50 (by decide) (by decide), st_same]
      by_cases c : e = m
      · subst c; rw [pk_us]; exact r3.2.2.2.2.2.2.2.1.symm
      · rw [pk_un c, r2.1 50 (by decide) (by decide)]; exact h3 e (by omega))
    refine ⟨M1, ?_, SF_t f i2, i3.trans f35, i4, i5, i6⟩
    refine (lp_inl (b := fun q : Int32 × Mem => l_MO_survey_51 q.1 q.2) (s1 := (nI (m + 1), M3)) ?_).trans i1
    show l_MO_survey_51 (nI m) M = _
    unfold l_MO_survey_51
    rw [n18, if_neg (nI_ge (by omega) (by omega)), r1, bv_s, ck_i (vp_in_nI (by omega) (by decide)), nI_clamp (by omega)]
    simp only [nx]
    exact s1
theorem v_MO_svFav {M : Mem} {P : Pg} {es : List (List Int32)} (hMS : MS M es) (h2 : ∀ q, q < 576 → M 49 q = nI (wN P es q es.length)) (h3 : ∀ e, e < es.length → M 50 e = stN P (es.getD e [])) : j_MO_survey_144 M = some (st M 26 39 (fav P es)) := by
  have hs : ∀ v : Int32, st M 26 39 v 49 = M 49 := fun v => st_other (by decide)
  have ss : ∀ v w : Int32, st (st M 26 39 v) 26 39 w = st M 26 39 w := fun v w => by
    funext a
    by_cases h : a = 26
    · subst h
      rw [st_same, st_same, st_same]
      funext k
      unfold upd
      by_cases e : k = 39
      · rw [if_pos e, if_pos e]
      · rw [if_neg e, if_neg e, if_neg e]
    · rw [st_other h, st_other h, st_other h]
  have hb : ∀ g, g < 576 → (fun q : Int32 × Mem => l_MO_survey_151 q.1 q.2) (nI g, st M 26 39 (fvR (fun g => nI (wN P es g es.length)) (coN P es) es.length g)) = some (.inl (nI (g + 1), st M 26 39 (fvR (fun g => nI (wN P es g es.length)) (coN P es) es.length (g + 1)))) := fun g hg => by
    show l_MO_survey_151 (nI g) (st M 26 39 (fvR (fun g => nI (wN P es g es.length)) (coN P es) es.length g)) = _
    unfold l_MO_survey_151
    have hr : ∀ v : Int32, st M 26 39 v 26 39 = v := fun v => by rw [st_ap, if_pos rfl, if_pos rfl]
    rw [if_neg (show ¬ (576 : Int32) ≤ nI g from nI_ge (b := 576) hg (by decide)), ck_i (vp_in_nI hg (by decide)), ck_i (vp_in_nI hg (by decide)), ck_i (vp_in_nI hg (by decide)), nI_clamp (by omega), hs, h2 g hg, hr]
    unfold j_MO_survey_202
    simp only [nx]
    rw [← nI_succ]
    rw [show ∀ W : Nat → Int32, fvR W (coN P es) es.length (g + 1) = if W g ≠ 0 ∧ W g &&& fvR W (coN P es) es.length g = 0 then fvR W (coN P es) es.length g ||| (1 <<< ((tpR (coN P es) (W g) es.length).1 &&& 31)) else fvR W (coN P es) es.length g from fun _ => rfl]
    by_cases c1 : nI (wN P es g es.length) = 0
    · rw [if_pos c1, if_neg (fun q => q.1 c1)]
    · rw [if_neg c1]
      by_cases c2 : nI (wN P es g es.length) &&& fvR (fun g => nI (wN P es g es.length)) (coN P es) es.length g = 0
      · rw [if_pos c2, if_pos ⟨c1, c2⟩]
        have ht := v_MO_top (M := st M 26 39 (fvR (fun g => nI (wN P es g es.length)) (coN P es) es.length g)) (C := coN P es) (n := es.length) (nI (wN P es g es.length)) (by rw [show st M 26 39 _ 26 18 = M 26 18 from rfl]; exact hMS.1) hMS.2.1 (fun e he => by
          rw [st_other (by decide), st_other (by decide), h3 e he, (hMS.2.2 e he).1]; rfl)
        rw [ht, bi_s, ss]
      · rw [if_neg c2, if_neg (fun q => c2 q.2)]
  have h0 := lp_cnt0 (b := fun q : Int32 × Mem => l_MO_survey_151 q.1 q.2) (fun g => (nI g, st M 26 39 (fvR (fun g => nI (wN P es g es.length)) (coN P es) es.length g))) 576 hb
  unfold j_MO_survey_144
  simp only [nx]
  rw [fav_eq]
  refine h0.trans (lp_inr ?_)
  show l_MO_survey_151 (nI 576) _ = _
  unfold l_MO_survey_151
  rw [if_pos (by decide)]
theorem v_MO_survey {M : Mem} {P : Pg} {n : Nat} {es : List (List Int32)} (hP : wfP P n) (hMP : MP M P) (hMS : MS M es) (hsv : M 26 35 = M 26 18 → Srv M P es) : ∃ M1, s_MO_survey M = some M1 ∧ SF M M1 ∧ Srv M1 P es ∧ M1 26 35 = M1 26 18 := by
  unfold s_MO_survey
  by_cases c : M 26 35 = M 26 18
  · rw [if_pos c]
    exact ⟨M, rfl, SF_r M, hsv c, c⟩
  · rw [if_neg c]
    simp only [nx]
    let Y := st M 26 35 (M 26 18)
    have hY : ∀ a, Y a = st M 26 35 (M 26 18) a := fun _ => rfl
    have h : ∀ k, k < 576 → (fun q : Int32 × Mem => l_MO_survey_22 q.1 q.2) (nI k, fl (fl Y 48 k 0) 49 k 0) = some (.inl (nI (k + 1), fl (fl Y 48 (k + 1) 0) 49 (k + 1) 0)) := fun k hk => by
      show l_MO_survey_22 (nI k) (fl (fl Y 48 k 0) 49 k 0) = _
      unfold l_MO_survey_22
      rw [if_neg (show ¬ (576 : Int32) ≤ nI k from nI_ge (a := k) (b := 576) hk (by decide)), ck_i (vp_in_nI hk (by decide))]
      simp only [nx]
      rw [ck_i (vp_in_nI hk (by decide)), nI_clamp (by omega), fl_st (by decide), fl_s, fl_s, nI_succ]
    have h0 := lp_cnt0 (b := fun q : Int32 × Mem => l_MO_survey_22 q.1 q.2) (fun k => (nI k, fl (fl Y 48 k 0) 49 k 0)) 576 h
    rw [fl_0, fl_0] at h0
    generalize hX : fl (fl Y 48 576 0) 49 576 0 = X at h0
    have x0 : ∀ a, a ≠ 26 → a ≠ 48 → a ≠ 49 → X a = M a := fun a a1 a2 a3 => by rw [← hX, fl_o a3, fl_o a2, hY, st_other a1]
    have x26 : ∀ k, k ≠ 35 → X 26 k = M 26 k := fun k hk => by rw [← hX, fl_o (by decide), fl_o (by decide), hY, st_ap, if_pos rfl, if_neg hk]
    have x35 : X 26 35 = M 26 18 := by rw [← hX, fl_o (by decide), fl_o (by decide), hY, st_ap, if_pos rfl, if_pos rfl]
    have fX : SF M X := ⟨fun a a1 _ a3 => x0 a a1 (by omega) (by omega), fun k _ _ k3 _ => x26 k k3⟩
    obtain ⟨M1, i1, i2, i3, i4, i5, i6⟩ := v_MO_sv51 (P := P) (es := es) hP es.length 0 X (by omega) (MP_SF hMP fX) (MS_SF hMS fX) (fun q hq => by rw [← hX, fl_o (by decide), fl_i hq]; rfl) (fun q hq => by rw [← hX, fl_i hq]; rfl) (fun e he => absurd he (by omega))
    have f1 : SF M M1 := SF_t fX i2
    refine ⟨st M1 26 39 (fav P es), ?_, ?_, ⟨fun g hg => ?_, fun g hg => ?_, fun e he => ?_, ?_⟩, ?_⟩
    · refine h0.trans (lp_last ?_)
      show l_MO_survey_22 (nI 576) X = _
      unfold l_MO_survey_22
      rw [if_pos (by decide)]
      unfold j_MO_survey_49
      simp only [nx]
      rw [show (0 : Int32) = nI 0 from rfl, i1, v_MO_svFav (MS_SF hMS f1) i5 i6]
    · refine SF_t f1 ⟨fun a a1 a2 a3 => st_other a1, fun k _ _ _ k4 => by rw [st_ap, if_pos rfl, if_neg k4]⟩
    · rw [st_other (by decide)]; exact i4 g hg
    · rw [st_other (by decide)]; exact i5 g hg
    · rw [st_other (by decide)]; exact i6 e he
    · rw [st_ap, if_pos rfl, if_pos rfl]
    · show M1 26 35 = M1 26 18
      rw [i3, x35, f1.2 18 (by decide) (by decide) (by decide) (by decide)]
