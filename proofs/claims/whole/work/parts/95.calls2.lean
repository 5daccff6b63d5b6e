/-! Pure: plant and fuzz. -/
theorem c_plant {M : Mem} {K : Nat} (h : Rel M K) : ∃ r M1 M2, s_EC_plant M = some (r, M1) ∧ s_MO_plant M1 = some (r, M2) ∧ Rel M2 (K + 1) := by
  obtain ⟨P, n, dr, A, h1, h2, h3, h4, h5, h6, k, k1, k2, k3⟩ := h
  have l6 := h5.2.1
  obtain ⟨M1, a1, a2, a3⟩ := v_EC_execute (i := 52) (Or.inl rfl) h1 h2 h4.2.2.2 h5
  have hX : s_EC_plant M = some ((RUN P dr).2.2.2.2.2, st M1 52 1 0) := by
    unfold s_EC_plant
    rw [a1, bi_s, v_cut0]
    rfl
  have f1 : ∀ a, 26 ≤ a → a ≤ 51 → st M1 52 1 0 a = M a := fun a q1 q2 => by rw [st_other (by omega), a3 a q1 (by omega)]
  have m1 : MA (st M1 52 1 0) P A := MA_fr h3 f1
  generalize hN : st M1 52 1 0 = N at *
  have d5 : N 26 5 = nI dr.length := by rw [f1 26 (by decide) (by decide)]; exact h6.1
  have d30 : Row (N 30) 0 dr := by rw [f1 30 (by decide) (by decide)]; exact h6.2
  -- the draft is laid into cur
  have hb : ∀ k, k < dr.length → (fun q : Int32 × Mem => l_MO_plant_10 q.1 q.2) (nI k, pt (st N 26 44 (nI dr.length)) 51 (cpR (N 30) (N 51) 0 0 k)) = some (.inl (nI (k + 1), pt (st N 26 44 (nI dr.length)) 51 (cpR (N 30) (N 51) 0 0 (k + 1)))) := fun k hk => by
    show l_MO_plant_10 (nI k) (pt (st N 26 44 (nI dr.length)) 51 (cpR (N 30) (N 51) 0 0 k)) = _
    unfold l_MO_plant_10
    rw [pt_o (show (26 : Nat) ≠ 51 by decide), pt_o (show (30 : Nat) ≠ 51 by decide), show st N 26 44 (nI dr.length) 26 5 = N 26 5 from rfl, d5, if_neg (nI_ge hk (by omega)), ck_i (vp_in_nI (by omega) (by decide)), ck_i (vp_in_nI (by omega) (by decide)), nI_clamp (by omega), st_other (show (30 : Nat) ≠ 26 by decide)]
    simp only [nx]
    have := cp_s (N 30) (N 51) 0 0 k
    rw [Nat.zero_add] at this
    rw [pt_st, this, nI_succ]
  have hl0 := lp_cnt0 (b := fun q : Int32 × Mem => l_MO_plant_10 q.1 q.2) (fun k => (nI k, pt (st N 26 44 (nI dr.length)) 51 (cpR (N 30) (N 51) 0 0 k))) dr.length hb
  rw [cp_0, show pt (st N 26 44 (nI dr.length)) 51 (N 51) = st N 26 44 (nI dr.length) by
    have := pt_id (st N 26 44 (nI dr.length)) 51
    rw [st_other (by decide)] at this
    exact this] at hl0
  generalize hY : pt (st N 26 44 (nI dr.length)) 51 (cpR (N 30) (N 51) 0 0 dr.length) = Y at hl0
  have fY : QF N Y := by rw [← hY]; exact QF_t (QF_44 _ _) (QF_pt _ _)
  have y5 : Y 26 5 = nI dr.length := by rw [fY.2 5 (by decide) (by decide)]; exact d5
  have y44 : Y 26 44 = nI dr.length := by rw [← hY, pt_o (by decide), st_rd]
  have y51 : Row (Y 51) 0 dr := by rw [← hY, pt_same]; exact Row_cp d30
  have y6 : Y 26 6 = N 26 6 := by rw [← hY, pt_o (by decide), st_ap, if_pos rfl, if_neg (by decide)]
  generalize hZ : st Y 26 5 0 = Z
  have oZ : ∀ a, a ≠ 26 → Z a = Y a := fun a ha => by rw [← hZ, st_other ha]
  have z26 : ∀ k, k ≠ 5 → Z 26 k = Y 26 k := fun k hk => by rw [← hZ, st_ap, if_pos rfl, if_neg hk]
  have mZ : MA Z P A := by
    obtain ⟨es, fs, nF, ct, t, x⟩ := A
    obtain ⟨p1, p2, p3, p4, p5, p6, p7, p8⟩ := m1
    have f2 : ∀ a, a ≠ 26 → a ≠ 51 → Z a = N a := fun a q1 q2 => by rw [oZ a q1, fY.1 a q1 q2]
    have f3 : ∀ k, k ≠ 5 → k ≠ 6 → k ≠ 44 → Z 26 k = N 26 k := fun k q1 q2 q3 => by rw [z26 k q1, fY.2 k q2 q3]
    refine ⟨?_, MS_fr p2 (f3 18 (by decide) (by decide) (by decide)) (f2 36 (by decide) (by decide)) (f2 37 (by decide) (by decide)), ?_, ?_, MF_fr p5 (f3 22 (by decide) (by decide) (by decide)) (fun q _ _ => f2 q (by omega) (by omega)), ?_, ?_, ?_⟩
    · unfold MP
      rw [f2 27 (by decide) (by decide), f2 28 (by decide) (by decide), f2 29 (by decide) (by decide), f3 0 (by decide) (by decide) (by decide)]
      exact p1
    · intro q
      rw [f3 35 (by decide) (by decide) (by decide), f3 18 (by decide) (by decide) (by decide)] at q
      exact Srv_fr (p3 q) (f2 48 (by decide) (by decide)) (f2 49 (by decide) (by decide)) (f2 50 (by decide) (by decide)) (f3 39 (by decide) (by decide) (by decide))
    · intro e he; rw [f2 38 (by decide) (by decide)]; exact p4 e he
    · rw [f3 32 (by decide) (by decide) (by decide), f3 33 (by decide) (by decide) (by decide), f3 34 (by decide) (by decide) (by decide)]; exact p6
    · unfold MT; rw [f3 40 (by decide) (by decide) (by decide), f3 41 (by decide) (by decide) (by decide), f3 42 (by decide) (by decide) (by decide)]; exact p7
    · rw [z26 6 (by decide), y6]; exact p8
  have cZ : Cur Z dr := ⟨by rw [z26 44 (by decide)]; exact y44, l6, by rw [oZ 51 (by decide)]; exact y51⟩
  obtain ⟨W, b1, b2, b3, b4⟩ := v_MO_execute h1 mZ h4.1 cZ
  have hM : s_MO_plant N = some ((RUN P dr).2.2.2.2.2, W) := by
    unfold s_MO_plant
    simp only [nx]
    rw [d5]
    refine hl0.trans (lp_last ?_)
    show l_MO_plant_10 (nI dr.length) Y = _
    unfold l_MO_plant_10 j_MO_plant_36
    simp only [nx]
    rw [y5, if_pos (nI_le (Nat.le_refl _) (by omega)), hZ, b1, bi_s]
  have fW : ∀ a, (a < 26 ∨ a = 30 ∨ 51 < a) → W a = N a := fun a ha => by rw [b3 a (by omega), oZ a (by omega), fY.1 a (by omega) (by omega)]
  refine ⟨_, N, W, hX, hM, P, n, [], exA P dr A, h1, ?_, b2, wfA_ex h4 l6 h5.2.2.2, ?_, ?_, k + 1, by omega, ?_, fun q => by omega⟩
  · refine XA_fr a2 (fun q hq => ?_)
    rw [fW q (by omega), ← hN, st_other (by omega)]
  · refine Inp_fr (Inp_nil (M := M1) 52) ?_ ?_
    · rw [fW 52 (by omega), hN]
    · rw [fW (52 + 1) (by omega), hN]
  · refine ⟨?_, fun q hq => absurd hq (by simp)⟩
    rw [b4, ← hZ, st_rd]
    rfl
  · show A.2.2.2.1.1 + 1 = nI (k + 1)
    rw [k2, nI_1]
noncomputable def tyR (P : Pg) : Nat → Ab → Ab
  | 0, A => A
  | k + 1, A => tyR P k (tyA P A)
theorem tyR_wf {P : Pg} : ∀ k A, wfA P A → 0 < A.1.length → wfA P (tyR P k A) ∧ 0 < (tyR P k A).1.length := by
  intro k
  induction k with
  | zero => intro A h h0; exact ⟨h, h0⟩
  | succ k ih => intro A h h0; obtain ⟨a, b⟩ := wfA_ty h h0; exact ih _ a b
theorem ty_ex (P : Pg) (A : Ab) : (tyA P A).2.2.2.1.1 = A.2.2.2.1.1 + 1 := by
  unfold tyA adB
  dsimp only
  split <;> rfl
theorem tyR_ex {P : Pg} : ∀ k A j, A.2.2.2.1.1 = nI j → (tyR P k A).2.2.2.1.1 = nI (j + k) := by
  intro k
  induction k with
  | zero => intro A j h; exact h
  | succ k ih =>
    intro A j h
    show (tyR P k (tyA P A)).2.2.2.1.1 = _
    rw [ih (tyA P A) (j + 1) (by rw [ty_ex, h, nI_1]), show j + 1 + k = j + (k + 1) by omega]
theorem v_EC_fzLoop {P : Pg} {n N : Nat} (hP : wfP P n) (hN : N ≤ 20) : ∀ d k M A, k + d = N → XA M P A → wfA P A → 0 < A.1.length → ∃ M1, lp (fun q : Int32 × Mem => l_EC_fuzz_27 (nI N) q.1 q.2) (nI k, M) = some (nI N, M1) ∧ XA M1 P (tyR P d A) ∧ ∀ a, 26 ≤ a → a ≤ 53 → M1 a = M a := by
  intro d
  induction d with
  | zero =>
    intro k M A hk h hw h0
    refine ⟨M, lp_inr ?_, h, fun _ _ _ => rfl⟩
    show l_EC_fuzz_27 (nI N) (nI k) M = _
    unfold l_EC_fuzz_27
    rw [if_pos (nI_le (by omega) (by omega))]
  | succ d ih =>
    intro k M A hk h hw h0
    obtain ⟨M1, M2, M3, r, a1, a2, a3, a4, a5⟩ := v_EC_trial hP h hw h0
    obtain ⟨w1, w2⟩ := wfA_ty hw h0
    obtain ⟨M4, i1, i2, i3⟩ := ih (k + 1) M3 (tyA P A) (by omega) a4 w1 w2
    refine ⟨M4, ?_, i2, fun a q1 q2 => (i3 a q1 q2).trans (a5 a q1 q2)⟩
    refine (lp_inl (b := fun q : Int32 × Mem => l_EC_fuzz_27 (nI N) q.1 q.2) (s := (nI k, M)) (s1 := (nI (k + 1), M3)) ?_).trans i1
    show l_EC_fuzz_27 (nI N) (nI k) M = _
    unfold l_EC_fuzz_27
    rw [if_neg (nI_ge (by omega) (by omega)), a1, bv_s, a2, bi_s, a3, bv_s, nI_succ]
    rfl
theorem v_MO_fzLoop {P : Pg} {n N : Nat} (hP : wfP P n) (hN : N ≤ 20) : ∀ d k M A, k + d = N → MA M P A → wfA P A → 0 < A.1.length → ∃ M1, lp (fun q : Int32 × Mem => l_MO_fuzz_24 (nI N) q.1 q.2) (nI k, M) = some (nI N, M1) ∧ MA M1 P (tyR P d A) ∧ (∀ a, (a < 26 ∨ a = 30 ∨ 51 < a) → M1 a = M a) ∧ M1 26 5 = M 26 5 := by
  intro d
  induction d with
  | zero =>
    intro k M A hk h hw h0
    refine ⟨M, lp_inr ?_, h, fun _ _ => rfl, rfl⟩
    show l_MO_fuzz_24 (nI N) (nI k) M = _
    unfold l_MO_fuzz_24
    rw [if_pos (nI_le (by omega) (by omega))]
  | succ d ih =>
    intro k M A hk h hw h0
    obtain ⟨M3, a1, a2, a3, a4⟩ := v_MO_trial hP h hw h0
    obtain ⟨w1, w2⟩ := wfA_ty hw h0
    obtain ⟨M4, i1, i2, i3, i4⟩ := ih (k + 1) M3 (tyA P A) (by omega) a2 w1 w2
    refine ⟨M4, ?_, i2, fun a q => (i3 a q).trans (a3 a q), i4.trans a4⟩
    refine (lp_inl (b := fun q : Int32 × Mem => l_MO_fuzz_24 (nI N) q.1 q.2) (s := (nI k, M)) (s1 := (nI (k + 1), M3)) ?_).trans i1
    show l_MO_fuzz_24 (nI N) (nI k) M = _
    unfold l_MO_fuzz_24
    rw [if_neg (nI_ge (by omega) (by omega)), a1, bv_s, nI_succ]
    rfl
theorem Rel_m {M : Mem} {K K' : Nat} (h : Rel M K) (hK : K ≤ K') : Rel M K' := by
  obtain ⟨P, n, dr, A, h1, h2, h3, h4, h5, h6, k, k1, k2, k3⟩ := h
  exact ⟨P, n, dr, A, h1, h2, h3, h4, h5, h6, k, by omega, k2, k3⟩
theorem c_fuzz {M : Mem} {K : Nat} (v : Int32) (h : Rel M K) : ∃ r M1 M2, s_EC_fuzz v M = some (r, M1) ∧ s_MO_fuzz v M1 = some (r, M2) ∧ Rel M2 (K + 20) := by
  obtain ⟨P, n, dr, A, h1, h2, h3, h4, h5, h6, k, k1, k2, k3⟩ := id h
  have hx : M 5 3 = nI A.1.length := h2.2.1.1.1
  have hm : M 26 18 = nI A.1.length := h3.2.1.1
  have h16 := h3.2.1.2.1
  unfold s_EC_fuzz s_MO_fuzz
  by_cases c1 : v < 1
  · exact ⟨-1, M, M, if_pos c1, if_pos c1, Rel_m h (by omega)⟩
  by_cases c2 : v ≤ 20
  · by_cases c3 : A.1.length = 0
    · refine ⟨0, M, M, ?_, ?_, Rel_m h (by omega)⟩
      · rw [if_neg c1, if_pos c2, if_pos (by rw [hx, c3]; rfl)]
      · rw [if_neg c1, if_pos c2, if_pos (by rw [hm, c3]; rfl)]
    · obtain ⟨N, hN, rfl⟩ := nI_of2 (M := 20) (n := 20) (by decide) (fun q => c1 (Int32.lt_trans q (by decide))) c2
      obtain ⟨M1, a1, a2, a3⟩ := v_EC_fzLoop h1 hN N 0 M A (by omega) h2 h4 (by omega)
      have m1 : MA M1 P A := MA_fr h3 (fun a q1 q2 => a3 a q1 (by omega))
      have hm1 : M1 26 18 = nI A.1.length := m1.2.1.1
      obtain ⟨M2, b1, b2, b3, b4⟩ := v_MO_fzLoop h1 hN N 0 M1 A (by omega) m1 h4 (by omega)
      have hn0 : ¬ nI A.1.length = 0 := nI_ne0 (by omega) (by omega)
      refine ⟨nI N, M1, M2, ?_, ?_, P, n, dr, tyR P N A, h1, ?_, b2, (tyR_wf N A h4 (by omega)).1, ?_, ?_, k + N, by omega, tyR_ex N A k k2, fun q => ?_⟩
      · rw [if_neg c1, if_pos c2, hx, if_neg hn0]
        exact a1
      · rw [if_neg c1, if_pos c2, hm1, if_neg hn0]
        exact b1
      · exact XA_fr a2 (fun q hq => b3 q (by omega))
      · exact Inp_fr h5 (by rw [b3 52 (by omega), a3 52 (by omega) (by omega)]) (by rw [b3 (52 + 1) (by omega), a3 (52 + 1) (by omega) (by omega)])
      · refine ⟨?_, ?_⟩
        · rw [b4, a3 26 (by omega) (by omega)]; exact h6.1
        · rw [b3 30 (by omega), a3 30 (by omega) (by omega)]; exact h6.2
      · exact absurd (k3 (by omega)).1 c3
  · refine ⟨-1, M, M, ?_, ?_, Rel_m h (by omega)⟩
    · rw [if_neg c1, if_neg c2]
    · rw [if_neg c1, if_neg c2]
