/-! Pure: the queries. -/
theorem v_sv {M : Mem} {K n : Nat} {P : Pg} {dr : List Int32} {A : Ab} (h : RelA M K P n dr A) : ∃ M1, s_MO_survey M = some M1 ∧ SF M M1 ∧ Srv M1 P A.1 ∧ RelA M1 K P n dr A := by
  obtain ⟨h1, h2, h3, h4, h5, h6, hk⟩ := h
  obtain ⟨p1, p2, p3, p4, p5, p6, p7, p8⟩ := id h3
  obtain ⟨M1, s1, s2, s3, s4⟩ := v_MO_survey h1 p1 p2 p3
  have o26 : ∀ k, k ≠ 8 → ¬ (12 ≤ k ∧ k ≤ 16) → k ≠ 35 → k ≠ 39 → M1 26 k = M 26 k := s2.2
  have oo : ∀ a, a ≠ 26 → ¬ (31 ≤ a ∧ a ≤ 35) → ¬ (48 ≤ a ∧ a ≤ 50) → M1 a = M a := s2.1
  refine ⟨M1, s1, s2, s3, h1, XA_fr h2 (fun a ha => oo a (by omega) (by omega) (by omega)), ⟨MP_SF p1 s2, MS_SF p2 s2, fun _ => s3, ?_, ?_, ?_, ?_, ?_⟩, h4, Inp_fr h5 (oo _ (by decide) (by decide) (by decide)) (oo _ (by decide) (by decide) (by decide)), ⟨by rw [o26 5 (by decide) (by decide) (by decide) (by decide)]; exact h6.1, by rw [oo 30 (by decide) (by decide) (by decide)]; exact h6.2⟩, hk⟩
  · intro e he; rw [oo 38 (by decide) (by decide) (by decide)]; exact p4 e he
  · exact MF_fr p5 (o26 22 (by decide) (by decide) (by decide) (by decide)) (fun a q1 q2 => oo a (by omega) (by omega) (by omega))
  · rw [o26 32 (by decide) (by decide) (by decide) (by decide), o26 33 (by decide) (by decide) (by decide) (by decide), o26 34 (by decide) (by decide) (by decide) (by decide)]; exact p6
  · unfold MT
    rw [o26 40 (by decide) (by decide) (by decide) (by decide), o26 41 (by decide) (by decide) (by decide) (by decide), o26 42 (by decide) (by decide) (by decide) (by decide)]; exact p7
  · rw [o26 6 (by decide) (by decide) (by decide) (by decide)]; exact p8
theorem c_count {M : Mem} {K : Nat} (w : Int32) (h : Rel M K) : ∃ r M1 M2, s_EC_count w M = some (r, M1) ∧ s_MO_count w M1 = some (r, M2) ∧ Rel M2 K := by
  obtain ⟨P, n, dr, A, hA⟩ := h
  obtain ⟨M1, s1, s2, s3, s4⟩ := v_sv hA
  obtain ⟨h1, h2, h3, h4, h5, h6, hk⟩ := id hA
  obtain ⟨-, -, h3', -, -, -, -⟩ := id s4
  have hr : Rel M1 K := ⟨P, n, dr, A, s4⟩
  obtain ⟨e0, e1, e2⟩ := h2.2.2.2.2.1
  obtain ⟨f0, f1, f2⟩ := h3'.2.2.2.2.2.1
  unfold s_EC_count s_MO_count
  by_cases c0 : w = 0
  · exact ⟨A.2.2.2.1.1, M, M1, by rw [if_pos c0, e0], by rw [s1, bv_s, if_pos c0, f0], hr⟩
  by_cases c1 : w = 1
  · exact ⟨A.2.2.2.1.2.1, M, M1, by rw [if_neg c0, if_pos c1, e1], by rw [s1, bv_s, if_neg c0, if_pos c1, f1], hr⟩
  by_cases c2 : w = 2
  · exact ⟨A.2.2.2.1.2.2, M, M1, by rw [if_neg c0, if_neg c1, if_pos c2, e2], by rw [s1, bv_s, if_neg c0, if_neg c1, if_pos c2, f2], hr⟩
  by_cases c3 : w = 3
  · exact ⟨nI A.1.length, M, M1, by rw [if_neg c0, if_neg c1, if_neg c2, if_pos c3, h2.2.1.1.1], by rw [s1, bv_s, if_neg c0, if_neg c1, if_neg c2, if_pos c3, h3'.2.1.1], hr⟩
  by_cases c4 : w = 4
  · exact ⟨nI A.2.2.1.1, M, M1, by rw [if_neg c0, if_neg c1, if_neg c2, if_neg c3, if_pos c4, h2.2.2.2.1.1], by rw [s1, bv_s, if_neg c0, if_neg c1, if_neg c2, if_neg c3, if_pos c4, h3'.2.2.2.2.1.1], hr⟩
  by_cases c5 : w = 5
  · exact ⟨nI (seE P A.1), M, M1, by rw [if_neg c0, if_neg c1, if_neg c2, if_neg c3, if_neg c4, if_pos c5, h2.2.1.2.2.2.2.1], by rw [s1, bv_s, if_neg c0, if_neg c1, if_neg c2, if_neg c3, if_neg c4, if_pos c5, v_MO_seenEdges h3'.2.1.2.1 s3.2.1]; rfl, hr⟩
  by_cases c6 : w = 6
  · exact ⟨nI (seP P A.1), M, M1, by rw [if_neg c0, if_neg c1, if_neg c2, if_neg c3, if_neg c4, if_neg c5, if_pos c6, h2.2.1.2.2.2.2.2], by rw [s1, bv_s, if_neg c0, if_neg c1, if_neg c2, if_neg c3, if_neg c4, if_neg c5, if_pos c6, v_MO_seenPairs s3.1]; rfl, hr⟩
  · exact ⟨-1, M, M1, by rw [if_neg c0, if_neg c1, if_neg c2, if_neg c3, if_neg c4, if_neg c5, if_neg c6], by rw [s1, bv_s, if_neg c0, if_neg c1, if_neg c2, if_neg c3, if_neg c4, if_neg c5, if_neg c6], hr⟩
theorem c_entry {M : Mem} {K : Nat} (e w : Int32) (h : Rel M K) : ∃ r M1 M2, s_EC_entry e w M = some (r, M1) ∧ s_MO_entry e w M1 = some (r, M2) ∧ Rel M2 K := by
  obtain ⟨P, n, dr, A, hA⟩ := id h
  obtain ⟨h1, h2, h3, h4, h5, h6, hk⟩ := id hA
  have h16 := h3.2.1.2.1
  unfold s_EC_entry s_MO_entry
  rw [v_ST_has, bi_s, h2.2.1.1.1]
  by_cases c : 0 ≤ e ∧ e < nI A.1.length
  · obtain ⟨k, hk', rfl⟩ := vp_in_of (in_of_lt (by omega) c) (by omega)
    obtain ⟨M1, s1, s2, s3, s4⟩ := v_sv hA
    obtain ⟨-, -, h3', -, -, -, -⟩ := id s4
    have hr : Rel M1 K := ⟨P, n, dr, A, s4⟩
    have hw : s_MO_within (nI k) (M 26 18) M = some (1, M) := by rw [v_within, h3.2.1.1, bI_t c]
    obtain ⟨x1, x2, x3⟩ := h2.2.1.1.2.2 k hk'
    have m37 := (h3'.2.1.2.2 k hk').1
    have m50 := s3.2.2.1 k hk'
    have m38 := h3'.2.2.2.1 k hk'
    rw [bI_t c, if_neg (by decide), ck_i (vp_in_nI (by omega) (by decide)), nI_clamp (by omega)]
    simp only [nx]
    have hM : ∀ X : Int32 → Mem → Option (Int32 × Mem), (bi (s_MO_within (nI k) (M 26 18) M) X) = X 1 M := fun X => by rw [hw, bi_s]
    by_cases c0 : w = 0
    · refine ⟨nI (A.1.getD k []).length, M, M1, by rw [if_pos c0, show 2 * (122 + k) - 186 = 58 + 2 * k by omega, x1.1], ?_, hr⟩
      rw [hM, if_neg (by decide), s1, bv_s, if_pos c0, ck_i (vp_in_nI (by omega) (by decide)), m37]
    by_cases c1 : w = 1
    · refine ⟨stN P (A.1.getD k []), M, M1, by rw [if_neg c0, if_pos c1, x2], ?_, hr⟩
      rw [hM, if_neg (by decide), s1, bv_s, if_neg c0, if_pos c1, ck_i (vp_in_nI (by omega) (by decide)), m50]
    by_cases c2 : w = 2
    · refine ⟨nI (ecN P (A.1.getD k [])), M, M1, by rw [if_neg c0, if_neg c1, if_pos c2, x3], ?_, hr⟩
      rw [hM, if_neg (by decide), s1, bv_s, if_neg c0, if_neg c1, if_pos c2, v_MO_edgesOf s3.2.1 h16 hk']
      rfl
    by_cases c3 : w = 3
    · refine ⟨A.2.1 k, M, M1, by rw [if_neg c0, if_neg c1, if_neg c2, if_pos c3, h2.2.2.1 k (by omega)], ?_, hr⟩
      rw [hM, if_neg (by decide), s1, bv_s, if_neg c0, if_neg c1, if_neg c2, if_pos c3, ck_i (vp_in_nI (by omega) (by decide)), m38]
    by_cases c4 : w = 4
    · refine ⟨(fav P A.1 >>> (nI k &&& 31)) &&& 1, M, M1, ?_, ?_, hr⟩
      · rw [if_neg c0, if_neg c1, if_neg c2, if_neg c3, if_pos c4, v_isFav, bi_s, h2.2.1.2.2.2.1]
        rcases fav_or (fav P A.1) k with q | q
        · rw [q, bI_f (by decide), if_pos rfl]
        · rw [q, bI_t rfl, if_neg (by decide)]
      · rw [hM, if_neg (by decide), s1, bv_s, if_neg c0, if_neg c1, if_neg c2, if_neg c3, if_pos c4, s3.2.2.2]
    · refine ⟨-1, M, M1, by rw [if_neg c0, if_neg c1, if_neg c2, if_neg c3, if_neg c4], ?_, hr⟩
      rw [hM, if_neg (by decide), s1, bv_s, if_neg c0, if_neg c1, if_neg c2, if_neg c3, if_neg c4]
  · rw [bI_f c, if_pos rfl]
    refine ⟨-1, M, M, rfl, ?_, h⟩
    rw [v_within, h3.2.1.1, bI_f c, bi_s, if_pos rfl]
theorem c_entryByte {M : Mem} {K : Nat} (e k : Int32) (h : Rel M K) : ∃ r M1 M2, s_EC_entryByte e k M = some (r, M1) ∧ s_MO_entryByte e k M1 = some (r, M2) ∧ Rel M2 K := by
  obtain ⟨P, n, dr, A, hA⟩ := id h
  obtain ⟨h1, h2, h3, h4, h5, h6, hk⟩ := id hA
  have h16 := h3.2.1.2.1
  unfold s_EC_entryByte s_MO_entryByte
  rw [v_ST_has, bi_s, h2.2.1.1.1]
  by_cases c : 0 ≤ e ∧ e < nI A.1.length
  · obtain ⟨q, hq, rfl⟩ := vp_in_of (in_of_lt (by omega) c) (by omega)
    obtain ⟨x1, x2, x3⟩ := h2.2.1.1.2.2 q hq
    obtain ⟨m1, m2, m3⟩ := h3.2.1.2.2 q hq
    have hw : s_MO_within (nI q) (M 26 18) M = some (1, M) := by rw [v_within, h3.2.1.1, bI_t c]
    rw [bI_t c, if_neg (by decide), ck_i (vp_in_nI (by omega) (by decide)), nI_clamp (by omega), show 2 * (122 + q) - 186 = 58 + 2 * q by omega, v_IN_at k x1.1 x1.2.1, bi_s]
    refine ⟨_, M, M, rfl, ?_, h⟩
    rw [hw, bi_s, if_neg (by decide), ck_i (vp_in_nI (by omega) (by decide)), m1, v_within, bi_s]
    by_cases c2 : 0 ≤ k ∧ k < nI (A.1.getD q []).length
    · obtain ⟨j, hj, rfl⟩ := vp_in_of (in_of_lt (by omega) c2) (by omega)
      have z1 : (6 : Int32) * nI q + nI j = nI (6 * q + j) := by rw [show (6 : Int32) = nI 6 from rfl, pk_mul, nI_add]
      rw [bI_t c2, if_neg (by decide), if_pos c2, z1, ck_i (vp_in_nI (by omega) (by decide)), nI_clamp (by omega), nI_clamp (by omega), m3 j hj]
      have := x1.2.2.1 j hj
      rw [Nat.zero_add] at this
      rw [this]
    · rw [bI_f c2, if_pos rfl, if_neg c2]
  · rw [bI_f c, if_pos rfl]
    refine ⟨-1, M, M, rfl, ?_, h⟩
    rw [v_within, h3.2.1.1, bI_f c, bi_s, if_pos rfl]
theorem c_seen {M : Mem} {K : Nat} (a b : Int32) (h : Rel M K) : ∃ r M1 M2, s_EC_seen a b M = some (r, M1) ∧ s_MO_seen a b M1 = some (r, M2) ∧ Rel M2 K := by
  obtain ⟨P, n, dr, A, hA⟩ := id h
  obtain ⟨h1, h2, h3, h4, h5, h6, hk⟩ := id hA
  unfold s_EC_seen s_MO_seen
  rw [v_isPlace, bi_s]
  by_cases c : 0 ≤ a ∧ a < 24
  · rw [bI_t c, if_neg (by decide), v_isPlace, bi_s]
    have w1 : s_MO_within a 24 M = some (1, M) := by rw [v_within, bI_t c]
    by_cases c2 : 0 ≤ b ∧ b < 24
    · obtain ⟨i, hi, rfl⟩ := vp_in_of (in_of_lt (L := 24) (by decide) c) (by decide)
      obtain ⟨j, hj, rfl⟩ := vp_in_of (in_of_lt (L := 24) (by decide) c2) (by decide)
      have w2 : s_MO_within (nI j) 24 M = some (1, M) := by rw [v_within, bI_t c2]
      obtain ⟨M1, s1, s2, s3, s4⟩ := v_sv hA
      have hr : Rel M1 K := ⟨P, n, dr, A, s4⟩
      have z1 : (24 : Int32) * nI i + nI j = nI (24 * i + j) := by rw [show (24 : Int32) = nI 24 from rfl, pk_mul, nI_add]
      rw [bI_t c2, if_neg (by decide), z1, ck_i (vp_in_nI (by omega) (by decide)), nI_clamp (by omega), h2.2.1.2.1 _ (by omega)]
      refine ⟨_, M, M1, rfl, ?_, hr⟩
      rw [w1, bi_s, if_neg (by decide), w2, bi_s, if_neg (by decide), s1, bv_s, ck_i (vp_in_nI (by omega) (by decide)), s3.1 _ (by omega)]
    · rw [bI_f c2, if_pos rfl]
      refine ⟨0, M, M, rfl, ?_, h⟩
      rw [w1, bi_s, if_neg (by decide), v_within, bI_f c2, bi_s, if_pos rfl]
  · rw [bI_f c, if_pos rfl]
    refine ⟨0, M, M, rfl, ?_, h⟩
    rw [v_within, bI_f c, bi_s, if_pos rfl]
theorem v_FS_has (a : Int32) (M : Mem) : s_FS_has a M = some (bI (0 ≤ a ∧ a < M 9 1), M) := by
  unfold s_FS_has
  by_cases h1 : a < 0
  · rw [if_pos h1, bI_f (fun h => Int32.not_le.mpr h1 h.1)]
  · rw [if_neg h1]
    by_cases h2 : M 9 1 ≤ a
    · rw [if_pos h2, bI_f (fun h => Int32.not_lt.mpr h2 h.2)]
    · rw [if_neg h2, bI_t ⟨Int32.not_lt.mp h1, Int32.not_le.mp h2⟩]
theorem c_finding {M : Mem} {K : Nat} (e w : Int32) (h : Rel M K) : ∃ r M1 M2, s_EC_finding e w M = some (r, M1) ∧ s_MO_finding e w M1 = some (r, M2) ∧ Rel M2 K := by
  obtain ⟨P, n, dr, A, hA⟩ := id h
  obtain ⟨h1, h2, h3, h4, h5, h6, hk⟩ := id hA
  obtain ⟨x1, x2, x3⟩ := h2.2.2.2.1
  obtain ⟨y1, y2, y3⟩ := h3.2.2.2.2.1
  unfold s_EC_finding s_MO_finding
  rw [v_FS_has, bi_s, x1]
  by_cases c : 0 ≤ e ∧ e < nI A.2.2.1.1
  · obtain ⟨k, hk', rfl⟩ := vp_in_of (in_of_lt (by omega) c) (by omega)
    obtain ⟨⟨a0, a1, a2, a3, a4⟩, a5, a6, a7⟩ := x3 k hk'
    obtain ⟨⟨b0, b1, b2, b3, b4⟩, b5, ⟨b6, -, -⟩, ⟨b7, -, -⟩⟩ := y3 k hk'
    obtain ⟨d, d1, d2, d3⟩ := a0.2
    have hw : s_MO_within (nI k) (M 26 22) M = some (1, M) := by rw [v_within, y1, bI_t c]
    rw [bI_t c, if_neg (by decide), ck_i (vp_in_nI (by omega) (by decide)), nI_clamp (by omega)]
    simp only [nx]
    have hM : ∀ X : Int32 → Mem → Option (Int32 × Mem), (bi (s_MO_within (nI k) (M 26 22) M) X) = X 1 M := fun X => by rw [hw, bi_s]
    by_cases c9 : 0 ≤ w ∧ w < 9
    · have hw9 : s_MO_within w 9 M = some (1, M) := by rw [v_within, bI_t c9]
      obtain ⟨i, hi, rfl⟩ := vp_in_of (in_of_lt (L := 9) (by decide) c9) (by decide)
      have kin : vp_in (nI k) 8 := vp_in_nI (by omega) (by decide)
      have kcl : (nI k).toNatClampNeg = k := nI_clamp (by omega)
      have hlf : ∀ b, b < 3 → M (139 + 2 * k) b = lfS (A.2.2.1.2 k).1 d b := fun b hb => a4 d d1 d2 b hb
      have hst : ∀ b, b < 3 → (if M 41 k ≤ nI b then some ((0 : Int32), M) else (ck (nI k) 8 (ck ((((3 : Int32) * nI k + M 41 k) - (1 : Int32)) - nI b) 24 (some (M 42 ((((3 : Int32) * nI k + M 41 k) - (1 : Int32)) - nI b).toNatClampNeg, M))))) = some (lfS (A.2.2.1.2 k).1 d b, M) := fun b hb => by
        rw [b3, d2]
        unfold lfS
        by_cases q : b < d
        · rw [if_neg (nI_ge q (by omega)), if_pos q, ck_i kin, show (3 : Int32) = nI 3 from rfl, show (1 : Int32) = nI 1 from rfl, pk_mul, nI_add, pk_sub (by omega), pk_sub (by omega), ck_i (vp_in_nI (by omega) (by decide)), nI_clamp (by omega), show 3 * k + d - 1 - b = 3 * k + (d - 1 - b) by omega, b4 _ (by omega)]
        · rw [if_pos (nI_le (by omega) (by omega)), if_neg q]
      rcases (show i = 0 ∨ i = 1 ∨ i = 2 ∨ i = 3 ∨ i = 4 ∨ i = 5 ∨ i = 6 ∨ i = 7 ∨ i = 8 by omega) with rfl | rfl | rfl | rfl | rfl | rfl | rfl | rfl | rfl
      · refine ⟨(A.2.2.1.2 k).1.1, M, M, by rw [if_pos (show nI 0 = (0 : Int32) from rfl), a1], ?_, h⟩
        rw [hM, if_neg (by decide), hw9, bi_s, if_neg (by decide), if_pos (show nI 0 < (3 : Int32) by decide)]
        unfold j_MO_finding_70
        rw [if_pos (show nI 0 = (0 : Int32) from rfl), ck_i kin, kcl, b1]
      · refine ⟨(A.2.2.1.2 k).1.2.1, M, M, by rw [if_neg (show ¬ nI 1 = (0 : Int32) by decide), if_pos (show nI 1 = (1 : Int32) from rfl), a2], ?_, h⟩
        rw [hM, if_neg (by decide), hw9, bi_s, if_neg (by decide), if_pos (show nI 1 < (3 : Int32) by decide)]
        unfold j_MO_finding_70
        rw [if_neg (show ¬ nI 1 = (0 : Int32) by decide), if_pos (show nI 1 = (1 : Int32) from rfl), ck_i kin, kcl, b2]
      · refine ⟨(A.2.2.1.2 k).1.2.2.1, M, M, by rw [if_neg (show ¬ nI 2 = (0 : Int32) by decide), if_neg (show ¬ nI 2 = (1 : Int32) by decide), if_pos (show nI 2 = (2 : Int32) from rfl), a3], ?_, h⟩
        rw [hM, if_neg (by decide), hw9, bi_s, if_neg (by decide), if_pos (show nI 2 < (3 : Int32) by decide)]
        unfold j_MO_finding_70
        rw [if_neg (show ¬ nI 2 = (0 : Int32) by decide), if_neg (show ¬ nI 2 = (1 : Int32) by decide), if_pos (show nI 2 = (2 : Int32) from rfl), ck_i kin, kcl, b3]
      · refine ⟨lfS (A.2.2.1.2 k).1 d 0, M, M, ?_, ?_, h⟩
        · rw [if_neg (show ¬ nI 3 = (0 : Int32) by decide), if_neg (show ¬ nI 3 = (1 : Int32) by decide), if_neg (show ¬ nI 3 = (2 : Int32) by decide), if_pos (show nI 3 = (3 : Int32) from rfl)]
          unfold j_EC_finding_97
          rw [show nI 3 - (3 : Int32) = nI 0 from rfl, ck_i (vp_in_nI (by decide) (by decide)), nI_clamp (by decide), show 138 + 2 * k + 1 = 139 + 2 * k by omega, hlf 0 (by decide)]
        · rw [hM, if_neg (by decide), hw9, bi_s, if_neg (by decide), if_neg (show ¬ nI 3 < (3 : Int32) by decide), if_neg (show ¬ (5 : Int32) < nI 3 by decide), show nI 3 - (3 : Int32) = nI 0 from rfl, ck_i kin]
          exact hst 0 (by decide)
      · refine ⟨lfS (A.2.2.1.2 k).1 d 1, M, M, ?_, ?_, h⟩
        · rw [if_neg (show ¬ nI 4 = (0 : Int32) by decide), if_neg (show ¬ nI 4 = (1 : Int32) by decide), if_neg (show ¬ nI 4 = (2 : Int32) by decide), if_neg (show ¬ nI 4 = (3 : Int32) by decide), if_pos (show nI 4 = (4 : Int32) from rfl)]
          unfold j_EC_finding_97
          rw [show nI 4 - (3 : Int32) = nI 1 from rfl, ck_i (vp_in_nI (by decide) (by decide)), nI_clamp (by decide), show 138 + 2 * k + 1 = 139 + 2 * k by omega, hlf 1 (by decide)]
        · rw [hM, if_neg (by decide), hw9, bi_s, if_neg (by decide), if_neg (show ¬ nI 4 < (3 : Int32) by decide), if_neg (show ¬ (5 : Int32) < nI 4 by decide), show nI 4 - (3 : Int32) = nI 1 from rfl, ck_i kin]
          exact hst 1 (by decide)
      · refine ⟨lfS (A.2.2.1.2 k).1 d 2, M, M, ?_, ?_, h⟩
        · rw [if_neg (show ¬ nI 5 = (0 : Int32) by decide), if_neg (show ¬ nI 5 = (1 : Int32) by decide), if_neg (show ¬ nI 5 = (2 : Int32) by decide), if_neg (show ¬ nI 5 = (3 : Int32) by decide), if_neg (show ¬ nI 5 = (4 : Int32) by decide), if_pos (show nI 5 = (5 : Int32) from rfl)]
          unfold j_EC_finding_97
          rw [show nI 5 - (3 : Int32) = nI 2 from rfl, ck_i (vp_in_nI (by decide) (by decide)), nI_clamp (by decide), show 138 + 2 * k + 1 = 139 + 2 * k by omega, hlf 2 (by decide)]
        · rw [hM, if_neg (by decide), hw9, bi_s, if_neg (by decide), if_neg (show ¬ nI 5 < (3 : Int32) by decide), if_neg (show ¬ (5 : Int32) < nI 5 by decide), show nI 5 - (3 : Int32) = nI 2 from rfl, ck_i kin]
          exact hst 2 (by decide)
      · refine ⟨(A.2.2.1.2 k).2.1, M, M, ?_, ?_, h⟩
        · rw [if_neg (show ¬ nI 6 = (0 : Int32) by decide), if_neg (show ¬ nI 6 = (1 : Int32) by decide), if_neg (show ¬ nI 6 = (2 : Int32) by decide), if_neg (show ¬ nI 6 = (3 : Int32) by decide), if_neg (show ¬ nI 6 = (4 : Int32) by decide), if_neg (show ¬ nI 6 = (5 : Int32) by decide), if_pos (show nI 6 = (6 : Int32) from rfl), a5]
        · rw [hM, if_neg (by decide), hw9, bi_s, if_neg (by decide), if_neg (show ¬ nI 6 < (3 : Int32) by decide), if_pos (show (5 : Int32) < nI 6 by decide)]
          unfold j_MO_finding_70
          rw [if_neg (show ¬ nI 6 = (0 : Int32) by decide), if_neg (show ¬ nI 6 = (1 : Int32) by decide), if_neg (show ¬ nI 6 = (2 : Int32) by decide), if_pos (show nI 6 = (6 : Int32) from rfl), ck_i kin, kcl, b5]
      · refine ⟨nI (A.2.2.1.2 k).2.2.1.length, M, M, ?_, ?_, h⟩
        · rw [if_neg (show ¬ nI 7 = (0 : Int32) by decide), if_neg (show ¬ nI 7 = (1 : Int32) by decide), if_neg (show ¬ nI 7 = (2 : Int32) by decide), if_neg (show ¬ nI 7 = (3 : Int32) by decide), if_neg (show ¬ nI 7 = (4 : Int32) by decide), if_neg (show ¬ nI 7 = (5 : Int32) by decide), if_neg (show ¬ nI 7 = (6 : Int32) by decide), if_pos (show nI 7 = (7 : Int32) from rfl), show 2 * (138 + 2 * k) - 186 = 90 + 4 * k by omega, a6.1]
        · rw [hM, if_neg (by decide), hw9, bi_s, if_neg (by decide), if_neg (show ¬ nI 7 < (3 : Int32) by decide), if_pos (show (5 : Int32) < nI 7 by decide)]
          unfold j_MO_finding_70
          rw [if_neg (show ¬ nI 7 = (0 : Int32) by decide), if_neg (show ¬ nI 7 = (1 : Int32) by decide), if_neg (show ¬ nI 7 = (2 : Int32) by decide), if_neg (show ¬ nI 7 = (6 : Int32) by decide), if_pos (show nI 7 = (7 : Int32) from rfl), ck_i kin, kcl, b6]
      · refine ⟨nI (A.2.2.1.2 k).2.2.2.length, M, M, ?_, ?_, h⟩
        · rw [if_neg (show ¬ nI 8 = (0 : Int32) by decide), if_neg (show ¬ nI 8 = (1 : Int32) by decide), if_neg (show ¬ nI 8 = (2 : Int32) by decide), if_neg (show ¬ nI 8 = (3 : Int32) by decide), if_neg (show ¬ nI 8 = (4 : Int32) by decide), if_neg (show ¬ nI 8 = (5 : Int32) by decide), if_neg (show ¬ nI 8 = (6 : Int32) by decide), if_neg (show ¬ nI 8 = (7 : Int32) by decide), if_pos (show nI 8 = (8 : Int32) from rfl), show 2 * (138 + 2 * k) - 184 = 92 + 4 * k by omega, a7.1]
        · rw [hM, if_neg (by decide), hw9, bi_s, if_neg (by decide), if_neg (show ¬ nI 8 < (3 : Int32) by decide), if_pos (show (5 : Int32) < nI 8 by decide)]
          unfold j_MO_finding_70
          rw [if_neg (show ¬ nI 8 = (0 : Int32) by decide), if_neg (show ¬ nI 8 = (1 : Int32) by decide), if_neg (show ¬ nI 8 = (2 : Int32) by decide), if_neg (show ¬ nI 8 = (6 : Int32) by decide), if_neg (show ¬ nI 8 = (7 : Int32) by decide), ck_i kin, kcl, b7]
    · have hn : ∀ z : Int32, (0 ≤ z ∧ z < 9) → ¬ w = z := fun z hz q => c9 (q ▸ hz)
      refine ⟨-1, M, M, ?_, ?_, h⟩
      · rw [if_neg (hn 0 (by decide)), if_neg (hn 1 (by decide)), if_neg (hn 2 (by decide)), if_neg (hn 3 (by decide)), if_neg (hn 4 (by decide)), if_neg (hn 5 (by decide)), if_neg (hn 6 (by decide)), if_neg (hn 7 (by decide)), if_neg (hn 8 (by decide))]
      · rw [hM, if_neg (by decide), v_within, bI_f c9, bi_s, if_pos rfl]
  · rw [bI_f c, if_pos rfl]
    refine ⟨-1, M, M, rfl, ?_, h⟩
    rw [v_within, y1, bI_f c, bi_s, if_pos rfl]
theorem c_findingByte {M : Mem} {K : Nat} (e f k : Int32) (h : Rel M K) : ∃ r M1 M2, s_EC_findingByte e f k M = some (r, M1) ∧ s_MO_findingByte e f k M1 = some (r, M2) ∧ Rel M2 K := by
  obtain ⟨P, n, dr, A, hA⟩ := id h
  obtain ⟨h1, h2, h3, h4, h5, h6, hk⟩ := id hA
  obtain ⟨x1, x2, x3⟩ := h2.2.2.2.1
  obtain ⟨y1, y2, y3⟩ := h3.2.2.2.2.1
  unfold s_EC_findingByte s_MO_findingByte
  rw [v_FS_has, bi_s, x1]
  by_cases c : 0 ≤ e ∧ e < nI A.2.2.1.1
  · obtain ⟨q, hq, rfl⟩ := vp_in_of (in_of_lt (by omega) c) (by omega)
    obtain ⟨-, -, a6, a7⟩ := x3 q hq
    obtain ⟨-, -, ⟨b6, b6', b6''⟩, ⟨b7, b7', b7''⟩⟩ := y3 q hq
    have hw : s_MO_within (nI q) (M 26 22) M = some (1, M) := by rw [v_within, y1, bI_t c]
    rw [bI_t c, if_neg (by decide), ck_i (vp_in_nI (by omega) (by decide)), nI_clamp (by omega)]
    simp only [nx]
    rw [show 2 * (138 + 2 * q) - 186 = 90 + 4 * q by omega, show 2 * (138 + 2 * q) - 184 = 92 + 4 * q by omega]
    by_cases c0 : f = 0
    · refine ⟨_, M, M, by rw [if_pos c0, v_IN_at k a6.1 a6.2.1, bi_s], ?_, h⟩
      rw [hw, bi_s, if_neg (by decide), if_pos c0, ck_i (vp_in_nI (by omega) (by decide)), b6]
      unfold j_MO_findingByte_31
      rw [v_within, bi_s]
      by_cases c2 : 0 ≤ k ∧ k < nI (A.2.2.1.2 q).2.2.1.length
      · obtain ⟨j, hj, rfl⟩ := vp_in_of (in_of_lt (by omega) c2) (by omega)
        have z1 : (6 : Int32) * nI q + nI j = nI (6 * q + j) := by rw [show (6 : Int32) = nI 6 from rfl, pk_mul, nI_add]
        rw [bI_t c2, if_neg (by decide), if_pos c0, if_pos c2, z1, ck_i (vp_in_nI (by omega) (by decide)), nI_clamp (by omega), nI_clamp (by omega), b6'' j hj]
        have := a6.2.2.1 j hj
        rw [Nat.zero_add] at this
        rw [this]
      · rw [bI_f c2, if_pos rfl, if_neg c2]
    · refine ⟨_, M, M, by rw [if_neg c0, v_IN_at k a7.1 a7.2.1, bi_s], ?_, h⟩
      rw [hw, bi_s, if_neg (by decide), if_neg c0, ck_i (vp_in_nI (by omega) (by decide)), b7]
      unfold j_MO_findingByte_31
      rw [v_within, bi_s]
      by_cases c2 : 0 ≤ k ∧ k < nI (A.2.2.1.2 q).2.2.2.length
      · obtain ⟨j, hj, rfl⟩ := vp_in_of (in_of_lt (by omega) c2) (by omega)
        have z1 : (6 : Int32) * nI q + nI j = nI (6 * q + j) := by rw [show (6 : Int32) = nI 6 from rfl, pk_mul, nI_add]
        rw [bI_t c2, if_neg (by decide), if_neg c0, if_pos c2, z1, ck_i (vp_in_nI (by omega) (by decide)), nI_clamp (by omega), nI_clamp (by omega), b7'' j hj]
        have := a7.2.2.1 j hj
        rw [Nat.zero_add] at this
        rw [this]
      · rw [bI_f c2, if_pos rfl, if_neg c2]
  · rw [bI_f c, if_pos rfl]
    refine ⟨-1, M, M, rfl, ?_, h⟩
    rw [v_within, y1, bI_f c, bi_s, if_pos rfl]
theorem c_current {M : Mem} {K : Nat} (w : Int32) (h : Rel M K) : ∃ r M1 M2, s_EC_current w M = some (r, M1) ∧ s_MO_current w M1 = some (r, M2) ∧ Rel M2 K := by
  obtain ⟨P, n, dr, A, hA⟩ := id h
  obtain ⟨h1, h2, h3, h4, h5, h6, hk⟩ := id hA
  have h16 := h3.2.1.2.1
  by_cases c : A.1.length = 0
  · refine ⟨-1, M, M, ?_, ?_, h⟩
    · unfold s_EC_current
      rw [if_pos (by rw [h2.2.1.1.1, c]; rfl)]
    · unfold s_MO_current
      rw [if_pos (by rw [h3.2.1.1, c]; rfl)]
  · obtain ⟨a1, a2, a3⟩ := h2.2.2.2.2.2.1.2 (by omega)
    obtain ⟨b1, b2, b3⟩ := h3.2.2.2.2.2.2.1 (by omega)
    obtain ⟨r, r1, r2⟩ := v_current (M := M) (M' := M) w (by rw [h2.2.1.1.1, h3.2.1.1]) (by rw [a1, b1]) (by rw [a2, b2]) (by rw [a3, b3])
    exact ⟨r, M, M, r1, r2, h⟩
theorem c_state {M : Mem} {K : Nat} (h : Rel M K) : ∃ r M1 M2, s_EC_state M = some (r, M1) ∧ s_MO_state M1 = some (r, M2) ∧ Rel M2 K := by
  obtain ⟨P, n, dr, A, hA⟩ := id h
  obtain ⟨h1, h2, h3, h4, h5, h6, hk⟩ := id hA
  refine ⟨A.2.2.2.2.2, M, M, ?_, ?_, h⟩
  · unfold s_EC_state
    rw [h2.2.2.2.2.2.2.1]
  · unfold s_MO_state
    rw [h3.2.2.2.2.2.2.2]
