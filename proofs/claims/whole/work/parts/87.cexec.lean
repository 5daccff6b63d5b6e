/-! Pure: the class's execute. -/
theorem XS_fr {M M1 : Mem} {P : Pg} {es : List (List Int32)} (h : XS M P es) (h5 : M1 5 = M 5) (h7 : M1 7 = M 7) (h8 : M1 8 = M 8) (hi : ∀ a, 58 ≤ a → a ≤ 89 → M1 a = M a) (he : ∀ e, e < 16 → M1 (122 + e) = M (122 + e)) : XS M1 P es := by
  obtain ⟨x0, x7, x8, x4, x5, x6⟩ := h
  have h16 := x0.2.1
  refine ⟨XS0_fr x0 (by rw [h5]) (fun e hh => ⟨hi _ (by omega) (by omega), hi _ (by omega) (by omega), by rw [he e (by omega)], by rw [he e (by omega)]⟩), by rw [h7]; exact x7, by rw [h8]; exact x8, by rw [h5]; exact x4, by rw [h5]; exact x5, by rw [h5]; exact x6⟩
theorem XF_fr {M M1 : Mem} {nf : Nat} {F : Nat → Fnd} (h : XF M nf F) (h9 : M1 9 = M 9) (hi : ∀ a, 90 ≤ a → a ≤ 121 → M1 a = M a) (hf : ∀ a, 138 ≤ a → a ≤ 153 → M1 a = M a) : XF M1 nf F := by
  obtain ⟨x1, x2, x3⟩ := h
  exact ⟨by rw [h9]; exact x1, x2, fun c hc => XFc_fr (x3 c hc) (hf _ (by omega) (by omega)) (hf _ (by omega) (by omega)) (hi _ (by omega) (by omega)) (hi _ (by omega) (by omega)) (hi _ (by omega) (by omega)) (hi _ (by omega) (by omega))⟩
/-- cells of the class's store -/
def stCl (a : Nat) : Prop := a = 0 ∨ a = 5 ∨ a = 7 ∨ a = 8 ∨ (58 ≤ a ∧ a ≤ 89) ∨ (122 ≤ a ∧ a ≤ 137)
theorem v_EC_43 {i : Nat} {M : Mem} {P : Pg} {n : Nat} {es : List (List Int32)} {l : List Int32} (hi : 51 < i ∧ i < 57) (hP : wfP P n) (h : XS M P es) (hl : Inp M i l) (hR : ROk 14 M) (hQ : Req (RUN P l) (prC 14 M)) :
    ∃ M1, j_EC_execute_43 i M = j_EC_execute_82 i M1 ∧ XS M1 P (exS P l es) ∧ M1 0 11 = M 0 11 + exL P l es ∧ (∀ q, q ≠ 11 → M1 0 q = M 0 q) ∧ (∀ a, ¬ stCl a → M1 a = M a) ∧ (∀ e, e < 16 → M1 (122 + e) 3 = M (122 + e) 3) := by
  obtain ⟨E, hE, hEl⟩ := hR
  have ht : ∀ g, g < 576 → M 18 g = nI (tN P l g) := fun g hg => by
    rw [← (tN_eq l hP hg).1]
    exact (hQ.2.2.2.1 g hg).symm
  have hst : M 14 9 = stN P l := hQ.2.2.2.2.2.2.2.1.symm
  unfold j_EC_execute_43
  rw [v_ST_hasNews (j := 14) hP hE hEl ht h.2.1, bi_s]
  unfold exS exL
  by_cases c : news P es l = true
  · rw [bI_t c, if_neg (by decide)]
    by_cases c2 : es.length < 16
    · obtain ⟨M1, k1, k2, k3, k4⟩ := v_ST_keep hi hP h c2 hl hE hEl ht hst
      rw [k1, bi_s, if_neg (by decide), if_pos ⟨c, c2⟩, if_neg (fun q => q.2 c2)]
      have k0 : M1 0 = M 0 := k3 0 (by omega) (by omega) (by omega) (by omega) (by omega) (by omega)
      refine ⟨M1, rfl, k2, by rw [k0, Int32.add_zero], fun q _ => by rw [k0], fun a ha => ?_, fun e he => ?_⟩
      · unfold stCl at ha
        exact k3 a (by omega) (by omega) (by omega) (by omega) (by omega) (by omega)
      · by_cases q : e = es.length
        · subst q; exact k4 3 (by decide) (by decide)
        · rw [k3 _ (by omega) (by omega) (by omega) (by omega) (by omega) (by omega)]
    · have hs : s_ST_keep i 14 M = some (0, M) := by
        unfold s_ST_keep
        have h16 := h.1.2.1
        rw [h.1.1, if_neg (show ¬ nI es.length < (16 : Int32) from fun q => c2 ((nI_ltI (b := 16) (by omega) (by decide)).mp q))]
      rw [hs, bi_s, if_pos rfl, if_neg (fun q => c2 q.2), if_pos ⟨c, c2⟩]
      refine ⟨st M 0 11 (M 0 11 + 1), rfl, ?_, by rw [st_ap, if_pos rfl, if_pos rfl], fun q hq => by rw [st_ap, if_pos rfl, if_neg hq], fun a ha => ?_, fun e he => by rw [st_other (by omega)]⟩
      · exact XS_fr h (st_other (by decide)) (st_other (by decide)) (st_other (by decide)) (fun a _ _ => st_other (by omega)) (fun e _ => st_other (by omega))
      · unfold stCl at ha
        exact st_other (by omega)
  · rw [bI_f c, if_pos rfl, if_neg (fun q => c q.1), if_neg (fun q => c q.1)]
    exact ⟨M, rfl, h, by rw [Int32.add_zero], fun _ _ => rfl, fun _ _ => rfl, fun _ _ => rfl⟩
/-- cells of the class's findings and of the shortener -/
def fiCl (a : Nat) : Prop := a = 0 ∨ a = 9 ∨ (20 ≤ a ∧ a ≤ 25) ∨ a = 56 ∨ a = 57 ∨ (90 ≤ a ∧ a ≤ 121) ∨ (138 ≤ a ∧ a ≤ 153)
theorem v_hasTrapped {P : Pg} {n : Nat} {l : List Int32} {M : Mem} (hQ : Req (RUN P l) (prC 14 M)) : s_RU_hasTrapped 14 M = some (@bI (trP P l) (Classical.propDecidable _), M) := by
  have ho : M 14 10 = (RUN P l).2.2.2.2.2 := hQ.2.2.2.2.2.2.2.2.symm
  unfold s_RU_hasTrapped
  rw [ho]
  by_cases c1 : (RUN P l).2.2.2.2.2 < 1
  · rw [if_pos c1, @bI_f _ (Classical.propDecidable _) (fun q : trP P l => Int32.not_le.mpr c1 q.1)]
  · rw [if_neg c1]
    by_cases c2 : 4 < (RUN P l).2.2.2.2.2
    · rw [if_pos c2, @bI_f _ (Classical.propDecidable _) (fun q : trP P l => Int32.not_le.mpr c2 q.2)]
    · rw [if_neg c2, @bI_t (trP P l) (Classical.propDecidable _) ⟨Int32.not_lt.mp c1, Int32.not_lt.mp c2⟩]
theorem v_EC_82 {i : Nat} {M : Mem} {P : Pg} {n nf : Nat} {F : Nat → Fnd} {l : List Int32} (hi : 51 < i ∧ i < 55) (hP : wfP P n) (hM : (M 2, M 3, M 4, M 1 3) = P) (h : XF M nf F) (hl : Inp M i l) (hR : ROk 20 M) (hQ : Req (RUN P l) (prC 14 M)) :
    ∃ M1, j_EC_execute_82 i M = j_EC_execute_148 M1 ∧ XF M1 (exF P l nf F).1.1 (exF P l nf F).1.2 ∧ M1 0 11 = M 0 11 + (exF P l nf F).2 ∧ (∀ q, q ≠ 11 → M1 0 q = M 0 q) ∧ (∀ a, ¬ fiCl a → M1 a = M a) ∧ ROk 20 M1 := by
  obtain ⟨x1, x2, x3⟩ := id h
  unfold j_EC_execute_82
  rw [v_hasTrapped (n := n) hQ, bi_s]
  unfold exF
  by_cases c : trP P l
  · rw [@bI_t _ (Classical.propDecidable _) c, if_neg (by decide), @if_pos _ (Classical.propDecidable _) c]
    unfold exF1
    have hch : s_FS_countHit 14 M = match fxR F (sgn (RUN P l)) nf 0 with
        | none => some (0, M)
        | some c => some (1, st M (138 + 2 * c) 6 (M (138 + 2 * c) 6 + 1)) := v_FS_chLoop hP h hQ nf 0 (by omega)
    rw [hch]
    cases hk : fxR F (sgn (RUN P l)) nf 0 with
    | some c' =>
      have hcl := fx_lt nf 0 hk
      refine ⟨st M (138 + 2 * c') 6 (M (138 + 2 * c') 6 + 1), ?_, ?_, ?_, ?_, ?_, ?_⟩
      · show bi (some (1, st M (138 + 2 * c') 6 (M (138 + 2 * c') 6 + 1))) _ = _
        rw [bi_s, if_neg (by decide)]
      · refine ⟨by rw [st_other (by omega)]; exact x1, x2, fun q hq => ?_⟩
        show XFc _ q (htF F c' q)
        have hq : q < nf := hq
        unfold htF
        by_cases e : q = c'
        · subst e
          rw [if_pos rfl]
          obtain ⟨⟨a0, a1, a2, a3, a4⟩, b, d1, d2⟩ := x3 q hq
          refine ⟨⟨a0, ?_, ?_, ?_, ?_⟩, ?_, Inp_fr d1 (st_other (by omega)) (st_other (by omega)), Inp_fr d2 (st_other (by omega)) (st_other (by omega))⟩
          · rw [st_ap, if_pos rfl, if_neg (by decide)]; exact a1
          · rw [st_ap, if_pos rfl, if_neg (by decide)]; exact a2
          · rw [st_ap, if_pos rfl, if_neg (by decide)]; exact a3
          · rw [st_other (by omega)]; exact a4
          · rw [st_ap, if_pos rfl, if_pos rfl, b]
        · rw [if_neg e]
          exact XFc_fr (x3 q hq) (st_other (by omega)) (st_other (by omega)) (st_other (by omega)) (st_other (by omega)) (st_other (by omega)) (st_other (by omega))
      · show st M (138 + 2 * c') 6 (M (138 + 2 * c') 6 + 1) 0 11 = M 0 11 + 0
        rw [st_other (by omega), Int32.add_zero]
      · intro q _; rw [st_other (by omega)]
      · intro a ha
        unfold fiCl at ha
        exact st_other (by omega)
      · exact ROk_fr hR (by rw [st_other (by omega)]) (st_other (by omega)) (st_other (by omega))
    | none =>
      by_cases e : nf = 8
      · subst e
        refine ⟨st M 0 11 (M 0 11 + 1), ?_, ?_, ?_, ?_, ?_, ?_⟩
        · show bi (some (0, M)) _ = _
          rw [bi_s, if_pos rfl]
          have hb : s_FS_begin i 14 M = some (none, M) := by
            unfold s_FS_begin
            rw [x1, if_neg (by decide)]
          rw [hb, bi_s]
          rfl
        · rw [if_pos rfl]
          exact XF_fr h (st_other (by decide)) (fun a _ _ => st_other (by omega)) (fun a _ _ => st_other (by omega))
        · rw [if_pos rfl]
          rw [st_ap, if_pos rfl, if_pos rfl]
        · intro q hq; rw [st_ap, if_pos rfl, if_neg hq]
        · intro a ha
          unfold fiCl at ha
          exact st_other (by omega)
        · exact ROk_fr hR (by rw [st_other (by omega)]) (st_other (by omega)) (st_other (by omega))
      · have h8 : nf < 8 := by omega
        obtain ⟨M2, b1, b2, b3⟩ := v_FI_begin (c := nf) hP h8 (by omega) hl hQ c
        have o2 : ∀ a, ¬ (90 ≤ a ∧ a ≤ 121) → ¬ (138 ≤ a ∧ a ≤ 153) → st M2 9 1 (M2 9 1 + 1) a = if a = 9 then st M2 9 1 (M2 9 1 + 1) 9 else M a := fun a h1 h2 => by
          by_cases q : a = 9
          · subst q; rw [if_pos rfl]
          · rw [if_neg q, st_other q, b3 a (by omega) (by omega) (by omega) (by omega) (by omega) (by omega)]
        have o3 : ∀ a, a ≠ 9 → ¬ (90 ≤ a ∧ a ≤ 121) → ¬ (138 ≤ a ∧ a ≤ 153) → st M2 9 1 (M2 9 1 + 1) a = M a := fun a h0 h1 h2 => by rw [o2 a h1 h2, if_neg h0]
        have m9 : M2 9 = M 9 := b3 9 (by omega) (by omega) (by omega) (by omega) (by omega) (by omega)
        have hSh : ShX (st M2 9 1 (M2 9 1 + 1)) P nf (sgn (RUN P l)) l := by
          obtain ⟨a1, a2, a3, a4⟩ := b2
          refine ⟨?_, FdX_fr a1 (st_other (by omega)) (st_other (by omega)), Inp_fr a4 (st_other (by omega)) (st_other (by omega)), ?_⟩
          · rw [o3 2 (by decide) (by decide) (by decide), o3 3 (by decide) (by decide) (by decide), o3 4 (by decide) (by decide) (by decide), o3 1 (by decide) (by decide) (by decide)]; exact hM
          · exact ROk_fr hR (by rw [o3 20 (by decide) (by decide) (by decide)]) (o3 _ (by decide) (by decide) (by decide)) (o3 _ (by decide) (by decide) (by decide))
        obtain ⟨M3, s1, s2, s3⟩ := v_SH_shorten hP h8 hSh
        refine ⟨M3, ?_, ?_, ?_, ?_, ?_, s2.2.2.2⟩
        · show bi (some (0, M)) _ = _
          rw [bi_s, if_pos rfl]
          have hb : s_FS_begin i 14 M = some (some (138 + 2 * nf), st M2 9 1 (M2 9 1 + 1)) := by
            unfold s_FS_begin
            rw [x1, if_pos (show nI nf < (8 : Int32) from nI_lt (b := 8) h8 (by decide)), ck_i (vp_in_nI h8 (by decide)), nI_clamp (by omega)]
            simp only [nx]
            rw [b1, bv_s]
          rw [hb, bi_s]
          show cp (kd_fi (138 + 2 * nf)) _ = _
          unfold cp
          rw [if_pos (show kd_fi (138 + 2 * nf) from ⟨by omega, by omega, by omega⟩), s1, bv_s]
        · rw [if_neg e]
          refine ⟨?_, by show nf + 1 ≤ 8; omega, fun q hq => ?_⟩
          · rw [s3 9 (by omega) (by omega) (by omega) (by omega) (by omega), st_ap, if_pos rfl, if_pos rfl, m9, x1]
            exact nI_1 nf
          · show XFc M3 q (nwF F nf (sgn (RUN P l), 1, l, shR P (sgn (RUN P l)) 64 2 l) q)
            have hq : q < nf + 1 := hq
            unfold nwF
            by_cases e2 : q = nf
            · subst e2
              rw [if_pos rfl]
              refine ⟨s2.2.1, ?_, ?_, s2.2.2.1⟩
              · rw [s3 _ (by omega) (by omega) (by omega) (by omega) (by omega), st_other (by omega)]; exact b2.2.1
              · exact Inp_fr b2.2.2.1 (by rw [s3 _ (by omega) (by omega) (by omega) (by omega) (by omega), st_other (by omega)]) (by rw [s3 _ (by omega) (by omega) (by omega) (by omega) (by omega), st_other (by omega)])
            · rw [if_neg e2]
              have hfr : ∀ a, a ≠ 9 → ¬ (20 ≤ a ∧ a ≤ 25) → a ≠ 56 → a ≠ 57 → a ≠ 90 + 4 * nf → a ≠ 91 + 4 * nf → a ≠ 92 + 4 * nf → a ≠ 93 + 4 * nf → a ≠ 138 + 2 * nf → a ≠ 139 + 2 * nf → M3 a = M a := fun a h0 h1 h2 h3 h4 h5 h6 h7 h9 h10 => by
                rw [s3 a h1 h2 h3 h6 h7, st_other h0, b3 a h4 h5 h6 h7 h9 h10]
              exact XFc_fr (x3 q (by omega)) (hfr _ (by omega) (by omega) (by omega) (by omega) (by omega) (by omega) (by omega) (by omega) (by omega) (by omega)) (hfr _ (by omega) (by omega) (by omega) (by omega) (by omega) (by omega) (by omega) (by omega) (by omega) (by omega)) (hfr _ (by omega) (by omega) (by omega) (by omega) (by omega) (by omega) (by omega) (by omega) (by omega) (by omega)) (hfr _ (by omega) (by omega) (by omega) (by omega) (by omega) (by omega) (by omega) (by omega) (by omega) (by omega)) (hfr _ (by omega) (by omega) (by omega) (by omega) (by omega) (by omega) (by omega) (by omega) (by omega) (by omega)) (hfr _ (by omega) (by omega) (by omega) (by omega) (by omega) (by omega) (by omega) (by omega) (by omega) (by omega))
        · rw [if_neg e, s3 0 (by omega) (by omega) (by omega) (by omega) (by omega), o3 0 (by decide) (by decide) (by decide)]
          exact (Int32.add_zero _).symm
        · intro q hq
          rw [s3 0 (by omega) (by omega) (by omega) (by omega) (by omega), o3 0 (by decide) (by decide) (by decide)]
        · intro a ha
          unfold fiCl at ha
          rw [s3 a (by omega) (by omega) (by omega) (by omega) (by omega), o3 a (by omega) (by omega) (by omega)]
  · rw [@bI_f _ (Classical.propDecidable _) c, if_pos rfl, @if_neg _ (Classical.propDecidable _) c]
    exact ⟨M, rfl, h, (Int32.add_zero _).symm, fun _ _ => rfl, fun _ _ => rfl, hR⟩
theorem len_exS (P : Pg) (l : List Int32) (es : List (List Int32)) : es.length ≤ (exS P l es).length ∧ (exS P l es).length ≤ es.length + 1 := by
  unfold exS
  split
  · simp
  · omega
theorem v_EC_execute {i : Nat} {M : Mem} {P : Pg} {n : Nat} {A : Ab} {l : List Int32} (hi : i = 52 ∨ i = 54) (hP : wfP P n) (h : XA M P A) (hT : wfT A.1 A.2.2.2.2.1) (hl : Inp M i l) : ∃ M1, s_EC_execute i M = some ((RUN P l).2.2.2.2.2, M1) ∧ XA M1 P (exA P l A) ∧ ∀ a, 26 ≤ a → a ≤ 55 → M1 a = M a := by
  obtain ⟨es, fs, ⟨nf, F⟩, ⟨ex, hg, lo⟩, t, x⟩ := A
  obtain ⟨p0, p1, p2, p3, ⟨p4, p5, p6⟩, p7, p8, p9, p10⟩ := h
  dsimp only at p1 p2 p3 p4 p5 p6 p7 p8 hT
  obtain ⟨M1, r1, r2, r3, r4⟩ := v_RU_RUN (j := 14) (i := i) (by decide) (by omega) p0 hP hl p9
  have ho : M1 14 10 = (RUN P l).2.2.2.2.2 := r4.2.2.2.2.2.2.2.2.symm
  -- counters
  obtain ⟨M2, c1, c2, c3⟩ : ∃ M2, s_EC_execute i M = j_EC_execute_43 i M2 ∧ (∀ a, a ≠ 0 → M2 a = M1 a) ∧ (M2 0 9 = ex + 1 ∧ M2 0 10 = (if (RUN P l).2.2.2.2.2 = 5 then hg + 1 else hg) ∧ M2 0 11 = lo) := by
    unfold s_EC_execute
    rw [r1, bv_s]
    simp only [nx]
    have m0 : M1 0 = M 0 := r2 0 (by omega)
    rw [st_other (show (14 : Nat) ≠ 0 by decide), ho]
    by_cases c : (RUN P l).2.2.2.2.2 = 5
    · rw [if_pos c, if_pos c]
      refine ⟨_, rfl, fun a ha => by rw [st_other ha, st_other ha], ?_, ?_, ?_⟩
      · rw [st_ap, if_pos rfl, if_neg (by decide), st_ap, if_pos rfl, if_pos rfl, m0, p4]
      · rw [st_ap, if_pos rfl, if_pos rfl, st_ap, if_pos rfl, if_neg (by decide), m0, p5]
      · rw [st_ap, if_pos rfl, if_neg (by decide), st_ap, if_pos rfl, if_neg (by decide), m0, p6]
    · rw [if_neg c, if_neg c]
      refine ⟨_, rfl, fun a ha => by rw [st_other ha], ?_, ?_, ?_⟩
      · rw [st_ap, if_pos rfl, if_pos rfl, m0, p4]
      · rw [st_ap, if_pos rfl, if_neg (by decide), m0, p5]
      · rw [st_ap, if_pos rfl, if_neg (by decide), m0, p6]
  have o2 : ∀ a, a ≠ 0 → ¬ (14 ≤ a ∧ a ≤ 19) → M2 a = M a := fun a h1 h2 => by rw [c2 a h1, r2 a (by omega)]
  have x2 : XS M2 P es := XS_fr p1 (o2 _ (by omega) (by omega)) (o2 _ (by omega) (by omega)) (o2 _ (by omega) (by omega)) (fun a _ _ => o2 a (by omega) (by omega)) (fun e _ => o2 _ (by omega) (by omega))
  have l2 : Inp M2 i l := Inp_fr hl (o2 _ (by omega) (by omega)) (o2 _ (by omega) (by omega))
  have q2 : Req (RUN P l) (prC 14 M2) := by
    have : prC 14 M2 = prC 14 M1 := by
      unfold prC
      rw [c2 (14 + 1) (by decide), c2 (14 + 2) (by decide), c2 (14 + 3) (by decide), c2 (14 + 4) (by decide), c2 14 (by decide)]
    rw [this]; exact r4
  have ro2 : ROk 14 M2 := ROk_fr r3 (by rw [c2 14 (by decide)]) (c2 _ (by decide)) (c2 _ (by decide))
  obtain ⟨M3, d1, d2, d3, d4, d5, d6⟩ := v_EC_43 (by omega) hP x2 l2 ro2 q2
  have o3 : ∀ a, ¬ stCl a → M3 a = M2 a := d5
  have n14 : ∀ a, 9 ≤ a → a ≤ 57 → ¬ stCl a := fun a h1 h2 h3 => by unfold stCl at h3; omega
  have f3 : XF M3 nf F := XF_fr p3 (by rw [o3 9 (n14 9 (by omega) (by omega)), o2 9 (by omega) (by omega)]) (fun a h1 h2 => by rw [o3 a (by unfold stCl; omega), o2 a (by omega) (by omega)]) (fun a h1 h2 => by rw [o3 a (by unfold stCl; omega), o2 a (by omega) (by omega)])
  have l3 : Inp M3 i l := Inp_fr l2 (o3 _ (n14 _ (by omega) (by omega))) (o3 _ (n14 _ (by omega) (by omega)))
  have q3 : Req (RUN P l) (prC 14 M3) := by
    have : prC 14 M3 = prC 14 M2 := by
      unfold prC
      rw [o3 (14 + 1) (n14 _ (by omega) (by omega)), o3 (14 + 2) (n14 _ (by omega) (by omega)), o3 (14 + 3) (n14 _ (by omega) (by omega)), o3 (14 + 4) (n14 _ (by omega) (by omega)), o3 14 (n14 _ (by omega) (by omega))]
    rw [this]; exact q2
  have ro20 : ROk 20 M3 := ROk_fr p10 (by rw [o3 20 (n14 _ (by omega) (by omega)), o2 20 (by omega) (by omega)]) (by rw [o3 _ (n14 _ (by omega) (by omega)), o2 _ (by omega) (by omega)]) (by rw [o3 _ (n14 _ (by omega) (by omega)), o2 _ (by omega) (by omega)])
  have pr3 : ∀ a, 1 ≤ a → a ≤ 4 → M3 a = M a := fun a h1 h2 => by rw [o3 a (by unfold stCl; omega), o2 a (by omega) (by omega)]
  obtain ⟨M4, e1, e2, e3, e4, e5, e6⟩ := v_EC_82 (by omega) hP (by rw [pr3 2 (by omega) (by omega), pr3 3 (by omega) (by omega), pr3 4 (by omega) (by omega), pr3 1 (by omega) (by omega)]; exact p0) f3 l3 ro20 q3
  have nf4 : ∀ a, ¬ fiCl a → M4 a = M3 a := e5
  have x4 : XS M4 P (exS P l es) := XS_fr d2 (nf4 _ (by unfold fiCl; omega)) (nf4 _ (by unfold fiCl; omega)) (nf4 _ (by unfold fiCl; omega)) (fun a _ _ => nf4 a (by unfold fiCl; omega)) (fun e _ => nf4 _ (by unfold fiCl; omega))
  have g4 : ∀ e, e < 16 → M4 (122 + e) 3 = fs e := fun e he => by rw [nf4 _ (by unfold fiCl; omega), d6 e he, o2 _ (by omega) (by omega), p2 e he]
  have m13 : M4 13 = M 13 := by rw [nf4 13 (by unfold fiCl; omega), o3 13 (n14 _ (by omega) (by omega)), o2 13 (by omega) (by omega)]
  have m0 : M4 0 9 = ex + 1 ∧ M4 0 10 = (if (RUN P l).2.2.2.2.2 = 5 then hg + 1 else hg) ∧ M4 0 11 = lo + exL P l es + (exF P l nf F).2 := by
    refine ⟨by rw [e4 9 (by decide), d4 9 (by decide), c3.1], by rw [e4 10 (by decide), d4 10 (by decide), c3.2.1], by rw [e3, d3, c3.2.2]⟩
  have ro14 : ROk 14 M4 := ROk_fr ro2 (by rw [nf4 14 (by unfold fiCl; omega), o3 14 (n14 _ (by omega) (by omega))]) (by rw [nf4 _ (by unfold fiCl; omega), o3 _ (n14 _ (by omega) (by omega))]) (by rw [nf4 _ (by unfold fiCl; omega), o3 _ (n14 _ (by omega) (by omega))])
  have m14 : M4 14 10 = (RUN P l).2.2.2.2.2 := by rw [nf4 14 (by unfold fiCl; omega), o3 14 (n14 _ (by omega) (by omega)), c2 14 (by decide), ho]
  have m12 : M4 12 0 = x := by rw [nf4 12 (by unfold fiCl; omega), o3 12 (n14 _ (by omega) (by omega)), o2 12 (by omega) (by omega), p8]
  have hlen := len_exS P l es
  -- the first entry is taken up
  obtain ⟨M5, b1, b2, b3⟩ : ∃ M5, s_TR_beginWithFirst M4 = some M5 ∧ XT M5 (exS P l es) (exT P es (exS P l es) fs t) ∧ ∀ a, a ≠ 13 → M5 a = M4 a := by
    unfold s_TR_beginWithFirst exT
    by_cases c : es.length = 0
    · rw [m13, if_pos (p7.1 c), v_ST_has, bi_s, x4.1.1]
      by_cases c2 : 0 < (exS P l es).length
      · have h16 := x4.1.2.1
        rw [bI_t ⟨by decide, show (0 : Int32) < nI (exS P l es).length from nI_lt (a := 0) c2 (by omega)⟩, if_neg (by decide), if_pos ⟨c, c2⟩]
        obtain ⟨M5, t1, t2, t3⟩ := v_TR_takeUp (e := 0) x4 g4 c2
        refine ⟨M5, ?_, ⟨fun q => by omega, fun _ => t2⟩, t3⟩
        rw [show (0 : Int32) = nI 0 from rfl, t1]
        rfl
      · rw [bI_f (fun q => by
          have : ¬ (0 : Int32) < nI (exS P l es).length := by rw [show (exS P l es).length = 0 by omega]; decide
          exact this q.2), if_pos rfl, if_neg (fun q => c2 q.2)]
        exact ⟨M4, rfl, ⟨fun _ => by rw [m13]; exact p7.1 c, fun q => by omega⟩, fun _ _ => rfl⟩
    · have ht := p7.2 (by omega)
      have h16 := p1.1.2.1
      have hw := hT (by omega)
      have hne : ¬ M4 13 0 = (-1 : Int32) := by
        rw [m13, ht.1]
        intro q
        exact nI_pos (n := t.1) (by omega) (by rw [q]; decide)
      rw [if_neg hne, if_neg (fun q => c q.1)]
      exact ⟨M4, rfl, ⟨fun q => by omega, fun _ => by rw [m13]; exact ht⟩, fun _ _ => rfl⟩
  have fr : ∀ a, 26 ≤ a → a ≤ 55 → M5 a = M a := fun a h1 h2 => by rw [b3 a (by omega), nf4 a (by unfold fiCl; omega), o3 a (n14 _ (by omega) (by omega)), o2 a (by omega) (by omega)]
  refine ⟨M5, ?_, ⟨?_, ?_, ?_, ?_, ⟨?_, ?_, ?_⟩, b2, ?_, ?_, ?_⟩, fr⟩
  · rw [c1, d1, e1]
    unfold j_EC_execute_148
    rw [b1, bv_s, b3 14 (by decide), m14]
  · have pr5 : ∀ a, 1 ≤ a → a ≤ 4 → M5 a = M a := fun a h1 h2 => by rw [b3 a (by omega), nf4 a (by unfold fiCl; omega), pr3 a h1 h2]
    rw [pr5 2 (by omega) (by omega), pr5 3 (by omega) (by omega), pr5 4 (by omega) (by omega), pr5 1 (by omega) (by omega)]; exact p0
  · exact XS_fr x4 (b3 _ (by omega)) (b3 _ (by omega)) (b3 _ (by omega)) (fun a _ _ => b3 a (by omega)) (fun e _ => b3 _ (by omega))
  · intro e he; rw [b3 _ (by omega)]; exact g4 e he
  · exact XF_fr e2 (b3 _ (by omega)) (fun a _ _ => b3 a (by omega)) (fun a _ _ => b3 a (by omega))
  · rw [b3 0 (by decide)]; exact m0.1
  · rw [b3 0 (by decide)]; exact m0.2.1
  · rw [b3 0 (by decide)]; exact m0.2.2
  · rw [b3 12 (by decide)]; exact m12
  · exact ROk_fr ro14 (by rw [b3 14 (by decide)]) (b3 _ (by decide)) (b3 _ (by decide))
  · exact ROk_fr e6 (by rw [b3 20 (by decide)]) (b3 _ (by decide)) (b3 _ (by decide))
