/-! Pure: the reference's trapped. -/
def MFc (M : Mem) (c : Nat) (d : Fnd) : Prop := FdM M c d.1 ∧ M 43 c = d.2.1 ∧ (M 45 c = nI d.2.2.1.length ∧ d.2.2.1.length ≤ 6 ∧ Row (M 44) (6 * c) d.2.2.1) ∧ BrM M c d.2.2.2
def MF (M : Mem) (nf : Nat) (F : Nat → Fnd) : Prop := M 26 22 = nI nf ∧ nf ≤ 8 ∧ ∀ c, c < nf → MFc M c (F c)
/-- frame of trapped: the cells of the run, the findings, lost (26 34), findings (26 22) -/
def TF (M M1 : Mem) : Prop := (∀ a, a ≠ 26 → ¬ (31 ≤ a ∧ a ≤ 35) → ¬ (39 ≤ a ∧ a ≤ 47) → M1 a = M a) ∧ (∀ k, k ≠ 8 → ¬ (12 ≤ k ∧ k ≤ 16) → k ≠ 22 → k ≠ 34 → M1 26 k = M 26 k)
theorem MFc_fr {M M1 : Mem} {c : Nat} {d : Fnd} (h : MFc M c d) (h39 : M1 39 c = M 39 c) (h40 : M1 40 c = M 40 c) (h41 : M1 41 c = M 41 c) (h42 : ∀ k, k < 3 → M1 42 (3 * c + k) = M 42 (3 * c + k)) (h43 : M1 43 c = M 43 c) (h45 : M1 45 c = M 45 c) (h44 : ∀ k, k < 6 → M1 44 (6 * c + k) = M 44 (6 * c + k)) (h47 : M1 47 c = M 47 c) (h46 : ∀ k, k < 6 → M1 46 (6 * c + k) = M 46 (6 * c + k)) : MFc M1 c d := by
  obtain ⟨⟨a0, a1, a2, a3, a4⟩, b, ⟨c1, c2, c3⟩, d1, d2, d3⟩ := h
  exact ⟨⟨a0, h39.trans a1, h40.trans a2, h41.trans a3, fun k hk => (h42 k hk).trans (a4 k hk)⟩, h43.trans b, ⟨h45.trans c1, c2, fun k hk => (h44 k (by omega)).trans (c3 k hk)⟩, h47.trans d1, d2, fun k hk => (h46 k (by omega)).trans (d3 k hk)⟩
/-- the reference's new finding -/
theorem v_MO_trNew {M : Mem} {P : Pg} {n nf : Nat} {F : Nat → Fnd} {l : List Int32} (hP : wfP P n) (hMP : MP M P) (hX : MF M nf F) (h8 : nf < 8) (hc1 : M 26 44 = nI l.length) (hc2 : l.length ≤ 6) (hc3 : Row (M 51) 0 l) (hR : Req (RUN P l) (prM M)) (ho : 1 ≤ (RUN P l).2.2.2.2.2 ∧ (RUN P l).2.2.2.2.2 ≤ 4) : ∃ M1, j_MO_trapped_35 M = some M1 ∧ MF M1 (nf + 1) (nwF F nf (sgn (RUN P l), 1, l, shR P (sgn (RUN P l)) 64 2 l)) ∧ TF M M1 ∧ M1 26 34 = M 26 34 := by
  obtain ⟨x1, x2, x3⟩ := hX
  have hE := RUN_wf l hP
  have hg := sgOk_run hE ho
  have hsg : sgn (prM M) = sgn (RUN P l) := (sg_iff hE hR hg).mpr rfl
  obtain ⟨-, ⟨k, -, ⟨⟨d, d1, d2, -⟩, -⟩, -⟩, -⟩ := id hE
  have hd : M 26 12 = nI d := by
    have := hR.2.2.2.2.1
    rw [d2] at this
    exact this.symm
  -- the sign's cells
  generalize hA : st (st (st M 39 nf (M 26 16)) 40 nf (M 26 14)) 41 nf (M 26 12) = A
  have oA : ∀ a, a ≠ 39 → a ≠ 40 → a ≠ 41 → A a = M a := fun a h1 h2 h3 => by rw [← hA, st_other h3, st_other h2, st_other h1]
  have a39 : A 39 = upd (M 39) nf (M 26 16) := by rw [← hA, st_other (by decide), st_other (by decide), st_same]
  have a40 : A 40 = upd (M 40) nf (M 26 14) := by rw [← hA, st_other (by decide), st_same, st_other (by decide)]
  have a41 : A 41 = upd (M 41) nf (M 26 12) := by rw [← hA, st_same, st_other (by decide), st_other (by decide)]
  -- the loop over the stack
  have hb : ∀ k, k < 3 → (fun q : Int32 × Mem => l_MO_trapped_92 (nI nf) q.1 q.2) (nI k, pt A 42 (cpR (fun x => if x < d then M 34 x else 0) (M 42) 0 (3 * nf) k)) = some (.inl (nI (k + 1), pt A 42 (cpR (fun x => if x < d then M 34 x else 0) (M 42) 0 (3 * nf) (k + 1)))) := fun k hk => by
    show l_MO_trapped_92 (nI nf) (nI k) (pt A 42 (cpR (fun x => if x < d then M 34 x else 0) (M 42) 0 (3 * nf) k)) = _
    have e1 : (3 : Int32) * nI nf + nI k = nI (3 * nf + k) := by rw [show (3 : Int32) = nI 3 from rfl, pk_mul, nI_add]
    unfold l_MO_trapped_92 j_MO_trapped_124
    have := cp_s (fun x => if x < d then M 34 x else 0) (M 42) 0 (3 * nf) k
    rw [Nat.zero_add] at this
    rw [if_neg (show ¬ (3 : Int32) ≤ nI k from nI_ge (b := 3) hk (by decide)), e1, ck_i (vp_in_nI (by omega) (by decide)), ck_i (vp_in_nI hk (by decide)), ck_i (vp_in_nI (by omega) (by decide)), nI_clamp (by omega), nI_clamp (by omega), pt_o (by decide), pt_o (by decide), oA 26 (by decide) (by decide) (by decide), oA 34 (by decide) (by decide) (by decide), hd]
    simp only [nx]
    rw [pt_st, pt_st, ← nI_succ, ← this]
    by_cases c : d ≤ k
    · rw [if_pos (nI_le c (by omega)), if_neg (by omega)]
    · rw [if_neg (nI_ge (by omega) (by omega)), if_pos (by omega)]
  have h0 := lp_cnt0 (b := fun q : Int32 × Mem => l_MO_trapped_92 (nI nf) q.1 q.2) (fun k => (nI k, pt A 42 (cpR (fun x => if x < d then M 34 x else 0) (M 42) 0 (3 * nf) k))) 3 hb
  rw [cp_0, show pt A 42 (M 42) = A by
    have := pt_id A 42
    rw [oA 42 (by decide) (by decide) (by decide)] at this
    exact this] at h0
  generalize hB : pt A 42 (cpR (fun x => if x < d then M 34 x else 0) (M 42) 0 (3 * nf) 3) = B at h0
  have oB : ∀ a, a ≠ 39 → a ≠ 40 → a ≠ 41 → a ≠ 42 → B a = M a := fun a h1 h2 h3 h4 => by rw [← hB, pt_o h4, oA a h1 h2 h3]
  have b42 : B 42 = cpR (fun x => if x < d then M 34 x else 0) (M 42) 0 (3 * nf) 3 := by rw [← hB, pt_same]
  -- hits, lengths, the two copies
  generalize hC : st (st B 43 nf 1) 45 nf (nI l.length) = C
  have oC : ∀ a, a ≠ 43 → a ≠ 45 → C a = B a := fun a h1 h2 => by rw [← hC, st_other h2, st_other h1]
  have hb2 : ∀ k, k < l.length → (fun q : Int32 × Mem => l_MO_trapped_150 (nI nf) q.1 q.2) (nI k, pt (pt C 44 (cpR (M 51) (M 44) 0 (6 * nf) k)) 46 (cpR (M 51) (M 46) 0 (6 * nf) k)) = some (.inl (nI (k + 1), pt (pt C 44 (cpR (M 51) (M 44) 0 (6 * nf) (k + 1))) 46 (cpR (M 51) (M 46) 0 (6 * nf) (k + 1)))) := fun k hk => by
    show l_MO_trapped_150 (nI nf) (nI k) (pt (pt C 44 (cpR (M 51) (M 44) 0 (6 * nf) k)) 46 (cpR (M 51) (M 46) 0 (6 * nf) k)) = _
    have e1 : (6 : Int32) * nI nf + nI k = nI (6 * nf + k) := by rw [show (6 : Int32) = nI 6 from rfl, pk_mul, nI_add]
    have t1 := cp_s (M 51) (M 44) 0 (6 * nf) k
    have t2 := cp_s (M 51) (M 46) 0 (6 * nf) k
    rw [Nat.zero_add] at t1 t2
    have z26 : ∀ f h, pt (pt C 44 f) 46 h 26 44 = nI l.length := fun f h => by rw [pt_o (by decide), pt_o (by decide), oC 26 (by decide) (by decide), oB 26 (by decide) (by decide) (by decide) (by decide)]; exact hc1
    have z51 : ∀ f h, pt (pt C 44 f) 46 h 51 = M 51 := fun f h => by rw [pt_o (by decide), pt_o (by decide), oC 51 (by decide) (by decide), oB 51 (by decide) (by decide) (by decide) (by decide)]
    have w44 : ∀ f h v, st (pt (pt C 44 f) 46 h) 44 (6 * nf + k) v = pt (pt C 44 (upd f (6 * nf + k) v)) 46 h := fun f h v => by
      funext a
      by_cases c1 : a = 44
      · subst c1; rw [st_same, pt_o (by decide), pt_same, pt_o (by decide), pt_same]
      · rw [st_other c1]
        by_cases c2 : a = 46
        · subst c2; rw [pt_same, pt_same]
        · rw [pt_o c2, pt_o c1, pt_o c2, pt_o c1]
    unfold l_MO_trapped_150
    rw [z26, if_neg (nI_ge hk (by omega)), e1, ck_i (vp_in_nI (by omega) (by decide)), ck_i (vp_in_nI (by omega) (by decide)), nI_clamp (by omega), nI_clamp (by omega), z51]
    simp only [nx]
    rw [ck_i (vp_in_nI (by omega) (by decide)), ck_i (vp_in_nI (by omega) (by decide)), w44, z51, t1, pt_st, t2, ← nI_succ]
  have h02 := lp_cnt0 (b := fun q : Int32 × Mem => l_MO_trapped_150 (nI nf) q.1 q.2) (fun k => (nI k, pt (pt C 44 (cpR (M 51) (M 44) 0 (6 * nf) k)) 46 (cpR (M 51) (M 46) 0 (6 * nf) k))) l.length hb2
  rw [cp_0, cp_0, show pt (pt C 44 (M 44)) 46 (M 46) = C by
    have e44 : C 44 = M 44 := by rw [oC 44 (by decide) (by decide), oB 44 (by decide) (by decide) (by decide) (by decide)]
    have e46 : C 46 = M 46 := by rw [oC 46 (by decide) (by decide), oB 46 (by decide) (by decide) (by decide) (by decide)]
    rw [← e44, pt_id, ← e46, pt_id]] at h02
  generalize hD : pt (pt C 44 (cpR (M 51) (M 44) 0 (6 * nf) l.length)) 46 (cpR (M 51) (M 46) 0 (6 * nf) l.length) = D at h02
  generalize hG : st D 47 nf (nI l.length) = G
  have oD : ∀ a, a ≠ 44 → a ≠ 46 → D a = C a := fun a h1 h2 => by rw [← hD, pt_o h2, pt_o h1]
  have oG : ∀ a, a ≠ 47 → G a = D a := fun a h => by rw [← hG, st_other h]
  have oM : ∀ a, ¬ (39 ≤ a ∧ a ≤ 47) → G a = M a := fun a h => by rw [oG a (by omega), oD a (by omega) (by omega), oC a (by omega) (by omega), oB a (by omega) (by omega) (by omega) (by omega)]
  have g39 : G 39 = upd (M 39) nf (M 26 16) := by rw [oG 39 (by decide), oD 39 (by decide) (by decide), oC 39 (by decide) (by decide), ← hB, pt_o (by decide), a39]
  have g40 : G 40 = upd (M 40) nf (M 26 14) := by rw [oG 40 (by decide), oD 40 (by decide) (by decide), oC 40 (by decide) (by decide), ← hB, pt_o (by decide), a40]
  have g41 : G 41 = upd (M 41) nf (M 26 12) := by rw [oG 41 (by decide), oD 41 (by decide) (by decide), oC 41 (by decide) (by decide), ← hB, pt_o (by decide), a41]
  have g42 : G 42 = cpR (fun x => if x < d then M 34 x else 0) (M 42) 0 (3 * nf) 3 := by rw [oG 42 (by decide), oD 42 (by decide) (by decide), oC 42 (by decide) (by decide), b42]
  have g43 : G 43 = upd (M 43) nf 1 := by rw [oG 43 (by decide), oD 43 (by decide) (by decide), ← hC, st_other (by decide), st_same, oB 43 (by decide) (by decide) (by decide) (by decide)]
  have g45 : G 45 = upd (M 45) nf (nI l.length) := by rw [oG 45 (by decide), oD 45 (by decide) (by decide), ← hC, st_same, st_other (by decide), oB 45 (by decide) (by decide) (by decide) (by decide)]
  have g44 : G 44 = cpR (M 51) (M 44) 0 (6 * nf) l.length := by rw [oG 44 (by decide), ← hD, pt_o (by decide), pt_same]
  have g46 : G 46 = cpR (M 51) (M 46) 0 (6 * nf) l.length := by rw [oG 46 (by decide), ← hD, pt_same]
  have g47 : G 47 = upd (M 47) nf (nI l.length) := by rw [← hG, st_same, oD 47 (by decide) (by decide), oC 47 (by decide) (by decide), oB 47 (by decide) (by decide) (by decide) (by decide)]
  have hSh : ShM G P nf (sgn (RUN P l)) l := by
    refine ⟨?_, ⟨hg, ?_, ?_, ?_, fun k hk => ?_⟩, ?_, hc2, ?_⟩
    · unfold MP
      rw [oM 27 (by decide), oM 28 (by decide), oM 29 (by decide), oM 26 (by decide)]
      exact hMP
    · rw [g39, pk_us, ← hsg]; rfl
    · rw [g40, pk_us, ← hsg]; rfl
    · rw [g41, pk_us, ← hsg]; rfl
    · rw [g42]
      unfold cpR
      rw [if_pos (by omega), show 0 + (3 * nf + k - 3 * nf) = k by omega, ← hsg, skS_sgn _ hk, skR_lt (d := d) hd d1 hk]
      rfl
    · rw [g47, pk_us]
    · rw [g46]; exact Row_cp hc3
  obtain ⟨M5, s1, s2, s3⟩ := v_MO_shorten hP h8 hSh
  have z22 : M5 26 22 = nI nf := by rw [s3.2.1 22 (by decide) (by decide), oM 26 (by decide)]; exact x1
  refine ⟨st M5 26 22 (nI nf + 1), ?_, ⟨?_, by omega, fun c hc => ?_⟩, ⟨fun a h1 h2 h3 => ?_, fun k h1 h2 h3 h4 => ?_⟩, ?_⟩
  · unfold j_MO_trapped_35
    rw [x1, if_neg (show ¬ nI nf = (8 : Int32) from fun q => absurd ((nI_eq (a := nf) (b := 8) (by omega) (by decide)).mp q) (by omega))]
    simp only [nx]
    rw [ck_i (vp_in_nI h8 (by decide)), ck_i (vp_in_nI h8 (by decide)), ck_i (vp_in_nI h8 (by decide)), nI_clamp (by omega), st_other (show (26 : Nat) ≠ 39 by decide), st_other (show (26 : Nat) ≠ 40 by decide), st_other (show (26 : Nat) ≠ 39 by decide), hA]
    refine h0.trans (lp_last ?_)
    show l_MO_trapped_92 (nI nf) (nI 3) B = _
    unfold l_MO_trapped_92
    rw [if_pos (by decide)]
    refine congrArg jw1 ?_
    unfold j_MO_trapped_131
    simp only [nx]
    rw [ck_i (vp_in_nI h8 (by decide)), ck_i (vp_in_nI h8 (by decide)), nI_clamp (by omega), st_other (show (26 : Nat) ≠ 43 by decide), oB 26 (by decide) (by decide) (by decide) (by decide), hc1, hC]
    refine h02.trans (lp_last ?_)
    show l_MO_trapped_150 (nI nf) (nI l.length) D = _
    unfold l_MO_trapped_150
    have d44 : D 26 44 = nI l.length := by rw [oD 26 (by decide) (by decide), oC 26 (by decide) (by decide), oB 26 (by decide) (by decide) (by decide) (by decide)]; exact hc1
    rw [d44, if_pos (nI_le (Nat.le_refl _) (by omega))]
    refine congrArg jw1 ?_
    unfold j_MO_trapped_198
    rw [ck_i (vp_in_nI h8 (by decide)), nI_clamp (by omega), d44]
    simp only [nx]
    rw [hG, s1, bv_s, z22]
  · rw [st_ap, if_pos rfl, if_pos rfl, nI_1]
  · unfold nwF
    have oT : ∀ a, a ≠ 26 → ¬ (31 ≤ a ∧ a ≤ 35) → a ≠ 46 → a ≠ 47 → st M5 26 22 (nI nf + 1) a = G a := fun a h1 h2 h3 h4 => by rw [st_other h1, s3.1 a h1 h2 h3 h4]
    by_cases e : c = nf
    · subst e
      rw [if_pos rfl]
      refine ⟨?_, ?_, ⟨?_, hc2, ?_⟩, ?_⟩
      · have := s2.2.1
        unfold FdM at this ⊢
        rw [st_other (by decide), st_other (by decide), st_other (by decide), st_other (by decide)]
        exact this
      · rw [oT 43 (by decide) (by decide) (by decide) (by decide), g43, pk_us]
      · rw [oT 45 (by decide) (by decide) (by decide) (by decide), g45, pk_us]
      · rw [oT 44 (by decide) (by decide) (by decide) (by decide), g44]; exact Row_cp hc3
      · have := s2.2.2
        unfold BrM at this ⊢
        rw [st_other (by decide), st_other (by decide)]
        exact this
    · rw [if_neg e]
      refine MFc_fr (x3 c (by omega)) ?_ ?_ ?_ (fun k hk => ?_) ?_ ?_ (fun k hk => ?_) ?_ (fun k hk => ?_)
      · rw [oT 39 (by decide) (by decide) (by decide) (by decide), g39, pk_un e]
      · rw [oT 40 (by decide) (by decide) (by decide) (by decide), g40, pk_un e]
      · rw [oT 41 (by decide) (by decide) (by decide) (by decide), g41, pk_un e]
      · rw [oT 42 (by decide) (by decide) (by decide) (by decide), g42, cp_o (by omega)]
      · rw [oT 43 (by decide) (by decide) (by decide) (by decide), g43, pk_un e]
      · rw [oT 45 (by decide) (by decide) (by decide) (by decide), g45, pk_un e]
      · rw [oT 44 (by decide) (by decide) (by decide) (by decide), g44, cp_o (by omega)]
      · rw [st_other (by decide), s3.2.2.2 c e, g47, pk_un e]
      · rw [st_other (by decide), s3.2.2.1 _ (by omega), g46, cp_o (by omega)]
  · rw [st_other h1, s3.1 a h1 h2 (by omega) (by omega), oM a h3]
  · rw [st_ap, if_pos rfl, if_neg h3, s3.2.1 k h1 h2, oM 26 (by decide)]
  · rw [st_ap, if_pos rfl, if_neg (by decide), s3.2.1 34 (by decide) (by decide), oM 26 (by decide)]
theorem v_MO_trapped {M : Mem} {P : Pg} {n nf : Nat} {F : Nat → Fnd} {l : List Int32} (hP : wfP P n) (hMP : MP M P) (hX : MF M nf F) (hc1 : M 26 44 = nI l.length) (hc2 : l.length ≤ 6) (hc3 : Row (M 51) 0 l) (hR : Req (RUN P l) (prM M)) (ho : 1 ≤ (RUN P l).2.2.2.2.2 ∧ (RUN P l).2.2.2.2.2 ≤ 4) :
    ∃ M1, s_MO_trapped M = some M1 ∧ TF M M1 ∧ (match fxR F (sgn (RUN P l)) nf 0 with
      | some c => MF M1 nf (htF F c) ∧ M1 26 34 = M 26 34
      | none => if nf = 8 then MF M1 nf F ∧ M1 26 34 = M 26 34 + 1 else MF M1 (nf + 1) (nwF F nf (sgn (RUN P l), 1, l, shR P (sgn (RUN P l)) 64 2 l)) ∧ M1 26 34 = M 26 34) := by
  obtain ⟨x1, x2, x3⟩ := id hX
  have hE := RUN_wf l hP
  have hloop : ∀ d i, i + d = nf → lp (fun q : Int32 × Mem => l_MO_trapped_2 q.1 q.2) (nI i, M) = match fxR F (sgn (RUN P l)) d i with
      | none => j_MO_trapped_35 M
      | some c => some (st M 43 c (M 43 c + 1)) := by
    intro d
    induction d with
    | zero =>
      intro i hi
      refine lp_last ?_
      show l_MO_trapped_2 (nI i) M = _
      unfold l_MO_trapped_2
      rw [x1, if_pos (nI_le (by omega) (by omega))]
      rfl
    | succ d ih =>
      intro i hi
      have hc := (x3 i (by omega)).1
      have hst : l_MO_trapped_2 (nI i) M = if bI (sgn (RUN P l) = (F i).1) = 0 then some (.inl (nI (i + 1), M)) else some (.inr (st M 43 i (M 43 i + 1))) := by
        unfold l_MO_trapped_2
        rw [x1, if_neg (nI_ge (by omega) (by omega)), v_MO_signed (by omega) hc.1 hc.2.1 hc.2.2.1 hc.2.2.2.1 hc.2.2.2.2, bi_s, nI_succ, bI_c (sg_iff hE hR hc.1)]
        unfold j_MO_trapped_18
        rw [ck_i (vp_in_nI (by omega) (by decide)), ck_i (vp_in_nI (by omega) (by decide)), nI_clamp (by omega)]
        rfl
      show _ = match (if (F i).1 = sgn (RUN P l) then some i else fxR F (sgn (RUN P l)) d (i + 1)) with
        | none => _
        | some c => _
      by_cases q : (F i).1 = sgn (RUN P l)
      · rw [bI_t q.symm, if_neg (by decide)] at hst
        rw [if_pos q]
        exact lp_inr hst
      · rw [bI_f (fun w => q w.symm), if_pos rfl] at hst
        rw [if_neg q]
        exact (lp_inl (b := fun q : Int32 × Mem => l_MO_trapped_2 q.1 q.2) hst).trans (ih (i + 1) (by omega))
  have h0 := hloop nf 0 (by omega)
  have hs : s_MO_trapped M = lp (fun q : Int32 × Mem => l_MO_trapped_2 q.1 q.2) (nI 0, M) := rfl
  rw [hs, h0]
  cases hk : fxR F (sgn (RUN P l)) nf 0 with
  | some c =>
    have hcl := fx_lt nf 0 hk
    refine ⟨_, rfl, ⟨fun a a1 a2 a3 => st_other (by omega), fun k _ _ _ _ => by rw [st_other (by decide)]⟩, ⟨by rw [st_other (by decide)]; exact x1, x2, fun q hq => ?_⟩, by rw [st_other (by decide)]⟩
    have hq0 := x3 q hq
    unfold htF
    by_cases e : q = c
    · subst e
      rw [if_pos rfl]
      obtain ⟨a1, a2, a3, a4⟩ := hq0
      refine ⟨?_, by rw [st_same, pk_us, a2], ?_, ?_⟩
      · unfold FdM at a1 ⊢
        rw [st_other (by decide), st_other (by decide), st_other (by decide), st_other (by decide)]
        exact a1
      · rw [st_other (by decide), st_other (by decide)]; exact a3
      · unfold BrM at a4 ⊢
        rw [st_other (by decide), st_other (by decide)]
        exact a4
    · rw [if_neg e]
      exact MFc_fr hq0 (by rw [st_other (by decide)]) (by rw [st_other (by decide)]) (by rw [st_other (by decide)]) (fun k _ => by rw [st_other (by decide)]) (by rw [st_same, pk_un e]) (by rw [st_other (by decide)]) (fun k _ => by rw [st_other (by decide)]) (by rw [st_other (by decide)]) (fun k _ => by rw [st_other (by decide)])
  | none =>
    by_cases e : nf = 8
    · subst e
      refine ⟨st M 26 34 (M 26 34 + 1), ?_, ⟨fun a a1 a2 a3 => st_other a1, fun k _ _ _ k4 => by rw [st_ap, if_pos rfl, if_neg k4]⟩, ?_⟩
      · show j_MO_trapped_35 M = _
        unfold j_MO_trapped_35
        rw [x1, if_pos (show nI 8 = (8 : Int32) from rfl)]
        rfl
      · show if 8 = 8 then _ else _
        rw [if_pos rfl]
        refine ⟨⟨by rw [st_ap, if_pos rfl, if_neg (by decide)]; exact x1, x2, fun q hq => ?_⟩, by rw [st_ap, if_pos rfl, if_pos rfl]⟩
        exact MFc_fr (x3 q hq) (by rw [st_other (by decide)]) (by rw [st_other (by decide)]) (by rw [st_other (by decide)]) (fun k _ => by rw [st_other (by decide)]) (by rw [st_other (by decide)]) (by rw [st_other (by decide)]) (fun k _ => by rw [st_other (by decide)]) (by rw [st_other (by decide)]) (fun k _ => by rw [st_other (by decide)])
    · obtain ⟨M1, t1, t2, t3, t4⟩ := v_MO_trNew hP hMP hX (by omega) hc1 hc2 hc3 hR ho
      refine ⟨M1, t1, t3, ?_⟩
      show if nf = 8 then _ else _
      rw [if_neg e]
      exact ⟨t2, t4⟩
