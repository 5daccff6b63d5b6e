/-! Pure: a trial, in both; plant; fuzz. -/
theorem v_MO_takeNext {M : Mem} {P : Pg} {n : Nat} {es : List (List Int32)} {fs : Nat → Int32} {nF : Nat × (Nat → Fnd)} {ct : Int32 × Int32 × Int32} {tk m en : Nat} {x : Int32} (hP : wfP P n) (h : MA M P (es, fs, nF, ct, (tk, m, en), x)) (h0 : 0 < es.length) (ht : tk < es.length) : ∃ M1, s_MO_takeNext M = some M1 ∧ MA M1 P (es, incF fs tk, nF, ct, tuA P es (incF fs tk) (nyR P es (incF fs tk) tk es.length 1), x) ∧ (∀ a, (a < 26 ∨ a = 30 ∨ 50 < a) → M1 a = M a) ∧ M1 26 5 = M 26 5 := by
  obtain ⟨p1, p2, p3, p4, p5, p6, p7, p8⟩ := h
  dsimp only at p2 p3 p4 p5 p6 p7 p8
  obtain ⟨q1, -, -⟩ := p7 h0
  dsimp only at q1
  obtain ⟨M2, s1, s2, s3, s4⟩ := v_MO_survey hP p1 p2 p3
  have n18 : M2 26 18 = nI es.length := (MS_SF p2 s2).1
  have h16 := p2.2.1
  have k40 : M2 26 40 = nI tk := by rw [s2.2 40 (by decide) (by decide) (by decide) (by decide)]; exact q1
  have f38 : M2 38 tk = fs tk := by rw [s2.1 38 (by decide) (by decide) (by decide)]; exact p4 tk ht
  generalize hX : st M2 38 tk (fs tk + 1) = X
  have oX : ∀ a, a ≠ 38 → X a = M2 a := fun a ha => by rw [← hX, st_other ha]
  have x38 : ∀ e, e < es.length → X 38 e = incF fs tk e := fun e he => by
    rw [← hX, st_same]
    unfold incF
    by_cases c : e = tk
    · subst c; rw [pk_us, if_pos rfl]
    · rw [pk_un c, if_neg c, s2.1 38 (by decide) (by decide) (by decide)]; exact p4 e he
  have xMP : MP X P := by
    unfold MP
    rw [oX 27 (by decide), oX 28 (by decide), oX 29 (by decide), oX 26 (by decide)]
    exact MP_SF p1 s2
  have xMS : MS X es := MS_fr (MS_SF p2 s2) (by rw [oX 26 (by decide)]) (oX 36 (by decide)) (oX 37 (by decide))
  have xsv : Srv X P es := Srv_fr s3 (oX 48 (by decide)) (oX 49 (by decide)) (oX 50 (by decide)) (by rw [oX 26 (by decide)])
  have x18 : X 26 18 = nI es.length := by rw [oX 26 (by decide)]; exact n18
  have x39 : X 26 39 = fav P es := xsv.2.2.2
  have hne : nI es.length ≠ 0 := nI_ne0 h0 (by omega)
  have hexit : ∀ (v w d : Int32), w ≠ 0 → lp (fun q : Int32 × Int32 × Int32 × Mem => l_MO_takeNext_33 (nI tk) q.1 q.2.1 q.2.2.1 q.2.2.2) (v, w, d, X) = j_MO_takeNext_103 v X := fun v w d hw => lp_last (by
    show l_MO_takeNext_33 (nI tk) v w d X = _
    unfold l_MO_takeNext_33
    by_cases c : X 26 18 < d
    · rw [if_pos c]
    · rw [if_neg c, if_neg hw])
  have hloop : ∀ r d, d + r = es.length + 1 → 1 ≤ d → lp (fun q : Int32 × Int32 × Int32 × Mem => l_MO_takeNext_33 (nI tk) q.1 q.2.1 q.2.2.1 q.2.2.2) (nI ((tk + 1) % es.length), 0, nI d, X) = j_MO_takeNext_103 (nI (nyR P es (incF fs tk) tk r d)) X := by
    intro r
    induction r with
    | zero =>
      intro d hd h1
      refine lp_last ?_
      show l_MO_takeNext_33 (nI tk) (nI ((tk + 1) % es.length)) 0 (nI d) X = _
      unfold l_MO_takeNext_33
      rw [x18, if_pos (nI_lt (by omega) (by omega))]
      rfl
    | succ r ih =>
      intro d hd h1
      have hm : (tk + d) % es.length < es.length := Nat.mod_lt _ h0
      have hst : l_MO_takeNext_33 (nI tk) (nI ((tk + 1) % es.length)) 0 (nI d) X = if (fav P es >>> (nI ((tk + d) % es.length) &&& 31)) &&& 1 = 1 then some (.inl (nI ((tk + d) % es.length), 1, nI (d + 1), X)) else (if incF fs tk ((tk + d) % es.length) = 0 then some (.inl (nI ((tk + d) % es.length), 1, nI (d + 1), X)) else some (.inl (nI ((tk + 1) % es.length), 0, nI (d + 1), X))) := by
        unfold l_MO_takeNext_33 j_MO_takeNext_80 j_MO_takeNext_85 j_MO_takeNext_96 cz
        rw [x18, if_neg (fun q => absurd ((nI_ltI (by omega) (by omega)).mp q) (by omega)), if_pos rfl, if_neg hne, nI_add, pk_rem (by omega) h0 (by omega)]
        simp only [nx]
        rw [x39, ck_i (vp_in_nI (by omega) (by decide)), nI_clamp (by omega), x38 _ hm, if_neg (show ¬ (1 : Int32) = 0 by decide), if_pos trivial, ← nI_succ]
      unfold nyR
      by_cases c : gdE P es (incF fs tk) ((tk + d) % es.length)
      · rw [@if_pos _ (Classical.propDecidable _) c]
        refine (lp_inl (b := fun q : Int32 × Int32 × Int32 × Mem => l_MO_takeNext_33 (nI tk) q.1 q.2.1 q.2.2.1 q.2.2.2) (s := (nI ((tk + 1) % es.length), 0, nI d, X)) (s1 := (nI ((tk + d) % es.length), 1, nI (d + 1), X)) (hst.trans ?_)).trans (hexit _ _ _ (by decide))
        by_cases c1 : (fav P es >>> (nI ((tk + d) % es.length) &&& 31)) &&& 1 = 1
        · rw [if_pos c1]
        · rw [if_neg c1, if_pos (c.resolve_left c1)]
      · rw [@if_neg _ (Classical.propDecidable _) c]
        refine (lp_inl (b := fun q : Int32 × Int32 × Int32 × Mem => l_MO_takeNext_33 (nI tk) q.1 q.2.1 q.2.2.1 q.2.2.2) (s := (nI ((tk + 1) % es.length), 0, nI d, X)) (s1 := (nI ((tk + 1) % es.length), 0, nI (d + 1), X)) (hst.trans ?_)).trans (ih (d + 1) (by omega) (by omega))
        rw [if_neg (fun q => c (Or.inl q)), if_neg (fun q => c (Or.inr q))]
  have hny := ny_lt (P := P) (fs := incF fs tk) (tk := tk) h0 es.length 1
  obtain ⟨M1, t1, t2, t3, t4, t5, t6⟩ := v_MO_takeUp (e := nyR P es (incF fs tk) tk es.length 1) hP xMP xMS (fun _ => xsv) x38 hny
  have o1 : ∀ a, a ≠ 26 → ¬ (31 ≤ a ∧ a ≤ 35) → ¬ (48 ≤ a ∧ a ≤ 50) → a ≠ 38 → M1 a = M a := fun a h1 h2 h3 h4 => by rw [t5 a h1 h2 h3, oX a h4, s2.1 a h1 h2 h3]
  have o26 : ∀ k, k ≠ 8 → ¬ (12 ≤ k ∧ k ≤ 16) → k ≠ 35 → ¬ (39 ≤ k ∧ k ≤ 42) → M1 26 k = M 26 k := fun k h1 h2 h3 h4 => by rw [t6 k h1 h2 h3 (by omega) (by omega), oX 26 (by decide), s2.2 k h1 h2 h3 (by omega)]
  refine ⟨M1, ?_, ⟨?_, ?_, fun _ => t3, ?_, ?_, ⟨?_, ?_, ?_⟩, fun _ => t2, ?_⟩, fun a ha => o1 a (by omega) (by omega) (by omega) (by omega), o26 5 (by decide) (by decide) (by decide) (by decide)⟩
  · unfold s_MO_takeNext cz
    rw [s1, bv_s]
    simp only [nx]
    rw [k40, ck_i (vp_in_nI (by omega) (by decide)), ck_i (vp_in_nI (by omega) (by decide)), nI_clamp (by omega), f38, hX, x18, if_neg hne, nI_1, pk_rem (by omega) h0 (by omega), show (1 : Int32) = nI 1 from rfl, hloop es.length 1 (by omega) (by omega)]
    unfold j_MO_takeNext_103
    rw [t1]
    rfl
  · unfold MP
    rw [o1 27 (by decide) (by decide) (by decide) (by decide), o1 28 (by decide) (by decide) (by decide) (by decide), o1 29 (by decide) (by decide) (by decide) (by decide), o26 0 (by decide) (by decide) (by decide) (by decide)]
    exact p1
  · exact MS_fr p2 (o26 18 (by decide) (by decide) (by decide) (by decide)) (o1 36 (by decide) (by decide) (by decide) (by decide)) (o1 37 (by decide) (by decide) (by decide) (by decide))
  · intro e he
    rw [t5 38 (by decide) (by decide) (by decide)]; exact x38 e he
  · exact MF_fr p5 (o26 22 (by decide) (by decide) (by decide) (by decide)) (fun a h1 h2 => o1 a (by omega) (by omega) (by omega) (by omega))
  · rw [o26 32 (by decide) (by decide) (by decide) (by decide)]; exact p6.1
  · rw [o26 33 (by decide) (by decide) (by decide) (by decide)]; exact p6.2.1
  · rw [o26 34 (by decide) (by decide) (by decide) (by decide)]; exact p6.2.2
  · rw [o26 6 (by decide) (by decide) (by decide) (by decide)]; exact p8
/-- the state behind a trial -/
noncomputable def tyA (P : Pg) (A : Ab) : Ab :=
  adB P ((exA P (chA A.1 A.2.2.2.2.1 A.2.2.2.2.2).1 A).1, (exA P (chA A.1 A.2.2.2.2.1 A.2.2.2.2.2).1 A).2.1, (exA P (chA A.1 A.2.2.2.2.1 A.2.2.2.2.2).1 A).2.2.1, (exA P (chA A.1 A.2.2.2.2.1 A.2.2.2.2.2).1 A).2.2.2.1, (A.2.2.2.2.1.1, A.2.2.2.2.1.2.1 + 1, A.2.2.2.2.1.2.2), (chA A.1 A.2.2.2.2.1 A.2.2.2.2.2).2)
theorem exA_t {P : Pg} {l : List Int32} {es : List (List Int32)} {fs : Nat → Int32} {nF : Nat × (Nat → Fnd)} {ct : Int32 × Int32 × Int32} {t : Nat × Nat × Nat} {x : Int32} (h0 : 0 < es.length) : exA P l (es, fs, nF, ct, t, x) = ((exA P l (es, fs, nF, ct, t, x)).1, (exA P l (es, fs, nF, ct, t, x)).2.1, (exA P l (es, fs, nF, ct, t, x)).2.2.1, (exA P l (es, fs, nF, ct, t, x)).2.2.2.1, t, x) := by
  unfold exA
  dsimp only
  unfold exT
  rw [if_neg (show ¬ (es.length = 0 ∧ 0 < (exS P l es).length) from fun q => by omega)]
theorem getD_exS {P : Pg} {l : List Int32} {es : List (List Int32)} {k : Nat} (h : k < es.length) : (exS P l es).getD k [] = es.getD k [] := by
  unfold exS
  split
  · exact getD_ap h
  · rfl
theorem XA_x {M M1 : Mem} {P : Pg} {es : List (List Int32)} {fs : Nat → Int32} {nF : Nat × (Nat → Fnd)} {ct : Int32 × Int32 × Int32} {t : Nat × Nat × Nat} {x y : Int32} (h : XA M P (es, fs, nF, ct, t, x)) (f : CF M M1) (hy : M1 12 0 = y) : XA M1 P (es, fs, nF, ct, t, y) := by
  obtain ⟨p0, p1, p2, p3, p4, p5, p6, p7, p8⟩ := h
  dsimp only at p1 p2 p3 p4 p5
  refine ⟨?_, ?_, fun e he => by rw [f _ (by omega) (by omega) (by omega)]; exact p2 e he, ?_, ?_, ?_, hy, ?_, ?_⟩
  · rw [f 2 (by decide) (by decide) (by decide), f 3 (by decide) (by decide) (by decide), f 4 (by decide) (by decide) (by decide), f 1 (by decide) (by decide) (by decide)]; exact p0
  · exact XS_fr p1 (f _ (by decide) (by decide) (by decide)) (f _ (by decide) (by decide) (by decide)) (f _ (by decide) (by decide) (by decide)) (fun a _ _ => f a (by omega) (by omega) (by omega)) (fun e _ => f _ (by omega) (by omega) (by omega))
  · exact XF_fr p3 (f _ (by decide) (by decide) (by decide)) (fun a _ _ => f a (by omega) (by omega) (by omega)) (fun a _ _ => f a (by omega) (by omega) (by omega))
  · rw [f 0 (by decide) (by decide) (by decide)]; exact p4
  · unfold XT
    rw [f 13 (by decide) (by decide) (by decide)]; exact p5
  · exact ROk_fr p7 (by rw [f 14 (by decide) (by decide) (by decide)]) (f _ (by decide) (by decide) (by decide)) (f _ (by decide) (by decide) (by decide))
  · exact ROk_fr p8 (by rw [f 20 (by decide) (by decide) (by decide)]) (f _ (by decide) (by decide) (by decide)) (f _ (by decide) (by decide) (by decide))
theorem wfA_ty {P : Pg} {A : Ab} (hw : wfA P A) (h0 : 0 < A.1.length) : wfA P (tyA P A) ∧ 0 < (tyA P A).1.length := by
  obtain ⟨es, fs, nF, ct, ⟨tk, nm, en⟩, x⟩ := A
  have hok := ok_chA (x := x) hw.2.2.2 h0 (fun e he => (hw.2.1 e he).2)
  have h1 := wfA_ex (P := P) hw hok.1 hok.2
  have hl := len_exS P (chA es (tk, nm, en) x).1 es
  have h0 : 0 < es.length := h0
  rw [exA_t h0] at h1
  have h2 := wfA_ad (tk := tk) (nm := nm) (en := en) h1 (by show 0 < (exS P (chA es (tk, nm, en) x).1 es).length; omega) rfl
  have h3 : wfA P (tyA P (es, fs, nF, ct, (tk, nm, en), x)) := by
    unfold tyA
    dsimp only
    obtain ⟨a1, a2, a3, a4⟩ := h2
    unfold adB at a1 a2 a3 a4 ⊢
    dsimp only at a1 a2 a3 a4 ⊢
    split
    · rename_i c
      rw [if_pos c] at a1 a2 a3 a4
      exact ⟨a1, a2, a3, a4⟩
    · rename_i c
      rw [if_neg c] at a1 a2 a3 a4
      exact ⟨a1, a2, a3, a4⟩
  refine ⟨h3, ?_⟩
  unfold tyA adB
  dsimp only
  split
  · show 0 < (exS P (chA es (tk, nm, en) x).1 es).length
    omega
  · show 0 < (exS P (chA es (tk, nm, en) x).1 es).length
    omega
theorem v_EC_trial {M : Mem} {P : Pg} {n : Nat} {A : Ab} (hP : wfP P n) (h : XA M P A) (hw : wfA P A) (h0 : 0 < A.1.length) : ∃ M1 M2 M3 r, s_TR_change 54 M = some M1 ∧ s_EC_execute 54 M1 = some (r, M2) ∧ s_TR_advance M2 = some M3 ∧ XA M3 P (tyA P A) ∧ ∀ a, 26 ≤ a → a ≤ 53 → M3 a = M a := by
  obtain ⟨es, fs, nF, ct, ⟨tk, nm, en⟩, x⟩ := A
  have h0 : 0 < es.length := h0
  obtain ⟨w1, w2, w3, w4⟩ := id hw
  dsimp only at w1 w2 w3 w4
  obtain ⟨t1, t2, t3, t4⟩ := w4 h0
  dsimp only at t1 t2 t3 t4
  obtain ⟨M1, a1, a2, a3⟩ := v_TR_change h.2.1.1 h.2.2.2.2.2.1 w4 h0 h.2.2.2.2.2.2.1
  dsimp only at a1 a2
  have hok := ok_chA (x := x) w4 h0 (fun e he => (w2 e he).2)
  have h1 := XA_x h a3 a2.2
  obtain ⟨M2, b1, b2, b3⟩ := v_EC_execute (i := 54) (Or.inr rfl) hP h1 w4 a2.1
  rw [exA_t h0] at b2
  have hl := len_exS P (chA es (tk, nm, en) x).1 es
  have h6 := (w2 tk t1).2.1
  obtain ⟨M3, c1, c2, c3⟩ := v_TR_advance (tk := tk) (nm := nm) (en := en) b2 (by show 0 < (exS P (chA es (tk, nm, en) x).1 es).length; omega) rfl (by show tk < (exS P (chA es (tk, nm, en) x).1 es).length; omega) (by omega) (by omega) (by show ((exS P (chA es (tk, nm, en) x).1 es).getD tk []).length ≤ 6; rw [getD_exS t1]; exact h6)
  refine ⟨M1, M2, M3, _, a1, b1, c1, ?_, fun a h1 h2 => by rw [c3 a h1 (by omega), b3 a h1 (by omega), a3 a (by omega) (by omega) (by omega)]⟩
  exact c2
theorem MA_qf {M M1 : Mem} {P : Pg} {es : List (List Int32)} {fs : Nat → Int32} {nF : Nat × (Nat → Fnd)} {ct : Int32 × Int32 × Int32} {t t' : Nat × Nat × Nat} {x y : Int32} (h : MA M P (es, fs, nF, ct, t, x)) (f1 : ∀ a, a ≠ 26 → a ≠ 51 → M1 a = M a) (f2 : ∀ k, k ≠ 6 → k ≠ 44 → ¬ (40 ≤ k ∧ k ≤ 42) → M1 26 k = M 26 k) (hy : M1 26 6 = y) (ht : MT M1 es t') : MA M1 P (es, fs, nF, ct, t', y) := by
  obtain ⟨p1, p2, p3, p4, p5, p6, p7, p8⟩ := h
  dsimp only at p2 p3 p4 p5 p6
  refine ⟨?_, ?_, ?_, ?_, ?_, ?_, ht, hy⟩
  · unfold MP
    rw [f1 27 (by decide) (by decide), f1 28 (by decide) (by decide), f1 29 (by decide) (by decide), f2 0 (by decide) (by decide) (by decide)]
    exact p1
  · exact MS_fr p2 (f2 18 (by decide) (by decide) (by decide)) (f1 36 (by decide) (by decide)) (f1 37 (by decide) (by decide))
  · intro q
    rw [f2 35 (by decide) (by decide) (by decide), f2 18 (by decide) (by decide) (by decide)] at q
    exact Srv_fr (p3 q) (f1 48 (by decide) (by decide)) (f1 49 (by decide) (by decide)) (f1 50 (by decide) (by decide)) (f2 39 (by decide) (by decide) (by decide))
  · intro e he; rw [f1 38 (by decide) (by decide)]; exact p4 e he
  · exact MF_fr p5 (f2 22 (by decide) (by decide) (by decide)) (fun a h1 h2 => f1 a (by omega) (by omega))
  · rw [f2 32 (by decide) (by decide) (by decide), f2 33 (by decide) (by decide) (by decide), f2 34 (by decide) (by decide) (by decide)]; exact p6
theorem v_MO_trial {M : Mem} {P : Pg} {n : Nat} {A : Ab} (hP : wfP P n) (h : MA M P A) (hw : wfA P A) (h0 : 0 < A.1.length) : ∃ M1, s_MO_trial M = some M1 ∧ MA M1 P (tyA P A) ∧ (∀ a, (a < 26 ∨ a = 30 ∨ 51 < a) → M1 a = M a) ∧ M1 26 5 = M 26 5 := by
  obtain ⟨es, fs, nF, ct, ⟨tk, nm, en⟩, x⟩ := A
  have h0 : 0 < es.length := h0
  obtain ⟨w1, w2, w3, w4⟩ := id hw
  dsimp only at w1 w2 w3 w4
  obtain ⟨t1, t2, t3, t4⟩ := w4 h0
  dsimp only at t1 t2 t3 t4
  obtain ⟨p1, p2, p3, p4, p5, p6, p7, p8⟩ := id h
  dsimp only at p2 p3 p4 p5 p6 p7 p8
  obtain ⟨q1, q2, q3⟩ := p7 h0
  dsimp only at q1 q2 q3
  obtain ⟨e1, e2, e3⟩ := p2.2.2 tk t1
  have hB := (w2 tk t1).2.2
  have hok := ok_chA (x := x) w4 h0 (fun e he => (w2 e he).2)
  -- the entry's bytes are laid into cur
  have hb : ∀ k, k < (es.getD tk []).length → (fun q : Int32 × Mem => l_MO_trial_19 (nI tk) (nI (es.getD tk []).length) q.1 q.2) (nI k, pt (st M 26 44 (nI (es.getD tk []).length)) 51 (cpR (M 36) (M 51) (6 * tk) 0 k)) = some (.inl (nI (k + 1), pt (st M 26 44 (nI (es.getD tk []).length)) 51 (cpR (M 36) (M 51) (6 * tk) 0 (k + 1)))) := fun k hk => by
    show l_MO_trial_19 (nI tk) (nI (es.getD tk []).length) (nI k) (pt (st M 26 44 (nI (es.getD tk []).length)) 51 (cpR (M 36) (M 51) (6 * tk) 0 k)) = _
    unfold l_MO_trial_19
    have z1 : (6 : Int32) * nI tk + nI k = nI (6 * tk + k) := by rw [show (6 : Int32) = nI 6 from rfl, pk_mul, nI_add]
    rw [if_neg (nI_ge hk (by omega)), z1, ck_i (vp_in_nI (by omega) (by decide)), ck_i (vp_in_nI (by omega) (by decide)), nI_clamp (by omega), nI_clamp (by omega), pt_o (by decide), st_other (by decide)]
    simp only [nx]
    have := cp_s (M 36) (M 51) (6 * tk) 0 k
    rw [Nat.zero_add] at this
    rw [pt_st, this, nI_succ]
  have hl0 := lp_cnt0 (b := fun q : Int32 × Mem => l_MO_trial_19 (nI tk) (nI (es.getD tk []).length) q.1 q.2) (fun k => (nI k, pt (st M 26 44 (nI (es.getD tk []).length)) 51 (cpR (M 36) (M 51) (6 * tk) 0 k))) (es.getD tk []).length hb
  rw [cp_0, show pt (st M 26 44 (nI (es.getD tk []).length)) 51 (M 51) = st M 26 44 (nI (es.getD tk []).length) by
    have := pt_id (st M 26 44 (nI (es.getD tk []).length)) 51
    rw [st_other (by decide)] at this
    exact this] at hl0
  generalize hX : pt (st M 26 44 (nI (es.getD tk []).length)) 51 (cpR (M 36) (M 51) (6 * tk) 0 (es.getD tk []).length) = X at hl0
  have fX : QF M X := by rw [← hX]; exact QF_t (QF_44 _ _) (QF_pt _ _)
  have mX : MX X (es.getD tk [], x) := by
    refine ⟨⟨?_, e2, ?_⟩, hB, ?_⟩
    · rw [← hX, pt_o (by decide)]; exact st_rd _ _ _ _
    · rw [← hX, pt_same]; exact Row_cp e3
    · rw [← hX, pt_o (by decide), st_ap, if_pos rfl, if_neg (by decide)]; exact p8
  have hs : s_MO_trial M = j_MO_trial_47 (nI tk) (nI (es.getD tk []).length) X := by
    unfold s_MO_trial
    simp only [nx]
    rw [q1, ck_i (vp_in_nI (by have := p2.2.1; omega) (by decide)), nI_clamp (by have := p2.2.1; omega), e1]
    refine hl0.trans (lp_last ?_)
    show l_MO_trial_19 (nI tk) (nI (es.getD tk []).length) (nI (es.getD tk []).length) X = _
    unfold l_MO_trial_19
    rw [if_pos (nI_le (Nat.le_refl _) (by omega))]
  rw [hs]
  have m41 : X 26 41 = nI nm := by rw [fX.2 41 (by decide) (by decide)]; exact q2
  have m42 : X 26 42 = nI en := by rw [fX.2 42 (by decide) (by decide)]; exact q3
  -- the change
  obtain ⟨Y, y1, y2, y3⟩ : ∃ Y, j_MO_trial_47 (nI tk) (nI (es.getD tk []).length) X = j_MO_trial_100 (nI (16 * (es.getD tk []).length + en)) Y ∧ MX Y (chA es (tk, nm, en) x) ∧ QF X Y := by
    unfold j_MO_trial_47
    rw [m41, m42, show (16 : Int32) = nI 16 from rfl, pk_mul, nI_add]
    simp only [nx]
    unfold chA
    dsimp only
    by_cases c : nm < 16 * (es.getD tk []).length
    · rw [if_neg (nI_ge c (by omega))]
      obtain ⟨Y, a1, a2, a3⟩ := v_MO_plain mX c
      rw [a1, bv_s]
      refine ⟨Y, rfl, ?_, a3⟩
      by_cases c1 : nm < 8 * (es.getD tk []).length
      · rw [if_pos c1] at a2 ⊢; exact a2
      · rw [if_neg c1] at a2 ⊢
        by_cases c2 : nm < 12 * (es.getD tk []).length
        · rw [if_pos c2] at a2 ⊢; exact a2
        · rw [if_neg c2] at a2 ⊢
          rw [if_pos c]; exact a2
    · rw [if_pos (nI_le (a := 16 * (es.getD tk []).length) (b := nm) (by omega) (by omega)), if_neg (show ¬ nm < 8 * (es.getD tk []).length by omega), if_neg (show ¬ nm < 12 * (es.getD tk []).length by omega), if_neg c]
      by_cases c4 : nm < 16 * (es.getD tk []).length + en
      · rw [if_neg (nI_ge c4 (by omega)), if_pos c4]
        obtain ⟨Y, a1, a2, a3⟩ := v_MO_mix mX
        rw [a1, bv_s]
        exact ⟨Y, rfl, a2, a3⟩
      · rw [if_pos (nI_le (by omega) (by omega)), if_neg c4]
        obtain ⟨Y, a1, a2, a3⟩ := v_MO_cross (MS_fr p2 (fX.2 18 (by decide) (by decide)) (fX.1 36 (by decide) (by decide)) (fX.1 37 (by decide) (by decide))) (fun e he => (w2 e he).2.2) (by omega) t1 rfl mX
        rw [a1, bv_s]
        exact ⟨Y, rfl, a2, a3⟩
  rw [y1]
  have fY : QF M Y := QF_t fX y3
  generalize hc : chA es (tk, nm, en) x = cc at y2
  obtain ⟨l, x'⟩ := cc
  -- next, execute
  have k41 : Y 26 41 = nI nm := by rw [fY.2 41 (by decide) (by decide)]; exact q2
  generalize hZ : st Y 26 41 (nI (nm + 1)) = Z
  have oZ : ∀ a, a ≠ 26 → Z a = Y a := fun a ha => by rw [← hZ, st_other ha]
  have z26 : ∀ k, k ≠ 41 → Z 26 k = Y 26 k := fun k hk => by rw [← hZ, st_ap, if_pos rfl, if_neg hk]
  have mZ : MA Z P (es, fs, nF, ct, (tk, nm + 1, en), x') := by
    refine MA_qf h (fun a h1 h2 => by rw [oZ a h1, fY.1 a h1 h2]) (fun k h1 h2 h3 => by rw [z26 k (by omega), fY.2 k h1 h2]) (by rw [z26 6 (by decide)]; exact y2.2.2) (fun _ => ⟨?_, ?_, ?_⟩)
    · rw [z26 40 (by decide), fY.2 40 (by decide) (by decide)]; exact q1
    · rw [← hZ, st_rd]
    · rw [z26 42 (by decide), fY.2 42 (by decide) (by decide)]; exact q3
  have cZ : Cur Z l := Cur_fr y2.1 (z26 44 (by decide)) (oZ 51 (by decide))
  obtain ⟨W, b1, b2, b3, b4⟩ := v_MO_execute hP mZ w1 cZ
  rw [exA_t h0] at b2
  have hrun := (RUN_wf l hP).1
  have hl := len_exS P l es
  obtain ⟨r1, r2, r3⟩ := b2.2.2.2.2.2.2.1 (by show 0 < (exS P l es).length; omega)
  dsimp only at r1 r2 r3
  have r18 : W 26 18 = nI (exS P l es).length := b2.2.1.1
  have r16 : (exS P l es).length ≤ 16 := b2.2.1.2.1
  have fW : ∀ a, (a < 26 ∨ a = 30 ∨ 51 < a) → W a = M a := fun a ha => by rw [b3 a (by omega), oZ a (by omega), fY.1 a (by omega) (by omega)]
  have f5 : W 26 5 = M 26 5 := by rw [b4, z26 5 (by decide), fY.2 5 (by decide) (by decide)]
  have hty : tyA P (es, fs, nF, ct, (tk, nm, en), x) = adB P ((exA P l (es, fs, nF, ct, (tk, nm + 1, en), x')).1, (exA P l (es, fs, nF, ct, (tk, nm + 1, en), x')).2.1, (exA P l (es, fs, nF, ct, (tk, nm + 1, en), x')).2.2.1, (exA P l (es, fs, nF, ct, (tk, nm + 1, en), x')).2.2.2.1, (tk, nm + 1, en), x') := by
    unfold tyA
    dsimp only
    rw [hc]
    rfl
  rw [hty]
  unfold j_MO_trial_100
  rw [k41, nI_1, hZ]
  simp only [nx]
  rw [b1, bi_s, if_neg (Int32.not_lt.mpr hrun), r2, r18]
  have hgD : (exS P l es).getD tk [] = es.getD tk [] := getD_exS t1
  unfold adB
  dsimp only
  rw [show (exA P l (es, fs, nF, ct, (tk, nm + 1, en), x')).1 = exS P l es from rfl, hgD]
  generalize hJ : 16 * (es.getD tk []).length + en = J at *
  have hstay : (nm + 1 < J ∨ (nm + 1 = J ∧ 2 ≤ (exS P l es).length)) → ∃ M1, some W = some M1 ∧ MA M1 P (if nm + 1 < J ∨ (nm + 1 = J ∧ 2 ≤ (exS P l es).length) then (exS P l es, (exA P l (es, fs, nF, ct, (tk, nm + 1, en), x')).2.1, (exA P l (es, fs, nF, ct, (tk, nm + 1, en), x')).2.2.1, (exA P l (es, fs, nF, ct, (tk, nm + 1, en), x')).2.2.2.1, (tk, nm + 1, en), x') else (exS P l es, incF (exA P l (es, fs, nF, ct, (tk, nm + 1, en), x')).2.1 tk, (exA P l (es, fs, nF, ct, (tk, nm + 1, en), x')).2.2.1, (exA P l (es, fs, nF, ct, (tk, nm + 1, en), x')).2.2.2.1, tuA P (exS P l es) (incF (exA P l (es, fs, nF, ct, (tk, nm + 1, en), x')).2.1 tk) (nyR P (exS P l es) (incF (exA P l (es, fs, nF, ct, (tk, nm + 1, en), x')).2.1 tk) tk (exS P l es).length 1), x')) ∧ (∀ a, (a < 26 ∨ a = 30 ∨ 51 < a) → M1 a = M a) ∧ M1 26 5 = M 26 5 := fun q => by
    rw [if_pos q]
    exact ⟨W, rfl, b2, fW, f5⟩
  have hgo : ¬ (nm + 1 < J ∨ (nm + 1 = J ∧ 2 ≤ (exS P l es).length)) → ∃ M1, j_MO_trial_145 W = some M1 ∧ MA M1 P (if nm + 1 < J ∨ (nm + 1 = J ∧ 2 ≤ (exS P l es).length) then (exS P l es, (exA P l (es, fs, nF, ct, (tk, nm + 1, en), x')).2.1, (exA P l (es, fs, nF, ct, (tk, nm + 1, en), x')).2.2.1, (exA P l (es, fs, nF, ct, (tk, nm + 1, en), x')).2.2.2.1, (tk, nm + 1, en), x') else (exS P l es, incF (exA P l (es, fs, nF, ct, (tk, nm + 1, en), x')).2.1 tk, (exA P l (es, fs, nF, ct, (tk, nm + 1, en), x')).2.2.1, (exA P l (es, fs, nF, ct, (tk, nm + 1, en), x')).2.2.2.1, tuA P (exS P l es) (incF (exA P l (es, fs, nF, ct, (tk, nm + 1, en), x')).2.1 tk) (nyR P (exS P l es) (incF (exA P l (es, fs, nF, ct, (tk, nm + 1, en), x')).2.1 tk) tk (exS P l es).length 1), x')) ∧ (∀ a, (a < 26 ∨ a = 30 ∨ 51 < a) → M1 a = M a) ∧ M1 26 5 = M 26 5 := fun q => by
    rw [if_neg q]
    obtain ⟨M1, u1, u2, u3, u4⟩ := v_MO_takeNext hP b2 (by show 0 < (exS P l es).length; omega) (by show tk < (exS P l es).length; omega)
    refine ⟨M1, ?_, u2, fun a ha => by rw [u3 a (by omega), fW a ha], u4.trans f5⟩
    unfold j_MO_trial_145
    rw [u1]
    rfl
  by_cases c1 : J < nm + 1
  · rw [if_pos (nI_lt c1 (by omega))]
    exact hgo (by omega)
  · rw [if_neg (fun q => c1 ((nI_ltI (by omega) (by omega)).mp q))]
    by_cases c2 : nm + 1 = J
    · rw [if_pos (by rw [c2])]
      by_cases c3 : 2 ≤ (exS P l es).length
      · rw [if_pos (show (2 : Int32) ≤ nI (exS P l es).length from nI_le (a := 2) c3 (by omega))]
        exact hstay (Or.inr ⟨c2, c3⟩)
      · rw [if_neg (show ¬ (2 : Int32) ≤ nI (exS P l es).length from nI_ge (b := 2) (by omega) (by decide))]
        exact hgo (by omega)
    · rw [if_neg (fun q => c2 ((nI_eq (by omega) (by omega)).mp q))]
      exact hstay (Or.inl (by omega))
