/-! Pure: advance and takeNext. -/
def gdE (P : Pg) (es : List (List Int32)) (fs : Nat → Int32) (e : Nat) : Prop := (fav P es >>> (nI e &&& 31)) &&& 1 = 1 ∨ fs e = 0
noncomputable def nyR (P : Pg) (es : List (List Int32)) (fs : Nat → Int32) (tk : Nat) : Nat → Nat → Nat
  | 0, _ => (tk + 1) % es.length
  | r + 1, d => @ite _ (gdE P es fs ((tk + d) % es.length)) (Classical.propDecidable _) ((tk + d) % es.length) (nyR P es fs tk r (d + 1))
def incF (fs : Nat → Int32) (tk : Nat) : Nat → Int32 := fun e => if e = tk then fs tk + 1 else fs e
/-- what follows a trial: t's number is already one more -/
noncomputable def adB (P : Pg) (A : Ab) : Ab := if A.2.2.2.2.1.2.1 < 16 * (A.1.getD A.2.2.2.2.1.1 []).length + A.2.2.2.2.1.2.2 ∨ (A.2.2.2.2.1.2.1 = 16 * (A.1.getD A.2.2.2.2.1.1 []).length + A.2.2.2.2.1.2.2 ∧ 2 ≤ A.1.length) then A else (A.1, incF A.2.1 A.2.2.2.2.1.1, A.2.2.1, A.2.2.2.1, tuA P A.1 (incF A.2.1 A.2.2.2.2.1.1) (nyR P A.1 (incF A.2.1 A.2.2.2.2.1.1) A.2.2.2.2.1.1 A.1.length 1), A.2.2.2.2.2)
theorem ny_lt {P : Pg} {es : List (List Int32)} {fs : Nat → Int32} {tk : Nat} (h : 0 < es.length) : ∀ r d, nyR P es fs tk r d < es.length := by
  intro r
  induction r with
  | zero => intro d; exact Nat.mod_lt _ h
  | succ r ih =>
    intro d
    unfold nyR
    by_cases c : gdE P es fs ((tk + d) % es.length)
    · rw [@if_pos _ (Classical.propDecidable _) c]; exact Nat.mod_lt _ h
    · rw [@if_neg _ (Classical.propDecidable _) c]; exact ih _
theorem v_behind {M : Mem} {e n : Nat} (hn : M 5 3 = nI n) (h16 : n ≤ 16) (he : e < n) : s_ST_behind (nI e) M = some (nI ((e + 1) % n), M) := by
  unfold s_ST_behind
  rw [hn, nI_1]
  by_cases c : n ≤ e + 1
  · rw [if_pos (nI_le c (by omega)), show e + 1 = n by omega, Nat.mod_self]; rfl
  · rw [if_neg (nI_ge (by omega) (by omega)), Nat.mod_eq_of_lt (by omega)]
theorem v_TR_next {M : Mem} {P : Pg} {es : List (List Int32)} {fs : Nat → Int32} {tk : Nat} (hX : XS M P es) (hf : ∀ e, e < 16 → M (122 + e) 3 = fs e) (htk : M 13 0 = nI tk) (ht : tk < es.length) : s_TR_next M = some (nI (nyR P es fs tk es.length 1), M) := by
  obtain ⟨⟨x1, x2, x3⟩, -, -, x4, -, -⟩ := hX
  have hpos : 0 < es.length := by omega
  have hloop : ∀ r i, i + r = es.length → lp (fun q : Int32 × Int32 × Mem => l_TR_next_7 q.1 q.2.1 q.2.2) (nI ((tk + i) % es.length), nI i, M) = some (nI (nyR P es fs tk r (i + 1)), M) := by
    intro r
    induction r with
    | zero =>
      intro i hi
      refine lp_last ?_
      show l_TR_next_7 (nI ((tk + i) % es.length)) (nI i) M = _
      unfold l_TR_next_7 j_TR_next_49
      rw [x1, if_pos (nI_le (by omega) (by omega)), htk, v_behind x1 x2 ht, bi_s]
      rfl
    | succ r ih =>
      intro i hi
      have hm : (tk + i) % es.length < es.length := Nat.mod_lt _ hpos
      have hm2 : (tk + (i + 1)) % es.length < es.length := Nat.mod_lt _ hpos
      have e1 : ((tk + i) % es.length + 1) % es.length = (tk + (i + 1)) % es.length := by rw [Nat.mod_add_mod, Nat.add_assoc]
      have hst : l_TR_next_7 (nI ((tk + i) % es.length)) (nI i) M = if bI ((fav P es >>> (nI ((tk + (i + 1)) % es.length) &&& 31)) &&& 1 = 1) = 0 then (if fs ((tk + (i + 1)) % es.length) = 0 then some (.inr (nI ((tk + (i + 1)) % es.length), M)) else some (.inl (nI ((tk + (i + 1)) % es.length), nI (i + 1), M))) else some (.inr (nI ((tk + (i + 1)) % es.length), M)) := by
        unfold l_TR_next_7
        rw [x1, if_neg (nI_ge (by omega) (by omega)), v_behind x1 x2 hm, bi_s, e1, v_isFav, bi_s, x4, ck_i (vp_in_nI (by omega) (by decide)), nI_clamp (by omega), hf _ (by omega)]
        simp only [nx]
        rw [← nI_succ]
      unfold nyR
      by_cases c : gdE P es fs ((tk + (i + 1)) % es.length)
      · rw [@if_pos _ (Classical.propDecidable _) c]
        refine lp_inr (hst.trans ?_)
        by_cases c1 : (fav P es >>> (nI ((tk + (i + 1)) % es.length) &&& 31)) &&& 1 = 1
        · rw [bI_t c1, if_neg (by decide)]
        · rw [bI_f c1, if_pos rfl, if_pos (c.resolve_left c1)]
      · rw [@if_neg _ (Classical.propDecidable _) c]
        refine (lp_inl (b := fun q : Int32 × Int32 × Mem => l_TR_next_7 q.1 q.2.1 q.2.2) (s := (nI ((tk + i) % es.length), nI i, M)) (s1 := (nI ((tk + (i + 1)) % es.length), nI (i + 1), M)) (hst.trans ?_)).trans (ih (i + 1) (by omega))
        rw [bI_f (fun q => c (Or.inl q)), if_pos rfl, if_neg (fun q => c (Or.inr q))]
  have := hloop es.length 0 (by omega)
  rw [show (tk + 0) % es.length = tk from Nat.mod_eq_of_lt ht] at this
  unfold s_TR_next
  simp only [nx]
  rw [htk]
  exact this
theorem v_TR_advance {M : Mem} {P : Pg} {A : Ab} {tk nm en : Nat} (h : XA M P A) (h0 : 0 < A.1.length) (hT : A.2.2.2.2.1 = (tk, nm, en)) (ht : tk < A.1.length) (hnm : nm < 2 ^ 20) (hen : en ≤ 16) (h6 : (A.1.getD tk []).length ≤ 6) : ∃ M1, s_TR_advance M = some M1 ∧ XA M1 P (adB P (A.1, A.2.1, A.2.2.1, A.2.2.2.1, (tk, nm + 1, en), A.2.2.2.2.2)) ∧ ∀ a, 26 ≤ a → a ≤ 55 → M1 a = M a := by
  obtain ⟨es, fs, nF, ct, t, x⟩ := A
  dsimp only at h0 hT ht h6 ⊢
  subst hT
  obtain ⟨p0, p1, p2, p3, p4, p5, p6, p7, p8⟩ := h
  dsimp only at p1 p2 p3 p4 p5 p6
  obtain ⟨q1, q2, q3⟩ := p5.2 h0
  dsimp only at q1 q2 q3
  have h16 := p1.1.2.1
  have hl := (p1.1.2.2 tk ht).1
  unfold s_TR_advance s_TR_firstDrawing
  rw [v_ST_has, bi_s, q1, p1.1.1, bI_t ⟨nI_pos' (by omega), nI_lt ht (by omega)⟩, if_neg (by decide)]
  simp only [nx]
  rw [q2, nI_1, show st M 13 1 (nI (nm + 1)) 13 0 = M 13 0 from rfl, q1, ck_i (vp_in_nI (by omega) (by decide)), nI_clamp (by omega), bi_s, show 2 * (122 + tk) - 186 = 58 + 2 * tk by omega, st_other (show 58 + 2 * tk ≠ 13 by omega), hl.1, show st M 13 1 (nI (nm + 1)) 13 2 = M 13 2 from rfl, q3, show st M 13 1 (nI (nm + 1)) 13 1 = nI (nm + 1) from rfl, st_other (show (5 : Nat) ≠ 13 by decide), p1.1.1, show (16 : Int32) = nI 16 from rfl, pk_mul, nI_add]
  generalize hJ : 16 * (es.getD tk []).length + en = J
  generalize hX : st M 13 1 (nI (nm + 1)) = X
  have oX : ∀ a, a ≠ 13 → X a = M a := fun a ha => by rw [← hX, st_other ha]
  have x0 : X 13 0 = nI tk := by rw [← hX]; exact q1
  have x1 : X 13 1 = nI (nm + 1) := by rw [← hX, st_rd]
  have x2 : X 13 2 = nI en := by rw [← hX]; exact q3
  -- the whole relation for a memory that differs in cell 13, and finished
  have hre : ∀ (Y : Mem) (fs' : Nat → Int32) (t' : Nat × Nat × Nat), (∀ a, a ≠ 13 → ¬ (122 ≤ a ∧ a ≤ 137) → Y a = M a) → (∀ e, e < 16 → Y (122 + e) 1 = M (122 + e) 1 ∧ Y (122 + e) 2 = M (122 + e) 2 ∧ Y (122 + e) 3 = fs' e) → (Y 13 0 = nI t'.1 ∧ Y 13 1 = nI t'.2.1 ∧ Y 13 2 = nI t'.2.2) → XA Y P (es, fs', nF, ct, t', x) := fun Y fs' t' y1 y2 y3 => by
    refine ⟨?_, ?_, fun e he => (y2 e he).2.2, ?_, ?_, ⟨fun q => absurd q (by dsimp only; omega), fun _ => y3⟩, ?_, ?_, ?_⟩
    · rw [y1 2 (by decide) (by decide), y1 3 (by decide) (by decide), y1 4 (by decide) (by decide), y1 1 (by decide) (by decide)]; exact p0
    · obtain ⟨a0, a7, a8, a4, a5, a6⟩ := p1
      refine ⟨XS0_fr a0 (by rw [y1 5 (by decide) (by decide)]) (fun e he => by have he : e < es.length := he; exact ⟨y1 _ (by omega) (by omega), y1 _ (by omega) (by omega), (y2 e (by omega)).1, (y2 e (by omega)).2.1⟩), ?_, ?_, ?_, ?_, ?_⟩
      · rw [y1 7 (by decide) (by decide)]; exact a7
      · rw [y1 8 (by decide) (by decide)]; exact a8
      · rw [y1 5 (by decide) (by decide)]; exact a4
      · rw [y1 5 (by decide) (by decide)]; exact a5
      · rw [y1 5 (by decide) (by decide)]; exact a6
    · exact XF_fr p3 (y1 _ (by decide) (by decide)) (fun a _ _ => y1 a (by omega) (by omega)) (fun a _ _ => y1 a (by omega) (by omega))
    · rw [y1 0 (by decide) (by decide)]; exact p4
    · rw [y1 12 (by decide) (by decide)]; exact p6
    · exact ROk_fr p7 (by rw [y1 14 (by decide) (by decide)]) (y1 _ (by decide) (by decide)) (y1 _ (by decide) (by decide))
    · exact ROk_fr p8 (by rw [y1 20 (by decide) (by decide)]) (y1 _ (by decide) (by decide)) (y1 _ (by decide) (by decide))
  have hstay : nm + 1 < J ∨ (nm + 1 = J ∧ 2 ≤ es.length) → ∃ M1, some X = some M1 ∧ XA M1 P (adB P (es, fs, nF, ct, (tk, nm + 1, en), x)) ∧ ∀ a, 26 ≤ a → a ≤ 55 → M1 a = M a := fun q => by
    refine ⟨X, rfl, ?_, fun a h1 h2 => oX a (by omega)⟩
    unfold adB
    dsimp only
    rw [hJ, if_pos q]
    exact hre X fs (tk, nm + 1, en) (fun a h1 _ => oX a h1) (fun e he => ⟨by rw [oX _ (by omega)], by rw [oX _ (by omega)], by rw [oX _ (by omega)]; exact p2 e he⟩) ⟨x0, x1, x2⟩
  have hgo : ¬ (nm + 1 < J ∨ (nm + 1 = J ∧ 2 ≤ es.length)) → ∃ M1, j_TR_advance_68 X = some M1 ∧ XA M1 P (adB P (es, fs, nF, ct, (tk, nm + 1, en), x)) ∧ ∀ a, 26 ≤ a → a ≤ 55 → M1 a = M a := fun q => by
    unfold adB
    dsimp only
    rw [hJ, if_neg q]
    unfold j_TR_advance_68
    rw [x0, ck_i (vp_in_nI (by omega) (by decide)), nI_clamp (by omega), oX (122 + tk) (by omega), p2 tk (by omega)]
    simp only [nx]
    generalize hY : st X (122 + tk) 3 (fs tk + 1) = Y
    have oY : ∀ a, a ≠ 13 → ¬ (122 ≤ a ∧ a ≤ 137) → Y a = M a := fun a h1 h2 => by rw [← hY, st_other (by omega), oX a h1]
    have yE : ∀ e, e < 16 → Y (122 + e) 1 = M (122 + e) 1 ∧ Y (122 + e) 2 = M (122 + e) 2 ∧ Y (122 + e) 3 = incF fs tk e := fun e he => by
      rw [← hY]
      unfold incF
      by_cases c : e = tk
      · subst c
        rw [if_pos rfl]
        refine ⟨by rw [st_ap, if_pos rfl, if_neg (by decide), oX _ (by omega)], by rw [st_ap, if_pos rfl, if_neg (by decide), oX _ (by omega)], by rw [st_rd]⟩
      · rw [if_neg c, st_other (by omega), oX _ (by omega)]
        exact ⟨rfl, rfl, p2 e he⟩
    have y13 : Y 13 = X 13 := by rw [← hY, st_other (by omega)]
    have hXY := hre Y (incF fs tk) (tk, nm + 1, en) oY yE (by rw [y13]; exact ⟨x0, x1, x2⟩)
    rw [v_TR_next hXY.2.1 hXY.2.2.1 (by rw [y13]; exact x0) ht, bi_s]
    obtain ⟨M1, t1, t2, t3⟩ := v_TR_takeUp (e := nyR P es (incF fs tk) tk es.length 1) hXY.2.1 hXY.2.2.1 (ny_lt h0 _ _)
    rw [t1, bv_s]
    refine ⟨M1, rfl, ?_, fun a h1 h2 => by rw [t3 a (by omega), oY a (by omega) (by omega)]⟩
    exact hre M1 (incF fs tk) _ (fun a h1 h2 => by rw [t3 a h1, oY a h1 h2]) (fun e he => by rw [t3 _ (by omega)]; exact yE e he) t2
  by_cases c1 : nm + 1 < J
  · rw [if_pos (nI_lt c1 (by omega))]
    exact hstay (Or.inl c1)
  · rw [if_neg (fun q => c1 ((nI_ltI (by omega) (by omega)).mp q))]
    by_cases c2 : nm + 1 = J
    · rw [if_pos (by rw [c2])]
      by_cases c3 : es.length < 2
      · rw [if_pos (show nI es.length < (2 : Int32) from nI_lt (b := 2) c3 (by decide))]
        exact hgo (by omega)
      · rw [if_neg (show ¬ nI es.length < (2 : Int32) from fun q => c3 ((nI_ltI (b := 2) (by omega) (by decide)).mp q))]
        exact hstay (Or.inr ⟨c2, by omega⟩)
    · rw [if_neg (fun q => c2 ((nI_eq (by omega) (by omega)).mp q))]
      exact hgo (by omega)
theorem wfA_ad {P : Pg} {A : Ab} {tk nm en : Nat} (h : wfA P A) (h0 : 0 < A.1.length) (hT : A.2.2.2.2.1 = (tk, nm, en)) : wfA P (adB P (A.1, A.2.1, A.2.2.1, A.2.2.2.1, (tk, nm + 1, en), A.2.2.2.2.2)) := by
  obtain ⟨es, fs, nF, ct, t, x⟩ := A
  dsimp only at h0 hT ⊢
  subst hT
  obtain ⟨a1, a2, a3, a4⟩ := h
  dsimp only at a1 a2 a3 a4
  obtain ⟨b1, b2, b3, b4⟩ := a4 h0
  dsimp only at b1 b2 b3 b4
  unfold adB
  dsimp only
  by_cases c : nm + 1 < 16 * (es.getD tk []).length + en ∨ (nm + 1 = 16 * (es.getD tk []).length + en ∧ 2 ≤ es.length)
  · rw [if_pos c]
    exact ⟨a1, a2, a3, fun _ => ⟨b1, b2, b3, c⟩⟩
  · rw [if_neg c]
    have hn := ny_lt (P := P) (fs := incF fs tk) (tk := tk) h0 es.length 1
    have hec := (a2 _ hn).1
    refine ⟨fun e he => ?_, a2, a3, fun _ => ⟨hn, ?_, ?_, Or.inl ?_⟩⟩
    · have he : es.length ≤ e := he
      show incF fs tk e = 0
      unfold incF
      rw [if_neg (by omega)]
      exact a1 e he
    · show 1 ≤ enA P es _
      unfold enA
      split <;> omega
    · show enA P es _ ≤ 16
      unfold enA
      split <;> omega
    · show (if incF fs tk (nyR P es (incF fs tk) tk es.length 1) ≤ 0 then 0 else 16 * (es.getD (nyR P es (incF fs tk) tk es.length 1) []).length) < 16 * (es.getD (nyR P es (incF fs tk) tk es.length 1) []).length + enA P es (nyR P es (incF fs tk) tk es.length 1)
      have : 1 ≤ enA P es (nyR P es (incF fs tk) tk es.length 1) := by
        unfold enA
        split <;> omega
      split <;> omega
