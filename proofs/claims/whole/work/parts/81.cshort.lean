/-! Pure: the class's shortener. -/
theorem v_cut0 (j : Nat) (M : Mem) : s_IN_cutTo j 0 M = some (st M j 1 0) := by
  unfold s_IN_cutTo
  simp only [nx]
  by_cases c : (0 : Int32) < M j 1
  · rw [if_pos c, if_neg (by decide)]
  · rw [if_neg c, if_neg c]
def FdX (M : Mem) (c : Nat) (g : Sg) : Prop := sgOk g ∧ M (138 + 2 * c) 3 = g.1 ∧ M (138 + 2 * c) 4 = g.2.1 ∧ M (138 + 2 * c) 5 = g.2.2.1 ∧ ∀ d, d ≤ 3 → g.2.2.1 = nI d → ∀ k, k < 3 → M (139 + 2 * c) k = lfS g d k
def ShX (M : Mem) (P : Pg) (c : Nat) (g : Sg) (l : List Int32) : Prop := (M 2, M 3, M 4, M 1 3) = P ∧ FdX M c g ∧ Inp M (92 + 4 * c) l ∧ ROk 20 M
def SFr (c : Nat) (M M1 : Mem) : Prop := ∀ a, ¬ (20 ≤ a ∧ a ≤ 25) → a ≠ 56 → a ≠ 57 → a ≠ 92 + 4 * c → a ≠ 93 + 4 * c → M1 a = M a
theorem SFr_t {c : Nat} {M M1 M2 : Mem} (h : SFr c M M1) (g : SFr c M1 M2) : SFr c M M2 := fun a a1 a2 a3 a4 a5 => (g a a1 a2 a3 a4 a5).trans (h a a1 a2 a3 a4 a5)
theorem FdX_fr {M M1 : Mem} {c : Nat} {g : Sg} (h : FdX M c g) (h0 : M1 (138 + 2 * c) = M (138 + 2 * c)) (h1 : M1 (139 + 2 * c) = M (139 + 2 * c)) : FdX M1 c g := by
  unfold FdX
  rw [h0, h1]
  exact h
theorem ROk_fr {j : Nat} {M M1 : Mem} (h : ROk j M) (h0 : M1 j 5 = M j 5) (h4 : M1 (j + 4) = M (j + 4)) (h5 : M1 (j + 5) = M (j + 5)) : ROk j M1 := by
  unfold ROk
  rw [h0, h4, h5]
  exact h
theorem v_hasSign {M : Mem} {c i n : Nat} {P : Pg} {g : Sg} {l : List Int32} (hP : wfP P n) (hF : FdX M c g) (hR : Req (RUN P l) (prC i M)) : s_FI_hasSignOf (138 + 2 * c) i M = some (bI (sgn (RUN P l) = g), M) := by
  obtain ⟨f1, f2, f3, f4, f5⟩ := hF
  obtain ⟨d, d1, d2, -⟩ := f1.2
  have hE := RUN_wf l hP
  obtain ⟨-, ⟨k, -, ⟨⟨e, e1, e2, -⟩, -⟩, -⟩, -⟩ := id hE
  rw [v_FI_hasSignOf f1 d2 d1 f2 f3 f4 (fun k hk => by rw [show 138 + 2 * c + 1 = 139 + 2 * c by omega]; exact f5 d d1 d2 k hk) ⟨e, e1, by
    have := hR.2.2.2.2.1
    rw [e2] at this
    exact this.symm⟩]
  exact congrArg some (congrArg (fun x => (x, M)) (bI_c (sg_iff hE hR f1)))
theorem v_SH_make {M : Mem} {c a b : Nat} {l : List Int32} (hc : c < 8) (hl : Inp M (92 + 4 * c) l) (hab : a ≤ b) (hb : b ≤ l.length) : (∃ M1, s_SH_makePart (92 + 4 * c) (nI a) (nI b) M = some M1 ∧ Inp M1 56 ((l.take b).drop a) ∧ ∀ q, q ≠ 56 → q ≠ 57 → M1 q = M q) ∧ (∃ M1, s_SH_makeRest (92 + 4 * c) (nI a) (nI b) M = some M1 ∧ Inp M1 56 (l.take a ++ l.drop b) ∧ ∀ q, q ≠ 56 → q ≠ 57 → M1 q = M q) := by
  have h6 := hl.2.1
  have hl1 : Inp (st M 56 1 0) (92 + 4 * c) l := Inp_fr hl (st_other (by omega)) (st_other (by omega))
  constructor
  · obtain ⟨M1, a1, a2, a3⟩ := v_IN_appendPart (j := 56) (i := 92 + 4 * c) (a := a) (b := b) (by omega) (Inp_nil 56) hl1 (by omega) (by omega) (by simp; omega)
    refine ⟨M1, ?_, by simpa using a2, fun q q1 q2 => by rw [a3 q q1 q2, st_other q1]⟩
    unfold s_SH_makePart
    rw [v_cut0, bv_s, a1]
    rfl
  · obtain ⟨M1, a1, a2, a3⟩ := v_IN_appendPart (j := 56) (i := 92 + 4 * c) (a := 0) (b := a) (by omega) (Inp_nil 56) hl1 (by omega) (by omega) (by simp; omega)
    have hl2 : Inp M1 (92 + 4 * c) l := Inp_fr hl1 (a3 _ (by omega) (by omega)) (a3 _ (by omega) (by omega))
    rw [List.drop_zero, List.nil_append] at a2
    obtain ⟨M2, b1, b2, b3⟩ := v_IN_appendPart (j := 56) (i := 92 + 4 * c) (a := b) (b := l.length) (by omega) a2 hl2 (by omega) (by omega) (by rw [List.length_take]; omega)
    rw [List.take_length] at b2
    refine ⟨M2, ?_, b2, fun q q1 q2 => by rw [b3 q q1 q2, a3 q q1 q2, st_other q1]⟩
    unfold s_SH_makeRest
    rw [v_cut0, bv_s, show (0 : Int32) = nI 0 from rfl, show st M 56 1 (nI 0) = st M 56 1 0 from rfl, a1, bv_s, hl2.1, b1]
    rfl
theorem v_SH_kf {P : Pg} {n c h : Nat} {g : Sg} {l : List Int32} {only : Bool} (hP : wfP P n) (hc : c < 8) (h1 : 1 ≤ h) (hn : h ≤ l.length) : ∀ d i M, i + d = h → ShX M P c g l →
    ∃ M1, lp (fun q : Int32 × Mem => l_SH_keepFirst_9 (138 + 2 * c) (nI h) (bI (only = true)) (92 + 4 * c) q.1 q.2) (nI i, M) = some (bI ((kfR P g l h only d i).isSome = true), M1) ∧ ShX M1 P c g ((kfR P g l h only d i).getD l) ∧ SFr c M M1 := by
  intro d
  induction d with
  | zero =>
    intro i M hi hS
    refine ⟨M, lp_inr ?_, hS, fun _ _ _ _ _ _ => rfl⟩
    show l_SH_keepFirst_9 _ _ _ _ (nI i) M = _
    unfold l_SH_keepFirst_9
    have h6 := hS.2.2.1.2.1
    rw [if_pos (nI_le (by omega) (by omega)), show kfR P g l h only 0 i = none from rfl, bI_f (show ¬ ((none : Option (List Int32)).isSome = true) by decide)]
  | succ d ih =>
    intro i M hi hS
    obtain ⟨p1, p2, p3, p4⟩ := id hS
    have h6 := p3.2.1
    have e1 := dv_1 (i := i) (n := l.length) (h := h) (by omega) hn
    have e2 := dv_2 (i := i) (n := l.length) (h := h) (by omega) (by omega)
    have hmul : ∀ k, k ≤ 6 → k * l.length < 2 ^ 31 := fun k hk => Nat.lt_of_le_of_lt (Nat.mul_le_mul hk h6) (by decide)
    have hcd : ∃ M2, (if bI (only = true) = 0 then s_SH_makeRest (92 + 4 * c) (nI (i * l.length / h)) (nI ((i + 1) * l.length / h)) M else s_SH_makePart (92 + 4 * c) (nI (i * l.length / h)) (nI ((i + 1) * l.length / h)) M) = some M2 ∧ Inp M2 56 (cdL l i h only) ∧ ∀ q, q ≠ 56 → q ≠ 57 → M2 q = M q := by
      obtain ⟨q1, q2⟩ := v_SH_make (a := i * l.length / h) (b := (i + 1) * l.length / h) hc p3 (by omega) (by omega)
      unfold cdL
      cases only with
      | true => rw [bI_t (show (true = true) from rfl), if_neg (by decide), if_pos rfl]; exact q1
      | false => rw [bI_f (show ¬ (false = true) by decide), if_pos rfl, if_neg (by decide)]; exact q2
    obtain ⟨M2, m1, m2, m3⟩ := hcd
    have r2 : ROk 20 M2 := ROk_fr p4 (by rw [m3 20 (by decide) (by decide)]) (m3 _ (by decide) (by decide)) (m3 _ (by decide) (by decide))
    obtain ⟨M3, s1, s2, s3, s4⟩ := v_RU_RUN (j := 20) (i := 56) (M := M2) (by decide) (by decide) (by rw [m3 2 (by decide) (by decide), m3 3 (by decide) (by decide), m3 4 (by decide) (by decide), m3 1 (by decide) (by decide)]; exact p1) hP m2 r2
    have o3 : ∀ a, ¬ (20 ≤ a ∧ a ≤ 25) → a ≠ 56 → a ≠ 57 → M3 a = M a := fun a a1 a2 a3 => by rw [s2 a (by omega), m3 a a2 a3]
    have hF3 : FdX M3 c g := FdX_fr p2 (o3 _ (by omega) (by omega) (by omega)) (o3 _ (by omega) (by omega) (by omega))
    have hst : l_SH_keepFirst_9 (138 + 2 * c) (nI h) (bI (only = true)) (92 + 4 * c) (nI i) M = if bI (sgn (RUN P (cdL l i h only)) = g) = 0 then some (.inl (nI (i + 1), M3)) else jw1 (j_SH_keepFirst_92 (92 + 4 * c) M3) := by
      unfold l_SH_keepFirst_9
      have hz : nI h ≠ 0 := nI_ne0 (by omega) (by omega)
      unfold cz
      simp only [nx]
      rw [if_neg (nI_ge (by omega) (by omega)), if_neg hz, if_neg hz, p3.1, ← nI_succ, pk_mul, pk_mul, pk_div (hmul i (by omega)) (by omega) (by omega), pk_div (hmul (i + 1) (by omega)) (by omega) (by omega)]
      have ht : j_SH_keepFirst_69 (138 + 2 * c) (nI h) (bI (only = true)) (92 + 4 * c) (nI i) M2 = if bI (sgn (RUN P (cdL l i h only)) = g) = 0 then some (.inl (nI (i + 1), M3)) else jw1 (j_SH_keepFirst_92 (92 + 4 * c) M3) := by
        unfold j_SH_keepFirst_69
        rw [s1, bv_s, v_hasSign hP hF3 s4, bi_s, nI_succ]
        rfl
      by_cases q : bI (only = true) = 0
      · rw [if_pos q] at m1 ⊢
        rw [m1, bv_s, ht]
      · rw [if_neg q] at m1 ⊢
        rw [m1, bv_s, ht]
    have hP3 : (M3 2, M3 3, M3 4, M3 1 3) = P := by rw [o3 2 (by decide) (by decide) (by decide), o3 3 (by decide) (by decide) (by decide), o3 4 (by decide) (by decide) (by decide), o3 1 (by decide) (by decide) (by decide)]; exact p1
    have hkf : kfR P g l h only (d + 1) i = if sgn (RUN P (cdL l i h only)) = g then some (cdL l i h only) else kfR P g l h only d (i + 1) := rfl
    rw [hkf]
    by_cases c1 : sgn (RUN P (cdL l i h only)) = g
    · rw [bI_t c1, if_neg (by decide)] at hst
      rw [if_pos c1]
      have m2' : Inp M3 56 (cdL l i h only) := Inp_fr m2 (s2 _ (by omega)) (s2 _ (by omega))
      obtain ⟨M4, t1, t2, t3⟩ := v_IN_copy (j := 92 + 4 * c) (i := 56) (M := M3) (by omega) m2'
      refine ⟨M4, lp_last (hst.trans ?_), ⟨?_, ?_, t2, ?_⟩, fun a a1 a2 a3 a4 a5 => ?_⟩
      · unfold j_SH_keepFirst_92
        rw [t1, bv_s, bI_t (show ((some (cdL l i h only)).isSome = true) from rfl)]
      · rw [t3 2 (by omega) (by omega), t3 3 (by omega) (by omega), t3 4 (by omega) (by omega), t3 1 (by omega) (by omega)]; exact hP3
      · exact FdX_fr hF3 (t3 _ (by omega) (by omega)) (t3 _ (by omega) (by omega))
      · exact ROk_fr s3 (by rw [t3 20 (by omega) (by omega)]) (t3 _ (by omega) (by omega)) (t3 _ (by omega) (by omega))
      · rw [t3 a a4 (by omega), o3 a a1 a2 a3]
    · rw [bI_f c1, if_pos rfl] at hst
      rw [if_neg c1]
      obtain ⟨M1, i1, i2, i3⟩ := ih (i + 1) M3 (by omega) ⟨hP3, hF3, Inp_fr p3 (o3 _ (by omega) (by omega) (by omega)) (o3 _ (by omega) (by omega) (by omega)), s3⟩
      exact ⟨M1, (lp_inl (b := fun q : Int32 × Mem => l_SH_keepFirst_9 (138 + 2 * c) (nI h) (bI (only = true)) (92 + 4 * c) q.1 q.2) hst).trans i1, i2, SFr_t (fun a a1 a2 a3 _ _ => o3 a a1 a2 a3) i3⟩
theorem v_SH_keepFirst {P : Pg} {n c h : Nat} {g : Sg} {l : List Int32} {M : Mem} (only : Bool) (hP : wfP P n) (hc : c < 8) (h1 : 1 ≤ h) (hn : h ≤ l.length) (hS : ShX M P c g l) : ∃ M1, s_SH_keepFirst (138 + 2 * c) (nI h) (bI (only = true)) M = some (bI ((kfR P g l h only h 0).isSome = true), M1) ∧ ShX M1 P c g ((kfR P g l h only h 0).getD l) ∧ SFr c M M1 := by
  obtain ⟨M1, a1, a2, a3⟩ := v_SH_kf (only := only) hP hc h1 hn h 0 M (by omega) hS
  refine ⟨M1, ?_, a2, a3⟩
  unfold s_SH_keepFirst
  simp only [nx]
  rw [show 2 * (138 + 2 * c) - 184 = 92 + 4 * c by omega]
  exact a1
theorem v_SH_loop {P : Pg} {n c : Nat} {g : Sg} (hP : wfP P n) (hc : c < 8) : ∀ f r l M, f ≤ 64 → 1 ≤ r → r ≤ 6 → ShX M P c g l → ∃ M1, lp (fun q : Int32 × Int32 × Mem => l_SH_shorten_5 (138 + 2 * c) q.1 q.2.1 q.2.2) (nI r, nI (64 - f), M) = some M1 ∧ ShX M1 P c g (shR P g f r l) ∧ SFr c M M1 := by
  intro f
  induction f with
  | zero =>
    intro r l M hf hr1 hr6 hS
    refine ⟨M, lp_inr ?_, hS, fun _ _ _ _ _ _ => rfl⟩
    show l_SH_shorten_5 _ _ (nI 64) M = _
    unfold l_SH_shorten_5
    rw [if_pos (by decide)]
  | succ f ih =>
    intro r l M hf hr1 hr6 hS
    have p3 := hS.2.2.1
    have h6 := p3.2.1
    have hnx : nI (64 - (f + 1)) + 1 = nI (64 - f) := by rw [nI_1, show 64 - (f + 1) + 1 = 64 - f by omega]
    have hmin : (if nI l.length < nI r then nI l.length else nI r) = nI (min r l.length) := by
      by_cases q : l.length < r
      · rw [if_pos (nI_lt q (by omega)), Nat.min_eq_right (by omega)]
      · rw [if_neg (fun w => q ((nI_ltI (by omega) (by omega)).mp w)), Nat.min_eq_left (by omega)]
    have h0 : l_SH_shorten_5 (138 + 2 * c) (nI r) (nI (64 - (f + 1))) M = if nI l.length = 0 then some (.inr M) else (if nI (min r l.length) < (2 : Int32) then (j_SH_shorten_58 (138 + 2 * c) (nI (64 - (f + 1))) (nI l.length) (nI (min r l.length)) M) else (bi (s_SH_keepFirst (138 + 2 * c) (nI (min r l.length)) (1 : Int32) M) (fun r43 M41 => if r43 = 0 then (j_SH_shorten_58 (138 + 2 * c) (nI (64 - (f + 1))) (nI l.length) (nI (min r l.length)) M41) else (some (.inl (2, nI (64 - f), M41)))))) := by
      unfold l_SH_shorten_5
      rw [if_neg (show ¬ (64 : Int32) ≤ nI (64 - (f + 1)) from nI_ge (b := 64) (by omega) (by decide)), show 2 * (138 + 2 * c) - 184 = 92 + 4 * c by omega, p3.1]
      simp only [nx]
      rw [hmin]
      unfold j_SH_shorten_100
      simp only [nx]
      rw [hnx]
    by_cases c0 : l.length = 0
    · refine ⟨M, lp_inr (h0.trans ?_), ?_, fun _ _ _ _ _ _ => rfl⟩
      · rw [if_pos (by rw [c0]; rfl)]
      · unfold shR
        rw [if_pos c0]
        exact hS
    rw [if_neg (nI_ne0 (by omega) (by omega))] at h0
    have hm1 : 1 ≤ min r l.length := by omega
    have hx1 : 1 ≤ min (2 * min r l.length) l.length := by omega
    have hx2 : min (2 * min r l.length) l.length ≤ 6 := by omega
    have hx3 : 1 ≤ max (min r l.length - 1) 2 := by omega
    have hx4 : max (min r l.length - 1) 2 ≤ 6 := by omega
    have hf4 : f ≤ 64 := by omega
    have hlp : ∀ (a b : Int32) (M2 : Mem), l_SH_shorten_5 (138 + 2 * c) (nI r) (nI (64 - (f + 1))) M = some (.inl (a, b, M2)) → lp (fun q : Int32 × Int32 × Mem => l_SH_shorten_5 (138 + 2 * c) q.1 q.2.1 q.2.2) (nI r, nI (64 - (f + 1)), M) = lp (fun q : Int32 × Int32 × Mem => l_SH_shorten_5 (138 + 2 * c) q.1 q.2.1 q.2.2) (a, b, M2) := fun a b M2 h => lp_inl (b := fun q : Int32 × Int32 × Mem => l_SH_shorten_5 (138 + 2 * c) q.1 q.2.1 q.2.2) (s := (nI r, nI (64 - (f + 1)), M)) (s1 := (a, b, M2)) h
    have hlr : ∀ (M2 : Mem), l_SH_shorten_5 (138 + 2 * c) (nI r) (nI (64 - (f + 1))) M = some (.inr M2) → lp (fun q : Int32 × Int32 × Mem => l_SH_shorten_5 (138 + 2 * c) q.1 q.2.1 q.2.2) (nI r, nI (64 - (f + 1)), M) = some M2 := fun M2 h => lp_inr (b := fun q : Int32 × Int32 × Mem => l_SH_shorten_5 (138 + 2 * c) q.1 q.2.1 q.2.2) (s := (nI r, nI (64 - (f + 1)), M)) h
    -- the second half of a round
    have h58 : ∀ M2, ShX M2 P c g l → SFr c M M2 → ∃ M1 res, j_SH_shorten_58 (138 + 2 * c) (nI (64 - (f + 1))) (nI l.length) (nI (min r l.length)) M2 = some res ∧ (match kfR P g l (min r l.length) false (min r l.length) 0 with
        | some l' => res = .inl (nI (max (min r l.length - 1) 2), nI (64 - f), M1) ∧ ShX M1 P c g l'
        | none => ShX M1 P c g l ∧ if min r l.length = l.length then res = .inr M1 else res = .inl (nI (min (2 * min r l.length) l.length), nI (64 - f), M1)) ∧ SFr c M M1 := fun M2 hS2 hF2 => by
      obtain ⟨M3, a1, a2, a3⟩ := v_SH_keepFirst false hP hc hm1 (Nat.min_le_right _ _) hS2
      rw [bI_f (show ¬ (false = true) by decide)] at a1
      unfold j_SH_shorten_58
      rw [a1, bi_s]
      unfold j_SH_shorten_100
      simp only [nx]
      rw [hnx]
      cases hk : kfR P g l (min r l.length) false (min r l.length) 0 with
      | some l' =>
        rw [hk] at a2
        rw [bI_t (show ((some l').isSome = true) from rfl), if_neg (by decide)]
        refine ⟨M3, _, rfl, ⟨?_, a2⟩, SFr_t hF2 a3⟩
        have : (if nI (min r l.length) - 1 < (2 : Int32) then (2 : Int32) else nI (min r l.length) - 1) = nI (max (min r l.length - 1) 2) := by
          rw [show (1 : Int32) = nI 1 from rfl, pk_sub hm1, show (2 : Int32) = nI 2 from rfl]
          by_cases q : min r l.length - 1 < 2
          · rw [if_pos (nI_lt q (by decide)), Nat.max_eq_right (by omega)]
          · rw [if_neg (fun w => q ((nI_ltI (by omega) (by decide)).mp w)), Nat.max_eq_left (by omega)]
        rw [this]
      | none =>
        rw [hk] at a2
        rw [bI_f (show ¬ ((none : Option (List Int32)).isSome = true) by decide), if_pos rfl]
        by_cases q : min r l.length = l.length
        · refine ⟨M3, _, if_pos (congrArg nI q), ⟨a2, ?_⟩, SFr_t hF2 a3⟩
          rw [if_pos q]
        · refine ⟨M3, _, if_neg (fun w => q ((nI_eq (by omega) (by omega)).mp w)), ⟨a2, ?_⟩, SFr_t hF2 a3⟩
          rw [if_neg q]
          have : (if nI l.length < (2 : Int32) * nI (min r l.length) then nI l.length else (2 : Int32) * nI (min r l.length)) = nI (min (2 * min r l.length) l.length) := by
            rw [show (2 : Int32) = nI 2 from rfl, pk_mul]
            by_cases w : l.length < 2 * min r l.length
            · rw [if_pos (nI_lt w (by omega)), Nat.min_eq_right (a := 2 * min r l.length) (by omega)]
            · rw [if_neg (fun z => w ((nI_ltI (by omega) (by omega)).mp z)), Nat.min_eq_left (a := 2 * min r l.length) (by omega)]
          rw [this]
    -- what follows when the first half kept nothing
    have hrest : ∀ M2, ShX M2 P c g l → SFr c M M2 → l_SH_shorten_5 (138 + 2 * c) (nI r) (nI (64 - (f + 1))) M = j_SH_shorten_58 (138 + 2 * c) (nI (64 - (f + 1))) (nI l.length) (nI (min r l.length)) M2 → (if 2 ≤ min r l.length then kfR P g l (min r l.length) true (min r l.length) 0 else none) = none → ∃ M1, lp (fun q : Int32 × Int32 × Mem => l_SH_shorten_5 (138 + 2 * c) q.1 q.2.1 q.2.2) (nI r, nI (64 - (f + 1)), M) = some M1 ∧ ShX M1 P c g (shR P g (f + 1) r l) ∧ SFr c M M1 := fun M2 hS2 hF2 heq hnone => by
      obtain ⟨M3, res, b1, b2, b3⟩ := h58 M2 hS2 hF2
      have hsh : shR P g (f + 1) r l = match kfR P g l (min r l.length) false (min r l.length) 0 with
          | some l' => shR P g f (max (min r l.length - 1) 2) l'
          | none => if min r l.length = l.length then l else shR P g f (min (2 * min r l.length) l.length) l := by
        rw [shR, if_neg c0, hnone]
        rfl
      rw [hsh]
      cases hk : kfR P g l (min r l.length) false (min r l.length) 0 with
      | some l' =>
        rw [hk] at b2
        obtain ⟨b4, b5⟩ := b2
        obtain ⟨M1, i1, i2, i3⟩ := ih (max (min r l.length - 1) 2) l' M3 hf4 hx3 hx4 b5
        subst b4
        exact ⟨M1, (hlp _ _ _ (heq.trans b1)).trans i1, i2, SFr_t b3 i3⟩
      | none =>
        rw [hk] at b2
        obtain ⟨b4, b5⟩ := b2
        by_cases q : min r l.length = l.length
        · rw [if_pos q] at b5
          subst b5
          refine ⟨M3, hlr _ (heq.trans b1), ?_, b3⟩
          show ShX M3 P c g (if min r l.length = l.length then l else shR P g f (min (2 * min r l.length) l.length) l)
          rw [if_pos q]
          exact b4
        · rw [if_neg q] at b5
          subst b5
          obtain ⟨M1, i1, i2, i3⟩ := ih (min (2 * min r l.length) l.length) l M3 hf4 hx1 hx2 b4
          refine ⟨M1, (hlp _ _ _ (heq.trans b1)).trans i1, ?_, SFr_t b3 i3⟩
          show ShX M1 P c g (if min r l.length = l.length then l else shR P g f (min (2 * min r l.length) l.length) l)
          rw [if_neg q]
          exact i2
    by_cases c2 : 2 ≤ min r l.length
    · have hnl : ¬ nI (min r l.length) < (2 : Int32) := fun w => absurd ((nI_ltI (a := min r l.length) (b := 2) (by omega) (by decide)).mp w) (by omega)
      rw [if_neg hnl] at h0
      obtain ⟨M3, a1, a2, a3⟩ := v_SH_keepFirst true hP hc hm1 (Nat.min_le_right _ _) hS
      rw [bI_t (show (true = true) from rfl)] at a1
      rw [a1, bi_s] at h0
      cases hk : kfR P g l (min r l.length) true (min r l.length) 0 with
      | some l' =>
        rw [hk] at a2 h0
        rw [bI_t (show ((some l').isSome = true) from rfl), if_neg (by decide)] at h0
        obtain ⟨M1, i1, i2, i3⟩ := ih 2 l' M3 hf4 (by decide) (by decide) a2
        refine ⟨M1, (hlp _ _ _ h0).trans i1, ?_, SFr_t a3 i3⟩
        have hsh : shR P g (f + 1) r l = shR P g f 2 l' := by
          rw [shR, if_neg c0, if_pos c2, hk]
        rw [hsh]
        exact i2
      | none =>
        rw [hk] at a2 h0
        rw [bI_f (show ¬ ((none : Option (List Int32)).isSome = true) by decide), if_pos rfl] at h0
        exact hrest M3 a2 a3 h0 (by rw [if_pos c2, hk])
    · rw [if_pos (show nI (min r l.length) < (2 : Int32) from nI_lt (b := 2) (by omega) (by decide))] at h0
      exact hrest M hS (fun _ _ _ _ _ _ => rfl) h0 (by rw [if_neg c2])
theorem v_SH_shorten {P : Pg} {n c : Nat} {g : Sg} {l : List Int32} {M : Mem} (hP : wfP P n) (hc : c < 8) (hS : ShX M P c g l) : ∃ M1, s_SH_shorten (138 + 2 * c) M = some M1 ∧ ShX M1 P c g (shR P g 64 2 l) ∧ SFr c M M1 := by
  obtain ⟨M1, a1, a2, a3⟩ := v_SH_loop hP hc 64 2 l M (by omega) (by omega) (by omega) hS
  exact ⟨M1, a1, a2, a3⟩
