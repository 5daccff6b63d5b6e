/-! Pure: the sign of a trap, in both. -/
abbrev Sg : Type := Int32 × Int32 × Int32 × Int32 × Int32 × Int32
def skR (s : Rs) (k : Nat) : Int32 := if nI k < s.2.1 then s.1.2.2.1 k else 0
def sgn (s : Rs) : Sg := (s.2.2.2.2.2, s.2.2.2.1, s.2.1, skR s 0, skR s 1, skR s 2)
def skS (g : Sg) (k : Nat) : Int32 := if k = 0 then g.2.2.2.1 else if k = 1 then g.2.2.2.2.1 else g.2.2.2.2.2
def sgOk (g : Sg) : Prop := (1 ≤ g.1 ∧ g.1 ≤ 4) ∧ ∃ d, d ≤ 3 ∧ g.2.2.1 = nI d ∧ ∀ k, d ≤ k → k < 3 → skS g k = 0
theorem skS_sgn (s : Rs) {k : Nat} (hk : k < 3) : skS (sgn s) k = skR s k := by
  rcases (show k = 0 ∨ k = 1 ∨ k = 2 by omega) with rfl | rfl | rfl <;> rfl
theorem skR_lt {s : Rs} {d k : Nat} (hd : s.2.1 = nI d) (h3 : d ≤ 3) (hk : k < 3) : skR s k = if k < d then s.1.2.2.1 k else 0 := by
  unfold skR
  rw [hd]
  by_cases c : k < d
  · rw [if_pos (nI_lt c (by omega)), if_pos c]
  · rw [if_neg (fun q => c ((nI_ltI (by omega) (by omega)).mp q)), if_neg c]
theorem sgn_Req {s t : Rs} (hw : wfR s) (h : Req s t) (hs : s.2.2.2.2.1 ≠ 0) : sgn s = sgn t := by
  obtain ⟨⟨d, d1, d2, -⟩, -⟩ := hw
  have d3 : t.2.1 = nI d := by rw [← h.2.2.2.2.1]; exact d2
  have hk : ∀ k, k < 3 → skR s k = skR t k := fun k hk => by
    rw [skR_lt d2 d1 hk, skR_lt d3 d1 hk]
    by_cases c : k < d
    · rw [if_pos c, if_pos c]; exact h.2.2.1 d d1 d2 k c
    · rw [if_neg c, if_neg c]
  unfold sgn
  rw [hk 0 (by decide), hk 1 (by decide), hk 2 (by decide), h.2.2.2.2.2.2.1 hs, h.2.2.2.2.1, h.2.2.2.2.2.2.2.2]
theorem sg_iff {s t : Rs} {g : Sg} (hs : wfE s) (hR : Req s t) (hg : sgOk g) : sgn t = g ↔ sgn s = g := by
  obtain ⟨-, ⟨k, -, hw, -⟩, h3⟩ := hs
  obtain ⟨⟨g1, g2⟩, -⟩ := hg
  have ho := hR.2.2.2.2.2.2.2.2
  have aux : s.2.2.2.2.2 = g.1 → sgn s = sgn t := fun e => by
    refine sgn_Req hw hR ?_
    rcases h3 with h | h | h
    · rw [← e, h] at g1; exact absurd g1 (by decide)
    · rw [← e, h] at g2; exact absurd g2 (by decide)
    · exact h
  constructor
  · intro h
    rw [aux (by rw [ho, ← h]; rfl)]; exact h
  · intro h
    rw [← aux (by rw [← h]; rfl)]; exact h
theorem sgOk_run {s : Rs} (hs : wfE s) (h1 : 1 ≤ s.2.2.2.2.2 ∧ s.2.2.2.2.2 ≤ 4) : sgOk (sgn s) := by
  obtain ⟨-, ⟨k, -, ⟨⟨d, d1, d2, -⟩, -⟩, -⟩, -⟩ := hs
  refine ⟨h1, d, d1, d2, fun k hk h3 => ?_⟩
  rw [skS_sgn s h3, skR_lt d2 d1 h3, if_neg (by omega)]
theorem sg_ext {g h : Sg} (h1 : g.1 = h.1) (h2 : g.2.1 = h.2.1) (h3 : g.2.2.1 = h.2.2.1) (h4 : ∀ k, k < 3 → skS g k = skS h k) : g = h := by
  have a := h4 0 (by decide)
  have b := h4 1 (by decide)
  have c := h4 2 (by decide)
  obtain ⟨g1, g2, g3, g4, g5, g6⟩ := g
  obtain ⟨k1, k2, k3, k4, k5, k6⟩ := h
  have a : g4 = k4 := a
  have b : g5 = k5 := b
  have c : g6 = k6 := c
  have h1 : g1 = k1 := h1
  have h2 : g2 = k2 := h2
  have h3 : g3 = k3 := h3
  rw [a, b, c, h1, h2, h3]
theorem bI_c {A B : Prop} [Decidable A] [Decidable B] (h : A ↔ B) : bI A = bI B := by
  by_cases a : A
  · rw [bI_t a, bI_t (h.mp a)]
  · rw [bI_f a, bI_f (fun b => a (h.mpr b))]
/-- latest first -/
def lfS (g : Sg) (d i : Nat) : Int32 := if i < d then skS g (d - 1 - i) else 0
theorem v_onStack {j d k : Nat} {M : Mem} (hd : M j 6 = nI d) (h3 : d ≤ 3) (hk : k < 3) : s_RU_onStack j (nI k) M = some (if k < d then M (j + 3) (d - 1 - k) else 0, M) := by
  unfold s_RU_onStack
  simp only [nx]
  rw [hd, if_neg (nI_pos (by omega))]
  by_cases c : k < d
  · rw [show (1 : Int32) = nI 1 from rfl, pk_sub (by omega), pk_sub (by omega), if_neg (nI_pos (by omega)), ck_i (vp_in_nI (by omega) (by decide)), nI_clamp (by omega), if_pos c]
  · have hn : nI d - 1 - nI k < 0 := by
      rcases Nat.eq_zero_or_pos d with e | e
      · subst e
        rcases (show k = 0 ∨ k = 1 ∨ k = 2 by omega) with rfl | rfl | rfl <;> decide
      · rw [show (1 : Int32) = nI 1 from rfl, pk_sub (by omega)]
        exact pk_sneg (by omega) (by omega)
    rw [if_pos hn, if_neg c]
theorem v_FI_hasSignOf {j i : Nat} {M : Mem} {g : Sg} {d : Nat} (hg : sgOk g) (hgd : g.2.2.1 = nI d) (hd3 : d ≤ 3) (m3 : M j 3 = g.1) (m4 : M j 4 = g.2.1) (m5 : M j 5 = g.2.2.1) (ml : ∀ k, k < 3 → M (j + 1) k = lfS g d k) (hw : ∃ e, e ≤ 3 ∧ M i 6 = nI e) : s_FI_hasSignOf j i M = some (bI (sgn (prC i M) = g), M) := by
  obtain ⟨-, d', hd', hgd', hgz⟩ := hg
  have : d' = d := (nI_eq (by omega) (by omega)).mp (by rw [← hgd', hgd])
  subst this
  unfold s_FI_hasSignOf
  rw [m3, m4, m5]
  by_cases c1 : g.1 = M i 10
  · rw [if_pos c1]
    by_cases c2 : g.2.1 = M i 8
    · rw [if_pos c2]
      by_cases c3 : g.2.2.1 = M i 6
      · rw [if_pos c3]
        have hd : M i 6 = nI d' := by rw [← c3]; exact hgd
        have hpd : (prC i M).2.1 = nI d' := hd
        have hps : (prC i M).1.2.2.1 = M (i + 3) := rfl
        have hst : ∀ k, k < 3 → l_FI_hasSignOf_37 j i (nI k) M = if lfS g d' k = (if k < d' then M (i + 3) (d' - 1 - k) else 0) then some (.inl (nI (k + 1), M)) else some (.inr (0, M)) := fun k hk => by
          unfold l_FI_hasSignOf_37
          rw [if_neg (show ¬ (3 : Int32) ≤ nI k from nI_ge (b := 3) hk (by decide)), ck_i (vp_in_nI hk (by decide)), v_onStack hd hd3 hk, bi_s, nI_clamp (by omega), ml k hk, nI_succ]
          rfl
        have hlast : l_FI_hasSignOf_37 j i (nI 3) M = some (.inr (1, M)) := by
          unfold l_FI_hasSignOf_37
          rw [if_pos (by decide)]
        have hloop : ∀ dd k, k + dd = 3 → lp (fun q : Int32 × Mem => l_FI_hasSignOf_37 j i q.1 q.2) (nI k, M) = some (@bI (∀ q, q < 3 → k ≤ q → lfS g d' q = (if q < d' then M (i + 3) (d' - 1 - q) else 0)) (Classical.propDecidable _), M) := by
          intro dd
          induction dd with
          | zero =>
            intro k hk
            have : k = 3 := by omega
            subst this
            rw [@bI_t _ (Classical.propDecidable _) (fun q h1 h2 => by omega)]
            exact lp_inr hlast
          | succ dd ih =>
            intro k hk
            have h0 := hst k (by omega)
            by_cases e : lfS g d' k = (if k < d' then M (i + 3) (d' - 1 - k) else 0)
            · rw [if_pos e] at h0
              refine (lp_inl (b := fun q : Int32 × Mem => l_FI_hasSignOf_37 j i q.1 q.2) h0).trans ?_
              rw [ih (k + 1) (by omega)]
              refine congrArg some (congrArg (fun x => (x, M)) (@bI_c _ _ (Classical.propDecidable _) (Classical.propDecidable _) ⟨fun h q q1 q2 => ?_, fun h q q1 q2 => h q q1 (by omega)⟩))
              by_cases e2 : q = k
              · subst e2; exact e
              · exact h q q1 (by omega)
            · rw [if_neg e] at h0
              rw [@bI_f _ (Classical.propDecidable _) (fun h => e (h k (by omega) (Nat.le_refl _)))]
              exact lp_inr h0
        refine (hloop 3 0 (by omega)).trans ?_
        refine congrArg some (congrArg (fun x => (x, M)) (@bI_c _ _ (Classical.propDecidable _) _ ⟨fun h => ?_, fun h q q1 _ => ?_⟩))
        · refine sg_ext c1.symm c2.symm c3.symm (fun k hk => ?_)
          rw [skS_sgn _ hk, skR_lt hpd hd3 hk, hps]
          by_cases e : k < d'
          · rw [if_pos e]
            have := h (d' - 1 - k) (by omega) (by omega)
            unfold lfS at this
            rw [if_pos (by omega), if_pos (by omega), show d' - 1 - (d' - 1 - k) = k by omega] at this
            exact this.symm
          · rw [if_neg e, hgz k (by omega) hk]
        · unfold lfS
          by_cases e : q < d'
          · rw [if_pos e, if_pos e, ← h, skS_sgn _ (by omega), skR_lt hpd hd3 (by omega), if_pos (by omega), hps]
          · rw [if_neg e, if_neg e]
      · rw [if_neg c3, bI_f (fun h => c3 (by rw [← h]; rfl))]
    · rw [if_neg c2, bI_f (fun h => c2 (by rw [← h]; rfl))]
  · rw [if_neg c1, bI_f (fun h => c1 (by rw [← h]; rfl))]
/-- the reference's flag over the first k places -/
def sgB (b : Bool) (M : Mem) (c : Nat) : Nat → Bool
  | 0 => b
  | k + 1 => sgB b M c k && decide (M 34 k = M 42 (3 * c + k))
theorem sgB_iff (b : Bool) (M : Mem) (c : Nat) : ∀ n, sgB b M c n = true ↔ b = true ∧ ∀ k, k < n → M 34 k = M 42 (3 * c + k) := by
  intro n
  induction n with
  | zero => exact ⟨fun h => ⟨h, fun k hk => absurd hk (by omega)⟩, fun h => h.1⟩
  | succ n ih =>
    show (sgB b M c n && decide (M 34 n = M 42 (3 * c + n))) = true ↔ _
    rw [Bool.and_eq_true, ih, decide_eq_true_iff]
    constructor
    · rintro ⟨⟨h1, h2⟩, h3⟩
      refine ⟨h1, fun k hk => ?_⟩
      by_cases e : k = n
      · subst e; exact h3
      · exact h2 k (by omega)
    · rintro ⟨h1, h2⟩
      exact ⟨⟨h1, fun k hk => h2 k (by omega)⟩, h2 n (by omega)⟩
theorem v_MO_sg44 {M : Mem} {c d : Nat} (b : Bool) (hc : c < 8) (hd : M 41 c = nI d) (hd3 : d ≤ 3) : j_MO_signed_44 (nI c) (bI (b = true)) M = some (bI (sgB b M c d = true), M) := by
  have hb : ∀ k, k < d → (fun q : Int32 × Int32 × Mem => l_MO_signed_47 (nI c) q.1 q.2.1 q.2.2) (bI (sgB b M c k = true), nI k, M) = some (.inl (bI (sgB b M c (k + 1) = true), nI (k + 1), M)) := fun k hk => by
    show l_MO_signed_47 (nI c) (bI (sgB b M c k = true)) (nI k) M = _
    have e1 : (3 : Int32) * nI c + nI k = nI (3 * c + k) := by rw [show (3 : Int32) = nI 3 from rfl, pk_mul, nI_add]
    have hs : sgB b M c (k + 1) = (sgB b M c k && decide (M 34 k = M 42 (3 * c + k))) := rfl
    unfold l_MO_signed_47 j_MO_signed_84 j_MO_signed_85
    rw [ck_i (vp_in_nI hc (by decide)), nI_clamp (by omega), hd, if_neg (nI_ge hk (by omega)), e1, ck_i (vp_in_nI (by omega) (by decide)), ck_i (vp_in_nI (by omega) (by decide)), nI_clamp (by omega), nI_clamp (by omega), hs]
    simp only [nx]
    rw [← nI_succ]
    by_cases c0 : sgB b M c k = true
    · rw [bI_t c0, if_neg (by decide), c0, Bool.true_and]
      by_cases c1 : M 34 k = M 42 (3 * c + k)
      · rw [if_pos c1, bI_t (decide_eq_true c1)]
      · rw [if_neg c1, bI_f (by rw [decide_eq_true_iff]; exact c1)]
    · rw [bI_f c0, if_pos rfl, bI_f (by rw [Bool.and_eq_true]; exact fun h => c0 h.1)]
  have h0 := lp_cnt0 (b := fun q : Int32 × Int32 × Mem => l_MO_signed_47 (nI c) q.1 q.2.1 q.2.2) (fun k => (bI (sgB b M c k = true), nI k, M)) d hb
  unfold j_MO_signed_44
  simp only [nx]
  refine h0.trans (lp_inr ?_)
  show l_MO_signed_47 (nI c) (bI (sgB b M c d = true)) (nI d) M = _
  unfold l_MO_signed_47
  rw [ck_i (vp_in_nI hc (by decide)), nI_clamp (by omega), hd, if_pos (nI_le (Nat.le_refl _) (by omega)), cb_t (bI_or _)]
theorem v_MO_signed {M : Mem} {c : Nat} {g : Sg} (hc : c < 8) (hg : sgOk g) (m3 : M 39 c = g.1) (m4 : M 40 c = g.2.1) (m5 : M 41 c = g.2.2.1) (ml : ∀ k, k < 3 → M 42 (3 * c + k) = skS g k) : s_MO_signed (nI c) M = some (bI (sgn (prM M) = g), M) := by
  obtain ⟨-, d, hd3, hgd, hgz⟩ := hg
  have hd : M 41 c = nI d := m5.trans hgd
  have h43 : j_MO_signed_43 (nI c) M = some (0, M) := by
    unfold j_MO_signed_43
    have := v_MO_sg44 (M := M) (d := d) false hc hd hd3
    rw [bI_f (show ¬ (false = true) by decide), bI_f (fun h => absurd ((sgB_iff false M c d).mp h).1 (by decide))] at this
    exact this
  unfold s_MO_signed
  rw [ck_i (vp_in_nI hc (by decide)), ck_i (vp_in_nI hc (by decide)), ck_i (vp_in_nI hc (by decide)), nI_clamp (by omega), m3, m4, m5, h43]
  by_cases c1 : M 26 16 = g.1
  · rw [if_pos c1]
    by_cases c2 : M 26 14 = g.2.1
    · rw [if_pos c2]
      by_cases c3 : M 26 12 = g.2.2.1
      · rw [if_pos c3]
        have := v_MO_sg44 (M := M) (d := d) true hc hd hd3
        rw [bI_t (show (true = true) from rfl)] at this
        rw [this]
        have hpd : (prM M).2.1 = nI d := c3.trans hgd
        have hps : (prM M).1.2.2.1 = M 34 := rfl
        refine congrArg some (congrArg (fun x => (x, M)) (bI_c ?_))
        rw [sgB_iff]
        constructor
        · rintro ⟨-, h⟩
          refine sg_ext c1 c2 c3 (fun k hk => ?_)
          rw [skS_sgn _ hk, skR_lt hpd hd3 hk, hps]
          by_cases e : k < d
          · rw [if_pos e, h k e, ml k hk]
          · rw [if_neg e, hgz k (by omega) hk]
        · intro h
          refine ⟨rfl, fun k hk => ?_⟩
          rw [ml k (by omega), ← h, skS_sgn _ (by omega), skR_lt hpd hd3 (by omega), if_pos hk, hps]
      · rw [if_neg c3, bI_f (fun h => c3 (by rw [← h]; rfl))]
    · rw [if_neg c2, bI_f (fun h => c2 (by rw [← h]; rfl))]
  · rw [if_neg c1, bI_f (fun h => c1 (by rw [← h]; rfl))]
