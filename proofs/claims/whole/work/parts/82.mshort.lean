/-! Pure: the reference's shortening. -/
/-- the first k bytes of l, those within a .. b-1 or those without -/
def fqL (l : List Int32) (a b : Nat) (only : Bool) : Nat → List Int32
  | 0 => []
  | k + 1 => fqL l a b only k ++ (if decide (a ≤ k ∧ k < b) = only then [l.getD k 0] else [])
theorem gD {l : List Int32} {k : Nat} (h : k < l.length) : l.getD k 0 = l[k] := by
  rw [List.getD_eq_getElem?_getD, List.getElem?_eq_getElem h]; rfl
theorem tk_1 {l : List Int32} {k : Nat} (h : k < l.length) : l.take (k + 1) = l.take k ++ [l.getD k 0] := by
  rw [List.take_succ_eq_append_getElem h, gD h]
theorem fq_t {l : List Int32} {a b : Nat} (hab : a ≤ b) (hb : b ≤ l.length) : ∀ k, k ≤ l.length → fqL l a b true k = (l.take (min k b)).drop a := by
  intro k
  induction k with
  | zero => intro _; simp [fqL]
  | succ k ih =>
    intro hk
    show fqL l a b true k ++ (if decide (a ≤ k ∧ k < b) = true then [l.getD k 0] else []) = _
    rw [ih (by omega)]
    by_cases c : a ≤ k ∧ k < b
    · rw [if_pos (decide_eq_true c), Nat.min_eq_left (by omega), Nat.min_eq_left (by omega), tk_1 (by omega), List.drop_append_of_le_length (by rw [List.length_take]; omega)]
    · rw [if_neg (by rw [decide_eq_true_iff]; exact c), List.append_nil]
      by_cases d : k < b
      · rw [Nat.min_eq_left (by omega), Nat.min_eq_left (by omega), List.drop_eq_nil_of_le (by rw [List.length_take]; omega), List.drop_eq_nil_of_le (by rw [List.length_take]; omega)]
      · rw [Nat.min_eq_right (by omega), Nat.min_eq_right (by omega)]
theorem fq_f {l : List Int32} {a b : Nat} (hab : a ≤ b) (hb : b ≤ l.length) : ∀ k, k ≤ l.length → fqL l a b false k = l.take (min k a) ++ (l.take k).drop b := by
  intro k
  induction k with
  | zero => intro _; simp [fqL]
  | succ k ih =>
    intro hk
    show fqL l a b false k ++ (if decide (a ≤ k ∧ k < b) = false then [l.getD k 0] else []) = _
    rw [ih (by omega)]
    by_cases c : a ≤ k ∧ k < b
    · rw [if_neg (by rw [decide_eq_false_iff_not]; exact fun q => q c), List.append_nil, Nat.min_eq_right (by omega), Nat.min_eq_right (by omega), List.drop_eq_nil_of_le (by rw [List.length_take]; omega), List.drop_eq_nil_of_le (by rw [List.length_take]; omega)]
    · rw [if_pos (by rw [decide_eq_false_iff_not]; exact c)]
      by_cases d : k < a
      · rw [Nat.min_eq_left (by omega), Nat.min_eq_left (by omega), List.drop_eq_nil_of_le (by rw [List.length_take]; omega), List.drop_eq_nil_of_le (by rw [List.length_take]; omega), tk_1 (by omega), List.append_nil, List.append_nil]
      · rw [Nat.min_eq_right (by omega), Nat.min_eq_right (by omega), tk_1 (l := l) (k := k) (by omega), List.drop_append_of_le_length (by rw [List.length_take]; omega), List.append_assoc]
theorem fq_cd {l : List Int32} {i h : Nat} (only : Bool) (h1 : 1 ≤ h) (hn : h ≤ l.length) (hi : i < h) : fqL l (i * l.length / h) ((i + 1) * l.length / h) only l.length = cdL l i h only := by
  have e1 := dv_1 (i := i) (n := l.length) (h := h) (by omega) hn
  have e2 := dv_2 (i := i) (n := l.length) (h := h) (by omega) hi
  unfold cdL
  generalize (i + 1) * l.length / h = A at *
  generalize i * l.length / h = B at *
  cases only with
  | true => rw [fq_t (by omega) e2 _ (Nat.le_refl _), Nat.min_eq_right e2]; rfl
  | false => rw [fq_f (by omega) e2 _ (Nat.le_refl _), Nat.min_eq_right (by omega), List.take_length]; rfl
theorem fq_len (l : List Int32) (a b : Nat) (only : Bool) : ∀ k, (fqL l a b only k).length ≤ k := by
  intro k
  induction k with
  | zero => exact Nat.le_refl 0
  | succ k ih =>
    show (fqL l a b only k ++ (if decide (a ≤ k ∧ k < b) = only then [l.getD k 0] else [])).length ≤ k + 1
    rw [List.length_append]
    split
    · simp; omega
    · simp; omega
theorem Row_ap {f : Nat → Int32} {l : List Int32} {b : Int32} (h : Row f 0 l) : Row (upd f l.length b) 0 (l ++ [b]) := by
  intro k hk
  rw [List.length_append, List.length_singleton] at hk
  rw [Nat.zero_add]
  by_cases e : k = l.length
  · subst e; rw [pk_us]; simp
  · have := h k (by omega)
    rw [Nat.zero_add] at this
    rw [pk_un e, this, List.getElem_append_left]
/-- one finding, as the reference has it: its sign; its shortest input -/
def FdM (M : Mem) (c : Nat) (g : Sg) : Prop := sgOk g ∧ M 39 c = g.1 ∧ M 40 c = g.2.1 ∧ M 41 c = g.2.2.1 ∧ ∀ k, k < 3 → M 42 (3 * c + k) = skS g k
def BrM (M : Mem) (c : Nat) (l : List Int32) : Prop := M 47 c = nI l.length ∧ l.length ≤ 6 ∧ Row (M 46) (6 * c) l
def ShM (M : Mem) (P : Pg) (c : Nat) (g : Sg) (l : List Int32) : Prop := MP M P ∧ FdM M c g ∧ BrM M c l
def HF (c : Nat) (M M1 : Mem) : Prop := (∀ a, a ≠ 26 → ¬ (31 ≤ a ∧ a ≤ 35) → a ≠ 46 → a ≠ 47 → M1 a = M a) ∧ (∀ k, k ≠ 8 → ¬ (12 ≤ k ∧ k ≤ 16) → M1 26 k = M 26 k) ∧ (∀ q, (q < 6 * c ∨ 6 * c + 6 ≤ q) → M1 46 q = M 46 q) ∧ (∀ q, q ≠ c → M1 47 q = M 47 q)
theorem HF_r (c : Nat) (M : Mem) : HF c M M := ⟨fun _ _ _ _ _ => rfl, fun _ _ _ => rfl, fun _ _ => rfl, fun _ _ => rfl⟩
theorem HF_t {c : Nat} {M M1 M2 : Mem} (h : HF c M M1) (g : HF c M1 M2) : HF c M M2 := ⟨fun a a1 a2 a3 a4 => (g.1 a a1 a2 a3 a4).trans (h.1 a a1 a2 a3 a4), fun k k1 k2 => (g.2.1 k k1 k2).trans (h.2.1 k k1 k2), fun q h1 => (g.2.2.1 q h1).trans (h.2.2.1 q h1), fun q h1 => (g.2.2.2 q h1).trans (h.2.2.2 q h1)⟩
theorem RF_HF {c : Nat} {M M1 : Mem} (h : RF M M1) : HF c M M1 := ⟨fun a a1 a2 _ _ => h.1 a a1 a2, h.2, fun q _ => by rw [h.1 46 (by decide) (by decide)], fun q _ => by rw [h.1 47 (by decide) (by decide)]⟩
theorem MP_HF {c : Nat} {M M1 : Mem} {P : Pg} (h : MP M P) (f : HF c M M1) : MP M1 P := by
  unfold MP
  rw [f.1 27 (by decide) (by decide) (by decide) (by decide), f.1 28 (by decide) (by decide) (by decide) (by decide), f.1 29 (by decide) (by decide) (by decide) (by decide), f.2.1 0 (by decide) (by decide)]
  exact h
theorem FdM_HF {c c' : Nat} {M M1 : Mem} {g : Sg} (h : FdM M c' g) (f : HF c M M1) : FdM M1 c' g := by
  unfold FdM
  rw [f.1 39 (by decide) (by decide) (by decide) (by decide), f.1 40 (by decide) (by decide) (by decide) (by decide), f.1 41 (by decide) (by decide) (by decide) (by decide), f.1 42 (by decide) (by decide) (by decide) (by decide)]
  exact h
theorem BrM_RF {c : Nat} {M M1 : Mem} {l : List Int32} (h : BrM M c l) (f : RF M M1) : BrM M1 c l := by
  unfold BrM
  rw [f.1 46 (by decide) (by decide), f.1 47 (by decide) (by decide)]
  exact h
theorem v_MO_stillLoop {c a b : Nat} {l : List Int32} {only : Bool} (hc : c < 8) (ha : a < 2 ^ 31) (hb : b < 2 ^ 31) : ∀ d k M, k + d = l.length → BrM M c l → Row (M 31) 0 (fqL l a b only k) → M 26 8 = nI (fqL l a b only k).length → ∃ M1, lp (fun q : Int32 × Mem => l_MO_still_8 (nI c) (nI a) (nI b) (bI (only = true)) q.1 q.2) (nI k, M) = j_MO_still_82 (nI c) M1 ∧ RF M M1 ∧ Row (M1 31) 0 (fqL l a b only l.length) ∧ M1 26 8 = nI (fqL l a b only l.length).length := by
  intro d
  induction d with
  | zero =>
    intro k M hk hB h1 h2
    have : k = l.length := by omega
    subst this
    refine ⟨M, lp_last ?_, RF_r M, h1, h2⟩
    show l_MO_still_8 _ _ _ _ (nI l.length) M = _
    unfold l_MO_still_8
    have h6 := hB.2.1
    rw [ck_i (vp_in_nI hc (by decide)), nI_clamp (by omega), hB.1, if_pos (nI_le (Nat.le_refl _) (by omega))]
  | succ d ih =>
    intro k M hk hB h1 h2
    have h6 := hB.2.1
    have e1 : (6 : Int32) * nI c + nI k = nI (6 * c + k) := by rw [show (6 : Int32) = nI 6 from rfl, pk_mul, nI_add]
    have hle := fq_len l a b only k
    have hin : l_MO_still_8 (nI c) (nI a) (nI b) (bI (only = true)) (nI k) M = j_MO_still_36 (nI c) (nI a) (nI b) (bI (only = true)) (nI k) (bI (decide (a ≤ k ∧ k < b) = true)) M := by
      unfold l_MO_still_8 j_MO_still_35
      rw [ck_i (vp_in_nI hc (by decide)), nI_clamp (by omega), hB.1, if_neg (nI_ge (by omega) (by omega))]
      by_cases c1 : k < a
      · rw [if_pos (nI_lt c1 ha), bI_f (P := decide (a ≤ k ∧ k < b) = true) (by rw [decide_eq_true_iff]; omega)]
      · rw [if_neg (fun q => c1 ((nI_ltI (by omega) ha).mp q))]
        by_cases c2 : b ≤ k
        · rw [if_pos (nI_le c2 (by omega)), bI_f (P := decide (a ≤ k ∧ k < b) = true) (by rw [decide_eq_true_iff]; omega)]
        · rw [if_neg (nI_ge (by omega) hb), bI_t (P := decide (a ≤ k ∧ k < b) = true) (by rw [decide_eq_true_iff]; omega)]
    have hfl : (bI (decide (a ≤ k ∧ k < b) = true) = bI (only = true)) ↔ (decide (a ≤ k ∧ k < b) = only) := by
      cases only <;> cases decide (a ≤ k ∧ k < b) <;> decide
    have hstep : ∃ M2, l_MO_still_8 (nI c) (nI a) (nI b) (bI (only = true)) (nI k) M = some (.inl (nI (k + 1), M2)) ∧ RF M M2 ∧ Row (M2 31) 0 (fqL l a b only (k + 1)) ∧ M2 26 8 = nI (fqL l a b only (k + 1)).length := by
      rw [hin, show fqL l a b only (k + 1) = fqL l a b only k ++ (if decide (a ≤ k ∧ k < b) = only then [l.getD k 0] else []) from rfl]
      unfold j_MO_still_36 j_MO_still_76
      by_cases c1 : decide (a ≤ k ∧ k < b) = only
      · rw [if_pos (hfl.mpr c1), if_pos c1, e1, ck_i (vp_in_nI (by omega) (by decide)), h2, ck_i (vp_in_nI (by omega) (by decide)), nI_clamp (by omega), nI_clamp (by omega), hB.2.2 k (by omega)]
        simp only [nx]
        refine ⟨st (st M 31 (fqL l a b only k).length l[k]) 26 8 (nI ((fqL l a b only k).length + 1)), ?_, ⟨fun x x1 x2 => ?_, fun q q1 q2 => ?_⟩, ?_, ?_⟩
        · rw [st_other (show (26 : Nat) ≠ 31 by decide), h2, nI_1, nI_1]
        · rw [st_other x1, st_other (by omega)]
        · rw [st_ap, if_pos rfl, if_neg q1, st_other (by decide)]
        · rw [st_other (by decide), st_same, gD (by omega)]; exact Row_ap h1
        · rw [st_ap, if_pos rfl, if_pos rfl, List.length_append]; rfl
      · rw [if_neg (fun q => c1 (hfl.mp q)), if_neg c1, List.append_nil]
        simp only [nx]
        exact ⟨M, by rw [nI_1], RF_r M, h1, h2⟩
    obtain ⟨M2, s1, s2, s3, s4⟩ := hstep
    obtain ⟨M1, i1, i2, i3, i4⟩ := ih (k + 1) M2 (by omega) (BrM_RF hB s2) s3 s4
    exact ⟨M1, (lp_inl (b := fun q : Int32 × Mem => l_MO_still_8 (nI c) (nI a) (nI b) (bI (only = true)) q.1 q.2) (s := (nI k, M)) (s1 := (nI (k + 1), M2)) s1).trans i1, RF_t s2 i2, i3, i4⟩
theorem v_MO_still {M : Mem} {P : Pg} {n c i h : Nat} {g : Sg} {l : List Int32} (only : Bool) (hP : wfP P n) (hc : c < 8) (h1 : 1 ≤ h) (hn : h ≤ l.length) (hi : i < h) (hS : ShM M P c g l) : ∃ M1, s_MO_still (nI c) (nI (i * l.length / h)) (nI ((i + 1) * l.length / h)) (bI (only = true)) M = some (bI (sgn (RUN P (cdL l i h only)) = g), M1) ∧ RF M M1 ∧ Row (M1 31) 0 (cdL l i h only) ∧ M1 26 8 = nI (cdL l i h only).length ∧ (cdL l i h only).length ≤ 6 := by
  obtain ⟨p1, p2, p3⟩ := hS
  have h6 := p3.2.1
  have e2 := dv_2 (i := i) (n := l.length) (h := h) (by omega) hi
  have e1 := dv_1 (i := i) (n := l.length) (h := h) (by omega) hn
  have fA : RF M (st M 26 8 0) := ⟨fun a a1 _ => st_other a1, fun k k1 _ => by rw [st_ap, if_pos rfl, if_neg k1]⟩
  obtain ⟨M2, s1, s2, s3, s4⟩ := v_MO_stillLoop (a := i * l.length / h) (b := (i + 1) * l.length / h) (only := only) hc (by omega) (by omega) l.length 0 (st M 26 8 0) (by omega) (BrM_RF p3 fA) (fun k hk => absurd hk (by simp [fqL])) (by rw [st_ap, if_pos rfl, if_pos rfl]; rfl)
  have hlen := fq_len l (i * l.length / h) ((i + 1) * l.length / h) only l.length
  rw [fq_cd only h1 hn hi] at s3 s4 hlen
  have f2 : RF M M2 := RF_t fA s2
  obtain ⟨M3, r1, r2, r3, r4, r5⟩ := v_MO_RUN' (M := M2) (P := P) (l := cdL l i h only) (by
    have := MP_SF p1 (RF_SF f2)
    exact this) hP s3 s4 (by omega)
  have f3 : RF M M3 := RF_t f2 r2
  have hF3 := FdM_HF (c := c) p2 (RF_HF f3)
  refine ⟨M3, ?_, f3, by rw [r4]; exact s3, by rw [r5]; exact s4, by omega⟩
  unfold s_MO_still
  simp only [nx]
  refine Eq.trans s1 ?_
  unfold j_MO_still_82
  rw [r1, bv_s, v_MO_signed hc hF3.1 hF3.2.1 hF3.2.2.1 hF3.2.2.2.1 hF3.2.2.2.2, bi_s, cb_t (bI_or _)]
  exact congrArg some (congrArg (fun x => (x, M3)) (bI_c (sg_iff (RUN_wf _ hP) r3 hF3.1)))
theorem v_MO_adopt {M : Mem} {c : Nat} {l : List Int32} (hc : c < 8) (h1 : Row (M 31) 0 l) (h2 : M 26 8 = nI l.length) (h6 : l.length ≤ 6) : ∃ M1, s_MO_adopt (nI c) M = some M1 ∧ BrM M1 c l ∧ HF c M M1 := by
  let Y := st M 47 c (nI l.length)
  have hb : ∀ k, k < l.length → (fun q : Int32 × Mem => l_MO_adopt_12 (nI c) q.1 q.2) (nI k, pt Y 46 (cpR (M 31) (M 46) 0 (6 * c) k)) = some (.inl (nI (k + 1), pt Y 46 (cpR (M 31) (M 46) 0 (6 * c) (k + 1)))) := fun k hk => by
    show l_MO_adopt_12 (nI c) (nI k) (pt Y 46 (cpR (M 31) (M 46) 0 (6 * c) k)) = _
    unfold l_MO_adopt_12
    have e1 : (6 : Int32) * nI c + nI k = nI (6 * c + k) := by rw [show (6 : Int32) = nI 6 from rfl, pk_mul, nI_add]
    rw [pt_o (by decide), show Y 26 8 = M 26 8 from rfl, h2, if_neg (nI_ge hk (by omega)), ck_i (vp_in_nI (by omega) (by decide)), e1, ck_i (vp_in_nI (by omega) (by decide)), nI_clamp (by omega), nI_clamp (by omega)]
    simp only [nx]
    rw [pt_st, pt_o (by decide), show Y 31 = M 31 from st_other (by decide)]
    have := cp_s (M 31) (M 46) 0 (6 * c) k
    rw [Nat.zero_add] at this
    rw [this, nI_succ]
  have h0 := lp_cnt0 (b := fun q : Int32 × Mem => l_MO_adopt_12 (nI c) q.1 q.2) (fun k => (nI k, pt Y 46 (cpR (M 31) (M 46) 0 (6 * c) k))) l.length hb
  rw [cp_0, show pt Y 46 (M 46) = Y by
    have := pt_id Y 46
    rw [show Y 46 = M 46 from st_other (by decide)] at this
    exact this] at h0
  refine ⟨pt Y 46 (cpR (M 31) (M 46) 0 (6 * c) l.length), ?_, ⟨?_, h6, ?_⟩, ⟨fun a a1 a2 a3 a4 => ?_, fun k k1 k2 => ?_, fun q hq => ?_, fun q hq => ?_⟩⟩
  · unfold s_MO_adopt
    rw [ck_i (vp_in_nI hc (by decide)), nI_clamp (by omega), h2]
    simp only [nx]
    refine h0.trans (lp_inr ?_)
    show l_MO_adopt_12 (nI c) (nI l.length) (pt Y 46 (cpR (M 31) (M 46) 0 (6 * c) l.length)) = _
    unfold l_MO_adopt_12
    rw [pt_o (by decide), show Y 26 8 = M 26 8 from rfl, h2, if_pos (nI_le (Nat.le_refl _) (by omega))]
  · rw [pt_o (by decide), show Y 47 = upd (M 47) c (nI l.length) from st_same _ _ _ _, pk_us]
  · rw [pt_same]; exact Row_cp h1
  · rw [pt_o a3, show Y a = M a from st_other a4]
  · rw [pt_o (by decide)]; rfl
  · rw [pt_same, cp_o (by omega)]
  · rw [pt_o (by decide), show Y 47 = upd (M 47) c (nI l.length) from st_same _ _ _ _, pk_un hq]
theorem v_MO_pt {P : Pg} {n c h : Nat} {g : Sg} {l : List Int32} {only : Bool} (hP : wfP P n) (hc : c < 8) (h1 : 1 ≤ h) (hn : h ≤ l.length) : ∀ d i M, i + d = h → ShM M P c g l →
    ∃ M1, lp (fun q : Int32 × Mem => l_MO_part_11 (nI c) (nI h) (bI (only = true)) (nI l.length) q.1 q.2) (nI i, M) = some (bI ((kfR P g l h only d i).isSome = true), M1) ∧ ShM M1 P c g ((kfR P g l h only d i).getD l) ∧ HF c M M1 := by
  intro d
  induction d with
  | zero =>
    intro i M hi hS
    refine ⟨M, lp_inr ?_, hS, HF_r c M⟩
    show l_MO_part_11 _ _ _ _ (nI i) M = _
    unfold l_MO_part_11
    have h6 := hS.2.2.2.1
    rw [if_pos (nI_le (by omega) (by omega)), show kfR P g l h only 0 i = none from rfl, bI_f (show ¬ ((none : Option (List Int32)).isSome = true) by decide)]
  | succ d ih =>
    intro i M hi hS
    have h6 := hS.2.2.2.1
    have hmul : ∀ k, k ≤ 6 → k * l.length < 2 ^ 31 := fun k hk => Nat.lt_of_le_of_lt (Nat.mul_le_mul hk h6) (by decide)
    obtain ⟨M3, s1, s2, s3, s4, s5⟩ := v_MO_still only hP hc h1 hn (show i < h by omega) hS
    have hst : l_MO_part_11 (nI c) (nI h) (bI (only = true)) (nI l.length) (nI i) M = if bI (sgn (RUN P (cdL l i h only)) = g) = 0 then some (.inl (nI (i + 1), M3)) else jw1 (j_MO_part_42 (nI c) M3) := by
      unfold l_MO_part_11
      have hz : nI h ≠ 0 := nI_ne0 (by omega) (by omega)
      unfold cz
      rw [if_neg (nI_ge (by omega) (by omega)), if_neg hz, if_neg hz, ← nI_succ, pk_mul, pk_mul, pk_div (hmul i (by omega)) (by omega) (by omega), pk_div (hmul (i + 1) (by omega)) (by omega) (by omega), s1, bi_s]
      rfl
    have hkf : kfR P g l h only (d + 1) i = if sgn (RUN P (cdL l i h only)) = g then some (cdL l i h only) else kfR P g l h only d (i + 1) := rfl
    have f3 := RF_HF (c := c) s2
    rw [hkf]
    by_cases c1 : sgn (RUN P (cdL l i h only)) = g
    · rw [bI_t c1, if_neg (by decide)] at hst
      rw [if_pos c1]
      obtain ⟨M4, t1, t2, t3⟩ := v_MO_adopt hc s3 s4 s5
      refine ⟨M4, lp_last (hst.trans ?_), ⟨MP_HF hS.1 (HF_t f3 t3), FdM_HF hS.2.1 (HF_t f3 t3), t2⟩, HF_t f3 t3⟩
      unfold j_MO_part_42
      rw [t1, bv_s, bI_t (show ((some (cdL l i h only)).isSome = true) from rfl)]
    · rw [bI_f c1, if_pos rfl] at hst
      rw [if_neg c1]
      obtain ⟨M1, i1, i2, i3⟩ := ih (i + 1) M3 (by omega) ⟨MP_HF hS.1 f3, FdM_HF hS.2.1 f3, BrM_RF hS.2.2 s2⟩
      exact ⟨M1, (lp_inl (b := fun q : Int32 × Mem => l_MO_part_11 (nI c) (nI h) (bI (only = true)) (nI l.length) q.1 q.2) (s := (nI i, M)) (s1 := (nI (i + 1), M3)) hst).trans i1, i2, HF_t f3 i3⟩
theorem v_MO_part {P : Pg} {n c h : Nat} {g : Sg} {l : List Int32} {M : Mem} (only : Bool) (hP : wfP P n) (hc : c < 8) (h1 : 1 ≤ h) (hn : h ≤ l.length) (hS : ShM M P c g l) : ∃ M1, s_MO_part (nI c) (nI h) (bI (only = true)) M = some (bI ((kfR P g l h only h 0).isSome = true), M1) ∧ ShM M1 P c g ((kfR P g l h only h 0).getD l) ∧ HF c M M1 := by
  obtain ⟨M1, a1, a2, a3⟩ := v_MO_pt (only := only) hP hc h1 hn h 0 M (by omega) hS
  refine ⟨M1, ?_, a2, a3⟩
  unfold s_MO_part
  rw [ck_i (vp_in_nI hc (by decide)), nI_clamp (by omega), hS.2.2.1]
  exact a1
