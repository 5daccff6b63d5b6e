/-! Pure: the reference's change of an input. -/
def QF (M M1 : Mem) : Prop := (∀ a, a ≠ 26 → a ≠ 51 → M1 a = M a) ∧ ∀ k, k ≠ 6 → k ≠ 44 → M1 26 k = M 26 k
theorem QF_r (M : Mem) : QF M M := ⟨fun _ _ _ => rfl, fun _ _ _ => rfl⟩
theorem QF_t {M M1 M2 : Mem} (h : QF M M1) (g : QF M1 M2) : QF M M2 := ⟨fun a h1 h2 => (g.1 a h1 h2).trans (h.1 a h1 h2), fun k h1 h2 => (g.2 k h1 h2).trans (h.2 k h1 h2)⟩
theorem QF_6 (M : Mem) (v : Int32) : QF M (st M 26 6 v) := ⟨fun a h1 _ => st_other h1, fun k h1 _ => by rw [st_ap, if_pos rfl, if_neg h1]⟩
theorem QF_44 (M : Mem) (v : Int32) : QF M (st M 26 44 v) := ⟨fun a h1 _ => st_other h1, fun k _ h1 => by rw [st_ap, if_pos rfl, if_neg h1]⟩
theorem QF_51 (M : Mem) (k : Nat) (v : Int32) : QF M (st M 51 k v) := ⟨fun a _ h1 => st_other h1, fun k _ _ => by rw [st_other (by decide)]⟩
theorem QF_pt (M : Mem) (f : Nat → Int32) : QF M (pt M 51 f) := ⟨fun a _ h1 => pt_o h1, fun k _ _ => by rw [pt_o (by decide)]⟩
def MX (M : Mem) (s : List Int32 × Int32) : Prop := Cur M s.1 ∧ Byt s.1 ∧ M 26 6 = s.2
theorem MX_dr {M : Mem} {l : List Int32} {x : Int32} (h : MX M (l, x)) : MX (st M 26 6 (xsh x)) (l, xsh x) := ⟨Cur_fr h.1 (by rw [st_ap, if_pos rfl, if_neg (by decide)]) (st_other (by decide)), h.2.1, st_rd _ _ _ _⟩
theorem dr_m {M : Mem} {l : List Int32} {x : Int32} {n : Nat} (h : MX M (l, x)) (h0 : 0 < n) (hn : n < 2 ^ 31) : s_MO_draw (nI n) M = some (nI (drN (xsh x) n), st M 26 6 (xsh x)) := by
  have e : M 26 6 = x := h.2.2
  rw [v_MO_draw h0 hn, e]
theorem Row_set {f : Nat → Int32} {l : List Int32} {k : Nat} {b : Int32} (h : Row f 0 l) : Row (upd f k b) 0 (l.set k b) := by
  intro p hp
  rw [List.length_set] at hp
  rw [Nat.zero_add, List.getElem_set]
  have := h p hp
  rw [Nat.zero_add] at this
  by_cases e : p = k
  · subst e; rw [pk_us, if_pos rfl]
  · rw [pk_un e, if_neg (fun q => e q.symm)]; exact this
theorem MX_set {M : Mem} {l : List Int32} {x v : Int32} {k : Nat} (h : MX M (l, x)) (hv : v &&& 255 = v) : MX (st M 51 k v) (l.set k (v &&& 255), x) ∧ QF M (st M 51 k v) := by
  obtain ⟨⟨c1, c2, c3⟩, c4, c5⟩ := h
  refine ⟨⟨⟨?_, ?_, ?_⟩, Byt_set c4 (b_255 v), ?_⟩, QF_51 _ _ _⟩
  · show st M 51 k v 26 44 = nI (l.set k (v &&& 255)).length
    rw [st_other (by decide), List.length_set]; exact c1
  · show (l.set k (v &&& 255)).length ≤ 6
    rw [List.length_set]; exact c2
  · rw [st_same, hv]; exact Row_set c3
  · rw [st_other (by decide)]; exact c5
theorem cur_at {M : Mem} {l : List Int32} {k : Nat} (h : Cur M l) (hk : k < l.length) : M 51 k = l[k] := by
  have := h.2.2 k hk
  rw [Nat.zero_add] at this
  exact this
theorem v_MO_putIn {M : Mem} {s : List Int32 × Int32} (h : MX M s) : ∃ M1, s_MO_putIn M = some M1 ∧ MX M1 (insD s) ∧ QF M M1 := by
  obtain ⟨l, x⟩ := s
  obtain ⟨⟨c1, c2, c3⟩, c4, c5⟩ := id h
  dsimp only at c1 c2 c3 c4 c5
  unfold s_MO_putIn insD
  rw [c1]
  dsimp only
  by_cases c : l.length < 6
  · have h1 := MX_dr h
    have h2 := MX_dr h1
    have hk : drN (xsh (xsh x)) (l.length + 1) < l.length + 1 := dr_lt (by omega)
    have hb : drN (xsh x) 256 < 256 := dr_lt (by decide)
    rw [if_pos c, if_neg (show ¬ nI l.length = (6 : Int32) from fun q => absurd ((nI_eq (b := 6) (by omega) (by decide)).mp q) (by omega)), show (256 : Int32) = nI 256 from rfl, dr_m h (by decide) (by decide), bi_s, h1.1.1]
    dsimp only
    rw [nI_1, dr_m h1 (by omega) (by omega), bi_s]
    simp only [nx]
    rw [h2.1.1]
    dsimp only
    generalize hX : st (st M 26 6 (xsh x)) 26 6 (xsh (xsh x)) = X at h2
    have fX : QF M X := by rw [← hX]; exact QF_t (QF_6 _ _) (QF_6 _ _)
    generalize drN (xsh (xsh x)) (l.length + 1) = k at hk
    generalize drN (xsh x) 256 = b at hb
    have x44 : X 26 44 = nI l.length := h2.1.1
    have hloop : ∀ d i, i = k + d → i ≤ l.length → lp (fun q : Int32 × Mem => l_MO_putIn_34 (nI b) (nI k) q.1 q.2) (nI i, pt X 51 (shU (X 51) i l.length)) = some (st (pt X 51 (upd (shU (X 51) k l.length) k (nI b))) 26 44 (nI (l.length + 1))) := by
      intro d
      induction d with
      | zero =>
        intro i hi hil
        refine lp_last ?_
        show l_MO_putIn_34 (nI b) (nI k) (nI i) (pt X 51 (shU (X 51) i l.length)) = _
        unfold l_MO_putIn_34
        rw [if_pos (nI_le (by omega) (by omega))]
        unfold j_MO_putIn_59
        rw [ck_i (vp_in_nI (by omega) (by decide)), nI_clamp (by omega)]
        simp only [nx]
        rw [pt_st, pt_o (by decide), x44, nI_1, show i = k by omega]
      | succ d ih =>
        intro i hi hil
        obtain ⟨i', rfl⟩ : ∃ i', i = i' + 1 := ⟨i - 1, by omega⟩
        refine (lp_inl (b := fun q : Int32 × Mem => l_MO_putIn_34 (nI b) (nI k) q.1 q.2) (s := (nI (i' + 1), pt X 51 (shU (X 51) (i' + 1) l.length))) (s1 := (nI i', pt X 51 (shU (X 51) i' l.length))) ?_).trans (ih i' (by omega) (by omega))
        show l_MO_putIn_34 (nI b) (nI k) (nI (i' + 1)) (pt X 51 (shU (X 51) (i' + 1) l.length)) = _
        unfold l_MO_putIn_34
        rw [if_neg (nI_ge (by omega) (by omega)), nI_pred, ck_i (vp_in_nI (by omega) (by decide)), ck_i (vp_in_nI (by omega) (by decide)), nI_clamp (by omega), nI_clamp (by omega)]
        simp only [nx]
        rw [pt_st, pt_same, shU_s (by omega), pk_m1]
    have h0 := hloop (l.length - k) l.length (by omega) (by omega)
    rw [shU_n, pt_id] at h0
    refine ⟨_, h0, ⟨⟨?_, ?_, ?_⟩, Byt_ins c4 ⟨nI_pos' (by omega), nI_lt (b := 256) hb (by decide)⟩, ?_⟩, QF_t fX (QF_t (QF_pt _ _) (QF_44 _ _))⟩
    · show st _ 26 44 _ 26 44 = nI (insL l k (nI b)).length
      rw [st_rd, len_ins (by omega)]
    · show (insL l k (nI b)).length ≤ 6
      rw [len_ins (by omega)]; omega
    · rw [st_other (by decide), pt_same]; exact Row_ins h2.1.2.2 (by omega)
    · rw [st_ap, if_pos rfl, if_neg (by decide), pt_o (by decide)]; exact h2.2.2
  · rw [if_neg c, if_pos (show nI l.length = (6 : Int32) by rw [show l.length = 6 by omega]; rfl)]
    exact ⟨M, rfl, h, QF_r M⟩
theorem v_MO_change {M : Mem} {s : List Int32 × Int32} {k : Nat} (h : MX M s) (h0 : 0 < s.1.length) (hk : k < 5) (hk2 : k ≠ 2) : ∃ M1, s_MO_change (nI k) M = some M1 ∧ MX M1 (chD k s) ∧ QF M M1 := by
  obtain ⟨l, x⟩ := s
  dsimp only at h0
  obtain ⟨⟨c1, c2, c3⟩, c4, c5⟩ := id h
  dsimp only at c1 c2 c3 c4 c5
  have h1 := MX_dr h
  have h2 := MX_dr h1
  have hp1 : drN (xsh x) l.length < l.length := dr_lt h0
  have hp2 : drN (xsh (xsh x)) l.length < l.length := dr_lt h0
  have d1 := dr_m h h0 (by omega)
  have d2 := dr_m h1 h0 (by omega)
  have f2 : QF M (st (st M 26 6 (xsh x)) 26 6 (xsh (xsh x))) := QF_t (QF_6 _ _) (QF_6 _ _)
  have e1 : st M 26 6 (xsh x) 26 44 = nI l.length := h1.1.1
  unfold s_MO_change chD
  simp only [nx]
  rw [c1]
  rcases (show k = 0 ∨ k = 1 ∨ k = 3 ∨ k = 4 by omega) with rfl | rfl | rfl | rfl
  · rw [if_pos (show nI 0 = (0 : Int32) from rfl), if_pos (show (0 : Nat) = 0 from rfl), show (8 : Int32) = nI 8 from rfl, dr_m h (by decide) (by decide), bi_s, e1, d2, bi_s, ck_i (vp_in_nI (by omega) (by decide)), ck_i (vp_in_nI (by omega) (by decide)), nI_clamp (by omega), cur_at h2.1 hp2]
    dsimp only
    rw [gD hp2]
    obtain ⟨a1, a2⟩ := MX_set (k := drN (xsh (xsh x)) l.length) (v := l[drN (xsh (xsh x)) l.length] ^^^ ((1 : Int32) <<< (nI (drN (xsh x) 8) &&& 31))) h2 (by_l c4 hp2 (dr_lt (by decide)))
    exact ⟨_, rfl, a1, QF_t f2 a2⟩
  · rw [if_neg (show ¬ nI 1 = (0 : Int32) by decide), if_pos (show nI 1 = (1 : Int32) from rfl), if_neg (show ¬ (1 : Nat) = 0 by decide), if_pos (show (1 : Nat) = 1 from rfl), d1, bi_s, show (256 : Int32) = nI 256 from rfl, dr_m h1 (by decide) (by decide), bi_s, ck_i (vp_in_nI (by omega) (by decide)), nI_clamp (by omega)]
    obtain ⟨a1, a2⟩ := MX_set (k := drN (xsh x) l.length) (v := nI (drN (xsh (xsh x)) 256)) h2 (by_a (dr_lt (by decide)))
    exact ⟨_, rfl, a1, QF_t f2 a2⟩
  · rw [if_neg (show ¬ nI 3 = (0 : Int32) by decide), if_neg (show ¬ nI 3 = (1 : Int32) by decide), if_pos (show nI 3 = (3 : Int32) from rfl), if_neg (show ¬ (3 : Nat) = 0 by decide), if_neg (show ¬ (3 : Nat) = 1 by decide), if_pos (show (3 : Nat) = 3 from rfl), d1, bi_s, e1]
    generalize hX : st (st M 26 6 (xsh x)) 26 44 (nI l.length - 1) = X
    have fX : QF M X := by rw [← hX]; exact QF_t (QF_6 _ _) (QF_44 _ _)
    have x44 : X 26 44 = nI (l.length - 1) := by rw [← hX, st_rd, show (1 : Int32) = nI 1 from rfl, pk_sub (by omega)]
    have x51 : X 51 = M 51 := by rw [← hX, st_other (by decide), st_other (by decide)]
    have x6 : X 26 6 = xsh x := by rw [← hX, st_ap, if_pos rfl, if_neg (by decide), st_rd]
    generalize drN (xsh x) l.length = k at hp1
    have hloop : ∀ d i, i + d = l.length - 1 → k ≤ i → lp (fun q : Int32 × Mem => l_MO_change_97 q.1 q.2) (nI i, pt X 51 (shD (X 51) k i)) = some (pt X 51 (shD (X 51) k (l.length - 1))) := by
      intro d
      induction d with
      | zero =>
        intro i hi hki
        refine lp_inr ?_
        show l_MO_change_97 (nI i) (pt X 51 (shD (X 51) k i)) = _
        unfold l_MO_change_97
        rw [pt_o (by decide), x44, if_pos (nI_le (by omega) (by omega)), show i = l.length - 1 by omega]
      | succ d ih =>
        intro i hi hki
        refine (lp_inl (b := fun q : Int32 × Mem => l_MO_change_97 q.1 q.2) (s := (nI i, pt X 51 (shD (X 51) k i))) (s1 := (nI (i + 1), pt X 51 (shD (X 51) k (i + 1)))) ?_).trans (ih (i + 1) (by omega) (by omega))
        show l_MO_change_97 (nI i) (pt X 51 (shD (X 51) k i)) = _
        unfold l_MO_change_97
        rw [pt_o (show (26 : Nat) ≠ 51 by decide), x44, if_neg (nI_ge (by omega) (by omega)), ← nI_succ, ck_i (vp_in_nI (by omega) (by decide)), ck_i (vp_in_nI (by omega) (by decide)), nI_clamp (by omega), nI_clamp (by omega)]
        simp only [nx]
        rw [pt_st, pt_same, shD_s hki]
    have h0' := hloop (l.length - 1 - k) k (by omega) (by omega)
    rw [shD_k, pt_id] at h0'
    refine ⟨_, h0', ⟨⟨?_, ?_, ?_⟩, Byt_out c4, ?_⟩, QF_t fX (QF_pt _ _)⟩
    · show pt X 51 _ 26 44 = nI (outL l k).length
      rw [pt_o (by decide), x44, len_out hp1]
    · show (outL l k).length ≤ 6
      rw [len_out hp1]; omega
    · rw [pt_same, x51]; exact Row_out c3 hp1
    · rw [pt_o (by decide)]; exact x6
  · rw [if_neg (show ¬ nI 4 = (0 : Int32) by decide), if_neg (show ¬ nI 4 = (1 : Int32) by decide), if_neg (show ¬ nI 4 = (3 : Int32) by decide), if_neg (show ¬ (4 : Nat) = 0 by decide), if_neg (show ¬ (4 : Nat) = 1 by decide), if_neg (show ¬ (4 : Nat) = 3 by decide), show (16 : Int32) = nI 16 from rfl, dr_m h (by decide) (by decide), bi_s, e1, d2, bi_s, ck_i (vp_in_nI (by omega) (by decide)), ck_i (vp_in_nI (by omega) (by decide)), nI_clamp (by omega), cur_at h2.1 hp2]
    dsimp only
    rw [gD hp2]
    obtain ⟨a1, a2⟩ := MX_set (k := drN (xsh (xsh x)) l.length) (v := (l[drN (xsh (xsh x)) l.length] + (nI (drN (xsh x) 16) - 8)) &&& 255) h2 (by rw [Int32.and_assoc]; rfl)
    rw [show ((l[drN (xsh (xsh x)) l.length] + (nI (drN (xsh x) 16) - 8)) &&& 255) &&& 255 = (l[drN (xsh (xsh x)) l.length] + (nI (drN (xsh x) 16) - 8)) &&& 255 by rw [Int32.and_assoc]; rfl] at a1
    exact ⟨_, rfl, a1, QF_t f2 a2⟩
theorem v_MO_mixLoop {N : Nat} (hN : N < 2 ^ 31) : ∀ d k M s, k + d = N → MX M s → ∃ M1, lp (fun q : Int32 × Mem => l_MO_mixed_10 (nI N) q.1 q.2) (nI k, M) = some M1 ∧ MX M1 (mixR d s) ∧ QF M M1 := by
  intro d
  induction d with
  | zero =>
    intro k M s hk h
    refine ⟨M, lp_inr ?_, h, QF_r M⟩
    show l_MO_mixed_10 (nI N) (nI k) M = _
    unfold l_MO_mixed_10
    rw [if_pos (nI_le (by omega) (by omega))]
  | succ d ih =>
    intro k M s hk h
    obtain ⟨l, x⟩ := s
    have h1 := MX_dr h
    have h6 := h.1.2.1
    dsimp only at h6
    have hd : drN (xsh x) 5 < 5 := dr_lt (by decide)
    have e1 : st M 26 6 (xsh x) 26 44 = nI l.length := h1.1.1
    have hstep : ∃ M2, l_MO_mixed_10 (nI N) (nI k) M = some (.inl (nI (k + 1), M2)) ∧ MX M2 (mix1 (l, x)) ∧ QF M M2 := by
      unfold l_MO_mixed_10 mix1 j_MO_mixed_45
      rw [if_neg (nI_ge (by omega) hN), show (5 : Int32) = nI 5 from rfl, dr_m h (by decide) (by decide), bi_s]
      simp only [nx]
      rw [← nI_succ, e1]
      by_cases c : drN (xsh x) 5 = 2
      · rw [if_pos c, if_pos (show nI (drN (xsh x) 5) = (2 : Int32) by rw [c]; rfl)]
        obtain ⟨M2, a1, a2, a3⟩ := v_MO_putIn h1
        rw [a1, bv_s]
        exact ⟨M2, rfl, a2, QF_t (QF_6 _ _) a3⟩
      · rw [if_neg c, if_neg (show ¬ nI (drN (xsh x) 5) = (2 : Int32) from fun q => c ((nI_eq (b := 2) (by omega) (by decide)).mp q))]
        by_cases c2 : l.length = 0
        · rw [if_pos c2, if_pos (show nI l.length ≤ 0 by rw [c2]; decide)]
          exact ⟨_, rfl, h1, QF_6 _ _⟩
        · rw [if_neg c2, if_neg (show ¬ nI l.length ≤ 0 from nI_nle (by omega) (by omega))]
          obtain ⟨M2, a1, a2, a3⟩ := v_MO_change (k := drN (xsh x) 5) h1 (by show 0 < l.length; omega) hd c
          rw [a1, bv_s]
          exact ⟨M2, rfl, a2, QF_t (QF_6 _ _) a3⟩
    obtain ⟨M2, s1, s2, s3⟩ := hstep
    obtain ⟨M1, i1, i2, i3⟩ := ih (k + 1) M2 _ (by omega) s2
    exact ⟨M1, (lp_inl (b := fun q : Int32 × Mem => l_MO_mixed_10 (nI N) q.1 q.2) (s := (nI k, M)) (s1 := (nI (k + 1), M2)) s1).trans i1, i2, QF_t s3 i3⟩
theorem v_MO_mix {M : Mem} {l : List Int32} {x : Int32} (h : MX M (l, x)) : ∃ M1, s_MO_mixed M = some M1 ∧ MX M1 (mixR (drN (xsh x) 4 + 1) (l, xsh x)) ∧ QF M M1 := by
  have h1 := MX_dr h
  have hd : drN (xsh x) 4 < 4 := dr_lt (by decide)
  obtain ⟨M1, a1, a2, a3⟩ := v_MO_mixLoop (N := drN (xsh x) 4 + 1) (by omega) (drN (xsh x) 4 + 1) 0 _ _ (by omega) h1
  refine ⟨M1, ?_, a2, QF_t (QF_6 _ _) a3⟩
  unfold s_MO_mixed
  rw [show (4 : Int32) = nI 4 from rfl, dr_m h (by decide) (by decide), bi_s]
  simp only [nx]
  rw [nI_1]
  exact a1
theorem Row_cross {f g : Nat → Int32} {l o : List Int32} {p c : Nat} (h1 : Row f 0 l) (h2 : Row g p o) (hc1 : c ≤ l.length) (hc2 : c ≤ o.length) : Row (cpR g f (p + c) c (o.length - c)) 0 (l.take c ++ o.drop c) := by
  intro q hq
  rw [List.length_append, List.length_take, List.length_drop] at hq
  rw [Nat.zero_add, List.getElem_append]
  by_cases e : q < c
  · rw [dif_pos (by rw [List.length_take]; omega), List.getElem_take, cp_o (by omega)]
    have := h1 q (by omega)
    rw [Nat.zero_add] at this
    exact this
  · rw [dif_neg (by rw [List.length_take]; omega), List.getElem_drop]
    unfold cpR
    rw [if_pos (by omega), show p + c + (q - c) = p + q by omega, h2 q (by omega)]
    congr 1
    rw [List.length_take]
    omega
theorem v_MO_cross {M : Mem} {es : List (List Int32)} {tk : Nat} {l : List Int32} {x : Int32} (hS : MS M es) (hB : ∀ e, e < es.length → Byt (es.getD e [])) (h2 : 2 ≤ es.length) (ht : tk < es.length) (hl : l = es.getD tk []) (h : MX M (l, x)) :
    ∃ M1, s_MO_crossed (nI tk) M = some M1 ∧ MX M1 (l.take (drN (xsh (xsh x)) (1 + min l.length (es.getD (if drN (xsh x) (es.length - 1) < tk then drN (xsh x) (es.length - 1) else drN (xsh x) (es.length - 1) + 1) []).length)) ++ (es.getD (if drN (xsh x) (es.length - 1) < tk then drN (xsh x) (es.length - 1) else drN (xsh x) (es.length - 1) + 1) []).drop (drN (xsh (xsh x)) (1 + min l.length (es.getD (if drN (xsh x) (es.length - 1) < tk then drN (xsh x) (es.length - 1) else drN (xsh x) (es.length - 1) + 1) []).length)), xsh (xsh x)) ∧ QF M M1 := by
  obtain ⟨n18, h16, hall⟩ := id hS
  have h6 := h.1.2.1
  dsimp only at h6
  have h1 := MX_dr h
  have hd : drN (xsh x) (es.length - 1) < es.length - 1 := dr_lt (by omega)
  have hs : s_MO_crossed (nI tk) M = j_MO_crossed_23 (nI tk) (nI (if drN (xsh x) (es.length - 1) < tk then drN (xsh x) (es.length - 1) else drN (xsh x) (es.length - 1) + 1)) (st M 26 6 (xsh x)) := by
    unfold s_MO_crossed
    rw [n18, show (1 : Int32) = nI 1 from rfl, pk_sub (by omega), dr_m h (by omega) (by omega), bi_s]
    by_cases c : drN (xsh x) (es.length - 1) < tk
    · rw [if_pos (nI_lt c (by omega)), if_pos c]
    · rw [if_neg (fun q => c ((nI_ltI (by omega) (by omega)).mp q)), if_neg c, nI_add]
  rw [hs]
  have hp : (if drN (xsh x) (es.length - 1) < tk then drN (xsh x) (es.length - 1) else drN (xsh x) (es.length - 1) + 1) < es.length := by split <;> omega
  generalize (if drN (xsh x) (es.length - 1) < tk then drN (xsh x) (es.length - 1) else drN (xsh x) (es.length - 1) + 1) = p at hp
  obtain ⟨o1, o2, o3⟩ := hall p hp
  have l1 : M 37 tk = nI l.length := by rw [hl]; exact (hall tk ht).1
  have h2' := MX_dr h1
  have hc : drN (xsh (xsh x)) (1 + min l.length (es.getD p []).length) < 1 + min l.length (es.getD p []).length := dr_lt (by omega)
  have hdr := dr_m h1 (n := 1 + min l.length (es.getD p []).length) (by omega) (by omega)
  generalize drN (xsh (xsh x)) (1 + min l.length (es.getD p []).length) = c at hc hdr
  have hBp := hB p hp
  generalize es.getD p [] = o at *
  have h23 : j_MO_crossed_23 (nI tk) (nI p) (st M 26 6 (xsh x)) = j_MO_crossed_54 (nI p) (nI (min l.length o.length)) (st M 26 6 (xsh x)) := by
    unfold j_MO_crossed_23
    rw [ck_i (vp_in_nI (by omega) (by decide)), ck_i (vp_in_nI (by omega) (by decide)), ck_i (vp_in_nI (by omega) (by decide)), ck_i (vp_in_nI (by omega) (by decide)), nI_clamp (by omega), nI_clamp (by omega), st_other (by decide), o1, l1]
    by_cases q : o.length ≤ l.length
    · rw [if_pos (nI_le q (by omega)), Nat.min_eq_right q]
    · rw [if_neg (nI_ge (by omega) (by omega)), Nat.min_eq_left (by omega)]
  rw [h23]
  unfold j_MO_crossed_54
  rw [show (1 : Int32) = nI 1 from rfl, nI_add, hdr, bi_s]
  generalize hX : st (st M 26 6 (xsh x)) 26 6 (xsh (xsh x)) = X at h2'
  have fX : QF M X := by rw [← hX]; exact QF_t (QF_6 _ _) (QF_6 _ _)
  have x37 : X 37 = M 37 := fX.1 37 (by decide) (by decide)
  have x36 : X 36 = M 36 := fX.1 36 (by decide) (by decide)
  have hb : ∀ k, k < o.length - c → (fun q : Int32 × Mem => l_MO_crossed_68 (nI p) q.1 q.2) (nI (c + k), pt X 51 (cpR (M 36) (X 51) (6 * p + c) c k)) = some (.inl (nI (c + (k + 1)), pt X 51 (cpR (M 36) (X 51) (6 * p + c) c (k + 1)))) := fun k hk => by
    show l_MO_crossed_68 (nI p) (nI (c + k)) (pt X 51 (cpR (M 36) (X 51) (6 * p + c) c k)) = _
    unfold l_MO_crossed_68
    have e1 : (6 : Int32) * nI p + nI (c + k) = nI (6 * p + c + k) := by rw [show (6 : Int32) = nI 6 from rfl, pk_mul, nI_add, Nat.add_assoc]
    rw [ck_i (vp_in_nI (by omega) (by decide)), pt_o (show (37 : Nat) ≠ 51 by decide), pt_o (show (36 : Nat) ≠ 51 by decide), x37, x36, nI_clamp (by omega), o1, if_neg (nI_ge (by omega) (by omega)), e1, ck_i (vp_in_nI (by omega) (by decide)), ck_i (vp_in_nI (by omega) (by decide)), nI_clamp (by omega), nI_clamp (by omega)]
    simp only [nx]
    rw [pt_st, cp_s, nI_1, Nat.add_assoc]
  have h0 := lp_cnt0 (b := fun q : Int32 × Mem => l_MO_crossed_68 (nI p) q.1 q.2) (fun k => (nI (c + k), pt X 51 (cpR (M 36) (X 51) (6 * p + c) c k))) (o.length - c) hb
  rw [cp_0, pt_id] at h0
  refine ⟨st (pt X 51 (cpR (M 36) (X 51) (6 * p + c) c (o.length - c))) 26 44 (nI o.length), ?_, ⟨⟨?_, ?_, ?_⟩, ?_, ?_⟩, QF_t fX (QF_t (QF_pt _ _) (QF_44 _ _))⟩
  · refine h0.trans (lp_last ?_)
    show l_MO_crossed_68 (nI p) (nI (c + (o.length - c))) (pt X 51 (cpR (M 36) (X 51) (6 * p + c) c (o.length - c))) = _
    unfold l_MO_crossed_68 j_MO_crossed_104
    rw [ck_i (vp_in_nI (by omega) (by decide)), ck_i (vp_in_nI (by omega) (by decide)), pt_o (show (37 : Nat) ≠ 51 by decide), x37, nI_clamp (by omega), o1, if_pos (nI_le (by omega) (by omega))]
    rfl
  · show st _ 26 44 _ 26 44 = nI (l.take c ++ o.drop c).length
    rw [st_rd, List.length_append, List.length_take, List.length_drop]
    congr 1
    omega
  · show (l.take c ++ o.drop c).length ≤ 6
    rw [List.length_append, List.length_take, List.length_drop]
    omega
  · rw [st_other (by decide), pt_same]
    exact Row_cross h2'.1.2.2 o3 (by omega) (by omega)
  · intro b hb
    rw [List.mem_append] at hb
    rcases hb with q | q
    · exact h.2.1 b (List.mem_of_mem_take q)
    · exact hBp b (List.mem_of_mem_drop q)
  · rw [st_ap, if_pos rfl, if_neg (by decide), pt_o (by decide)]; exact h2'.2.2
theorem pV {k : Nat} (h : k < 4) : putV k &&& 255 = putV k := by
  rcases (show k = 0 ∨ k = 1 ∨ k = 2 ∨ k = 3 by omega) with rfl | rfl | rfl | rfl <;> decide
theorem v_MO_plain {M : Mem} {l : List Int32} {x : Int32} {m : Nat} (h : MX M (l, x)) (hm : m < 16 * l.length) : ∃ M1, s_MO_plain (nI l.length) (nI m) M = some M1 ∧ MX M1 (if m < 8 * l.length then (l.set (m / 8) ((l.getD (m / 8) 0 ^^^ ((1 : Int32) <<< (nI (m % 8) &&& 31))) &&& 255), x)
    else if m < 12 * l.length then (l.set ((m - 8 * l.length) / 4) ((l.getD ((m - 8 * l.length) / 4) 0 + addV ((m - 8 * l.length) % 4)) &&& 255), x)
    else (l.set ((m - 12 * l.length) / 4) (putV ((m - 12 * l.length) % 4) &&& 255), x)) ∧ QF M M1 := by
  have h6 := h.1.2.1
  dsimp only at h6
  have hB : Byt l := h.2.1
  have hC : Cur M l := h.1
  unfold s_MO_plain
  rw [show (8 : Int32) = nI 8 from rfl, show (12 : Int32) = nI 12 from rfl, pk_mul, pk_mul]
  by_cases c1 : m < 8 * l.length
  · have hk : m / 8 < l.length := by omega
    rw [if_neg (nI_ge c1 (by omega)), if_pos c1, pk_shrN (by omega) ((3 : Int32) &&& 31) 3 (by decide), pk_andN (by omega) (m := 7) 3 (by decide), show (2 : Nat) ^ 3 = 8 from rfl, ck_i (vp_in_nI (by omega) (by decide)), ck_i (vp_in_nI (by omega) (by decide)), nI_clamp (by omega), cur_at hC hk, gD hk]
    obtain ⟨b1, b2⟩ := MX_set (k := m / 8) (v := l[m / 8] ^^^ ((1 : Int32) <<< (nI (m % 8) &&& 31))) h (by_l hB hk (Nat.mod_lt _ (by decide)))
    exact ⟨_, rfl, b1, b2⟩
  rw [if_pos (nI_le (by omega) (by omega)), if_neg c1]
  by_cases c2 : m < 12 * l.length
  · have hr : (m - 8 * l.length) % 4 < 4 := Nat.mod_lt _ (by decide)
    have hk : (m - 8 * l.length) / 4 < l.length := by omega
    rw [if_neg (nI_ge c2 (by omega)), if_pos c2]
    simp only [nx]
    rw [pk_sub (by omega), pk_andN (by omega) (m := 3) 2 (by decide), show (2 : Nat) ^ 2 = 4 from rfl]
    have h84 : ∀ v : Int32, j_MO_plain_84 (nI (m - 8 * l.length)) v M = some (st M 51 ((m - 8 * l.length) / 4) ((l[(m - 8 * l.length) / 4] + v) &&& 255)) := fun v => by
      unfold j_MO_plain_84
      rw [pk_shrN (by omega) ((2 : Int32) &&& 31) 2 (by decide), show (2 : Nat) ^ 2 = 4 from rfl, ck_i (vp_in_nI (by omega) (by decide)), ck_i (vp_in_nI (by omega) (by decide)), nI_clamp (by omega), cur_at hC hk]
      rfl
    rw [gD hk]
    obtain ⟨b1, b2⟩ := MX_set (k := (m - 8 * l.length) / 4) (v := (l[(m - 8 * l.length) / 4] + addV ((m - 8 * l.length) % 4)) &&& 255) h (by rw [Int32.and_assoc]; rfl)
    rw [show ((l[(m - 8 * l.length) / 4] + addV ((m - 8 * l.length) % 4)) &&& 255) &&& 255 = (l[(m - 8 * l.length) / 4] + addV ((m - 8 * l.length) % 4)) &&& 255 by rw [Int32.and_assoc]; rfl] at b1
    refine ⟨_, ?_, b1, b2⟩
    rw [h84, h84, h84, h84]
    generalize (m - 8 * l.length) % 4 = r at hr
    rcases (show r = 0 ∨ r = 1 ∨ r = 2 ∨ r = 3 by omega) with rfl | rfl | rfl | rfl
    · rw [if_pos (by decide)]; rfl
    · rw [if_neg (by decide), if_pos (by decide)]; rfl
    · rw [if_neg (by decide), if_neg (by decide), if_pos (by decide)]; rfl
    · rw [if_neg (by decide), if_neg (by decide), if_neg (by decide)]; rfl
  rw [if_pos (nI_le (by omega) (by omega)), if_neg c2]
  have hr : (m - 12 * l.length) % 4 < 4 := Nat.mod_lt _ (by decide)
  have hk : (m - 12 * l.length) / 4 < l.length := by omega
  simp only [nx]
  rw [pk_sub (by omega), pk_andN (by omega) (m := 3) 2 (by decide), pk_shrN (by omega) ((2 : Int32) &&& 31) 2 (by decide), show (2 : Nat) ^ 2 = 4 from rfl, ck_i (vp_in_nI (by omega) (by decide)), ck_i (vp_in_nI (by omega) (by decide)), ck_i (vp_in_nI (by omega) (by decide)), ck_i (vp_in_nI (by omega) (by decide)), nI_clamp (by omega)]
  obtain ⟨b1, b2⟩ := MX_set (k := (m - 12 * l.length) / 4) (v := putV ((m - 12 * l.length) % 4)) h (pV hr)
  refine ⟨_, ?_, b1, b2⟩
  generalize (m - 12 * l.length) % 4 = r at hr
  rcases (show r = 0 ∨ r = 1 ∨ r = 2 ∨ r = 3 by omega) with rfl | rfl | rfl | rfl
  · rw [if_pos (by decide)]; rfl
  · rw [if_neg (by decide), if_pos (by decide)]; rfl
  · rw [if_neg (by decide), if_neg (by decide), if_pos (by decide)]; rfl
  · rw [if_neg (by decide), if_neg (by decide), if_neg (by decide)]; rfl
