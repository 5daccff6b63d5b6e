/-! Pure: the class's change of an input. -/
def CF (M M1 : Mem) : Prop := ∀ a, a ≠ 12 → a ≠ 54 → a ≠ 55 → M1 a = M a
theorem CF_t {M M1 M2 : Mem} (h : CF M M1) (g : CF M1 M2) : CF M M2 := fun a h1 h2 h3 => (g a h1 h2 h3).trans (h a h1 h2 h3)
theorem CF_12 (M : Mem) (v : Int32) : CF M (st M 12 0 v) := fun a h1 _ _ => st_other h1
/-- the class's input under change is s.1, its generator's state s.2 -/
def IX (M : Mem) (s : List Int32 × Int32) : Prop := Inp M 54 s.1 ∧ M 12 0 = s.2
theorem IX_dr {M : Mem} {l : List Int32} {x : Int32} (h : IX M (l, x)) : IX (st M 12 0 (xsh x)) (l, xsh x) := ⟨Inp_fr h.1 (st_other (by decide)) (st_other (by decide)), st_rd _ _ _ _⟩
theorem dr_c {M : Mem} {l : List Int32} {x : Int32} {n : Nat} (h : IX M (l, x)) (h0 : 0 < n) (hn : n < 2 ^ 31) : s_GE_draw (nI n) M = some (nI (drN (xsh x) n), st M 12 0 (xsh x)) := by
  have e : M 12 0 = x := h.2
  rw [v_GE_draw h0 hn, e]
theorem IX_set {M : Mem} {l : List Int32} {x v : Int32} {k : Nat} (h : IX M (l, x)) : IX (st M 55 k (v &&& 255)) (l.set k (v &&& 255), x) ∧ CF M (st M 55 k (v &&& 255)) := by
  refine ⟨⟨Inp_set h.1 (b_255 v), ?_⟩, fun a _ _ h3 => st_other h3⟩
  rw [st_other (by decide)]
  exact h.2
theorem v_TR_insertDrawn {M : Mem} {s : List Int32 × Int32} (h : IX M s) : ∃ M1, s_TR_insertDrawn 54 M = some M1 ∧ IX M1 (insD s) ∧ CF M M1 := by
  obtain ⟨l, x⟩ := s
  have h6 := h.1.2.1
  dsimp only at h6
  unfold s_TR_insertDrawn insD
  rw [h.1.1]
  dsimp only
  by_cases c : l.length < 6
  · have h1 := IX_dr h
    have h2 := IX_dr h1
    have hk : drN (xsh (xsh x)) (l.length + 1) < l.length + 1 := dr_lt (by omega)
    have hb : drN (xsh x) 256 < 256 := dr_lt (by decide)
    rw [if_pos c, if_pos (show nI l.length < (6 : Int32) from nI_lt (b := 6) c (by decide)), show (256 : Int32) = nI 256 from rfl, dr_c h (by decide) (by decide), bi_s, h1.1.1, nI_1, dr_c h1 (by show 0 < l.length + 1; omega) (by show l.length + 1 < 2 ^ 31; omega), bi_s]
    obtain ⟨M1, a1, a2, a3⟩ := v_IN_insert (k := drN (xsh (xsh x)) (l.length + 1)) (b := nI (drN (xsh x) 256)) h2.1 c (show drN (xsh (xsh x)) (l.length + 1) ≤ l.length by omega) ⟨nI_pos' (by omega), nI_lt (b := 256) hb (by decide)⟩
    refine ⟨M1, ?_, ⟨a2, ?_⟩, fun a b1 b2 b3 => ?_⟩
    · show bv (s_IN_insert 54 (nI (drN (xsh (xsh x)) (l.length + 1))) (nI (drN (xsh x) 256)) _) _ = _
      rw [a1]
      rfl
    · rw [a3 12 (by decide) (by decide)]; exact h2.2
    · rw [a3 a b2 b3, st_other b1, st_other b1]
  · rw [if_neg c, if_neg (show ¬ nI l.length < (6 : Int32) from fun q => c ((nI_ltI (b := 6) (by omega) (by decide)).mp q))]
    exact ⟨M, rfl, h, fun _ _ _ _ => rfl⟩
theorem v_TR_changeDrawn {M : Mem} {s : List Int32 × Int32} {k : Nat} (h : IX M s) (h0 : 0 < s.1.length) (hk : k < 5) (hk2 : k ≠ 2) : ∃ M1, s_TR_changeDrawn (nI k) 54 M = some M1 ∧ IX M1 (chD k s) ∧ CF M M1 := by
  obtain ⟨l, x⟩ := s
  dsimp only at h0
  have h6 := h.1.2.1
  dsimp only at h6
  have h1 := IX_dr h
  have h2 := IX_dr h1
  have hp1 : drN (xsh x) l.length < l.length := dr_lt h0
  have hp2 : drN (xsh (xsh x)) l.length < l.length := dr_lt h0
  have d1 := dr_c h h0 (by omega)
  have d2 := dr_c h1 h0 (by omega)
  have f2 : CF M (st (st M 12 0 (xsh x)) 12 0 (xsh (xsh x))) := CF_t (CF_12 _ _) (CF_12 _ _)
  unfold s_TR_changeDrawn chD
  simp only [nx]
  rw [h.1.1]
  dsimp only
  rcases (show k = 0 ∨ k = 1 ∨ k = 3 ∨ k = 4 by omega) with rfl | rfl | rfl | rfl
  · rw [if_pos (show nI 0 = (0 : Int32) from rfl), if_pos (show (0 : Nat) = 0 from rfl), show (8 : Int32) = nI 8 from rfl, dr_c h (by decide) (by decide), bi_s, d2, bi_s, v_IN_turnBit _ h2.1 hp2, bv_s, gD hp2]
    obtain ⟨a1, a2⟩ := IX_set (k := drN (xsh (xsh x)) l.length) (v := l[drN (xsh (xsh x)) l.length] ^^^ ((1 : Int32) <<< (nI (drN (xsh x) 8) &&& 31))) h2
    exact ⟨_, rfl, a1, CF_t f2 a2⟩
  · rw [if_neg (show ¬ nI 1 = (0 : Int32) by decide), if_pos (show nI 1 = (1 : Int32) from rfl), if_neg (show ¬ (1 : Nat) = 0 by decide), if_pos (show (1 : Nat) = 1 from rfl), d1, bi_s, show (256 : Int32) = nI 256 from rfl, dr_c h1 (by decide) (by decide), bi_s, v_IN_put _ h2.1 hp1, bv_s]
    obtain ⟨a1, a2⟩ := IX_set (k := drN (xsh x) l.length) (v := nI (drN (xsh (xsh x)) 256)) h2
    exact ⟨_, rfl, a1, CF_t f2 a2⟩
  · rw [if_neg (show ¬ nI 3 = (0 : Int32) by decide), if_neg (show ¬ nI 3 = (1 : Int32) by decide), if_neg (show ¬ nI 3 = (2 : Int32) by decide), if_pos (show nI 3 = (3 : Int32) from rfl), if_neg (show ¬ (3 : Nat) = 0 by decide), if_neg (show ¬ (3 : Nat) = 1 by decide), if_pos (show (3 : Nat) = 3 from rfl), d1, bi_s]
    obtain ⟨M1, a1, a2, a3⟩ := v_IN_takeOut h1.1 hp1
    rw [a1, bv_s]
    exact ⟨M1, rfl, ⟨a2, by rw [a3 12 (by decide) (by decide)]; exact h1.2⟩, fun a b1 b2 b3 => by rw [a3 a b2 b3, st_other b1]⟩
  · rw [if_neg (show ¬ nI 4 = (0 : Int32) by decide), if_neg (show ¬ nI 4 = (1 : Int32) by decide), if_neg (show ¬ nI 4 = (2 : Int32) by decide), if_neg (show ¬ nI 4 = (3 : Int32) by decide), if_neg (show ¬ (4 : Nat) = 0 by decide), if_neg (show ¬ (4 : Nat) = 1 by decide), if_neg (show ¬ (4 : Nat) = 3 by decide)]
    unfold j_TR_changeDrawn_93
    rw [show (16 : Int32) = nI 16 from rfl, dr_c h (by decide) (by decide), bi_s]
    simp only [nx]
    rw [d2, bi_s, v_IN_addTo _ h2.1 hp2, bv_s, gD hp2]
    obtain ⟨a1, a2⟩ := IX_set (k := drN (xsh (xsh x)) l.length) (v := l[drN (xsh (xsh x)) l.length] + (nI (drN (xsh x) 16) - 8)) h2
    exact ⟨_, rfl, a1, CF_t f2 a2⟩
theorem v_TR_mixLoop {N : Nat} (hN : N < 2 ^ 31) : ∀ d k M s, k + d = N → IX M s → ∃ M1, lp (fun q : Int32 × Mem => l_TR_changeByDraws_10 54 (nI N) q.1 q.2) (nI k, M) = some M1 ∧ IX M1 (mixR d s) ∧ CF M M1 := by
  intro d
  induction d with
  | zero =>
    intro k M s hk h
    refine ⟨M, lp_inr ?_, h, fun _ _ _ _ => rfl⟩
    show l_TR_changeByDraws_10 54 (nI N) (nI k) M = _
    unfold l_TR_changeByDraws_10
    rw [if_pos (nI_le (by omega) (by omega))]
  | succ d ih =>
    intro k M s hk h
    obtain ⟨l, x⟩ := s
    have h1 := IX_dr h
    have h6 := h.1.2.1
    dsimp only at h6
    have hd : drN (xsh x) 5 < 5 := dr_lt (by decide)
    have hstep : ∃ M2, l_TR_changeByDraws_10 54 (nI N) (nI k) M = some (.inl (nI (k + 1), M2)) ∧ IX M2 (mix1 (l, x)) ∧ CF M M2 := by
      unfold l_TR_changeByDraws_10 mix1 j_TR_changeByDraws_50
      rw [if_neg (nI_ge (by omega) hN), show (5 : Int32) = nI 5 from rfl, dr_c h (by decide) (by decide), bi_s]
      simp only [nx]
      rw [← nI_succ]
      by_cases c : drN (xsh x) 5 = 2
      · rw [if_pos c, if_pos (show nI (drN (xsh x) 5) = (2 : Int32) by rw [c]; rfl)]
        obtain ⟨M2, a1, a2, a3⟩ := v_TR_insertDrawn h1
        rw [a1, bv_s]
        exact ⟨M2, rfl, a2, CF_t (CF_12 _ _) a3⟩
      · rw [if_neg c, if_neg (show ¬ nI (drN (xsh x) 5) = (2 : Int32) from fun q => c ((nI_eq (b := 2) (by omega) (by decide)).mp q)), h1.1.1]
        by_cases c2 : l.length = 0
        · rw [if_pos c2, if_pos (show nI l.length ≤ 0 by rw [c2]; decide)]
          exact ⟨_, rfl, h1, CF_12 _ _⟩
        · rw [if_neg c2, if_neg (show ¬ nI l.length ≤ 0 from nI_nle (by omega) (by omega))]
          obtain ⟨M2, a1, a2, a3⟩ := v_TR_changeDrawn (k := drN (xsh x) 5) h1 (by show 0 < l.length; omega) hd c
          rw [a1, bv_s]
          exact ⟨M2, rfl, a2, CF_t (CF_12 _ _) a3⟩
    obtain ⟨M2, s1, s2, s3⟩ := hstep
    obtain ⟨M1, i1, i2, i3⟩ := ih (k + 1) M2 _ (by omega) s2
    exact ⟨M1, (lp_inl (b := fun q : Int32 × Mem => l_TR_changeByDraws_10 54 (nI N) q.1 q.2) (s := (nI k, M)) (s1 := (nI (k + 1), M2)) s1).trans i1, i2, CF_t s3 i3⟩
theorem v_TR_mix {M : Mem} {l : List Int32} {x : Int32} (h : IX M (l, x)) : ∃ M1, s_TR_changeByDraws 54 M = some M1 ∧ IX M1 (mixR (drN (xsh x) 4 + 1) (l, xsh x)) ∧ CF M M1 := by
  have h1 := IX_dr h
  have hd : drN (xsh x) 4 < 4 := dr_lt (by decide)
  obtain ⟨M1, a1, a2, a3⟩ := v_TR_mixLoop (N := drN (xsh x) 4 + 1) (by omega) (drN (xsh x) 4 + 1) 0 _ _ (by omega) h1
  refine ⟨M1, ?_, a2, CF_t (CF_12 _ _) a3⟩
  unfold s_TR_changeByDraws
  rw [show (4 : Int32) = nI 4 from rfl, dr_c h (by decide) (by decide), bi_s]
  simp only [nx]
  rw [nI_1]
  exact a1
theorem v_TR_join {M : Mem} {P : Pg} {es : List (List Int32)} {tk : Nat} {l : List Int32} {x : Int32} (hX : XS0 M P es) (h2 : 2 ≤ es.length) (htk : M 13 0 = nI tk) (ht : tk < es.length) (h : IX M (l, x)) :
    ∃ M1, s_TR_joinPartner 54 M = some M1 ∧ IX M1 (l.take (drN (xsh (xsh x)) (1 + min l.length (es.getD (if drN (xsh x) (es.length - 1) < tk then drN (xsh x) (es.length - 1) else drN (xsh x) (es.length - 1) + 1) []).length)) ++ (es.getD (if drN (xsh x) (es.length - 1) < tk then drN (xsh x) (es.length - 1) else drN (xsh x) (es.length - 1) + 1) []).drop (drN (xsh (xsh x)) (1 + min l.length (es.getD (if drN (xsh x) (es.length - 1) < tk then drN (xsh x) (es.length - 1) else drN (xsh x) (es.length - 1) + 1) []).length)), xsh (xsh x)) ∧ CF M M1 := by
  have h16 := hX.2.1
  have h6 := h.1.2.1
  dsimp only at h6
  have h1 := IX_dr h
  have hd : drN (xsh x) (es.length - 1) < es.length - 1 := dr_lt (by omega)
  have hs : s_TR_joinPartner 54 M = j_TR_joinPartner_30 54 (nI (if drN (xsh x) (es.length - 1) < tk then drN (xsh x) (es.length - 1) else drN (xsh x) (es.length - 1) + 1)) (st M 12 0 (xsh x)) := by
    unfold s_TR_joinPartner
    rw [hX.1, show (1 : Int32) = nI 1 from rfl, pk_sub (by omega), dr_c h (by omega) (by omega), bi_s, st_other (by decide), htk]
    by_cases c : drN (xsh x) (es.length - 1) < tk
    · rw [if_neg (nI_ge c (by omega)), if_pos c]
    · rw [if_pos (nI_le (by omega) (by omega)), if_neg c, nI_add]
  rw [hs]
  have hp : (if drN (xsh x) (es.length - 1) < tk then drN (xsh x) (es.length - 1) else drN (xsh x) (es.length - 1) + 1) < es.length := by split <;> omega
  generalize (if drN (xsh x) (es.length - 1) < tk then drN (xsh x) (es.length - 1) else drN (xsh x) (es.length - 1) + 1) = p at hp
  have ho : Inp (st M 12 0 (xsh x)) (58 + 2 * p) (es.getD p []) := Inp_fr (hX.2.2 p hp).1 (st_other (by omega)) (st_other (by omega))
  have o6 := ho.2.1
  have h2' := IX_dr h1
  have hc : drN (xsh (xsh x)) (1 + min l.length (es.getD p []).length) < 1 + min l.length (es.getD p []).length := dr_lt (by omega)
  have hdr := dr_c h1 (n := 1 + min l.length (es.getD p []).length) (by omega) (by omega)
  generalize drN (xsh (xsh x)) (1 + min l.length (es.getD p []).length) = c at hc hdr
  unfold j_TR_joinPartner_30
  have hm : (if nI (es.getD p []).length < nI l.length then nI (es.getD p []).length else nI l.length) = nI (min l.length (es.getD p []).length) := by
    by_cases q : (es.getD p []).length < l.length
    · rw [if_pos (nI_lt q (by omega)), Nat.min_eq_right (by omega)]
    · rw [if_neg (fun w => q ((nI_ltI (by omega) (by omega)).mp w)), Nat.min_eq_left (by omega)]
  rw [v_ST_has, bi_s, st_other (show (5 : Nat) ≠ 12 by decide), hX.1, bI_t ⟨nI_pos' (by omega), nI_lt hp (by omega)⟩, if_neg (by decide), ck_i (vp_in_nI (by omega) (by decide)), nI_clamp (by omega)]
  simp only [nx]
  rw [show 2 * (122 + p) - 186 = 58 + 2 * p by omega, ho.1, h1.1.1]
  dsimp only
  rw [hm, show (1 : Int32) = nI 1 from rfl, nI_add, hdr, bi_s]
  obtain ⟨M2, a1, a2, a3⟩ := v_IN_cutTo (c := c) h2'.1 (by omega)
  have ho2 : Inp M2 (58 + 2 * p) (es.getD p []) := Inp_fr ho (by rw [a3 _ (by omega), st_other (by omega)]) (by rw [a3 _ (by omega), st_other (by omega)])
  obtain ⟨M3, b1, b2, b3⟩ := v_IN_appendPart (j := 54) (i := 58 + 2 * p) (a := c) (b := (es.getD p []).length) (by omega) a2 ho2 (by omega) (by omega) (by rw [List.length_take]; dsimp only; omega)
  rw [a1, bv_s, ho2.1, b1, bv_s]
  rw [List.take_length] at b2
  refine ⟨M3, rfl, ⟨b2, ?_⟩, fun a c1 c2 c3 => ?_⟩
  · rw [b3 12 (by decide) (by decide), a3 12 (by decide)]; exact h2'.2
  · rw [b3 a c2 c3, a3 a c2, st_other c1, st_other c1]
theorem sA {k : Nat} (h : k < 4) : sADD k = addV k := by
  rcases (show k = 0 ∨ k = 1 ∨ k = 2 ∨ k = 3 by omega) with rfl | rfl | rfl | rfl <;> rfl
theorem sP {k : Nat} (h : k < 4) : sPUT k = putV k := by
  rcases (show k = 0 ∨ k = 1 ∨ k = 2 ∨ k = 3 by omega) with rfl | rfl | rfl | rfl <;> rfl
theorem v_TR_change {M : Mem} {P : Pg} {es : List (List Int32)} {t : Nat × Nat × Nat} {x : Int32} (hX : XS0 M P es) (hT : XT M es t) (hw : wfT es t) (h0 : 0 < es.length) (hx : M 12 0 = x) : ∃ M1, s_TR_change 54 M = some M1 ∧ IX M1 (chA es t x) ∧ CF M M1 := by
  obtain ⟨t1, t2, t3, t4⟩ := hw h0
  obtain ⟨q1, q2, q3⟩ := hT.2 h0
  have h16 := hX.2.1
  have hl := (hX.2.2 t.1 t1).1
  have h6 := hl.2.1
  obtain ⟨M2, a1, a2, a3⟩ := v_IN_copy (j := 54) (i := 58 + 2 * t.1) (M := M) (by omega) hl
  have hI : IX M2 (es.getD t.1 [], x) := ⟨a2, by rw [a3 12 (by decide) (by decide)]; exact hx⟩
  have fM2 : CF M M2 := fun a _ h2 h3 => a3 a h2 h3
  have hX2 : XS0 M2 P es := XS0_fr hX (by rw [a3 5 (by decide) (by decide)]) (fun e he => ⟨a3 _ (by omega) (by omega), a3 _ (by omega) (by omega), by rw [a3 _ (by omega) (by omega)], by rw [a3 _ (by omega) (by omega)]⟩)
  have m13 : M2 13 = M 13 := a3 13 (by decide) (by decide)
  have hl2 : M2 (58 + 2 * t.1) 1 = nI (es.getD t.1 []).length := by rw [a3 _ (by omega) (by omega)]; exact hl.1
  unfold s_TR_change s_TR_firstDrawing
  rw [v_ST_has, bi_s, q1, hX.1, bI_t ⟨nI_pos' (by omega), nI_lt t1 (by omega)⟩, if_neg (by decide), ck_i (vp_in_nI (by omega) (by decide)), nI_clamp (by omega)]
  simp only [nx]
  rw [show 2 * (122 + t.1) - 186 = 58 + 2 * t.1 by omega, a1, bv_s, bi_s, hl2, m13, q2, q3, show (8 : Int32) = nI 8 from rfl, show (12 : Int32) = nI 12 from rfl, show (16 : Int32) = nI 16 from rfl, pk_mul, pk_mul, pk_mul, nI_add]
  unfold chA
  dsimp only
  generalize es.getD t.1 [] = l at *
  have hm : t.2.1 < 2 ^ 31 := by omega
  by_cases c1 : t.2.1 < 8 * l.length
  · rw [if_neg (nI_ge c1 (by omega)), if_pos c1]
    rw [pk_shrN hm ((3 : Int32) &&& 31) 3 (by decide), pk_andN (by omega) (m := 7) 3 (by decide), show (2 : Nat) ^ 3 = 8 from rfl]
    have hk : t.2.1 / 8 < l.length := by omega
    rw [v_IN_turnBit _ hI.1 hk, bv_s, gD hk]
    obtain ⟨b1, b2⟩ := IX_set (k := t.2.1 / 8) (v := l[t.2.1 / 8] ^^^ ((1 : Int32) <<< (nI (t.2.1 % 8) &&& 31))) hI
    exact ⟨_, rfl, b1, CF_t fM2 b2⟩
  rw [if_pos (nI_le (by omega) hm), if_neg c1]
  by_cases c2 : t.2.1 < 12 * l.length
  · rw [if_neg (nI_ge c2 (by omega)), if_pos c2, pk_sub (by omega), pk_shrN (by omega) ((2 : Int32) &&& 31) 2 (by decide), pk_andN (by omega) (m := 3) 2 (by decide), show (2 : Nat) ^ 2 = 4 from rfl]
    have hr : (t.2.1 - 8 * l.length) % 4 < 4 := Nat.mod_lt _ (by decide)
    have hk : (t.2.1 - 8 * l.length) / 4 < l.length := by omega
    rw [ck_i (vp_in_nI hr (by decide)), nI_clamp (by omega), sA hr, v_IN_addTo _ hI.1 hk, bv_s, gD hk]
    obtain ⟨b1, b2⟩ := IX_set (k := (t.2.1 - 8 * l.length) / 4) (v := l[(t.2.1 - 8 * l.length) / 4] + addV ((t.2.1 - 8 * l.length) % 4)) hI
    exact ⟨_, rfl, b1, CF_t fM2 b2⟩
  rw [if_pos (nI_le (by omega) hm), if_neg c2]
  by_cases c3 : t.2.1 < 16 * l.length
  · rw [if_neg (nI_ge c3 (by omega)), if_pos c3, pk_sub (by omega), pk_shrN (by omega) ((2 : Int32) &&& 31) 2 (by decide), pk_andN (by omega) (m := 3) 2 (by decide), show (2 : Nat) ^ 2 = 4 from rfl]
    have hr : (t.2.1 - 12 * l.length) % 4 < 4 := Nat.mod_lt _ (by decide)
    have hk : (t.2.1 - 12 * l.length) / 4 < l.length := by omega
    rw [ck_i (vp_in_nI hr (by decide)), nI_clamp (by omega), sP hr, v_IN_put _ hI.1 hk, bv_s]
    obtain ⟨b1, b2⟩ := IX_set (k := (t.2.1 - 12 * l.length) / 4) (v := putV ((t.2.1 - 12 * l.length) % 4)) hI
    exact ⟨_, rfl, b1, CF_t fM2 b2⟩
  rw [if_pos (nI_le (by omega) hm), if_neg c3]
  by_cases c4 : t.2.1 < 16 * l.length + t.2.2
  · rw [if_neg (nI_ge c4 (by omega)), if_pos c4]
    obtain ⟨M3, b1, b2, b3⟩ := v_TR_mix hI
    rw [b1, bv_s]
    exact ⟨M3, rfl, b2, CF_t fM2 b3⟩
  rw [if_pos (nI_le (by omega) hm), if_neg c4]
  obtain ⟨M3, b1, b2, b3⟩ := v_TR_join hX2 (by omega) (by rw [m13]; exact q1) t1 hI
  rw [b1, bv_s]
  exact ⟨M3, rfl, b2, CF_t fM2 b3⟩
