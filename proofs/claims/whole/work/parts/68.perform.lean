/-! Pure: the class's perform: reset, then the loop. -/
/-- the memory M with cell j as f says -/
def pt (M : Mem) (j : Nat) (f : Nat → Int32) : Mem := fun a => if a = j then f else M a
theorem pt_same (M : Mem) (j : Nat) (f : Nat → Int32) : pt M j f j = f := by unfold pt; rw [if_pos rfl]
theorem pt_o {M : Mem} {j a : Nat} {f : Nat → Int32} (h : a ≠ j) : pt M j f a = M a := by unfold pt; rw [if_neg h]
theorem pt_st (M : Mem) (j : Nat) (f : Nat → Int32) (k : Nat) (v : Int32) : st (pt M j f) j k v = pt M j (upd f k v) := by
  funext a
  by_cases h : a = j
  · subst h; rw [st_same, pt_same, pt_same]
  · rw [st_other h, pt_o h, pt_o h]
theorem pt_id (M : Mem) (j : Nat) : pt M j (M j) = M := by
  funext a
  by_cases h : a = j
  · subst h; rw [pt_same]
  · rw [pt_o h]
def zt (t : Nat → Int32) (E : List Nat) (i : Nat) : Nat → Int32 := fun g => if g ∈ E.take i then 0 else t g
theorem zt_s {t : Nat → Int32} {E : List Nat} {i : Nat} (h : i < E.length) : upd (zt t E i) E[i] 0 = zt t E (i + 1) := by
  funext g
  unfold upd zt
  rw [List.take_succ_eq_append_getElem h]
  by_cases e : g = E[i]
  · rw [if_pos e, if_pos (by rw [List.mem_append]; exact Or.inr (by rw [List.mem_singleton]; exact e))]
  · rw [if_neg e]
    by_cases e2 : g ∈ E.take i
    · rw [if_pos e2, if_pos (by rw [List.mem_append]; exact Or.inl e2)]
    · rw [if_neg e2, if_neg (by rw [List.mem_append, List.mem_singleton]; exact fun q => q.elim e2 e)]
theorem v_RU_reset {j : Nat} {M : Mem} {E : List Nat} (hE : EdL (M (j + 5)) (M j 5) (M (j + 4)) E) (hl : E.length ≤ 64) : ∃ s, s_RU_reset j M = some (stC j (st M j 5 0) s) ∧ Req z0 s ∧ wfK 0 s ∧ s.2.2.2.2.2 = -1 := by
  obtain ⟨h1, h2, h3, h4⟩ := hE
  have hb : ∀ i, i < E.length → (fun q : Int32 × Mem => l_RU_reset_2 j q.1 q.2) (nI i, pt M (j + 4) (zt (M (j + 4)) E i)) = some (.inl (nI (i + 1), pt M (j + 4) (zt (M (j + 4)) E (i + 1)))) := fun i hi => by
    show l_RU_reset_2 j (nI i) (pt M (j + 4) (zt (M (j + 4)) E i)) = _
    unfold l_RU_reset_2
    have g1 : E[i] < 576 := ((h2 E[i]).mp (List.getElem_mem hi)).1
    rw [pt_o (by omega), pt_o (by omega), h3, if_neg (nI_ge hi (by omega)), ck_i (vp_in_nI (by omega) (by decide)), nI_clamp (by omega), h4 i hi, ck_i (vp_in_nI g1 (by decide)), nI_clamp (by omega)]
    simp only [nx]
    rw [pt_st, zt_s hi, nI_succ]
  have h0 := lp_cnt0 (b := fun q : Int32 × Mem => l_RU_reset_2 j q.1 q.2) (fun i => (nI i, pt M (j + 4) (zt (M (j + 4)) E i))) E.length hb
  have hz : zt (M (j + 4)) E 0 = M (j + 4) := by
    funext g
    unfold zt
    rw [if_neg (by simp)]
  have hend : lp (fun q : Int32 × Mem => l_RU_reset_2 j q.1 q.2) (nI E.length, pt M (j + 4) (zt (M (j + 4)) E E.length)) = j_RU_reset_28 j (pt M (j + 4) (zt (M (j + 4)) E E.length)) := lp_last (by
    show l_RU_reset_2 j (nI E.length) (pt M (j + 4) (zt (M (j + 4)) E E.length)) = _
    unfold l_RU_reset_2
    rw [pt_o (by omega), h3, if_pos (nI_le (Nat.le_refl _) (by omega))])
  let s : Rs := ((fun k => if k < 4 then 0 else M (j + 1) k, fun k => if k < 4 then 0 else M (j + 2) k, M (j + 3), zt (M (j + 4)) E E.length), (0, 0, 0, 0, -1))
  have hz0 : ∀ g, g < 576 → zt (M (j + 4)) E E.length g = 0 := fun g hg => by
    unfold zt
    rw [List.take_length]
    by_cases e : g ∈ E
    · rw [if_pos e]
    · rw [if_neg e]
      exact Classical.byContradiction (fun q => e ((h2 g).mpr ⟨hg, q⟩))
  refine ⟨s, ?_, ?_, ?_, rfl⟩
  · have e1 : s_RU_reset j M = j_RU_reset_28 j (pt M (j + 4) (zt (M (j + 4)) E E.length)) := by
      rw [← hend, ← h0, hz, pt_id]
      rfl
    rw [e1]
    unfold j_RU_reset_28
    rw [v_fill, bv_s, v_fill, bv_s]
    simp only [nx]
    refine congrArg some (stC_ext ?_ ?_ ?_ ?_ ?_ ?_)
    · rw [st_other (by omega), st_other (by omega), st_other (by omega), st_other (by omega), st_other (by omega), st_other (by omega), fl_o (by omega)]
      unfold fl
      rw [if_pos rfl, pt_o (by omega)]
    · rw [st_other (by omega), st_other (by omega), st_other (by omega), st_other (by omega), st_other (by omega), st_other (by omega)]
      unfold fl
      rw [if_pos rfl, if_neg (by omega), pt_o (by omega)]
    · rw [st_other (by omega), st_other (by omega), st_other (by omega), st_other (by omega), st_other (by omega), st_other (by omega), fl_o (by omega), fl_o (by omega), pt_o (by omega)]
    · rw [st_other (by omega), st_other (by omega), st_other (by omega), st_other (by omega), st_other (by omega), st_other (by omega), fl_o (by omega), fl_o (by omega), pt_same]
    · rw [stC_j]
      funext k
      simp only [st_ap, if_pos]
      rw [fl_o (by omega), fl_o (by omega), pt_o (by omega)]
      by_cases k5 : k = 5
      · subst k5; rfl
      by_cases k6 : k = 6
      · subst k6; rfl
      by_cases k7 : k = 7
      · subst k7; rfl
      by_cases k8 : k = 8
      · subst k8; rfl
      by_cases k9 : k = 9
      · subst k9; rfl
      by_cases k10 : k = 10
      · subst k10; rfl
      rw [if_neg k10, if_neg k9, if_neg k8, if_neg k7, if_neg k6, if_neg k5, if_neg k6, if_neg k7, if_neg k8, if_neg k9, if_neg k10]
    · intro a ha
      rw [st_other (by omega), st_other (by omega), st_other (by omega), st_other (by omega), st_other (by omega), st_other (by omega), fl_o (by omega), fl_o (by omega), pt_o (by omega), st_other (by omega)]
  · refine ⟨fun k hk => ?_, fun k hk => ?_, fun d hd ed k hk => ?_, fun g hg => (hz0 g hg).symm, rfl, rfl, fun q => absurd rfl q, rfl, rfl⟩
    · show (0 : Int32) = if k < 4 then 0 else M (j + 1) k
      rw [if_pos hk]
    · show (0 : Int32) = if k < 4 then 0 else M (j + 2) k
      rw [if_pos hk]
    · have ed : (0 : Int32) = nI d := ed
      have := (nI_eq (a := 0) (b := d) (by decide) (by omega)).mp ed
      omega
  · exact ⟨⟨⟨0, by decide, rfl, fun k hk => absurd hk (by omega)⟩, 0, by decide, rfl⟩, rfl, fun g hg => ⟨0, by decide, hz0 g hg⟩⟩
theorem v_RU_loop {j i n L : Nat} {P : Pg} {I : Ip} (hj : 5 < j) (hi : i + 1 < j ∨ j + 5 < i) (hP : wfP P n) (hL : I.2 = nI L) (hL6 : L ≤ 6) : ∀ d k s M E, d + k = 65 → k ≤ 64 → (M 2, M 3, M 4, M 1 3) = P → (M (i + 1), M i 1) = I → wfK k s → s.2.2.2.2.2 = -1 → EdL (M (j + 5)) (M j 5) s.1.2.2.2 E → E.length ≤ k →
    ∃ M' E', lp (fun q : Int32 × Mem => l_RU_perform_6 j i q.1 q.2) (nI k, stC j M s) = some (stC j M' (rN P I d s)) ∧ (∀ a, a ≠ j → a ≠ j + 5 → M' a = M a) ∧ (∀ q, q ≠ 5 → M' j q = M j q) ∧ EdL (M' (j + 5)) (M' j 5) (rN P I d s).1.2.2.2 E' ∧ E'.length ≤ 64 := by
  have hend : ∀ (k : Int32) (M : Mem) (s : Rs), 0 ≤ s.2.2.2.2.2 → lp (fun q : Int32 × Mem => l_RU_perform_6 j i q.1 q.2) (k, stC j M s) = some (stC j M s) := fun k M s h => lp_inr (by
    show l_RU_perform_6 j i k (stC j M s) = _
    unfold l_RU_perform_6
    by_cases c : (64 : Int32) < k
    · rw [if_pos c]
    · rw [if_neg c, stC_oc, if_neg (fun q => absurd h (by rw [q]; decide))])
  intro d
  induction d with
  | zero => intro k s M E h1 h2; omega
  | succ d ih =>
    intro k s M E h1 h2 hM hI h3 h4 hE hEl
    have e1 : stC j M s 1 = M 1 := stC_o (Or.inl (by omega))
    have eP : M 1 3 = P.2.2.2 := by rw [← hM]
    have hkk : ¬ (64 : Int32) < nI k := nI_nlt (a := 64) (b := k) h2 (by decide) |> fun q => by
      intro q2
      exact absurd ((nI_ltI (a := 64) (b := k) (by decide) (by omega)).mp q2) (by omega)
    have hpos : 0 ≤ s.2.2.1 := by
      obtain ⟨⟨-, p, hp, hpc⟩, -⟩ := h3
      rw [hpc]; exact nI_pos' (by omega)
    show ∃ M' E', _ = some (stC j M' (rN P I d (rIt P I s))) ∧ _ ∧ _ ∧ EdL _ _ (rN P I d (rIt P I s)).1.2.2.2 E' ∧ _
    unfold rIt
    rw [if_neg (by rw [h4]; decide)]
    by_cases c : s.2.2.1 < P.2.2.2
    · rw [if_pos c]
      by_cases c2 : s.2.2.2.2.1 = 64
      · have hk : k = 64 := (st_64 h3 h2).mp c2
        subst hk
        rw [if_pos c2, rN_fix (by show (0 : Int32) ≤ 5; decide)]
        refine ⟨M, E, ?_, fun _ _ _ => rfl, fun _ _ => rfl, hE, hEl⟩
        refine (lp_inl (b := fun q : Int32 × Mem => l_RU_perform_6 j i q.1 q.2) (s1 := (nI 64 + 1, stC j M (rOc s 5))) ?_).trans (hend _ _ _ (by show (0 : Int32) ≤ 5; decide))
        show l_RU_perform_6 j i (nI 64) (stC j M s) = _
        unfold l_RU_perform_6
        rw [if_neg hkk, stC_oc, if_pos h4, v_has, bi_s, stC_pc, e1, eP, bI_t ⟨hpos, c⟩, if_neg (by decide), if_pos (show nI 64 = (64 : Int32) from rfl)]
        simp only [nx]
        rw [stC_wOc]
        rfl
      · rw [if_neg c2]
        have hk : k < 64 := by
          rcases Nat.lt_or_ge k 64 with q | q
          · exact q
          · exact absurd ((st_64 h3 h2).mpr (by omega)) c2
        obtain ⟨p, hp, hpc⟩ := wf_pc hP h3 c
        obtain ⟨g1, g2⟩ := wfK_step (I := I) hP h3 h4 hpc hp
        have hL' : M i 1 = nI L := by rw [← hL, ← hI]
        obtain ⟨M1, m1, m2, m3, E1, m4, m5⟩ := v_RU_step' (L := L) hj hi (by rw [hM]; exact hP) h3 hk hpc hp hL' hL6 h4 hE hEl
        rw [hM, hI] at m1 m4
        have hstep : l_RU_perform_6 j i (nI k) (stC j M s) = some (.inl (nI (k + 1), stC j M1 (rstep P I s))) := by
          unfold l_RU_perform_6
          rw [if_neg hkk, stC_oc, if_pos h4, v_has, bi_s, stC_pc, e1, eP, bI_t ⟨hpos, c⟩, if_neg (by decide), if_neg (show ¬ nI k = (64 : Int32) from fun q => absurd ((nI_eq (a := k) (b := 64) (by omega) (by decide)).mp q) (by omega)), m1, bv_s, nI_succ]
          rfl
        rcases oc_cases g2 with ⟨g3, -⟩ | g3
        · obtain ⟨M2, E2, i1, i2, i3, i4, i5⟩ := ih (k + 1) (rstep P I s) M1 E1 (by omega) (by omega) (by rw [m2 2 (by omega) (by omega), m2 3 (by omega) (by omega), m2 4 (by omega) (by omega), m2 1 (by omega) (by omega)]; exact hM) (by rw [m2 (i + 1) (by omega) (by omega), m2 i (by omega) (by omega)]; exact hI) g1 g3 m4 m5
          exact ⟨M2, E2, (lp_inl (b := fun q : Int32 × Mem => l_RU_perform_6 j i q.1 q.2) hstep).trans i1, fun a b1 b2 => (i2 a b1 b2).trans (m2 a b1 b2), fun q b => (i3 q b).trans (m3 q b), i4, i5⟩
        · rw [rN_fix g3]
          exact ⟨M1, E1, (lp_inl (b := fun q : Int32 × Mem => l_RU_perform_6 j i q.1 q.2) hstep).trans (hend _ _ _ g3), m2, m3, m4, by omega⟩
    · rw [if_neg c, rN_fix (by show (0 : Int32) ≤ 0; decide)]
      refine ⟨M, E, ?_, fun _ _ _ => rfl, fun _ _ => rfl, hE, by omega⟩
      refine (lp_inl (b := fun q : Int32 × Mem => l_RU_perform_6 j i q.1 q.2) (s1 := (nI k + 1, stC j M (rOc s 0))) ?_).trans (hend _ _ _ (by show (0 : Int32) ≤ 0; decide))
      show l_RU_perform_6 j i (nI k) (stC j M s) = _
      unfold l_RU_perform_6
      rw [if_neg hkk, stC_oc, if_pos h4, v_has, bi_s, stC_pc, e1, eP, bI_f (fun q => c q.2), if_pos rfl]
      simp only [nx]
      rw [stC_wOc]
      rfl
/-- the input in cells i, i+1 is l -/
def Byt (l : List Int32) : Prop := ∀ b, b ∈ l → 0 ≤ b ∧ b < 256
def Inp (M : Mem) (i : Nat) (l : List Int32) : Prop := M i 1 = nI l.length ∧ l.length ≤ 6 ∧ Row (M (i + 1)) 0 l ∧ Byt l
/-- what the class's perform does -/
def ROk (j : Nat) (M : Mem) : Prop := ∃ E, EdL (M (j + 5)) (M j 5) (M (j + 4)) E ∧ E.length ≤ 64
theorem v_RU_RUN {j i n : Nat} {M : Mem} {P : Pg} {l : List Int32} (hj : 5 < j) (hi : i + 1 < j ∨ j + 5 < i) (hM : (M 2, M 3, M 4, M 1 3) = P) (hP : wfP P n) (hl : Inp M i l) (hR : ROk j M) :
    ∃ M1, s_RU_perform j i M = some M1 ∧ (∀ a, (a < j ∨ j + 5 < a) → M1 a = M a) ∧ ROk j M1 ∧ Req (RUN P l) (prC j M1) := by
  obtain ⟨E, hE, hEl⟩ := hR
  obtain ⟨l1, l2, l3, -⟩ := hl
  obtain ⟨s, r1, r2, r3, r4⟩ := v_RU_reset hE hEl
  have o : ∀ a, a ≠ j → st M j 5 0 a = M a := fun a h => st_other h
  have hE0 : EdL (st M j 5 0 (j + 5)) (st M j 5 0 j 5) s.1.2.2.2 [] := by
    refine ⟨by simp, fun g => ?_, ?_, fun i h => absurd h (by simp)⟩
    · constructor
      · intro q; exact absurd q (by simp)
      · intro q; exact absurd (r2.2.2.2.1 g q.1).symm q.2
    · rw [st_ap, if_pos rfl, if_pos rfl]; rfl
  obtain ⟨M2, E2, k1, k2, k3, k4, k5⟩ := v_RU_loop (I := (M (i + 1), M i 1)) hj hi hP l1 l2 65 0 s (st M j 5 0) [] (by omega) (by omega) (by rw [o 2 (by omega), o 3 (by omega), o 4 (by omega), o 1 (by omega)]; exact hM) (by rw [o (i + 1) (by omega), o i (by omega)]) r3 r4 hE0 (by simp)
  refine ⟨stC j M2 (rN P (M (i + 1), M i 1) 65 s), ?_, ?_, ?_, ?_⟩
  · unfold s_RU_perform
    rw [r1, bv_s]
    exact k1
  · intro a ha
    rw [stC_o (by omega), k2 a (by omega) (by omega), o a (by omega)]
  · refine ⟨E2, ?_, k5⟩
    rw [stC_o (by omega), stC_f (Or.inl (by decide)), stC_tm]
    exact k4
  · have : prC j (stC j M2 (rN P (M (i + 1), M i 1) 65 s)) = rN P (M (i + 1), M i 1) 65 s := by
      unfold prC
      rw [stC_r, stC_me, stC_sk, stC_tm, stC_dp, stC_pc, stC_hr, stC_st, stC_oc]
    rw [this, RUN_eq]
    exact rN_Req hP (Row_Ieq l3 l1 l2) 65 0 z0 s (by omega) (by omega) z0_wf rfl r2
