/-! Pure: the reference's execute. -/
def MT (M : Mem) (es : List (List Int32)) (t : Nat × Nat × Nat) : Prop := 0 < es.length → M 26 40 = nI t.1 ∧ M 26 41 = nI t.2.1 ∧ M 26 42 = nI t.2.2
/-- the reference's cells but for the draft -/
def MA (M : Mem) (P : Pg) (A : Ab) : Prop := MP M P ∧ MS M A.1 ∧ (M 26 35 = M 26 18 → Srv M P A.1) ∧ (∀ e, e < A.1.length → M 38 e = A.2.1 e) ∧ MF M A.2.2.1.1 A.2.2.1.2 ∧ (M 26 32 = A.2.2.2.1.1 ∧ M 26 33 = A.2.2.2.1.2.1 ∧ M 26 34 = A.2.2.2.1.2.2) ∧ MT M A.1 A.2.2.2.2.1 ∧ M 26 6 = A.2.2.2.2.2
/-- the input under trial, as the reference has it -/
def Cur (M : Mem) (l : List Int32) : Prop := M 26 44 = nI l.length ∧ l.length ≤ 6 ∧ Row (M 51) 0 l
theorem Srv_fr {M M1 : Mem} {P : Pg} {es : List (List Int32)} (h : Srv M P es) (h48 : M1 48 = M 48) (h49 : M1 49 = M 49) (h50 : M1 50 = M 50) (h39 : M1 26 39 = M 26 39) : Srv M1 P es := by
  unfold Srv
  rw [h48, h49, h50, h39]
  exact h
theorem MF_fr {M M1 : Mem} {nf : Nat} {F : Nat → Fnd} (h : MF M nf F) (h22 : M1 26 22 = M 26 22) (hf : ∀ a, 39 ≤ a → a ≤ 47 → M1 a = M a) : MF M1 nf F := by
  obtain ⟨x1, x2, x3⟩ := h
  exact ⟨h22.trans x1, x2, fun c hc => MFc_fr (x3 c hc) (by rw [hf 39 (by omega) (by omega)]) (by rw [hf 40 (by omega) (by omega)]) (by rw [hf 41 (by omega) (by omega)]) (fun k _ => by rw [hf 42 (by omega) (by omega)]) (by rw [hf 43 (by omega) (by omega)]) (by rw [hf 45 (by omega) (by omega)]) (fun k _ => by rw [hf 44 (by omega) (by omega)]) (by rw [hf 47 (by omega) (by omega)]) (fun k _ => by rw [hf 46 (by omega) (by omega)])⟩
theorem Cur_fr {M M1 : Mem} {l : List Int32} (h : Cur M l) (h44 : M1 26 44 = M 26 44) (h51 : M1 51 = M 51) : Cur M1 l := by
  unfold Cur
  rw [h44, h51]
  exact h
/-- a new entry may be told apart from the old ones -/
theorem v_MO_takeUp {M : Mem} {P : Pg} {n : Nat} {es : List (List Int32)} {fs : Nat → Int32} {e : Nat} (hP : wfP P n) (hMP : MP M P) (hMS : MS M es) (hsv : M 26 35 = M 26 18 → Srv M P es) (hf : ∀ e, e < es.length → M 38 e = fs e) (he : e < es.length) : ∃ M1, s_MO_takeUp (nI e) M = some M1 ∧ (M1 26 40 = nI (tuA P es fs e).1 ∧ M1 26 41 = nI (tuA P es fs e).2.1 ∧ M1 26 42 = nI (tuA P es fs e).2.2) ∧ Srv M1 P es ∧ M1 26 35 = M1 26 18 ∧ (∀ a, a ≠ 26 → ¬ (31 ≤ a ∧ a ≤ 35) → ¬ (48 ≤ a ∧ a ≤ 50) → M1 a = M a) ∧ (∀ k, k ≠ 8 → ¬ (12 ≤ k ∧ k ≤ 16) → k ≠ 35 → k ≠ 39 → ¬ (40 ≤ k ∧ k ≤ 42) → M1 26 k = M 26 k) := by
  obtain ⟨M2, s1, s2, s3, s4⟩ := v_MO_survey hP hMP hMS hsv
  have h16 := hMS.2.1
  have hec : ecN P (es.getD e []) ≤ 576 := by
    rw [ecN_K]
    have := sm_le (f := fun g => if tN P (es.getD e []) g ≠ 0 then 1 else 0) (c := 1) KE (fun i _ => by split <;> omega)
    rw [Nat.mul_one] at this
    rw [KE_eq] at this ⊢
    exact this
  have hMS2 := MS_SF hMS s2
  have h38 : M2 38 = M 38 := s2.1 38 (by decide) (by decide) (by decide)
  have h48 : ∀ v : Nat, ∀ X : Mem, (∀ a, a ≠ 26 → X a = M2 a) → (∀ k, k ≠ 40 → X 26 k = M2 26 k) → X 26 40 = nI e → ∃ M1, j_MO_takeUp_48 (nI e) (nI v) X = some M1 ∧ (M1 26 40 = nI e ∧ M1 26 41 = nI (if fs e ≤ 0 then 0 else 16 * (es.getD e []).length) ∧ M1 26 42 = nI v) ∧ (∀ a, a ≠ 26 → M1 a = M2 a) ∧ (∀ k, ¬ (40 ≤ k ∧ k ≤ 42) → M1 26 k = M2 26 k) := fun v X hX1 hX2 hX3 => by
    unfold j_MO_takeUp_48
    simp only [nx]
    rw [ck_i (vp_in_nI (by omega) (by decide)), ck_i (vp_in_nI (by omega) (by decide)), nI_clamp (by omega), st_other (show (38 : Nat) ≠ 26 by decide), st_other (show (37 : Nat) ≠ 26 by decide), hX1 38 (by decide), hX1 37 (by decide), h38, hf e he, (hMS2.2.2 e he).1]
    by_cases c : fs e ≤ 0
    · rw [if_pos c, if_pos c]
      refine ⟨_, rfl, ⟨?_, ?_, ?_⟩, fun a ha => by rw [st_other ha, st_other ha, hX1 a ha], fun k hk => ?_⟩
      · rw [st_ap, if_pos rfl, if_neg (by decide), st_ap, if_pos rfl, if_neg (by decide), hX3]
      · rw [st_ap, if_pos rfl, if_pos rfl]; rfl
      · rw [st_ap, if_pos rfl, if_neg (by decide), st_ap, if_pos rfl, if_pos rfl]
      · rw [st_ap, if_pos rfl, if_neg (by omega), st_ap, if_pos rfl, if_neg (by omega), hX2 k (by omega)]
    · rw [if_neg c, if_neg c, show (16 : Int32) = nI 16 from rfl, pk_mul]
      refine ⟨_, rfl, ⟨?_, ?_, ?_⟩, fun a ha => by rw [st_other ha, st_other ha, hX1 a ha], fun k hk => ?_⟩
      · rw [st_ap, if_pos rfl, if_neg (by decide), st_ap, if_pos rfl, if_neg (by decide), hX3]
      · rw [st_ap, if_pos rfl, if_pos rfl]
      · rw [st_ap, if_pos rfl, if_neg (by decide), st_ap, if_pos rfl, if_pos rfl]
      · rw [st_ap, if_pos rfl, if_neg (by omega), st_ap, if_pos rfl, if_neg (by omega), hX2 k (by omega)]
  have hfin : ∃ M1, s_MO_takeUp (nI e) M = some M1 ∧ (M1 26 40 = nI e ∧ M1 26 41 = nI (if fs e ≤ 0 then 0 else 16 * (es.getD e []).length) ∧ M1 26 42 = nI (enA P es e)) ∧ (∀ a, a ≠ 26 → M1 a = M2 a) ∧ (∀ k, ¬ (40 ≤ k ∧ k ≤ 42) → M1 26 k = M2 26 k) := by
    unfold s_MO_takeUp
    rw [s1, bv_s, v_MO_edgesOf s3.2.1 h16 he, bi_s]
    have h22 : ∀ v : Nat, v = min 8 (ecN P (es.getD e [])) → ∃ M1, j_MO_takeUp_22 (nI e) (nI v) M2 = some M1 ∧ (M1 26 40 = nI e ∧ M1 26 41 = nI (if fs e ≤ 0 then 0 else 16 * (es.getD e []).length) ∧ M1 26 42 = nI (enA P es e)) ∧ (∀ a, a ≠ 26 → M1 a = M2 a) ∧ (∀ k, ¬ (40 ≤ k ∧ k ≤ 42) → M1 26 k = M2 26 k) := fun v hv => by
      unfold j_MO_takeUp_22 enA
      simp only [nx]
      rw [show st M2 26 40 (nI e) 26 39 = M2 26 39 from rfl, s3.2.2.2, ← hv]
      by_cases c : (fav P es >>> (nI e &&& 31)) &&& 1 = 1
      · rw [if_pos c, if_pos c, show (2 : Int32) = nI 2 from rfl, pk_mul, Nat.mul_comm 2 v]
        exact h48 (v * 2) _ (fun a ha => st_other ha) (fun k hk => by rw [st_ap, if_pos rfl, if_neg hk]) (by rw [st_ap, if_pos rfl, if_pos rfl])
      · rw [if_neg c, if_neg c, Nat.mul_one]
        exact h48 v _ (fun a ha => st_other ha) (fun k hk => by rw [st_ap, if_pos rfl, if_neg hk]) (by rw [st_ap, if_pos rfl, if_pos rfl])
    by_cases c : 8 ≤ ecN P (es.getD e [])
    · rw [if_pos (show (8 : Int32) ≤ nI (ecN P (es.getD e [])) from nI_le (a := 8) c (by omega))]
      exact h22 8 (by omega)
    · rw [if_neg (show ¬ (8 : Int32) ≤ nI (ecN P (es.getD e [])) from nI_ge (b := 8) (by omega) (by decide))]
      exact h22 _ (by omega)
  obtain ⟨M1, a1, a2, a3, a4⟩ := hfin
  refine ⟨M1, a1, a2, Srv_fr s3 (a3 48 (by decide)) (a3 49 (by decide)) (a3 50 (by decide)) (a4 39 (by decide)), by rw [a4 35 (by decide), a4 18 (by decide)]; exact s4, fun a h1 h2 h3 => by rw [a3 a h1, s2.1 a h1 h2 h3], fun k h1 h2 h3 h4 h5 => by rw [a4 k h5, s2.2 k h1 h2 h3 h4]⟩
theorem v_MO_ex64 {M : Mem} {P : Pg} {n : Nat} {es : List (List Int32)} {fs : Nat → Int32} {t : Nat × Nat × Nat} {l : List Int32} (oc : Int32) (hP : wfP P n) (hMP : MP M P) (hMS : MS M es) (h35 : M 26 35 = M 26 18) (hsv : Srv M P es) (hf : ∀ e, e < es.length → M 38 e = fs e) (hf0 : ∀ e, es.length ≤ e → fs e = 0) (hc : Cur M l) (ht : MT M es t) :
    ∃ M1, j_MO_execute_64 oc (bI (news P es l = true)) M = some (oc, M1) ∧ MP M1 P ∧ MS M1 (exS P l es) ∧ (M1 26 35 = M1 26 18 → Srv M1 P (exS P l es)) ∧ (∀ e, e < (exS P l es).length → M1 38 e = fs e) ∧ M1 26 34 = M 26 34 + exL P l es ∧ MT M1 (exS P l es) (exT P es (exS P l es) fs t) ∧ (∀ a, a ≠ 26 → ¬ (31 ≤ a ∧ a ≤ 38) → ¬ (48 ≤ a ∧ a ≤ 50) → M1 a = M a) ∧ (∀ k, k ≠ 8 → ¬ (12 ≤ k ∧ k ≤ 16) → k ≠ 18 → ¬ (34 ≤ k ∧ k ≤ 35) → ¬ (39 ≤ k ∧ k ≤ 42) → M1 26 k = M 26 k) := by
  obtain ⟨n18, n16, hall⟩ := id hMS
  obtain ⟨c44, c6, c51⟩ := id hc
  unfold j_MO_execute_64 j_MO_execute_90
  by_cases c : news P es l = true
  · rw [bI_t c, if_neg (by decide), n18]
    by_cases c2 : es.length = 16
    · have hS : exS P l es = es := by unfold exS; rw [if_neg (by omega)]
      have hL : exL P l es = 1 := by unfold exL; rw [if_pos ⟨c, by omega⟩]
      have hT : exT P es es fs t = t := by unfold exT; rw [if_neg (by omega)]
      rw [hS, hL, hT, if_pos (by rw [c2]; rfl)]
      refine ⟨st M 26 34 (M 26 34 + 1), rfl, ?_, ?_, ?_, ?_, ?_, ?_, fun a h1 _ _ => st_other h1, fun k _ _ _ h4 _ => by rw [st_ap, if_pos rfl, if_neg (by omega)]⟩
      · unfold MP
        rw [st_other (by decide), st_other (by decide), st_other (by decide), st_ap, if_pos rfl, if_neg (by decide)]
        exact hMP
      · exact MS_fr hMS (by rw [st_ap, if_pos rfl, if_neg (by decide)]) (st_other (by decide)) (st_other (by decide))
      · intro _
        exact Srv_fr hsv (st_other (by decide)) (st_other (by decide)) (st_other (by decide)) (by rw [st_ap, if_pos rfl, if_neg (by decide)])
      · intro e he; rw [st_other (by decide)]; exact hf e he
      · rw [st_ap, if_pos rfl, if_pos rfl]
      · intro q
        rw [st_ap, if_pos rfl, if_neg (by decide), st_ap, if_pos rfl, if_neg (by decide), st_ap, if_pos rfl, if_neg (by decide)]
        exact ht q
    · have hlt : es.length < 16 := by omega
      have hS : exS P l es = es ++ [l] := by unfold exS; rw [if_pos ⟨c, hlt⟩]
      have hL : exL P l es = 0 := by unfold exL; rw [if_neg (fun q => q.2 hlt)]
      have hl1 : (es ++ [l]).length = es.length + 1 := by simp
      rw [hS, hL, if_neg (show ¬ nI es.length = (16 : Int32) from fun q => c2 ((nI_eq (b := 16) (by omega) (by decide)).mp q)), if_neg (by decide)]
      simp only [nx]
      have hb : ∀ k, k < l.length → (fun q : Int32 × Mem => l_MO_execute_96 oc q.1 q.2) (nI k, pt M 36 (cpR (M 51) (M 36) 0 (6 * es.length) k)) = some (.inl (nI (k + 1), pt M 36 (cpR (M 51) (M 36) 0 (6 * es.length) (k + 1)))) := fun k hk => by
        show l_MO_execute_96 oc (nI k) (pt M 36 (cpR (M 51) (M 36) 0 (6 * es.length) k)) = _
        unfold l_MO_execute_96
        have e1 : (6 : Int32) * nI es.length + nI k = nI (6 * es.length + k) := by rw [show (6 : Int32) = nI 6 from rfl, pk_mul, nI_add]
        rw [pt_o (show (26 : Nat) ≠ 36 by decide), pt_o (show (51 : Nat) ≠ 36 by decide), c44, n18, if_neg (nI_ge hk (by omega)), ck_i (vp_in_nI (by omega) (by decide)), e1, ck_i (vp_in_nI (by omega) (by decide)), nI_clamp (by omega), nI_clamp (by omega)]
        simp only [nx]
        have := cp_s (M 51) (M 36) 0 (6 * es.length) k
        rw [Nat.zero_add] at this
        rw [pt_st, this, nI_succ]
      have h0 := lp_cnt0 (b := fun q : Int32 × Mem => l_MO_execute_96 oc q.1 q.2) (fun k => (nI k, pt M 36 (cpR (M 51) (M 36) 0 (6 * es.length) k))) l.length hb
      rw [cp_0, pt_id] at h0
      generalize hX : pt M 36 (cpR (M 51) (M 36) 0 (6 * es.length) l.length) = X at h0
      have oX : ∀ a, a ≠ 36 → X a = M a := fun a ha => by rw [← hX, pt_o ha]
      have hlast : lp (fun q : Int32 × Mem => l_MO_execute_96 oc q.1 q.2) (nI l.length, X) = j_MO_execute_130 oc X := lp_last (by
        show l_MO_execute_96 oc (nI l.length) X = _
        unfold l_MO_execute_96
        rw [oX 26 (by decide), c44, if_pos (nI_le (Nat.le_refl _) (by omega))])
      generalize hY : st (st (st X 37 es.length (nI l.length)) 38 es.length 0) 26 18 (nI (es.length + 1)) = Y
      have oY : ∀ a, a ≠ 26 → a ≠ 36 → a ≠ 37 → a ≠ 38 → Y a = M a := fun a h1 h2 h3 h4 => by rw [← hY, st_other h1, st_other h4, st_other h3, oX a h2]
      have y26 : ∀ k, k ≠ 18 → Y 26 k = M 26 k := fun k hk => by rw [← hY, st_ap, if_pos rfl, if_neg hk, st_other (by decide), st_other (by decide), oX 26 (by decide)]
      have y18 : Y 26 18 = nI (es.length + 1) := by rw [← hY, st_ap, if_pos rfl, if_pos rfl]
      have y36 : Y 36 = cpR (M 51) (M 36) 0 (6 * es.length) l.length := by rw [← hY, st_other (by decide), st_other (by decide), st_other (by decide), ← hX, pt_same]
      have y37 : Y 37 = upd (M 37) es.length (nI l.length) := by rw [← hY, st_other (by decide), st_other (by decide), st_same, oX 37 (by decide)]
      have y38 : Y 38 = upd (M 38) es.length 0 := by rw [← hY, st_other (by decide), st_same, st_other (by decide), oX 38 (by decide)]
      have h130 : j_MO_execute_130 oc X = if nI (es.length + 1) = (1 : Int32) then bv (s_MO_takeUp 0 Y) (fun M28 => some (oc, M28)) else some (oc, Y) := by
        unfold j_MO_execute_130
        rw [oX 26 (by decide), n18, c44, ck_i (vp_in_nI hlt (by decide)), nI_clamp (by omega)]
        simp only [nx]
        rw [st_other (show (26 : Nat) ≠ 37 by decide), oX 26 (by decide), n18, ck_i (vp_in_nI hlt (by decide)), nI_clamp (by omega), st_other (show (26 : Nat) ≠ 38 by decide), st_other (show (26 : Nat) ≠ 37 by decide), oX 26 (by decide), n18, nI_1, hY, y18]
      have yMP : MP Y P := by
        unfold MP
        rw [oY 27 (by decide) (by decide) (by decide) (by decide), oY 28 (by decide) (by decide) (by decide) (by decide), oY 29 (by decide) (by decide) (by decide) (by decide), y26 0 (by decide)]
        exact hMP
      have yMS : MS Y (es ++ [l]) := by
        refine ⟨by rw [y18, hl1], by omega, fun e he => ?_⟩
        rw [hl1] at he
        rw [y36, y37]
        by_cases q : e = es.length
        · subst q
          rw [getD_la, pk_us]
          exact ⟨rfl, c6, Row_cp c51⟩
        · rw [getD_ap (by omega), pk_un q]
          obtain ⟨a1, a2, a3⟩ := hall e (by omega)
          exact ⟨a1, a2, Row_o a3 (Or.inl (by omega))⟩
      have yf : ∀ e, e < (es ++ [l]).length → Y 38 e = fs e := fun e he => by
        rw [hl1] at he
        rw [y38]
        by_cases q : e = es.length
        · subst q; rw [pk_us, hf0 _ (Nat.le_refl _)]
        · rw [pk_un q]; exact hf e (by omega)
      have y35 : ¬ Y 26 35 = Y 26 18 := by
        rw [y26 35 (by decide), h35, n18, y18]
        exact fun q => absurd ((nI_eq (by omega) (by omega)).mp q) (by omega)
      have hrun : lp (fun q : Int32 × Mem => l_MO_execute_96 oc q.1 q.2) (0, M) = j_MO_execute_130 oc X := h0.trans hlast
      rw [hrun, h130]
      by_cases c3 : es.length = 0
      · rw [if_pos (by rw [c3]; rfl)]
        obtain ⟨M1, t1, t2, t3, t4, t5, t6⟩ := v_MO_takeUp (e := 0) (fs := fs) hP yMP yMS (fun q => absurd q y35) yf (by omega)
        rw [show (0 : Int32) = nI 0 from rfl, t1, bv_s]
        refine ⟨M1, rfl, ?_, ?_, fun _ => t3, ?_, ?_, ?_, fun a h1 h2 h3 => ?_, fun k h1 h2 h3 h4 h5 => ?_⟩
        · unfold MP
          rw [t5 27 (by decide) (by decide) (by decide), t5 28 (by decide) (by decide) (by decide), t5 29 (by decide) (by decide) (by decide), t6 0 (by decide) (by decide) (by decide) (by decide) (by decide)]
          exact yMP
        · exact MS_fr yMS (t6 18 (by decide) (by decide) (by decide) (by decide) (by decide)) (t5 36 (by decide) (by decide) (by decide)) (t5 37 (by decide) (by decide) (by decide))
        · intro e he; rw [t5 38 (by decide) (by decide) (by decide)]; exact yf e he
        · rw [t6 34 (by decide) (by decide) (by decide) (by decide) (by decide), y26 34 (by decide)]
          exact (Int32.add_zero _).symm
        · intro _
          unfold exT
          rw [if_pos ⟨c3, by omega⟩]
          exact t2
        · rw [t5 a h1 (by omega) h3, oY a h1 (by omega) (by omega) (by omega)]
        · rw [t6 k h1 h2 (by omega) (by omega) (by omega), y26 k h3]
      · rw [if_neg (show ¬ nI (es.length + 1) = (1 : Int32) from fun q => absurd ((nI_eq (b := 1) (by omega) (by decide)).mp q) (by omega))]
        have hT : exT P es (es ++ [l]) fs t = t := by unfold exT; rw [if_neg (fun q => c3 q.1)]
        rw [hT]
        refine ⟨Y, rfl, yMP, yMS, fun q => absurd q y35, yf, by rw [y26 34 (by decide)]; exact (Int32.add_zero _).symm, ?_, fun a h1 h2 h3 => oY a h1 (by omega) (by omega) (by omega), fun k h1 h2 h3 h4 h5 => y26 k h3⟩
        intro _
        rw [y26 40 (by decide), y26 41 (by decide), y26 42 (by decide)]
        exact ht (by omega)
  · have hS : exS P l es = es := by unfold exS; rw [if_neg (fun q => c q.1)]
    have hL : exL P l es = 0 := by unfold exL; rw [if_neg (fun q => c q.1)]
    have hT : exT P es es fs t = t := by unfold exT; rw [if_neg (by omega)]
    rw [hS, hL, hT, bI_f c, if_pos rfl, if_pos rfl]
    exact ⟨M, rfl, hMP, hMS, fun _ => hsv, hf, (Int32.add_zero _).symm, ht, fun _ _ _ _ => rfl, fun _ _ _ _ _ _ => rfl⟩
theorem v_MO_execute {M : Mem} {P : Pg} {n : Nat} {A : Ab} {l : List Int32} (hP : wfP P n) (h : MA M P A) (hf0 : ∀ e, A.1.length ≤ e → A.2.1 e = 0) (hc : Cur M l) : ∃ M1, s_MO_execute M = some ((RUN P l).2.2.2.2.2, M1) ∧ MA M1 P (exA P l A) ∧ (∀ a, (a < 26 ∨ a = 30 ∨ 50 < a) → M1 a = M a) ∧ M1 26 5 = M 26 5 := by
  obtain ⟨es, fs, ⟨nf, F⟩, ⟨ex, hg, lo⟩, t, x⟩ := A
  obtain ⟨p1, p2, p3, p4, p5, ⟨p6, p7, p8⟩, p9, p10⟩ := h
  dsimp only at p2 p3 p4 p5 p6 p7 p8 p9 p10 hf0
  obtain ⟨M2, s1, s2, s3, s4⟩ := v_MO_survey hP p1 p2 p3
  have c2 : Cur M2 l := Cur_fr hc (s2.2 44 (by decide) (by decide) (by decide) (by decide)) (s2.1 51 (by decide) (by decide) (by decide))
  obtain ⟨M3, r1, r2, r3⟩ := v_MO_runCurrent (MP_SF p1 s2) hP c2.2.2 c2.1 c2.2.1
  have f3 : SF M M3 := SF_t s2 (RF_SF r2)
  have ho : M3 26 16 = (RUN P l).2.2.2.2.2 := r3.2.2.2.2.2.2.2.2.symm
  -- counters
  obtain ⟨M4, k1, k2, k3, k4, k5⟩ : ∃ M4, s_MO_execute M = (bi (s_MO_newPair M4) (fun r50 M48 => if (RUN P l).2.2.2.2.2 < (1 : Int32) then (j_MO_execute_64 (RUN P l).2.2.2.2.2 r50 M48) else (if (4 : Int32) < (RUN P l).2.2.2.2.2 then (j_MO_execute_64 (RUN P l).2.2.2.2.2 r50 M48) else (bv (s_MO_trapped M48) (fun M51 => j_MO_execute_64 (RUN P l).2.2.2.2.2 r50 M51))))) ∧ (∀ a, a ≠ 26 → M4 a = M3 a) ∧ (∀ k, k ≠ 32 → k ≠ 33 → M4 26 k = M3 26 k) ∧ M4 26 32 = ex + 1 ∧ M4 26 33 = (if (RUN P l).2.2.2.2.2 = 5 then hg + 1 else hg) := by
    have q32 : M3 26 32 = ex := by rw [f3.2 32 (by decide) (by decide) (by decide) (by decide)]; exact p6
    have q33 : M3 26 33 = hg := by rw [f3.2 33 (by decide) (by decide) (by decide) (by decide)]; exact p7
    refine ⟨st (st M3 26 32 (ex + 1)) 26 33 (if (RUN P l).2.2.2.2.2 = 5 then hg + 1 else hg), ?_, fun a ha => by rw [st_other ha, st_other ha], fun k h1 h2 => by rw [st_ap, if_pos rfl, if_neg h2, st_ap, if_pos rfl, if_neg h1], by rw [st_ap, if_pos rfl, if_neg (by decide), st_ap, if_pos rfl, if_pos rfl], by rw [st_ap, if_pos rfl, if_pos rfl]⟩
    unfold s_MO_execute
    rw [s1, bv_s, r1, bv_s]
    simp only [nx]
    rw [ho, q32, show st M3 26 32 (ex + 1) 26 33 = M3 26 33 from rfl, q33]
    unfold j_MO_execute_42
    simp only [nx]
    by_cases c : (RUN P l).2.2.2.2.2 = 5
    · rw [if_pos c, if_pos c]
    · rw [if_neg c, if_neg c]
  have sv4 : Srv M4 P es := by
    refine Srv_fr s3 ?_ ?_ ?_ ?_
    · rw [k2 48 (by decide), r2.1 48 (by decide) (by decide)]
    · rw [k2 49 (by decide), r2.1 49 (by decide) (by decide)]
    · rw [k2 50 (by decide), r2.1 50 (by decide) (by decide)]
    · rw [k3 39 (by decide) (by decide), r2.2 39 (by decide) (by decide)]
  have t35 : ∀ q, q < 576 → M4 35 q = nI (tN P l q) := fun q hq => by
    rw [k2 35 (by decide), ← (tN_eq l hP hq).1]
    exact (r3.2.2.2.1 q hq).symm
  rw [v_MO_newPair hP sv4.1 t35, bi_s] at k1
  have q4 : Req (RUN P l) (prM M4) := by
    have : prM M4 = prM M3 := by
      unfold prM
      rw [k2 32 (by decide), k2 33 (by decide), k2 34 (by decide), k2 35 (by decide), k3 12 (by decide) (by decide), k3 13 (by decide) (by decide), k3 14 (by decide) (by decide), k3 15 (by decide) (by decide), k3 16 (by decide) (by decide)]
    rw [this]; exact r3
  have a4 : ∀ a, a ≠ 26 → ¬ (31 ≤ a ∧ a ≤ 35) → ¬ (48 ≤ a ∧ a ≤ 50) → M4 a = M a := fun a h1 h2 h3 => by rw [k2 a h1, f3.1 a h1 h2 h3]
  have b4 : ∀ k, k ≠ 8 → ¬ (12 ≤ k ∧ k ≤ 16) → k ≠ 35 → k ≠ 39 → k ≠ 32 → k ≠ 33 → M4 26 k = M 26 k := fun k h1 h2 h3 h4 h5 h6 => by rw [k3 k h5 h6, f3.2 k h1 h2 h3 h4]
  have mp4 : MP M4 P := by
    unfold MP
    rw [a4 27 (by decide) (by decide) (by decide), a4 28 (by decide) (by decide) (by decide), a4 29 (by decide) (by decide) (by decide), b4 0 (by decide) (by decide) (by decide) (by decide) (by decide) (by decide)]
    exact p1
  have ms4 : MS M4 es := MS_fr p2 (b4 18 (by decide) (by decide) (by decide) (by decide) (by decide) (by decide)) (a4 36 (by decide) (by decide) (by decide)) (a4 37 (by decide) (by decide) (by decide))
  have e4 : M4 26 35 = M4 26 18 := by rw [k3 35 (by decide) (by decide), k3 18 (by decide) (by decide), r2.2 35 (by decide) (by decide), r2.2 18 (by decide) (by decide)]; exact s4
  have mf4 : MF M4 nf F := MF_fr p5 (b4 22 (by decide) (by decide) (by decide) (by decide) (by decide) (by decide)) (fun a h1 h2 => a4 a (by omega) (by omega) (by omega))
  have cu4 : Cur M4 l := Cur_fr hc (b4 44 (by decide) (by decide) (by decide) (by decide) (by decide) (by decide)) (a4 51 (by decide) (by decide) (by decide))
  -- trapped
  obtain ⟨M5, t1, t2, t3, t4⟩ : ∃ M5, s_MO_execute M = j_MO_execute_64 (RUN P l).2.2.2.2.2 (bI (news P es l = true)) M5 ∧ TF M4 M5 ∧ MF M5 (exF P l nf F).1.1 (exF P l nf F).1.2 ∧ M5 26 34 = M4 26 34 + (exF P l nf F).2 := by
    rw [k1]
    unfold exF
    by_cases c : trP P l
    · rw [if_neg (Int32.not_lt.mpr c.1), if_neg (Int32.not_lt.mpr c.2), @if_pos _ (Classical.propDecidable _) c]
      obtain ⟨M5, u1, u2, u3⟩ := v_MO_trapped hP mp4 mf4 cu4.1 cu4.2.1 cu4.2.2 q4 c
      rw [u1, bv_s]
      refine ⟨M5, rfl, u2, ?_⟩
      unfold exF1
      cases hk : fxR F (sgn (RUN P l)) nf 0 with
      | some c' =>
        rw [hk] at u3
        exact ⟨u3.1, by rw [u3.2]; exact (Int32.add_zero _).symm⟩
      | none =>
        rw [hk] at u3
        by_cases e : nf = 8
        · simp only [if_pos e] at u3 ⊢
          exact u3
        · simp only [if_neg e] at u3 ⊢
          exact ⟨u3.1, by rw [u3.2]; exact (Int32.add_zero _).symm⟩
    · rw [@if_neg _ (Classical.propDecidable _) c]
      refine ⟨M4, ?_, ⟨fun _ _ _ _ => rfl, fun _ _ _ _ _ => rfl⟩, mf4, (Int32.add_zero _).symm⟩
      by_cases c1 : (RUN P l).2.2.2.2.2 < 1
      · rw [if_pos c1]
      · rw [if_neg c1]
        by_cases c2 : 4 < (RUN P l).2.2.2.2.2
        · rw [if_pos c2]
        · exact absurd ⟨Int32.not_lt.mp c1, Int32.not_lt.mp c2⟩ c
  have mp5 : MP M5 P := by
    unfold MP
    rw [t2.1 27 (by decide) (by decide) (by decide), t2.1 28 (by decide) (by decide) (by decide), t2.1 29 (by decide) (by decide) (by decide), t2.2 0 (by decide) (by decide) (by decide) (by decide)]
    exact mp4
  have ms5 : MS M5 es := MS_fr ms4 (t2.2 18 (by decide) (by decide) (by decide) (by decide)) (t2.1 36 (by decide) (by decide) (by decide)) (t2.1 37 (by decide) (by decide) (by decide))
  have e5 : M5 26 35 = M5 26 18 := by rw [t2.2 35 (by decide) (by decide) (by decide) (by decide), t2.2 18 (by decide) (by decide) (by decide) (by decide)]; exact e4
  have sv5 : Srv M5 P es := Srv_fr sv4 (t2.1 48 (by decide) (by decide) (by decide)) (t2.1 49 (by decide) (by decide) (by decide)) (t2.1 50 (by decide) (by decide) (by decide)) (t2.2 39 (by decide) (by decide) (by decide) (by decide))
  have cu5 : Cur M5 l := Cur_fr cu4 (t2.2 44 (by decide) (by decide) (by decide) (by decide)) (t2.1 51 (by decide) (by decide) (by decide))
  have f5 : ∀ e, e < es.length → M5 38 e = fs e := fun e he => by rw [t2.1 38 (by decide) (by decide) (by decide), a4 38 (by decide) (by decide) (by decide)]; exact p4 e he
  have mt5 : MT M5 es t := fun q => by
    rw [t2.2 40 (by decide) (by decide) (by decide) (by decide), t2.2 41 (by decide) (by decide) (by decide) (by decide), t2.2 42 (by decide) (by decide) (by decide) (by decide), b4 40 (by decide) (by decide) (by decide) (by decide) (by decide) (by decide), b4 41 (by decide) (by decide) (by decide) (by decide) (by decide) (by decide), b4 42 (by decide) (by decide) (by decide) (by decide) (by decide) (by decide)]
    exact p9 q
  obtain ⟨M6, u1, u2, u3, u4, u5, u6, u7, u8, u9⟩ := v_MO_ex64 (RUN P l).2.2.2.2.2 hP mp5 ms5 e5 sv5 f5 hf0 cu5 mt5
  refine ⟨M6, t1.trans u1, ⟨u2, u3, u4, u5, ?_, ⟨?_, ?_, ?_⟩, u7, ?_⟩, fun a ha => ?_, ?_⟩
  · exact MF_fr t3 (u9 22 (by decide) (by decide) (by decide) (by decide) (by decide)) (fun a h1 h2 => u8 a (by omega) (by omega) (by omega))
  · show M6 26 32 = ex + 1
    rw [u9 32 (by decide) (by decide) (by decide) (by decide) (by decide), t2.2 32 (by decide) (by decide) (by decide) (by decide), k4]
  · show M6 26 33 = (if (RUN P l).2.2.2.2.2 = 5 then hg + 1 else hg)
    rw [u9 33 (by decide) (by decide) (by decide) (by decide) (by decide), t2.2 33 (by decide) (by decide) (by decide) (by decide), k5]
  · show M6 26 34 = lo + exL P l es + (exF P l nf F).2
    rw [u6, t4, b4 34 (by decide) (by decide) (by decide) (by decide) (by decide) (by decide), p8, Int32.add_assoc, Int32.add_assoc, Int32.add_comm (exF P l nf F).2]
  · show M6 26 6 = x
    rw [u9 6 (by decide) (by decide) (by decide) (by decide) (by decide), t2.2 6 (by decide) (by decide) (by decide) (by decide), b4 6 (by decide) (by decide) (by decide) (by decide) (by decide) (by decide)]
    exact p10
  · rw [u8 a (by omega) (by omega) (by omega), t2.1 a (by omega) (by omega) (by omega), a4 a (by omega) (by omega) (by omega)]
  · rw [u9 5 (by decide) (by decide) (by decide) (by decide) (by decide), t2.2 5 (by decide) (by decide) (by decide) (by decide), b4 5 (by decide) (by decide) (by decide) (by decide) (by decide) (by decide)]
