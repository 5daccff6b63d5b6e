/-! Pure: the class's keep. -/
theorem v_mark40 {X : Mem} {x b w m p : Nat} (hx : x < 576) (h7 : X 7 x = nI b) (h8 : X 8 x = nI w) (h5 : X 5 3 = nI m) (hm : m < 16) : j_ST_markSeen_40 (nI x) (nI p) X = some (st (st X 7 x (nI (b ||| p))) 8 x (nI (w ||| 2 ^ m))) := by
  unfold j_ST_markSeen_40
  simp only [nx]
  rw [ck_i (vp_in_nI hx (by decide)), ck_i (vp_in_nI hx (by decide)), ck_i (vp_in_nI hx (by decide)), ck_i (vp_in_nI hx (by decide)), nI_clamp (by omega)]
  rw [st_other (show (8 : Nat) ≠ 7 by decide), st_other (show (5 : Nat) ≠ 7 by decide), h7, h8, h5, sh_1 (by omega), nx_or, nx_or]
theorem v_ST_markSeen {M : Mem} {x k b w m : Nat} (hx : x < 576) (h7 : M 7 x = nI b) (h8 : M 8 x = nI w) (h5 : M 5 3 = nI m) (hm : m < 16) (hb : b < 64) (hk : k < 6) : ∃ M1, s_ST_markSeen (nI x) (nI (2 ^ k)) M = some M1 ∧ M1 7 = upd (M 7) x (nI (b ||| 2 ^ k)) ∧ M1 8 = upd (M 8) x (nI (w ||| 2 ^ m)) ∧ M1 5 5 = (if b = 0 then M 5 5 + 1 else M 5 5) ∧ M1 5 6 = (if b.testBit k = false then M 5 6 + 1 else M 5 6) ∧ (∀ q, q ≠ 5 → q ≠ 6 → M1 5 q = M 5 q) ∧ ∀ a, a ≠ 5 → a ≠ 7 → a ≠ 8 → M1 a = M a := by
  have h19 : ∀ X : Mem, X 7 = M 7 → X 8 = M 8 → X 5 3 = M 5 3 → ∃ M1, j_ST_markSeen_19 (nI x) (nI (2 ^ k)) X = some M1 ∧ M1 7 = upd (M 7) x (nI (b ||| 2 ^ k)) ∧ M1 8 = upd (M 8) x (nI (w ||| 2 ^ m)) ∧ M1 5 5 = X 5 5 ∧ M1 5 6 = (if b.testBit k = false then X 5 6 + 1 else X 5 6) ∧ (∀ q, q ≠ 5 → q ≠ 6 → M1 5 q = X 5 q) ∧ ∀ a, a ≠ 5 → a ≠ 7 → a ≠ 8 → M1 a = X a := fun X e7 e8 e5 => by
    unfold j_ST_markSeen_19
    rw [ck_i (vp_in_nI hx (by decide)), nI_clamp (by omega), e7, h7]
    simp only [nx]
    by_cases c : b.testBit k = false
    · rw [if_pos ((and_c hb hk).mpr c), v_mark40 (b := b) (w := w) (m := m) hx (by rw [st_other (by decide), e7]; exact h7) (by rw [st_other (by decide), e8]; exact h8) (by rw [st_ap, if_pos rfl, if_neg (by decide), e5]; exact h5) hm]
      refine ⟨_, rfl, ?_, ?_, ?_, ?_, ?_, ?_⟩
      · rw [st_other (by decide), st_same, st_other (by decide), e7]
      · rw [st_same, st_other (by decide), st_other (by decide), e8]
      · rw [st_other (by decide), st_other (by decide), st_ap, if_pos rfl, if_neg (by decide)]
      · rw [st_other (by decide), st_other (by decide), st_ap, if_pos rfl, if_pos rfl, if_pos c]
      · intro q q1 q2
        rw [st_other (by decide), st_other (by decide), st_ap, if_pos rfl, if_neg q2]
      · intro a a1 a2 a3
        rw [st_other a3, st_other a2, st_other a1]
    · rw [if_neg (fun q => c ((and_c hb hk).mp q)), v_mark40 (b := b) (w := w) (m := m) hx (by rw [e7]; exact h7) (by rw [e8]; exact h8) (by rw [e5]; exact h5) hm]
      refine ⟨_, rfl, ?_, ?_, ?_, ?_, ?_, ?_⟩
      · rw [st_other (by decide), st_same, e7]
      · rw [st_same, st_other (by decide), e8]
      · rw [st_other (by decide), st_other (by decide)]
      · rw [st_other (by decide), st_other (by decide), if_neg c]
      · intro q q1 q2
        rw [st_other (by decide), st_other (by decide)]
      · intro a a1 a2 a3
        rw [st_other a3, st_other a2]
  unfold s_ST_markSeen
  rw [ck_i (vp_in_nI hx (by decide)), nI_clamp (by omega), h7]
  simp only [nx]
  by_cases c : b = 0
  · rw [c, if_pos (by decide)]
    obtain ⟨M1, a1, a2, a3, a4, a5, a6, a7⟩ := h19 (st M 5 5 (M 5 5 + 1)) (st_other (by decide)) (st_other (by decide)) (by rw [st_ap, if_pos rfl, if_neg (by decide)])
    refine ⟨M1, a1, by rw [a2, c], a3, ?_, ?_, ?_, ?_⟩
    · rw [a4, if_pos rfl, st_ap, if_pos rfl, if_pos rfl]
    · rw [a5, c, show st M 5 5 (M 5 5 + 1) 5 6 = M 5 6 from rfl]
    · intro q q1 q2; rw [a6 q q1 q2, st_ap, if_pos rfl, if_neg q1]
    · intro a b1 b2 b3; rw [a7 a b1 b2 b3, st_other b1]
  · rw [if_neg (nI_ne0 (by omega) (by omega)), if_neg c]
    exact h19 M rfl rfl rfl
theorem pc_or : ∀ b, b < 64 → ∀ k, k < 6 → pc6 (b ||| 2 ^ k) = pc6 b + (if b.testBit k = false then 1 else 0) := by decide +kernel
/-- the class's store -/
def XS (M : Mem) (P : Pg) (es : List (List Int32)) : Prop := XS0 M P es ∧ (∀ g, g < 576 → M 7 g = nI (bN P es g es.length)) ∧ (∀ g, g < 576 → M 8 g = nI (wN P es g es.length)) ∧ M 5 4 = fav P es ∧ M 5 5 = nI (seE P es) ∧ M 5 6 = nI (seP P es)
def LI (P : Pg) (es : List (List Int32)) (m : Nat) (E : List Nat) (i : Nat) (M : Mem) : Prop := (∀ g, g < 576 → M 7 g = nI (if g ∈ E.take i then bN P es g (m + 1) else bN P es g m)) ∧ (∀ g, g < 576 → M 8 g = nI (if g ∈ E.take i then wN P es g (m + 1) else wN P es g m)) ∧ M 5 5 = nI (sm (fun g => if (if g ∈ E.take i then bN P es g (m + 1) else bN P es g m) = 0 then 0 else 1) KE) ∧ M 5 6 = nI (sm (fun g => pc6 (if g ∈ E.take i then bN P es g (m + 1) else bN P es g m)) KE)
theorem tk_s {E : List Nat} {i : Nat} (hi : i < E.length) (g : Nat) : g ∈ E.take (i + 1) ↔ g ∈ E.take i ∨ g = E[i] := by
  rw [List.take_succ_eq_append_getElem hi, List.mem_append, List.mem_singleton]
theorem tk_n {E : List Nat} {i : Nat} (hn : E.Nodup) (hi : i < E.length) : ¬ E[i] ∈ E.take i := by
  intro h
  obtain ⟨k, hk, e⟩ := List.getElem_of_mem h
  rw [List.length_take] at hk
  rw [List.getElem_take] at e
  exact (List.pairwise_iff_getElem.mp hn) k i (by omega) hi (by omega) e
theorem LI_s {M M1 : Mem} {P : Pg} {es : List (List Int32)} {m : Nat} {E : List Nat} {i k : Nat} (hi : i < E.length) (hn : E.Nodup) (hx : E[i] < 576) (h : LI P es m E i M) (hb' : bN P es E[i] (m + 1) = bN P es E[i] m ||| 2 ^ k) (hw' : wN P es E[i] (m + 1) = wN P es E[i] m ||| 2 ^ m) (hk : k < 6)
    (a2 : M1 7 = upd (M 7) E[i] (nI (bN P es E[i] m ||| 2 ^ k))) (a3 : M1 8 = upd (M 8) E[i] (nI (wN P es E[i] m ||| 2 ^ m))) (a4 : M1 5 5 = (if bN P es E[i] m = 0 then M 5 5 + 1 else M 5 5)) (a5 : M1 5 6 = (if (bN P es E[i] m).testBit k = false then M 5 6 + 1 else M 5 6)) : LI P es m E (i + 1) M1 := by
  obtain ⟨h1, h2, h3, h4⟩ := h
  have hni := tk_n hn hi
  have hyes : E[i] ∈ E.take (i + 1) := (tk_s hi _).mpr (Or.inr rfl)
  have hsame : ∀ g, g ≠ E[i] → (g ∈ E.take (i + 1) ↔ g ∈ E.take i) := fun g hg => by
    rw [tk_s hi]
    exact ⟨fun q => q.resolve_right hg, Or.inl⟩
  have hbl := bN_lt P es E[i] m
  generalize E[i] = x at *
  refine ⟨fun g hg => ?_, fun g hg => ?_, ?_, ?_⟩
  · rw [a2]
    by_cases e : g = x
    · subst e; rw [pk_us, if_pos hyes, hb']
    · rw [pk_un e, h1 g hg]; simp only [hsame g e]
  · rw [a3]
    by_cases e : g = x
    · subst e; rw [pk_us, if_pos hyes, hw']
    · rw [pk_un e, h2 g hg]; simp only [hsame g e]
  · have key := sm_one (f := fun g => if (if g ∈ E.take (i + 1) then bN P es g (m + 1) else bN P es g m) = 0 then 0 else 1) (g := fun g => if (if g ∈ E.take i then bN P es g (m + 1) else bN P es g m) = 0 then 0 else 1) (x := x) KE (by rw [KE_eq]; exact hx) (fun g _ e => by simp only [hsame g e])
    have e1 : (if (if x ∈ E.take (i + 1) then bN P es x (m + 1) else bN P es x m) = 0 then 0 else 1) = 1 := by
      rw [if_pos hyes, hb', if_neg]
      rw [or_0]
      have := Nat.two_pow_pos k
      omega
    have e2 : (if (if x ∈ E.take i then bN P es x (m + 1) else bN P es x m) = 0 then 0 else 1) = (if bN P es x m = 0 then 0 else 1) := by rw [if_neg hni]
    simp only [e1, e2] at key
    rw [a4, h3]
    by_cases c : bN P es x m = 0
    · rw [if_pos c] at key ⊢
      rw [nI_1]
      exact congrArg nI (by omega)
    · rw [if_neg c] at key ⊢
      exact congrArg nI (by omega)
  · have key := sm_one (f := fun g => pc6 (if g ∈ E.take (i + 1) then bN P es g (m + 1) else bN P es g m)) (g := fun g => pc6 (if g ∈ E.take i then bN P es g (m + 1) else bN P es g m)) (x := x) KE (by rw [KE_eq]; exact hx) (fun g _ e => by simp only [hsame g e])
    have e1 : pc6 (if x ∈ E.take (i + 1) then bN P es x (m + 1) else bN P es x m) = pc6 (bN P es x m) + (if (bN P es x m).testBit k = false then 1 else 0) := by
      rw [if_pos hyes, hb', pc_or _ hbl k hk]
    have e2 : pc6 (if x ∈ E.take i then bN P es x (m + 1) else bN P es x m) = pc6 (bN P es x m) := by rw [if_neg hni]
    simp only [e1, e2] at key
    rw [a5, h4]
    by_cases c : (bN P es x m).testBit k = false
    · rw [if_pos c] at key ⊢
      rw [nI_1]
      exact congrArg nI (by omega)
    · rw [if_neg c] at key ⊢
      exact congrArg nI (by omega)
theorem v_keepLoop {j m : Nat} {P : Pg} {n : Nat} {es : List (List Int32)} {l : List Int32} {E : List Nat} (hj : 8 < j) (hP : wfP P n) (hm : m < 16) (hes : es.getD m [] = l) : ∀ d i M, i + d = E.length → EdL (M (j + 5)) (M j 5) (M (j + 4)) E → E.length ≤ 64 → (∀ g, g < 576 → M (j + 4) g = nI (tN P l g)) → M 5 3 = nI m → LI P es m E i M →
    ∃ M1, lp (fun q : Int32 × Mem => l_ST_keep_48 j q.1 q.2) (nI i, M) = j_ST_keep_85 M1 ∧ LI P es m E E.length M1 ∧ (∀ q, q ≠ 5 → q ≠ 6 → M1 5 q = M 5 q) ∧ ∀ a, a ≠ 5 → a ≠ 7 → a ≠ 8 → M1 a = M a := by
  intro d
  induction d with
  | zero =>
    intro i M hi hE hEl ht h5 hL
    have : i = E.length := by omega
    subst this
    refine ⟨M, lp_last ?_, hL, fun _ _ _ => rfl, fun _ _ _ _ => rfl⟩
    show l_ST_keep_48 j (nI E.length) M = _
    unfold l_ST_keep_48
    rw [hE.2.2.1, if_pos (nI_le (Nat.le_refl _) (by omega))]
  | succ d ih =>
    intro i M hi hE hEl ht h5 hL
    have hi2 : i < E.length := by omega
    obtain ⟨g1, g2⟩ := ((Ed_t hP hE ht).1 E[i]).mp (List.getElem_mem hi2)
    have ht64 := (tN_eq l hP g1).2
    have hni := tk_n hE.1 hi2
    have b7 : M 7 E[i] = nI (bN P es E[i] m) := by rw [hL.1 _ g1, if_neg hni]
    have b8 : M 8 E[i] = nI (wN P es E[i] m) := by rw [hL.2.1 _ g1, if_neg hni]
    obtain ⟨M2, a1, a2, a3, a4, a5, a6, a7⟩ := v_ST_markSeen g1 b7 b8 h5 hm (bN_lt P es _ m) (bkN_lt (tN P l E[i]))
    have hL2 := LI_s (k := bkN (tN P l E[i])) hi2 hE.1 g1 hL (by rw [bN_1 (by rw [hes]; exact g2), hes]) (wN_1 (by rw [hes]; exact g2)) (bkN_lt _) a2 a3 a4 a5
    have o4 : M2 (j + 4) = M (j + 4) := a7 _ (by omega) (by omega) (by omega)
    have o5 : M2 (j + 5) = M (j + 5) := a7 _ (by omega) (by omega) (by omega)
    have o0 : M2 j = M j := a7 _ (by omega) (by omega) (by omega)
    obtain ⟨M1, i1, i2, i3, i4⟩ := ih (i + 1) M2 (by omega) (by rw [o4, o5, o0]; exact hE) hEl (by rw [o4]; exact ht) (by rw [a6 3 (by decide) (by decide)]; exact h5) hL2
    refine ⟨M1, ?_, i2, fun q q1 q2 => (i3 q q1 q2).trans (a6 q q1 q2), fun a b1 b2 b3 => (i4 a b1 b2 b3).trans (a7 a b1 b2 b3)⟩
    refine (lp_inl (b := fun q : Int32 × Mem => l_ST_keep_48 j q.1 q.2) (s1 := (nI (i + 1), M2)) ?_).trans i1
    show l_ST_keep_48 j (nI i) M = _
    unfold l_ST_keep_48
    rw [hE.2.2.1, if_neg (nI_ge hi2 (by omega)), ck_i (vp_in_nI (by omega) (by decide)), ck_i (vp_in_nI (by omega) (by decide)), nI_clamp (by omega), hE.2.2.2 i hi2, v_RU_pairBit g1 (ht _ g1) (by omega) ht64, bi_s, a1, bv_s, nI_succ]
    rfl
theorem v_ST_keep {i : Nat} {M : Mem} {P : Pg} {n : Nat} {es : List (List Int32)} {l : List Int32} {E : List Nat} (hi : 51 < i ∧ i < 57) (hP : wfP P n) (h : XS M P es) (hlen : es.length < 16) (hl : Inp M i l) (hE : EdL (M 19) (M 14 5) (M 18) E) (hEl : E.length ≤ 64) (ht : ∀ g, g < 576 → M 18 g = nI (tN P l g)) (hst : M 14 9 = stN P l) :
    ∃ M1, s_ST_keep i 14 M = some (1, M1) ∧ XS M1 P (es ++ [l]) ∧ (∀ a, a ≠ 5 → a ≠ 7 → a ≠ 8 → a ≠ 58 + 2 * es.length → a ≠ 59 + 2 * es.length → a ≠ 122 + es.length → M1 a = M a) ∧ (∀ q, q ≠ 1 → q ≠ 2 → M1 (122 + es.length) q = M (122 + es.length) q) := by
  obtain ⟨⟨x1, x2, x3⟩, x7, x8, x4, x5, x6⟩ := h
  obtain ⟨M2, c1, c2, c3⟩ := v_IN_copy (j := 58 + 2 * es.length) (i := i) (M := M) (m := l) (by omega) hl
  have oM2 : ∀ a, a ≠ 58 + 2 * es.length → a ≠ 59 + 2 * es.length → M2 a = M a := fun a a1 a2 => c3 a a1 (by omega)
  generalize hM3 : st (st M2 (122 + es.length) 1 (M2 14 9)) (122 + es.length) 2 (st M2 (122 + es.length) 1 (M2 14 9) 14 5) = M3
  have o3 : ∀ a, a ≠ 122 + es.length → M3 a = M2 a := fun a ha => by rw [← hM3, st_other ha, st_other ha]
  have o : ∀ a, a ≠ 58 + 2 * es.length → a ≠ 59 + 2 * es.length → a ≠ 122 + es.length → M3 a = M a := fun a a1 a2 a3 => by rw [o3 a a3, oM2 a a1 a2]
  have hlenE := (Ed_t hP hE ht).2
  have q1 : M3 (122 + es.length) 1 = stN P l := by
    rw [← hM3, st_ap, if_pos rfl, if_neg (by decide), st_ap, if_pos rfl, if_pos rfl, oM2 14 (by omega) (by omega), hst]
  have q2 : M3 (122 + es.length) 2 = nI (ecN P l) := by
    rw [← hM3, st_ap, if_pos rfl, if_pos rfl, st_other (by omega), oM2 14 (by omega) (by omega), hE.2.2.1, hlenE]
  have qq : ∀ q, q ≠ 1 → q ≠ 2 → M3 (122 + es.length) q = M (122 + es.length) q := fun q a1 a2 => by
    rw [← hM3, st_ap, if_pos rfl, if_neg a2, st_ap, if_pos rfl, if_neg a1, oM2 _ (by omega) (by omega)]
  have hLI : LI P (es ++ [l]) es.length E 0 M3 := by
    have hz : ∀ (g : Nat) (a b : Nat), (if g ∈ E.take 0 then a else b) = b := fun g a b => if_neg (by simp)
    refine ⟨fun g hg => ?_, fun g hg => ?_, ?_, ?_⟩
    · rw [hz, (wN_ap P es l g _ (Nat.le_refl _)).2, o 7 (by omega) (by omega) (by omega)]; exact x7 g hg
    · rw [hz, (wN_ap P es l g _ (Nat.le_refl _)).1, o 8 (by omega) (by omega) (by omega)]; exact x8 g hg
    · rw [o 5 (by omega) (by omega) (by omega), x5, seE_K]
      exact congrArg nI (sm_ext KE (fun g _ => by rw [hz, (wN_ap P es l g _ (Nat.le_refl _)).2]))
    · rw [o 5 (by omega) (by omega) (by omega), x6, seP_K]
      exact congrArg nI (sm_ext KE (fun g _ => by rw [hz, (wN_ap P es l g _ (Nat.le_refl _)).2]))
  obtain ⟨M4, k1, k2, k3, k4⟩ := v_keepLoop (j := 14) (es := es ++ [l]) (l := l) (m := es.length) (by decide) hP hlen (getD_la es l) E.length 0 M3 (by omega) (by rw [o 19 (by omega) (by omega) (by omega), o 14 (by omega) (by omega) (by omega), o 18 (by omega) (by omega) (by omega)]; exact hE) hEl (by rw [o 18 (by omega) (by omega) (by omega)]; exact ht) (by rw [o 5 (by omega) (by omega) (by omega)]; exact x1) hLI
  have hmem := (Ed_t hP hE ht).1
  have hcur : ∀ g, g < 576 → (if g ∈ E.take E.length then bN P (es ++ [l]) g (es.length + 1) else bN P (es ++ [l]) g es.length) = bN P (es ++ [l]) g (es.length + 1) ∧ (if g ∈ E.take E.length then wN P (es ++ [l]) g (es.length + 1) else wN P (es ++ [l]) g es.length) = wN P (es ++ [l]) g (es.length + 1) := fun g hg => by
    rw [List.take_length]
    by_cases c : g ∈ E
    · rw [if_pos c, if_pos c]; exact ⟨rfl, rfl⟩
    · have c0 : tN P ((es ++ [l]).getD es.length []) g = 0 := by
        rw [getD_la]
        exact Classical.byContradiction (fun q => c ((hmem g).mpr ⟨hg, q⟩))
      rw [if_neg c, if_neg c, bN_0 c0, wN_0 c0]
      exact ⟨rfl, rfl⟩
  have hl1 : (es ++ [l]).length = es.length + 1 := by simp
  have h8' : ∀ g, g < 576 → st M4 5 3 (M4 5 3 + 1) 8 g = nI (wN P (es ++ [l]) g (es ++ [l]).length) := fun g hg => by
    rw [st_other (by decide), k2.2.1 g hg, (hcur g hg).2, hl1]
  have oM4 : ∀ a, a ≠ 5 → a ≠ 7 → a ≠ 8 → a ≠ 58 + 2 * es.length → a ≠ 59 + 2 * es.length → a ≠ 122 + es.length → M4 a = M a := fun a a1 a2 a3 a4 a5 a6 => by rw [k4 a a1 a2 a3, o a a4 a5 a6]
  have hXS0 : XS0 (st M4 5 3 (M4 5 3 + 1)) P (es ++ [l]) := by
    refine ⟨?_, by rw [hl1]; omega, fun e he => ?_⟩
    · rw [st_ap, if_pos rfl, if_pos rfl, k3 3 (by decide) (by decide), o 5 (by omega) (by omega) (by omega), x1, hl1, nI_succ]
    · rw [hl1] at he
      by_cases c : e = es.length
      · subst c
        rw [getD_la]
        refine ⟨Inp_fr c2 ?_ ?_, ?_, ?_⟩
        · rw [st_other (by omega), k4 _ (by omega) (by omega) (by omega), o3 _ (by omega)]
        · rw [st_other (by omega), k4 _ (by omega) (by omega) (by omega), o3 _ (by omega)]
        · rw [st_other (by omega), k4 _ (by omega) (by omega) (by omega), q1]
        · rw [st_other (by omega), k4 _ (by omega) (by omega) (by omega), q2]
      · rw [getD_ap (by omega)]
        obtain ⟨y1, y2, y3⟩ := x3 e (by omega)
        refine ⟨Inp_fr y1 ?_ ?_, ?_, ?_⟩
        · rw [st_other (by omega), oM4 _ (by omega) (by omega) (by omega) (by omega) (by omega) (by omega)]
        · rw [st_other (by omega), oM4 _ (by omega) (by omega) (by omega) (by omega) (by omega) (by omega)]
        · rw [st_other (by omega), oM4 _ (by omega) (by omega) (by omega) (by omega) (by omega) (by omega), y2]
        · rw [st_other (by omega), oM4 _ (by omega) (by omega) (by omega) (by omega) (by omega) (by omega), y3]
  refine ⟨st (st M4 5 3 (M4 5 3 + 1)) 5 4 (fav P (es ++ [l])), ?_, ⟨?_, ?_, ?_, ?_, ?_, ?_⟩, ?_, ?_⟩
  · unfold s_ST_keep
    rw [x1, if_pos (show nI es.length < (16 : Int32) from nI_lt (b := 16) hlen (by decide)), ck_i (vp_in_nI hlen (by decide)), nI_clamp (by omega)]
    simp only [nx]
    rw [show 2 * (122 + es.length) - 186 = 58 + 2 * es.length by omega, c1, bv_s, hM3]
    refine Eq.trans k1 ?_
    unfold j_ST_keep_85
    simp only [nx]
    rw [v_ST_fav hXS0 h8']
    rfl
  · exact XS0_fr hXS0 (by rw [st_ap, if_pos rfl, if_neg (by decide)]) (fun e he => ⟨st_other (by omega), st_other (by omega), by rw [st_other (by omega)], by rw [st_other (by omega)]⟩)
  · intro g hg
    rw [st_other (by decide), st_other (by decide), k2.1 g hg, (hcur g hg).1, hl1]
  · intro g hg
    rw [st_other (by decide)]
    exact h8' g hg
  · rw [st_ap, if_pos rfl, if_pos rfl]
  · rw [st_ap, if_pos rfl, if_neg (by decide), st_ap, if_pos rfl, if_neg (by decide), k2.2.2.1, seE_K]
    exact congrArg nI (sm_ext KE (fun g hg => by rw [KE_eq] at hg; rw [(hcur g hg).1, hl1]))
  · rw [st_ap, if_pos rfl, if_neg (by decide), st_ap, if_pos rfl, if_neg (by decide), k2.2.2.2, seP_K]
    exact congrArg nI (sm_ext KE (fun g hg => by rw [KE_eq] at hg; rw [(hcur g hg).1, hl1]))
  · intro a a1 a2 a3 a4 a5 a6
    rw [st_other a1, st_other a1, oM4 a a1 a2 a3 a4 a5 a6]
  · intro q a1 a2
    rw [st_other (by omega), st_other (by omega), k4 _ (by omega) (by omega) (by omega), qq q a1 a2]
