/-! Pure: the class's step is rstep, with the list of edges. -/
theorem st_ap (M : Mem) (j k : Nat) (v : Int32) (a b : Nat) : st M j k v a b = if a = j then (if b = k then v else M a b) else M a b := by
  by_cases h : a = j
  · subst h; rw [st_same, if_pos rfl]; rfl
  · rw [st_other h, if_neg h]
/-- E is the list of the edges gone along: f its places, c its length, t the times -/
def EdL (f : Nat → Int32) (c : Int32) (t : Nat → Int32) (E : List Nat) : Prop := E.Nodup ∧ (∀ g, g ∈ E ↔ g < 576 ∧ t g ≠ 0) ∧ c = nI E.length ∧ ∀ i (h : i < E.length), f i = nI E[i]
theorem ed_go {j : Nat} {M : Mem} {t : Nat → Int32} {E : List Nat} {g : Nat} (h : EdL (M (j + 5)) (M j 5) t E) (hl : E.length < 64) (hg : g < 576) (hn : t g + 1 ≠ 0) : ∃ E', EdL (egC j M (t g) (nI g) (j + 5)) (egC j M (t g) (nI g) j 5) (upd t g (t g + 1)) E' ∧ E'.length ≤ E.length + 1 := by
  obtain ⟨h1, h2, h3, h4⟩ := h
  unfold egC
  by_cases e : t g = 0
  · rw [if_pos e]
    refine ⟨E ++ [g], ⟨?_, ?_, ?_, ?_⟩, by simp⟩
    · rw [List.nodup_append]
      refine ⟨h1, by simp, ?_⟩
      intro a ha b hb hab
      simp only [List.mem_singleton] at hb
      subst hab; subst hb
      exact ((h2 a).mp ha).2 e
    · intro a
      rw [List.mem_append, h2, List.mem_singleton]
      by_cases ea : a = g
      · subst ea
        rw [pk_us]
        exact ⟨fun _ => ⟨hg, hn⟩, fun _ => Or.inr rfl⟩
      · rw [pk_un ea]
        exact ⟨fun h => h.resolve_right ea, Or.inl⟩
    · rw [st_ap, if_pos rfl, if_pos rfl, h3, List.length_append, List.length_singleton, nI_succ]
    · intro i hi
      rw [st_other (by omega), st_same, h3, nI_clamp (by omega)]
      rw [List.length_append, List.length_singleton] at hi
      by_cases ei : i = E.length
      · subst ei
        rw [pk_us]
        simp
      · rw [pk_un ei, h4 i (by omega)]
        rw [List.getElem_append_left]
  · rw [if_neg e]
    refine ⟨E, ⟨h1, ?_, h3, h4⟩, by omega⟩
    intro a
    rw [h2]
    by_cases ea : a = g
    · subst ea
      rw [pk_us]
      exact ⟨fun h => ⟨h.1, hn⟩, fun h => ⟨h.1, e⟩⟩
    · rw [pk_un ea]
theorem egC_o {j : Nat} {M : Mem} {t g : Int32} {a : Nat} (h1 : a ≠ j) (h2 : a ≠ j + 5) : egC j M t g a = M a := by
  unfold egC
  split
  · rw [st_other h1, st_other h2]
  · rfl
theorem egC_f {j : Nat} {M : Mem} {t g : Int32} {k : Nat} (h : k ≠ 5) : egC j M t g j k = M j k := by
  unfold egC
  split
  · rw [st_ap, if_pos rfl, if_neg h, st_other (by omega)]
  · rfl
theorem jp_oc {op a b : Int32} {s : Rs} (h : s.2.2.2.2.2 = -1) : (rJp op a b s).2.2.2.2.2 = -1 ∨ 0 ≤ (rJp op a b s).2.2.2.2.2 := by
  unfold rJp
  dsimp only
  repeat' split
  all_goals first | exact Or.inl h | exact Or.inr (by show (0 : Int32) ≤ 4; decide) | exact Or.inr (by show (0 : Int32) ≤ 0; decide)
theorem jp_tm {op a b : Int32} {s : Rs} : (rJp op a b s).1.2.2.2 = s.1.2.2.2 ∧ (rJp op a b s).2.2.2.2.1 = s.2.2.2.2.1 := by
  unfold rJp
  dsimp only
  repeat' split
  all_goals exact ⟨rfl, rfl⟩
theorem wk_oc {I : Ip} {op a b : Int32} {s : Rs} (h : s.2.2.2.2.2 = -1) : ((rWk I op a b s).2.2.2.2.2 = -1 ∨ 0 ≤ (rWk I op a b s).2.2.2.2.2) ∧ (rWk I op a b s).2.2.2.2.1 = s.2.2.2.2.1 := by
  unfold rWk
  dsimp only
  repeat' split
  all_goals first | exact ⟨Or.inl h, rfl⟩ | exact ⟨Or.inr (by show (0 : Int32) ≤ 0; decide), rfl⟩ | exact ⟨Or.inr (by show (0 : Int32) ≤ 1; decide), rfl⟩ | exact ⟨Or.inr (by show (0 : Int32) ≤ 2; decide), rfl⟩ | exact ⟨Or.inr (by show (0 : Int32) ≤ 3; decide), rfl⟩
/-- what a run that goes on is: k steps done, times at most k -/
def wfK (k : Nat) (s : Rs) : Prop := wfR s ∧ s.2.2.2.2.1 = nI k ∧ ∀ g, g < 576 → ∃ m, m ≤ k ∧ s.1.2.2.2 g = nI m
theorem wfK_step {P : Pg} {I : Ip} {s : Rs} {n p k : Nat} (hP : wfP P n) (h : wfK k s) (hoc : s.2.2.2.2.2 = -1) (hpc : s.2.2.1 = nI p) (hp : p < n) : wfK (k + 1) (rstep P I s) ∧ ((rstep P I s).2.2.2.2.2 = -1 ∨ 0 ≤ (rstep P I s).2.2.2.2.2) := by
  obtain ⟨h1, h2, h3⟩ := h
  have hw := wf_step (I := I) hP h1 hpc hp
  have s1 : (rS1 s).2.2.2.2.1 = nI (k + 1) := by
    show s.2.2.2.2.1 + 1 = _
    rw [h2, nI_succ]
  have ho1 : (rS1 s).2.2.2.2.2 = -1 := hoc
  have ht1 : (rS1 s).1.2.2.2 = s.1.2.2.2 := rfl
  have key : (rstep P I s).2.2.2.2.1 = nI (k + 1) ∧ (∀ g, g < 576 → ∃ m, m ≤ k + 1 ∧ (rstep P I s).1.2.2.2 g = nI m) ∧ ((rstep P I s).2.2.2.2.2 = -1 ∨ 0 ≤ (rstep P I s).2.2.2.2.2) := by
    unfold rstep
    dsimp only
    rw [show rSt (rPc (rHr s s.2.2.1) (s.2.2.1 + 1)) (s.2.2.2.2.1 + 1) = rS1 s from rfl]
    generalize rS1 s = t at s1 ho1 ht1
    split
    · obtain ⟨e1, e2⟩ := wk_oc (I := I) (op := P.1 s.2.2.1.toNatClampNeg) (a := P.2.1 s.2.2.1.toNatClampNeg) (b := P.2.2.1 s.2.2.1.toNatClampNeg) ho1
      refine ⟨by rw [e2]; exact s1, fun g hg => ?_, e1⟩
      obtain ⟨m, m1, m2⟩ := h3 g hg
      exact ⟨m, by omega, by rw [show (rWk I _ _ _ t).1.2.2.2 = t.1.2.2.2 from congrArg Prod.snd (wk_same I _ _ _ t).2.1, ht1]; exact m2⟩
    · obtain ⟨f1, f2⟩ := jp_tm (op := P.1 s.2.2.1.toNatClampNeg) (a := P.2.1 s.2.2.1.toNatClampNeg) (b := P.2.2.1 s.2.2.1.toNatClampNeg) (s := t)
      have f3 := jp_oc (op := P.1 s.2.2.1.toNatClampNeg) (a := P.2.1 s.2.2.1.toNatClampNeg) (b := P.2.2.1 s.2.2.1.toNatClampNeg) ho1
      generalize rJp (P.1 s.2.2.1.toNatClampNeg) (P.2.1 s.2.2.1.toNatClampNeg) (P.2.2.1 s.2.2.1.toNatClampNeg) t = u at f1 f2 f3
      unfold rEg
      split
      · refine ⟨f2.trans s1, fun g hg => ?_, f3⟩
        show ∃ m, m ≤ k + 1 ∧ upd u.1.2.2.2 _ _ g = nI m
        rw [f1, ht1]
        generalize ((24 : Int32) * u.2.2.2.1 + u.2.2.1).toNatClampNeg = y
        by_cases eg : g = y
        · subst eg
          obtain ⟨m, m1, m2⟩ := h3 g hg
          exact ⟨m + 1, by omega, by rw [pk_us, m2, nI_succ]⟩
        · obtain ⟨m, m1, m2⟩ := h3 g hg
          exact ⟨m, by omega, by rw [pk_un eg]; exact m2⟩
      · refine ⟨f2.trans s1, fun g hg => ?_, f3⟩
        obtain ⟨m, m1, m2⟩ := h3 g hg
        exact ⟨m, by omega, by rw [f1, ht1]; exact m2⟩
  exact ⟨⟨hw, key.1, key.2.1⟩, key.2.2⟩
theorem v_RU_step' {j i : Nat} {M : Mem} {s : Rs} {n p k L : Nat} {E : List Nat} (hj : 5 < j) (hi : i + 1 < j ∨ j + 5 < i) (hP : wfP (M 2, M 3, M 4, M 1 3) n) (h : wfK k s) (hk : k < 64) (hpc : s.2.2.1 = nI p) (hp : p < n) (hL : M i 1 = nI L) (hL6 : L ≤ 6) (hoc : s.2.2.2.2.2 = -1) (hE : EdL (M (j + 5)) (M j 5) s.1.2.2.2 E) (hEl : E.length ≤ k) :
    ∃ M', s_RU_step j i (stC j M s) = some (stC j M' (rstep (M 2, M 3, M 4, M 1 3) (M (i + 1), M i 1) s)) ∧ (∀ a, a ≠ j → a ≠ j + 5 → M' a = M a) ∧ (∀ q, q ≠ 5 → M' j q = M j q) ∧ ∃ E', EdL (M' (j + 5)) (M' j 5) (rstep (M 2, M 3, M 4, M 1 3) (M (i + 1), M i 1) s).1.2.2.2 E' ∧ E'.length ≤ k + 1 := by
  obtain ⟨h1, h2, h3⟩ := h
  have hP0 := hP
  obtain ⟨e0, hn, hall⟩ := hP
  obtain ⟨a1, a2, a3, a4⟩ := hall p hp
  have e0 : M 1 3 = nI n := e0
  have a1 : 0 ≤ M 2 p ∧ M 2 p < 16 := a1
  obtain ⟨w1, w2⟩ := wf_S1 h1 hpc (by omega)
  obtain ⟨v1, v2⟩ := wf_jp (op := M 2 p) (a := M 3 p) (b := M 4 p) w1 w2 (by omega) a4
  obtain ⟨⟨d, d1, d2, -⟩, -⟩ := h1
  rw [v_RU_step hj (by omega) hpc (by omega) a1 a2 a3 hL hL6 ⟨d, d1, d2⟩ hoc]
  have hc : s.2.2.1.toNatClampNeg = p := by rw [hpc]; exact nI_clamp (by omega)
  unfold rstep
  dsimp only
  rw [hc, show rSt (rPc (rHr s s.2.2.1) (s.2.2.1 + 1)) (s.2.2.2.2.1 + 1) = rS1 s from rfl]
  have ho1 : (rS1 s).2.2.2.2.2 = -1 := hoc
  have ht1 : (rS1 s).1.2.2.2 = s.1.2.2.2 := rfl
  by_cases hop : M 2 p < 6 ∨ 10 < M 2 p
  · rw [if_pos hop, if_pos hop, v_RU_tail _ (by omega) (fun _ q _ => absurd hop q), if_neg (fun q => q.2.1 hop)]
    refine ⟨M, rfl, fun _ _ _ => rfl, fun _ _ => rfl, E, ?_, by omega⟩
    rw [show (rWk (M (i + 1), M i 1) (M 2 p) (M 3 p) (M 4 p) (rS1 s)).1.2.2.2 = s.1.2.2.2 from congrArg Prod.snd (wk_same _ _ _ _ (rS1 s)).2.1]
    exact hE
  · rw [if_neg hop, if_neg hop]
    have f1 := (jp_tm (op := M 2 p) (a := M 3 p) (b := M 4 p) (s := rS1 s)).1
    have f3 := jp_oc (op := M 2 p) (a := M 3 p) (b := M 4 p) ho1
    rw [ht1] at f1
    generalize rJp (M 2 p) (M 3 p) (M 4 p) (rS1 s) = u at f1 f3 v1 v2
    have hin : u.2.2.1 < M 1 3 → vp_in (egI u) 576 := fun q => eg_in v1 v2 (by omega) hn (by rw [← e0]; exact q)
    obtain ⟨-, hEm, hEc, -⟩ := id hE
    have h5 : vp_in (M j 5) 64 := by rw [hEc]; exact vp_in_nI (by omega) (by decide)
    rw [v_RU_tail _ (by omega) (fun _ _ q => ⟨hin q.2, fun _ => h5⟩)]
    obtain ⟨-, q, hq, hqpc⟩ := v1
    have hpos : 0 ≤ u.2.2.1 := by rw [hqpc]; exact nI_pos' (by omega)
    unfold rEg
    by_cases c1 : u.2.2.2.2.2 = -1 ∧ u.2.2.1 < M 1 3
    · rw [if_pos ⟨c1.1, hop, hpos, c1.2⟩, if_pos ⟨by rw [c1.1]; decide, c1.2⟩]
      obtain ⟨y, hy, hyg⟩ := vp_in_of (hin c1.2) (by decide)
      have hyc : (egI u).toNatClampNeg = y := by rw [hyg]; exact nI_clamp (by omega)
      have hyc' : ((24 : Int32) * u.2.2.2.1 + u.2.2.1).toNatClampNeg = y := hyc
      obtain ⟨m, m1, m2⟩ := h3 y hy
      rw [hyc, hyc', hyg]
      obtain ⟨E', g1, g2⟩ := ed_go (g := y) hE (by omega) hy (by rw [m2, ← nI_succ]; exact nI_ne0 (by omega) (by omega))
      refine ⟨egC j M (u.1.2.2.2 y) (nI y), rfl, fun a b1 b2 => egC_o b1 b2, fun q b => egC_f b, E', ?_, by omega⟩
      show EdL _ _ (upd u.1.2.2.2 y (u.1.2.2.2 y + 1)) E'
      rw [f1]
      exact g1
    · have c2 : ¬ (u.2.2.2.2.2 < 0 ∧ u.2.2.1 < M 1 3) := fun c => c1 ⟨f3.resolve_right (Int32.not_le.mpr c.1), c.2⟩
      rw [if_neg (fun c => c1 ⟨c.1, c.2.2.2⟩), if_neg c2]
      refine ⟨M, rfl, fun _ _ _ => rfl, fun _ _ => rfl, E, ?_, by omega⟩
      rw [f1]
      exact hE
