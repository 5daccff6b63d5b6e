/-! Pure: the run as a whole: both loops. -/
/-- one round of a run's loop -/
def rIt (P : Pg) (I : Ip) (s : Rs) : Rs := if 0 ≤ s.2.2.2.2.2 then s else if s.2.2.1 < P.2.2.2 then (if s.2.2.2.2.1 = 64 then rOc s 5 else rstep P I s) else rOc s 0
def rN (P : Pg) (I : Ip) : Nat → Rs → Rs
  | 0, s => s
  | k + 1, s => rN P I k (rIt P I s)
theorem rN_fix {P : Pg} {I : Ip} {s : Rs} (h : 0 ≤ s.2.2.2.2.2) : ∀ d, rN P I d s = s := by
  intro d
  induction d with
  | zero => rfl
  | succ d ih => show rN P I d (rIt P I s) = s; unfold rIt; rw [if_pos h]; exact ih
/-- what holds of a run that has ended -/
def wfE (s : Rs) : Prop := 0 ≤ s.2.2.2.2.2 ∧ (∃ k, k ≤ 64 ∧ wfK k s) ∧ (s.2.2.2.2.2 = 0 ∨ s.2.2.2.2.2 = 5 ∨ s.2.2.2.2.1 ≠ 0)
theorem oc_cases {s : Rs} (h : s.2.2.2.2.2 = -1 ∨ 0 ≤ s.2.2.2.2.2) : s.2.2.2.2.2 = -1 ∧ ¬ 0 ≤ s.2.2.2.2.2 ∨ 0 ≤ s.2.2.2.2.2 := by
  rcases h with h | h
  · exact Or.inl ⟨h, by rw [h]; decide⟩
  · exact Or.inr h
theorem wf_pc {P : Pg} {n k : Nat} {s : Rs} (hP : wfP P n) (h : wfK k s) (hlt : s.2.2.1 < P.2.2.2) : ∃ p, p < n ∧ s.2.2.1 = nI p := by
  obtain ⟨⟨-, p, hp, hpc⟩, -⟩ := h
  obtain ⟨e0, hn, -⟩ := hP
  rw [hpc, e0] at hlt
  exact ⟨p, (nI_ltI (by omega) (by omega)).mp hlt, hpc⟩
theorem st_64 {k : Nat} {s : Rs} (h : wfK k s) (hk : k ≤ 64) : s.2.2.2.2.1 = 64 ↔ k = 64 := by
  rw [h.2.1]
  exact nI_eq (b := 64) (by omega) (by decide)
theorem rN_wf {P : Pg} {I : Ip} {n : Nat} (hP : wfP P n) : ∀ d k s, d + k = 65 → k ≤ 64 → wfK k s → s.2.2.2.2.2 = -1 → wfE (rN P I d s) := by
  intro d
  induction d with
  | zero => intro k s h1 h2; omega
  | succ d ih =>
    intro k s h1 h2 h3 h4
    show wfE (rN P I d (rIt P I s))
    unfold rIt
    rw [if_neg (by rw [h4]; decide)]
    by_cases c : s.2.2.1 < P.2.2.2
    · rw [if_pos c]
      by_cases c2 : s.2.2.2.2.1 = 64
      · rw [if_pos c2, rN_fix (by show (0 : Int32) ≤ 5; decide)]
        exact ⟨by show (0 : Int32) ≤ 5; decide, ⟨k, h2, h3⟩, Or.inr (Or.inl rfl)⟩
      · rw [if_neg c2]
        have hk : k < 64 := by
          rcases Nat.lt_or_ge k 64 with q | q
          · exact q
          · exact absurd ((st_64 h3 h2).mpr (by omega)) c2
        obtain ⟨p, hp, hpc⟩ := wf_pc hP h3 c
        obtain ⟨g1, g2⟩ := wfK_step (I := I) hP h3 h4 hpc hp
        rcases oc_cases g2 with ⟨g3, -⟩ | g3
        · exact ih (k + 1) _ (by omega) (by omega) g1 g3
        · rw [rN_fix g3]
          exact ⟨g3, ⟨k + 1, by omega, g1⟩, Or.inr (Or.inr (by rw [g1.2.1]; exact nI_ne0 (by omega) (by omega)))⟩
    · rw [if_neg c, rN_fix (by show (0 : Int32) ≤ 0; decide)]
      exact ⟨by show (0 : Int32) ≤ 0; decide, ⟨k, h2, h3⟩, Or.inl rfl⟩
theorem rN_Req {P : Pg} {I J : Ip} {n : Nat} (hP : wfP P n) (hI : Ieq I J) : ∀ d k s t, d + k = 65 → k ≤ 64 → wfK k s → s.2.2.2.2.2 = -1 → Req s t → Req (rN P I d s) (rN P J d t) := by
  intro d
  induction d with
  | zero => intro k s t h1 h2; omega
  | succ d ih =>
    intro k s t h1 h2 h3 h4 hR
    show Req (rN P I d (rIt P I s)) (rN P J d (rIt P J t))
    have hneg : ¬ (0 : Int32) ≤ s.2.2.2.2.2 := by rw [h4]; decide
    unfold rIt
    rw [← hR.2.2.2.2.2.2.2.2, ← hR.2.2.2.2.2.1, ← hR.2.2.2.2.2.2.2.1, if_neg hneg, if_neg hneg]
    by_cases c : s.2.2.1 < P.2.2.2
    · rw [if_pos c, if_pos c]
      by_cases c2 : s.2.2.2.2.1 = 64
      · rw [if_pos c2, if_pos c2, rN_fix (by show (0 : Int32) ≤ 5; decide), rN_fix (by show (0 : Int32) ≤ 5; decide)]
        exact Req_Oc hR
      · rw [if_neg c2, if_neg c2]
        have hk : k < 64 := by
          rcases Nat.lt_or_ge k 64 with q | q
          · exact q
          · exact absurd ((st_64 h3 h2).mpr (by omega)) c2
        obtain ⟨p, hp, hpc⟩ := wf_pc hP h3 c
        obtain ⟨g1, g2⟩ := wfK_step (I := I) hP h3 h4 hpc hp
        have hR2 := Req_step hP h3.1 hI hR hpc hp
        rcases oc_cases g2 with ⟨g3, -⟩ | g3
        · exact ih (k + 1) _ _ (by omega) (by omega) g1 g3 hR2
        · rw [rN_fix g3, rN_fix (by rw [← hR2.2.2.2.2.2.2.2.2]; exact g3)]
          exact hR2
    · rw [if_neg c, if_neg c, rN_fix (by show (0 : Int32) ≤ 0; decide), rN_fix (by show (0 : Int32) ≤ 0; decide)]
      exact Req_Oc hR
theorem v_MO_loop {M : Mem} {n L : Nat} (hP : wfP (M 27, M 28, M 29, M 26 0) n) (hL : M 26 8 = nI L) (hL6 : L ≤ 6) : ∀ d k s, d + k = 65 → k ≤ 64 → wfK k s → s.2.2.2.2.2 = -1 → lp (fun q : Mem => l_MO_run_69 q) (stM M s) = some (stM M (rN (M 27, M 28, M 29, M 26 0) (M 31, M 26 8) d s)) := by
  have hend : ∀ s : Rs, 0 ≤ s.2.2.2.2.2 → lp (fun q : Mem => l_MO_run_69 q) (stM M s) = some (stM M s) := fun s h => lp_inr (by
    show l_MO_run_69 (stM M s) = _
    unfold l_MO_run_69
    rw [if_pos (show 0 ≤ stM M s 26 16 from h)])
  intro d
  induction d with
  | zero => intro k s h1 h2; omega
  | succ d ih =>
    intro k s h1 h2 h3 h4
    have c13 : stM M s 26 13 = s.2.2.1 := rfl
    have c15 : stM M s 26 15 = s.2.2.2.2.1 := rfl
    have c0 : stM M s 26 0 = M 26 0 := stM_f (Or.inl (by decide))
    show _ = some (stM M (rN _ _ d (rIt _ _ s)))
    have hstep : l_MO_run_69 (stM M s) = some (.inl (stM M (rIt (M 27, M 28, M 29, M 26 0) (M 31, M 26 8) s))) := by
      unfold l_MO_run_69 rIt
      have hneg : ¬ (0 : Int32) ≤ s.2.2.2.2.2 := by rw [h4]; decide
      rw [show stM M s 26 16 = s.2.2.2.2.2 from rfl, if_neg hneg, if_neg hneg, c13, c15, c0]
      by_cases c : s.2.2.1 < M 26 0
      · rw [if_pos c, if_pos c]
        by_cases c2 : s.2.2.2.2.1 = 64
        · rw [if_pos c2, if_pos c2, stM_wOc]; rfl
        · rw [if_neg c2, if_neg c2]
          obtain ⟨p, hp, hpc⟩ := wf_pc hP h3 c
          rw [v_MO_step' hP h3.1 hpc hp hL hL6]
          rfl
      · rw [if_neg c, if_neg c, stM_wOc]; rfl
    refine (lp_inl (b := fun q : Mem => l_MO_run_69 q) hstep).trans ?_
    unfold rIt
    rw [if_neg (by rw [h4]; decide)]
    by_cases c : s.2.2.1 < M 26 0
    · rw [if_pos c]
      by_cases c2 : s.2.2.2.2.1 = 64
      · rw [if_pos c2, rN_fix (by show (0 : Int32) ≤ 5; decide)]
        exact hend _ (by show (0 : Int32) ≤ 5; decide)
      · rw [if_neg c2]
        have hk : k < 64 := by
          rcases Nat.lt_or_ge k 64 with q | q
          · exact q
          · exact absurd ((st_64 h3 h2).mpr (by omega)) c2
        obtain ⟨p, hp, hpc⟩ := wf_pc hP h3 c
        obtain ⟨g1, g2⟩ := wfK_step (I := (M 31, M 26 8)) hP h3 h4 hpc hp
        rcases oc_cases g2 with ⟨g3, -⟩ | g3
        · exact ih (k + 1) _ (by omega) (by omega) g1 g3
        · rw [rN_fix g3]
          exact hend _ g3
    · rw [if_neg c, rN_fix (by show (0 : Int32) ≤ 0; decide)]
      exact hend _ (by show (0 : Int32) ≤ 0; decide)
/-- the state at a run's start -/
def z0 : Rs := ((fun _ => 0, fun _ => 0, fun _ => 0, fun _ => 0), (0, 0, 0, 0, -1))
def ipl (l : List Int32) : Ip := (fun k => l.getD k 0, nI l.length)
/-- a, but so that no unfolding sees it -/
theorem hid_ex {α : Type} (a : α) : ∃ b, b = a := ⟨a, rfl⟩
noncomputable def hid {α : Type} (a : α) : α := Classical.choose (hid_ex a)
theorem hid_eq {α : Type} (a : α) : hid a = a := Classical.choose_spec (hid_ex a)
/-- THE RUN of a program with an input -/
noncomputable def K65 : Nat := hid 65
noncomputable def KE : Nat := hid 576
theorem KE_eq : KE = 576 := hid_eq 576
noncomputable def RUN (P : Pg) (l : List Int32) : Rs := hid (rN P (ipl l) K65 z0)
theorem RUN_eq (P : Pg) (l : List Int32) : RUN P l = rN P (ipl l) 65 z0 := by
  unfold RUN
  rw [hid_eq, show K65 = 65 from hid_eq 65]
theorem z0_wf : wfK 0 z0 := ⟨⟨⟨0, by decide, rfl, fun k hk => absurd hk (by omega)⟩, 0, by decide, rfl⟩, rfl, fun g _ => ⟨0, by decide, rfl⟩⟩
theorem RUN_wf {P : Pg} {n : Nat} (l : List Int32) (hP : wfP P n) : wfE (RUN P l) := by
  rw [RUN_eq]
  exact rN_wf hP 65 0 z0 (by omega) (by omega) z0_wf rfl
/-- cells f, from place o on, hold the bytes l -/
def Row (f : Nat → Int32) (o : Nat) (l : List Int32) : Prop := ∀ k (h : k < l.length), f (o + k) = l[k]
theorem Row_Ieq {f : Nat → Int32} {c : Int32} {l : List Int32} (h : Row f 0 l) (hc : c = nI l.length) (h6 : l.length ≤ 6) : Ieq (ipl l) (f, c) := by
  refine ⟨hc.symm, fun k hk => ?_⟩
  have hk : 0 ≤ k ∧ k < nI l.length := hk
  have h1 := cl_lt (in_of_lt (by omega) hk)
  show l.getD k.toNatClampNeg 0 = f k.toNatClampNeg
  have := h _ h1
  rw [Nat.zero_add] at this
  rw [this, List.getD_eq_getElem?_getD, List.getElem?_eq_getElem h1, Option.getD_some]
theorem v_MO_RUN {M : Mem} {n : Nat} {l : List Int32} (hP : wfP (M 27, M 28, M 29, M 26 0) n) (hr : Row (M 31) 0 l) (hL : M 26 8 = nI l.length) (hL6 : l.length ≤ 6) : ∃ s, s_MO_run M = some (stM M s) ∧ Req (RUN (M 27, M 28, M 29, M 26 0) l) s := by
  rw [v_MO_run]
  have e : mi M = stM M (prM (mi M)) := by
    funext a
    by_cases h1 : a = 32
    · subst h1; rfl
    by_cases h2 : a = 33
    · subst h2; rfl
    by_cases h3 : a = 34
    · subst h3; rfl
    by_cases h4 : a = 35
    · subst h4; rfl
    by_cases h5 : a = 26
    · subst h5
      funext k
      show _ = (if k = 12 then mi M 26 12 else if k = 13 then mi M 26 13 else if k = 14 then mi M 26 14 else if k = 15 then mi M 26 15 else if k = 16 then mi M 26 16 else M 26 k)
      by_cases e1 : k = 12
      · subst e1; rfl
      by_cases e2 : k = 13
      · subst e2; rfl
      by_cases e3 : k = 14
      · subst e3; rfl
      by_cases e4 : k = 15
      · subst e4; rfl
      by_cases e5 : k = 16
      · subst e5; rfl
      rw [if_neg e1, if_neg e2, if_neg e3, if_neg e4, if_neg e5]
      unfold mi
      rw [st_ap, if_pos rfl, if_neg e5, st_ap, if_pos rfl, if_neg e4, st_ap, if_pos rfl, if_neg e2, st_ap, if_pos rfl, if_neg e1, fl_o (by decide), fl_o (by decide), fl_o (by decide)]
    · rw [stM_o h1 h2 h3 h4 h5]
      unfold mi
      rw [st_other h5, st_other h5, st_other h5, st_other h5, fl_o h2, fl_o h1, fl_o h4]
  have f1 : (prM (mi M)).1.1 = fun k => if k < 4 then 0 else M 32 k := rfl
  have f2 : (prM (mi M)).1.2.1 = fun k => if k < 4 then 0 else M 33 k := rfl
  have f4 : (prM (mi M)).1.2.2.2 = fun k => if k < 576 then 0 else M 35 k := rfl
  have hR0 : Req z0 (prM (mi M)) := ⟨fun k hk => by rw [f1]; show (0 : Int32) = if k < 4 then 0 else M 32 k; rw [if_pos hk], fun k hk => by rw [f2]; show (0 : Int32) = if k < 4 then 0 else M 33 k; rw [if_pos hk], fun d hd ed k hk => by
    have ed : (0 : Int32) = nI d := ed
    have := (nI_eq (a := 0) (b := d) (by decide) (by omega)).mp ed
    omega, fun g hg => by rw [f4]; show (0 : Int32) = if g < 576 then 0 else M 35 g; rw [if_pos hg], rfl, rfl, fun q => absurd rfl q, rfl, rfl⟩
  have hw : wfK 0 (prM (mi M)) := ⟨⟨⟨0, by decide, rfl, fun k hk => absurd hk (by omega)⟩, 0, by decide, rfl⟩, rfl, fun g hg => ⟨0, by decide, (hR0.2.2.2.1 g hg).symm⟩⟩
  have hl := v_MO_loop (M := M) hP hL hL6 65 0 (prM (mi M)) (by omega) (by omega) hw rfl
  exact ⟨_, (congrArg (lp (fun q : Mem => l_MO_run_69 q)) e).trans hl, by rw [RUN_eq]; exact rN_Req hP (Row_Ieq hr hL hL6) 65 0 z0 _ (by omega) (by omega) z0_wf rfl hR0⟩
