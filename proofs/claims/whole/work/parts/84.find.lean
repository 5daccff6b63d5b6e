/-! Pure: findings, in both. -/
/-- a finding: its sign, its hits, the input, the shortest one -/
abbrev Fnd : Type := Sg × Int32 × List Int32 × List Int32
def fxR (F : Nat → Fnd) (g : Sg) : Nat → Nat → Option Nat
  | 0, _ => none
  | d + 1, i => if (F i).1 = g then some i else fxR F g d (i + 1)
def htF (F : Nat → Fnd) (c : Nat) : Nat → Fnd := fun q => if q = c then ((F c).1, (F c).2.1 + 1, (F c).2.2) else F q
def nwF (F : Nat → Fnd) (c : Nat) (d : Fnd) : Nat → Fnd := fun q => if q = c then d else F q
theorem fx_lt {F : Nat → Fnd} {g : Sg} {c : Nat} : ∀ d i, fxR F g d i = some c → c < i + d := by
  intro d
  induction d with
  | zero => intro i h; cases h
  | succ d ih =>
    intro i h
    unfold fxR at h
    by_cases q : (F i).1 = g
    · rw [if_pos q] at h
      have := Option.some.inj h
      omega
    · rw [if_neg q] at h
      have := ih (i + 1) h
      omega
def XFc (M : Mem) (c : Nat) (d : Fnd) : Prop := FdX M c d.1 ∧ M (138 + 2 * c) 6 = d.2.1 ∧ Inp M (90 + 4 * c) d.2.2.1 ∧ Inp M (92 + 4 * c) d.2.2.2
def XF (M : Mem) (nf : Nat) (F : Nat → Fnd) : Prop := M 9 1 = nI nf ∧ nf ≤ 8 ∧ ∀ c, c < nf → XFc M c (F c)
theorem XFc_fr {M M1 : Mem} {c : Nat} {d : Fnd} (h : XFc M c d) (h0 : M1 (138 + 2 * c) = M (138 + 2 * c)) (h1 : M1 (139 + 2 * c) = M (139 + 2 * c)) (h2 : M1 (90 + 4 * c) = M (90 + 4 * c)) (h3 : M1 (90 + 4 * c + 1) = M (90 + 4 * c + 1)) (h4 : M1 (92 + 4 * c) = M (92 + 4 * c)) (h5 : M1 (92 + 4 * c + 1) = M (92 + 4 * c + 1)) : XFc M1 c d := by
  obtain ⟨a1, a2, a3, a4⟩ := h
  exact ⟨FdX_fr a1 h0 h1, by rw [h0]; exact a2, Inp_fr a3 h2 h3, Inp_fr a4 h4 h5⟩
theorem v_FS_chLoop {M : Mem} {P : Pg} {n nf : Nat} {F : Nat → Fnd} {l : List Int32} (hP : wfP P n) (hX : XF M nf F) (hR : Req (RUN P l) (prC 14 M)) : ∀ d i, i + d = nf → lp (fun q : Int32 × Mem => l_FS_countHit_2 14 q.1 q.2) (nI i, M) = match fxR F (sgn (RUN P l)) d i with
    | none => some (0, M)
    | some c => some (1, st M (138 + 2 * c) 6 (M (138 + 2 * c) 6 + 1)) := by
  obtain ⟨x1, x2, x3⟩ := hX
  intro d
  induction d with
  | zero =>
    intro i hi
    refine lp_inr ?_
    show l_FS_countHit_2 14 (nI i) M = _
    unfold l_FS_countHit_2
    rw [x1, if_pos (nI_le (by omega) (by omega))]
  | succ d ih =>
    intro i hi
    have hc := x3 i (by omega)
    have hst : l_FS_countHit_2 14 (nI i) M = if bI (sgn (RUN P l) = (F i).1) = 0 then some (.inl (nI (i + 1), M)) else some (.inr (1, st M (138 + 2 * i) 6 (M (138 + 2 * i) 6 + 1))) := by
      unfold l_FS_countHit_2
      rw [x1, if_neg (nI_ge (by omega) (by omega)), ck_i (vp_in_nI (by omega) (by decide)), nI_clamp (by omega), v_hasSign hP hc.1 hR, bi_s, nI_succ]
      unfold j_FS_countHit_23
      rw [ck_i (vp_in_nI (by omega) (by decide)), nI_clamp (by omega)]
      rfl
    show _ = match (if (F i).1 = sgn (RUN P l) then some i else fxR F (sgn (RUN P l)) d (i + 1)) with
      | none => _
      | some c => _
    by_cases q : (F i).1 = sgn (RUN P l)
    · rw [bI_t q.symm, if_neg (by decide)] at hst
      rw [if_pos q]
      exact lp_inr hst
    · rw [bI_f (fun w => q w.symm), if_pos rfl] at hst
      rw [if_neg q]
      exact (lp_inl (b := fun q : Int32 × Mem => l_FS_countHit_2 14 q.1 q.2) hst).trans (ih (i + 1) (by omega))
/-- what begin does: a new finding, not yet shortened -/
theorem v_FI_begin {M : Mem} {P : Pg} {n c i : Nat} {l : List Int32} (hP : wfP P n) (hc : c < 8) (hi : 51 < i ∧ i < 57) (hl : Inp M i l) (hR : Req (RUN P l) (prC 14 M)) (ho : 1 ≤ (RUN P l).2.2.2.2.2 ∧ (RUN P l).2.2.2.2.2 ≤ 4) : ∃ M1, s_FI_begin (138 + 2 * c) i 14 M = some M1 ∧ XFc M1 c (sgn (RUN P l), 1, l, l) ∧ ∀ a, a ≠ 90 + 4 * c → a ≠ 91 + 4 * c → a ≠ 92 + 4 * c → a ≠ 93 + 4 * c → a ≠ 138 + 2 * c → a ≠ 139 + 2 * c → M1 a = M a := by
  obtain ⟨M1, a1, a2, a3⟩ := v_IN_copy (j := 90 + 4 * c) (i := i) (M := M) (by omega) hl
  have hl1 : Inp M1 i l := Inp_fr hl (a3 _ (by omega) (by omega)) (a3 _ (by omega) (by omega))
  obtain ⟨M2, b1, b2, b3⟩ := v_IN_copy (j := 92 + 4 * c) (i := i) (M := M1) (by omega) hl1
  have o2 : ∀ a, a ≠ 90 + 4 * c → a ≠ 91 + 4 * c → a ≠ 92 + 4 * c → a ≠ 93 + 4 * c → M2 a = M a := fun a h1 h2 h3 h4 => by rw [b3 a h3 (by omega), a3 a h1 (by omega)]
  have hE := RUN_wf l hP
  have hg := sgOk_run hE ho
  have hsg : sgn (prC 14 M) = sgn (RUN P l) := (sg_iff hE hR hg).mpr rfl
  obtain ⟨-, ⟨k, -, ⟨⟨d, d1, d2, -⟩, -⟩, -⟩, -⟩ := id hE
  have hd : M 14 6 = nI d := by
    have := hR.2.2.2.2.1
    rw [d2] at this
    exact this.symm
  generalize hM3 : st (st (st M2 (138 + 2 * c) 3 (M2 14 10)) (138 + 2 * c) 4 (st M2 (138 + 2 * c) 3 (M2 14 10) 14 8)) (138 + 2 * c) 5 (st (st M2 (138 + 2 * c) 3 (M2 14 10)) (138 + 2 * c) 4 (st M2 (138 + 2 * c) 3 (M2 14 10) 14 8) 14 6) = M3
  have o3 : ∀ a, a ≠ 138 + 2 * c → M3 a = M2 a := fun a h => by rw [← hM3, st_other h, st_other h, st_other h]
  have q14 : M2 14 = M 14 := o2 14 (by omega) (by omega) (by omega) (by omega)
  have m3 : M3 (138 + 2 * c) 3 = M 14 10 := by rw [← hM3, st_ap, if_pos rfl, if_neg (by decide), st_ap, if_pos rfl, if_neg (by decide), st_ap, if_pos rfl, if_pos rfl, q14]
  have m4 : M3 (138 + 2 * c) 4 = M 14 8 := by rw [← hM3, st_ap, if_pos rfl, if_neg (by decide), st_ap, if_pos rfl, if_pos rfl, st_other (by omega), q14]
  have m5 : M3 (138 + 2 * c) 5 = M 14 6 := by rw [← hM3, st_ap, if_pos rfl, if_pos rfl, st_other (by omega), st_other (by omega), q14]
  have f14 : M3 14 6 = nI d := by rw [o3 14 (by omega), q14]; exact hd
  have f17 : M3 17 = M 17 := by rw [o3 17 (by omega), o2 17 (by omega) (by omega) (by omega) (by omega)]
  -- the loop over the stack
  have hb : ∀ k, k < 3 → (fun q : Int32 × Mem => l_FI_begin_42 (138 + 2 * c) 14 q.1 q.2) (nI k, pt M3 (139 + 2 * c) (fun x => if x < k then (if x < d then M 17 (d - 1 - x) else 0) else M3 (139 + 2 * c) x)) = some (.inl (nI (k + 1), pt M3 (139 + 2 * c) (fun x => if x < k + 1 then (if x < d then M 17 (d - 1 - x) else 0) else M3 (139 + 2 * c) x))) := fun k hk => by
    show l_FI_begin_42 (138 + 2 * c) 14 (nI k) (pt M3 (139 + 2 * c) (fun x => if x < k then (if x < d then M 17 (d - 1 - x) else 0) else M3 (139 + 2 * c) x)) = _
    unfold l_FI_begin_42
    rw [if_neg (show ¬ (3 : Int32) ≤ nI k from nI_ge (b := 3) hk (by decide)), v_onStack (d := d) (by rw [pt_o (by omega)]; exact f14) d1 hk, bi_s, ck_i (vp_in_nI hk (by decide)), nI_clamp (by omega), pt_o (by omega), f17]
    simp only [nx]
    rw [show 138 + 2 * c + 1 = 139 + 2 * c by omega, pt_st, nI_succ]
    refine congrArg (fun f => some (Sum.inl (nI k + 1, pt M3 (139 + 2 * c) f))) ?_
    funext x
    unfold upd
    dsimp only
    by_cases e : x = k
    · subst e; rw [if_pos rfl, if_pos (show x < x + 1 by omega)]
    · rw [if_neg e]
      by_cases w : x < k
      · rw [if_pos w, if_pos (show x < k + 1 by omega)]
      · rw [if_neg w, if_neg (show ¬ x < k + 1 by omega)]
  have h0 := lp_cnt0 (b := fun q : Int32 × Mem => l_FI_begin_42 (138 + 2 * c) 14 q.1 q.2) (fun k => (nI k, pt M3 (139 + 2 * c) (fun x => if x < k then (if x < d then M 17 (d - 1 - x) else 0) else M3 (139 + 2 * c) x))) 3 hb
  rw [show pt M3 (139 + 2 * c) (fun x => if x < 0 then (if x < d then M 17 (d - 1 - x) else 0) else M3 (139 + 2 * c) x) = M3 by
    have : (fun x => if x < 0 then (if x < d then M 17 (d - 1 - x) else 0) else M3 (139 + 2 * c) x) = M3 (139 + 2 * c) := by
      funext x
      rw [if_neg (by omega)]
    rw [this, pt_id]] at h0
  generalize hM4 : pt M3 (139 + 2 * c) (fun x => if x < 3 then (if x < d then M 17 (d - 1 - x) else 0) else M3 (139 + 2 * c) x) = M4 at h0
  have o4 : ∀ a, a ≠ 139 + 2 * c → M4 a = M3 a := fun a h => by rw [← hM4, pt_o h]
  have oF : ∀ a, a ≠ 138 + 2 * c → a ≠ 139 + 2 * c → st M4 (138 + 2 * c) 6 1 a = M2 a := fun a h1 h2 => by rw [st_other h1, o4 a h2, o3 a h1]
  refine ⟨st M4 (138 + 2 * c) 6 1, ?_, ⟨⟨hg, ?_, ?_, ?_, ?_⟩, ?_, ?_, ?_⟩, fun a h1 h2 h3 h4 h5 h6 => ?_⟩
  · unfold s_FI_begin
    rw [show 2 * (138 + 2 * c) - 186 = 90 + 4 * c by omega, show 2 * (138 + 2 * c) - 184 = 92 + 4 * c by omega, a1, bv_s, b1, bv_s]
    simp only [nx]
    rw [hM3]
    refine h0.trans (lp_inr ?_)
    show l_FI_begin_42 (138 + 2 * c) 14 (nI 3) M4 = _
    unfold l_FI_begin_42
    rw [if_pos (by decide)]
    rfl
  · rw [st_ap, if_pos rfl, if_neg (by decide), o4 _ (by omega), m3, ← hsg]; rfl
  · rw [st_ap, if_pos rfl, if_neg (by decide), o4 _ (by omega), m4, ← hsg]; rfl
  · rw [st_ap, if_pos rfl, if_neg (by decide), o4 _ (by omega), m5, ← hsg]; rfl
  · intro d' e1 e2 k hk
    have : d' = d := (nI_eq (by omega) (by omega)).mp (by rw [← e2]; exact d2)
    subst this
    rw [st_other (by omega), ← hM4, pt_same, if_pos hk]
    unfold lfS
    by_cases e : k < d'
    · rw [if_pos e, if_pos e]
      show _ = skS (sgn (RUN P l)) (d' - 1 - k)
      rw [← hsg, skS_sgn _ (by omega), skR_lt (d := d') hd d1 (by omega), if_pos (by omega)]
      rfl
    · rw [if_neg e, if_neg e]
  · rw [st_ap, if_pos rfl, if_pos rfl]
  · have a2' : Inp M2 (90 + 4 * c) l := Inp_fr a2 (b3 _ (by omega) (by omega)) (b3 _ (by omega) (by omega))
    exact Inp_fr a2' (oF _ (by omega) (by omega)) (oF _ (by omega) (by omega))
  · exact Inp_fr b2 (oF _ (by omega) (by omega)) (oF _ (by omega) (by omega))
  · rw [oF a h5 h6, o2 a h1 h2 h3 h4]
