/-! Pure: the reference's shortening, whole: it ends. -/
theorem v_MO_shLoop {P : Pg} {n c : Nat} {g : Sg} (hP : wfP P n) (hc : c < 8) : ∀ f r l M, 8 * l.length + 8 - min r l.length ≤ f → 1 ≤ r → r ≤ 6 → ShM M P c g l → ∃ M1, lp (fun q : Int32 × Int32 × Mem => l_MO_shorten_4 (nI c) q.1 q.2.1 q.2.2) (nI r, 0, M) = some M1 ∧ ShM M1 P c g (shR P g f r l) ∧ HF c M M1 := by
  intro f
  induction f with
  | zero => intro r l M hf; omega
  | succ f ih =>
    intro r l M hf hr1 hr6 hS
    have h6 := hS.2.2.2.1
    have hover : ∀ (v : Int32) (M2 : Mem), lp (fun q : Int32 × Int32 × Mem => l_MO_shorten_4 (nI c) q.1 q.2.1 q.2.2) (v, 1, M2) = some M2 := fun v M2 => lp_inr (by
      show l_MO_shorten_4 (nI c) v 1 M2 = _
      unfold l_MO_shorten_4
      rw [if_neg (by decide)])
    have h0 : l_MO_shorten_4 (nI c) (nI r) 0 M = if nI l.length ≤ 0 then some (.inr M) else j_MO_shorten_37 (nI c) (nI r) 0 (nI l.length) (nI (min r l.length)) M := by
      unfold l_MO_shorten_4
      rw [if_pos rfl, ck_i (vp_in_nI hc (by decide)), ck_i (vp_in_nI hc (by decide)), nI_clamp (by omega), hS.2.2.1]
      simp only [nx]
      by_cases q : l.length ≤ r
      · rw [if_pos (nI_le q (by omega)), Nat.min_eq_right q]
      · rw [if_neg (nI_ge (a := r) (b := l.length) (by omega) (by omega)), Nat.min_eq_left (by omega)]
    by_cases c0 : l.length = 0
    · refine ⟨M, lp_inr (h0.trans ?_), ?_, HF_r c M⟩
      · rw [if_pos (by rw [c0]; decide)]
      · unfold shR
        rw [if_pos c0]
        exact hS
    rw [if_neg (nI_nle (by omega) (by omega))] at h0
    have hm1 : 1 ≤ min r l.length := by omega
    have hx1 : 1 ≤ min (2 * min r l.length) l.length := by omega
    have hx2 : min (2 * min r l.length) l.length ≤ 6 := by omega
    have hx3 : 1 ≤ max (min r l.length - 1) 2 := by omega
    have hx4 : max (min r l.length - 1) 2 ≤ 6 := by omega
    have hx5 : ¬ min r l.length = l.length → 8 * l.length + 8 - min (min (2 * min r l.length) l.length) l.length ≤ f := fun q => by omega
    have hx6 : ∀ (r' n' : Nat), n' < l.length → 8 * n' + 8 - min r' n' ≤ f := fun r' n' q => by omega
    have hlp : ∀ (a b : Int32) (M2 : Mem), l_MO_shorten_4 (nI c) (nI r) 0 M = some (.inl (a, b, M2)) → lp (fun q : Int32 × Int32 × Mem => l_MO_shorten_4 (nI c) q.1 q.2.1 q.2.2) (nI r, 0, M) = lp (fun q : Int32 × Int32 × Mem => l_MO_shorten_4 (nI c) q.1 q.2.1 q.2.2) (a, b, M2) := fun a b M2 h => lp_inl (b := fun q : Int32 × Int32 × Mem => l_MO_shorten_4 (nI c) q.1 q.2.1 q.2.2) (s := (nI r, 0, M)) (s1 := (a, b, M2)) h
    have h61 : ∀ M2, ShM M2 P c g l → HF c M M2 → ∃ M1 res, j_MO_shorten_61 (nI c) (nI r) 0 (nI l.length) (nI (min r l.length)) M2 = some res ∧ (match kfR P g l (min r l.length) false (min r l.length) 0 with
        | some l' => res = .inl (nI (max (min r l.length - 1) 2), 0, M1) ∧ ShM M1 P c g l'
        | none => ShM M1 P c g l ∧ if min r l.length = l.length then res = .inl (nI r, 1, M1) else res = .inl (nI (min (2 * min r l.length) l.length), 0, M1)) ∧ HF c M M1 := fun M2 hS2 hF2 => by
      obtain ⟨M3, a1, a2, a3⟩ := v_MO_part false hP hc hm1 (Nat.min_le_right _ _) hS2
      rw [bI_f (show ¬ (false = true) by decide)] at a1
      unfold j_MO_shorten_61
      rw [a1, bi_s]
      unfold j_MO_shorten_88 j_MO_shorten_122 j_MO_shorten_123
      simp only [nx]
      cases hk : kfR P g l (min r l.length) false (min r l.length) 0 with
      | some l' =>
        rw [hk] at a2
        rw [bI_t (show ((some l').isSome = true) from rfl), if_neg (by decide)]
        refine ⟨M3, .inl (nI (max (min r l.length - 1) 2), 0, M3), ?_, ⟨rfl, a2⟩, HF_t hF2 a3⟩
        rw [show (1 : Int32) = nI 1 from rfl, pk_sub hm1, show (2 : Int32) = nI 2 from rfl]
        by_cases q : min r l.length - 1 ≤ 2
        · rw [if_pos (nI_le q (by decide)), Nat.max_eq_right q]
        · rw [if_neg (nI_ge (a := 2) (b := min r l.length - 1) (by omega) (by omega)), Nat.max_eq_left (by omega)]
      | none =>
        rw [hk] at a2
        rw [bI_f (show ¬ ((none : Option (List Int32)).isSome = true) by decide), if_pos rfl]
        by_cases q : min r l.length = l.length
        · refine ⟨M3, .inl (nI r, 1, M3), if_pos (congrArg nI q), ⟨a2, ?_⟩, HF_t hF2 a3⟩
          rw [if_pos q]
        · refine ⟨M3, .inl (nI (min (2 * min r l.length) l.length), 0, M3), ?_, ⟨a2, ?_⟩, HF_t hF2 a3⟩
          · rw [if_neg (fun w => q ((nI_eq (by omega) (by omega)).mp w)), show (2 : Int32) = nI 2 from rfl, pk_mul]
            by_cases w : l.length ≤ 2 * min r l.length
            · rw [if_pos (nI_le w (by omega)), Nat.min_eq_right (a := 2 * min r l.length) w]
            · rw [if_neg (nI_ge (a := 2 * min r l.length) (b := l.length) (by omega) (by omega)), Nat.min_eq_left (a := 2 * min r l.length) (by omega)]
          · rw [if_neg q]
    have hrest : ∀ M2, ShM M2 P c g l → HF c M M2 → l_MO_shorten_4 (nI c) (nI r) 0 M = j_MO_shorten_61 (nI c) (nI r) 0 (nI l.length) (nI (min r l.length)) M2 → (if 2 ≤ min r l.length then kfR P g l (min r l.length) true (min r l.length) 0 else none) = none → ∃ M1, lp (fun q : Int32 × Int32 × Mem => l_MO_shorten_4 (nI c) q.1 q.2.1 q.2.2) (nI r, 0, M) = some M1 ∧ ShM M1 P c g (shR P g (f + 1) r l) ∧ HF c M M1 := fun M2 hS2 hF2 heq hnone => by
      obtain ⟨M3, res, b1, b2, b3⟩ := h61 M2 hS2 hF2
      have hsh : shR P g (f + 1) r l = match kfR P g l (min r l.length) false (min r l.length) 0 with
          | some l' => shR P g f (max (min r l.length - 1) 2) l'
          | none => if min r l.length = l.length then l else shR P g f (min (2 * min r l.length) l.length) l := by
        rw [shR, if_neg c0, hnone]
        rfl
      rw [hsh]
      cases hk : kfR P g l (min r l.length) false (min r l.length) 0 with
      | some l' =>
        rw [hk] at b2
        obtain ⟨b4, b5⟩ := b2
        subst b4
        obtain ⟨k, k1, k2⟩ := kf_some (min r l.length) 0 l' (Nat.zero_add _) hk
        have hlt : l'.length < l.length := by rw [k2]; exact cd_len hm1 (fun q => absurd q (by decide)) (Nat.min_le_right _ _) k1
        obtain ⟨M1, i1, i2, i3⟩ := ih (max (min r l.length - 1) 2) l' M3 (hx6 _ _ hlt) hx3 hx4 b5
        exact ⟨M1, (hlp _ _ _ (heq.trans b1)).trans i1, i2, HF_t b3 i3⟩
      | none =>
        rw [hk] at b2
        obtain ⟨b4, b5⟩ := b2
        by_cases q : min r l.length = l.length
        · rw [if_pos q] at b5
          subst b5
          refine ⟨M3, (hlp _ _ _ (heq.trans b1)).trans (hover _ _), ?_, b3⟩
          show ShM M3 P c g (if min r l.length = l.length then l else shR P g f (min (2 * min r l.length) l.length) l)
          rw [if_pos q]
          exact b4
        · rw [if_neg q] at b5
          subst b5
          obtain ⟨M1, i1, i2, i3⟩ := ih (min (2 * min r l.length) l.length) l M3 (hx5 q) hx1 hx2 b4
          refine ⟨M1, (hlp _ _ _ (heq.trans b1)).trans i1, ?_, HF_t b3 i3⟩
          show ShM M1 P c g (if min r l.length = l.length then l else shR P g f (min (2 * min r l.length) l.length) l)
          rw [if_neg q]
          exact i2
    by_cases c2 : 2 ≤ min r l.length
    · have hnl : ¬ nI (min r l.length) < (2 : Int32) := fun w => absurd ((nI_ltI (a := min r l.length) (b := 2) (by omega) (by decide)).mp w) (by omega)
      obtain ⟨M3, a1, a2, a3⟩ := v_MO_part true hP hc hm1 (Nat.min_le_right _ _) hS
      rw [bI_t (show (true = true) from rfl)] at a1
      unfold j_MO_shorten_37 j_MO_shorten_123 at h0
      rw [if_neg hnl, a1, bi_s] at h0
      simp only [nx] at h0
      cases hk : kfR P g l (min r l.length) true (min r l.length) 0 with
      | some l' =>
        rw [hk] at a2 h0
        rw [bI_t (show ((some l').isSome = true) from rfl), if_neg (by decide)] at h0
        obtain ⟨k, k1, k2⟩ := kf_some (min r l.length) 0 l' (Nat.zero_add _) hk
        have hlt : l'.length < l.length := by rw [k2]; exact cd_len hm1 (fun _ => c2) (Nat.min_le_right _ _) k1
        obtain ⟨M1, i1, i2, i3⟩ := ih 2 l' M3 (hx6 _ _ hlt) (by decide) (by decide) a2
        refine ⟨M1, (hlp _ _ _ h0).trans i1, ?_, HF_t a3 i3⟩
        have hsh : shR P g (f + 1) r l = shR P g f 2 l' := by
          rw [shR, if_neg c0, if_pos c2, hk]
        rw [hsh]
        exact i2
      | none =>
        rw [hk] at a2 h0
        rw [bI_f (show ¬ ((none : Option (List Int32)).isSome = true) by decide), if_pos rfl] at h0
        exact hrest M3 a2 a3 h0 (by rw [if_pos c2, hk])
    · unfold j_MO_shorten_37 at h0
      rw [if_pos (show nI (min r l.length) < (2 : Int32) from nI_lt (b := 2) (by omega) (by decide))] at h0
      exact hrest M hS (HF_r c M) h0 (by rw [if_neg c2])
theorem v_MO_shorten {P : Pg} {n c : Nat} {g : Sg} {l : List Int32} {M : Mem} (hP : wfP P n) (hc : c < 8) (hS : ShM M P c g l) : ∃ M1, s_MO_shorten (nI c) M = some M1 ∧ ShM M1 P c g (shR P g 64 2 l) ∧ HF c M M1 := by
  have h6 := hS.2.2.2.1
  obtain ⟨M1, a1, a2, a3⟩ := v_MO_shLoop hP hc 64 2 l M (by omega) (by omega) (by omega) hS
  exact ⟨M1, a1, a2, a3⟩
