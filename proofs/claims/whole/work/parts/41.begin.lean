theorem q_751 : ((.instantiable "EdgeCampaign" 12) : Cond) ∈ tb := tb_in (List.mem_of_getElem? (i := 63) (by decide +kernel)) (by decide +kernel)
theorem q_752 : ((.instantiable "EdgeCampaignModel" 45) : Cond) ∈ tb := tb_in (List.mem_of_getElem? (i := 671) (by decide +kernel)) (by decide +kernel)
theorem q_753 : ((.code y_LAW_cell b_LAW_cell 2 (some .int)) : Cond) ∈ tb := tb_in (List.mem_of_getElem? (i := 669) (by decide +kernel)) (by decide +kernel)
theorem q_754 : ((.initialized "EdgeCampaignLaw") : Cond) ∈ tb := tb_in (List.mem_of_getElem? (i := 47) (by decide +kernel)) (by decide +kernel)
theorem q_755 : ((.methodLink "EdgeCampaignLaw" 9 ⟨"EdgeCampaignLaw", "cell", "([II)I"⟩) : Cond) ∈ tb := tb_in (List.mem_of_getElem? (i := 667) (by decide +kernel)) (by decide +kernel)
theorem q_756 : ((.static ⟨"EdgeCampaignLaw", "cell", "([II)I"⟩) : Cond) ∈ tb := tb_in (List.mem_of_getElem? (i := 668) (by decide +kernel)) (by decide +kernel)
theorem q_757 : ((.classLink "EdgeCampaignLaw" 7 "EdgeCampaign") : Cond) ∈ tb := tb_in (List.mem_of_getElem? (i := 62) (by decide +kernel)) (by decide +kernel)
theorem q_758 : ((.code y_EC_init b_EC_init 2 none) : Cond) ∈ tb := tb_in (List.mem_of_getElem? (i := 66) (by decide +kernel)) (by decide +kernel)
theorem q_759 : ((.methodLink "EdgeCampaignLaw" 15 ⟨"EdgeCampaign", "<init>", "(I)V"⟩) : Cond) ∈ tb := tb_in (List.mem_of_getElem? (i := 64) (by decide +kernel)) (by decide +kernel)
theorem q_760 : ((.instanceMethod ⟨"EdgeCampaign", "<init>", "(I)V"⟩) : Cond) ∈ tb := tb_in (List.mem_of_getElem? (i := 65) (by decide +kernel)) (by decide +kernel)
theorem q_761 : ((.classLink "EdgeCampaignLaw" 18 "EdgeCampaignModel") : Cond) ∈ tb := tb_in (List.mem_of_getElem? (i := 670) (by decide +kernel)) (by decide +kernel)
theorem q_762 : ((.code y_MO_init b_MO_init 2 none) : Cond) ∈ tb := tb_in (List.mem_of_getElem? (i := 674) (by decide +kernel)) (by decide +kernel)
theorem q_763 : ((.methodLink "EdgeCampaignLaw" 20 ⟨"EdgeCampaignModel", "<init>", "(I)V"⟩) : Cond) ∈ tb := tb_in (List.mem_of_getElem? (i := 672) (by decide +kernel)) (by decide +kernel)
theorem q_764 : ((.instanceMethod ⟨"EdgeCampaignModel", "<init>", "(I)V"⟩) : Cond) ∈ tb := tb_in (List.mem_of_getElem? (i := 673) (by decide +kernel)) (by decide +kernel)
theorem d_LAW_cell_0 : decode b_LAW_cell 0 = .ok (.iload_n 1, 1) := by decide +kernel
theorem d_LAW_cell_1 : decode b_LAW_cell 1 = .ok (.aload_n 0, 1) := by decide +kernel
theorem d_LAW_cell_2 : decode b_LAW_cell 2 = .ok (.arraylength, 1) := by decide +kernel
theorem d_LAW_cell_3 : decode b_LAW_cell 3 = .ok (.if_icmp .ge 9, 3) := by decide +kernel
theorem d_LAW_cell_6 : decode b_LAW_cell 6 = .ok (.aload_n 0, 1) := by decide +kernel
theorem d_LAW_cell_7 : decode b_LAW_cell 7 = .ok (.iload_n 1, 1) := by decide +kernel
theorem d_LAW_cell_8 : decode b_LAW_cell 8 = .ok (.iaload, 1) := by decide +kernel
theorem d_LAW_cell_9 : decode b_LAW_cell 9 = .ok (.goto 4, 3) := by decide +kernel
theorem d_LAW_cell_12 : decode b_LAW_cell 12 = .ok (.iconst 0, 1) := by decide +kernel
theorem d_LAW_cell_13 : decode b_LAW_cell 13 = .ok (.ireturn, 1) := by decide +kernel
set_option maxHeartbeats 4000000 in
theorem c_cell (l : Launch) (b L : Nat) (xs : Nat → Int32) (hL : L < 2 ^ 31) : Met l y_LAW_cell (Cond.code y_LAW_cell b_LAW_cell 2 (some .int) :: tb) { frames := 0, cells := 0, slots := 0, locals := 0 } (va_Pc [.ref b, .int 0] (fun U => va_X b L xs U U.heap ∧ b < U.heap.size)) (va_Qi (fun (r : Int32) (_ : Unit) => r = if L = 0 then 0 else xs 0) (fun _ _ => True) (fun _ => False)) 0 0 (fun _ => False) := by
  refine Met.ofW (cc := b_LAW_cell) (maxL := 2) (ret := some .int) (by decide) rfl ?_
  intro p e s m args below meth c s₁ B hml hv
  obtain ⟨rfl, hX, hbl⟩ := hv
  have hx := B.exec
  have hb := B.bytes
  have hr := B.returns
  have hlocks := B.notSynchronized
  have hS : va_S (fun _ => False) s.heap s.heap [] := va_S.rf
  have hl := lv_entry ([.ref b, .int 0]) (n := 2) (Nat.le_of_ble_eq_true rfl)
  rw [lg_entry_eq]
  generalize (lg_sl ([.ref b, .int 0]) ++ List.replicate (2 - (lg_sl ([.ref b, .int 0])).length) Slot.unset).toArray = ls at hl ⊢
  have hl : lv_has ls 2 [(0, .ref b), (1, .int 0)] := hl
  refine lv_iload_n hx hb d_LAW_cell_0 rfl (lv_at hl 1 rfl) ?_
  refine lv_aload_n hx hb d_LAW_cell_1 rfl (lv_at hl 0 rfl) ?_
  refine va_slen hx hb hX hbl (fun h => h) hS d_LAW_cell_2 ?_
  refine lv_icmp_ge (tgt := 12) hx hb d_LAW_cell_3 rfl (fun hc => ?_) (fun hc => ?_)
  · have h0 : L = 0 := by
      have h1 : nI L ≤ nI 0 := hc
      have := (nI_leI hL (by decide)).mp h1
      omega
    refine lv_iconst (v := (0 : Int32)) hx hb d_LAW_cell_12 (by decide) ?_
    exact W.iret hx hb hr (fun t ht _ => ⟨⟨0, (), rfl, by rw [if_pos h0], trivial⟩, hS.F ht⟩) hS.2.2 d_LAW_cell_13
  · have h0 : ¬ L = 0 := fun h => hc (by subst h; decide)
    refine lv_aload_n hx hb d_LAW_cell_6 rfl (lv_at hl 0 rfl) ?_
    refine lv_iload_n hx hb d_LAW_cell_7 rfl (lv_at hl 1 rfl) ?_
    refine va_sld hx hb hX hbl (fun h => h) hS (vp_in_nI (n := 0) (N := L) (by omega) hL) d_LAW_cell_8 ?_
    refine lv_goto (tgt := 13) hx hb d_LAW_cell_9 rfl ?_
    exact W.iret hx hb hr (fun t ht _ => ⟨⟨_, (), rfl, by rw [if_neg h0]; rfl, trivial⟩, hS.F ht⟩) hS.2.2 d_LAW_cell_13
theorem kn_all {s : State} {args : Array Value} (hts : ∀ w ∈ tb, w.before args s = true) : ∃ D : va_G, ∀ (c : Nat) (q : vw_C), vwCl[c]? = some q → u_Kn s q.1 q.2.1 q.2.2 (D.1 c) (D.2 c) := by
  have one : ∀ c : Nat, ∃ z : ClassId × (Nat → Nat), ∀ q : vw_C, vwCl[c]? = some q → u_Kn s q.1 q.2.1 q.2.2 z.1 z.2 := by
    intro c
    by_cases h0 : c = 0
    · obtain ⟨cC, iS, h⟩ := u_known (n := 4) hts in_EN (hts _ q_713)
      subst h0
      exact ⟨(cC, iS), fun q hq => by cases hq; exact h⟩
    by_cases h1 : c = 1
    · obtain ⟨cC, iS, h⟩ := u_known (n := 7) hts in_FI (hts _ q_718)
      subst h1
      exact ⟨(cC, iS), fun q hq => by cases hq; exact h⟩
    by_cases h2 : c = 2
    · obtain ⟨cC, iS, h⟩ := u_known (n := 2) hts in_FS (hts _ q_733)
      subst h2
      exact ⟨(cC, iS), fun q hq => by cases hq; exact h⟩
    by_cases h3 : c = 3
    · obtain ⟨cC, iS, h⟩ := u_known (n := 1) hts in_GE (hts _ q_742)
      subst h3
      exact ⟨(cC, iS), fun q hq => by cases hq; exact h⟩
    by_cases h4 : c = 4
    · obtain ⟨cC, iS, h⟩ := u_known (n := 2) hts in_IN (hts _ q_699)
      subst h4
      exact ⟨(cC, iS), fun q hq => by cases hq; exact h⟩
    by_cases h5 : c = 5
    · obtain ⟨cC, iS, h⟩ := u_known (n := 4) hts in_PR (hts _ q_722)
      subst h5
      exact ⟨(cC, iS), fun q hq => by cases hq; exact h⟩
    by_cases h6 : c = 6
    · obtain ⟨cC, iS, h⟩ := u_known (n := 11) hts in_RU (hts _ q_706)
      subst h6
      exact ⟨(cC, iS), fun q hq => by cases hq; exact h⟩
    by_cases h7 : c = 7
    · obtain ⟨cC, iS, h⟩ := u_known (n := 2) hts in_SH (hts _ q_738)
      subst h7
      exact ⟨(cC, iS), fun q hq => by cases hq; exact h⟩
    by_cases h8 : c = 8
    · obtain ⟨cC, iS, h⟩ := u_known (n := 7) hts in_ST (hts _ q_728)
      subst h8
      exact ⟨(cC, iS), fun q hq => by cases hq; exact h⟩
    by_cases h9 : c = 9
    · obtain ⟨cC, iS, h⟩ := u_known (n := 3) hts in_TR (hts _ q_747)
      subst h9
      exact ⟨(cC, iS), fun q hq => by cases hq; exact h⟩
    by_cases h10 : c = 10
    · obtain ⟨cC, iS, h⟩ := u_known (n := 12) hts in_EC (hts _ q_751)
      subst h10
      exact ⟨(cC, iS), fun q hq => by cases hq; exact h⟩
    by_cases h11 : c = 11
    · obtain ⟨cC, iS, h⟩ := u_known (n := 45) hts in_MO (hts _ q_752)
      subst h11
      exact ⟨(cC, iS), fun q hq => by cases hq; exact h⟩
    · refine ⟨(0, fun _ => 0), fun q hq => ?_⟩
      rw [List.getElem?_eq_none (by show 12 ≤ c; omega)] at hq
      cases hq
  obtain ⟨z, hz⟩ := Classical.axiomOfChoice one
  exact ⟨(fun c => (z c).1, fun c => (z c).2), hz⟩
theorem ids_all {s : State} {args : Array Value} (hts : ∀ w ∈ lw_tbl, w.before args s = true) : ∃ ids : ClassId × ClassId × ClassId, ∀ (k : Nat) (q : ClassId × FieldType), (tyk ids)[k]? = some q → ArrOfT s q.1 q.2 ∧ va_RA s q.1 q.2 := by
  obtain ⟨c1, k1, m1, a1, a2, a3⟩ := Cond.arrayClass_spec (hts (.arrayClass .int) (List.mem_of_getElem? (i := 92) (by decide +kernel)))
  obtain ⟨m2, c2, k2, b1, -, b2, b3, b4⟩ := Cond.arrayOver_spec (hts (.arrayOver (.object "EdgeCampaign$Entry")) (List.mem_of_getElem? (i := 165) (by decide +kernel)))
  obtain ⟨m3, c3, k3, d1, -, d2, d3, d4⟩ := Cond.arrayOver_spec (hts (.arrayOver (.object "EdgeCampaign$Finding")) (List.mem_of_getElem? (i := 230) (by decide +kernel)))
  refine ⟨(c1, c2, c3), fun k q hk => ?_⟩
  have hk3 : k < 3 := (List.getElem?_eq_some_iff.mp hk).1
  rcases (show k = 0 ∨ k = 1 ∨ k = 2 by omega) with rfl | rfl | rfl
  · cases hk
    exact ⟨fun n z => ⟨(fun k h => by cases h), k1, a2, m1, a3⟩, a1⟩
  · cases hk
    exact ⟨fun n z => ⟨(fun k h => by cases h), k2, b2, m2, b3⟩, k2, m2, b2, b3, b1, b4⟩
  · cases hk
    exact ⟨fun n z => ⟨(fun k h => by cases h), k3, d2, m3, d3⟩, k3, m3, d2, d3, d1, d4⟩
