theorem d_IN_append_0 : decode b_IN_append 0 = .ok (.iload_n 1, 1) := by decide +kernel
theorem d_IN_append_1 : decode b_IN_append 1 = .ok (.ifCond .lt 19, 3) := by decide +kernel
theorem d_IN_append_4 : decode b_IN_append 4 = .ok (.iload_n 1, 1) := by decide +kernel
theorem d_IN_append_5 : decode b_IN_append 5 = .ok (.sipush 255, 3) := by decide +kernel
theorem d_IN_append_8 : decode b_IN_append 8 = .ok (.if_icmp .gt 12, 3) := by decide +kernel
theorem d_IN_append_11 : decode b_IN_append 11 = .ok (.aload_n 0, 1) := by decide +kernel
theorem d_IN_append_12 : decode b_IN_append 12 = .ok (.getfield 15, 3) := by decide +kernel
theorem d_IN_append_15 : decode b_IN_append 15 = .ok (.bipush 6, 2) := by decide +kernel
theorem d_IN_append_17 : decode b_IN_append 17 = .ok (.if_icmp .lt 5, 3) := by decide +kernel
theorem d_IN_append_20 : decode b_IN_append 20 = .ok (.iconst 0, 1) := by decide +kernel
theorem d_IN_append_21 : decode b_IN_append 21 = .ok (.ireturn, 1) := by decide +kernel
theorem d_IN_append_22 : decode b_IN_append 22 = .ok (.aload_n 0, 1) := by decide +kernel
theorem d_IN_append_23 : decode b_IN_append 23 = .ok (.getfield 11, 3) := by decide +kernel
theorem d_IN_append_26 : decode b_IN_append 26 = .ok (.aload_n 0, 1) := by decide +kernel
theorem d_IN_append_27 : decode b_IN_append 27 = .ok (.getfield 15, 3) := by decide +kernel
theorem d_IN_append_30 : decode b_IN_append 30 = .ok (.iload_n 1, 1) := by decide +kernel
theorem d_IN_append_31 : decode b_IN_append 31 = .ok (.iastore, 1) := by decide +kernel
theorem d_IN_append_32 : decode b_IN_append 32 = .ok (.aload_n 0, 1) := by decide +kernel
theorem d_IN_append_33 : decode b_IN_append 33 = .ok (.dup, 1) := by decide +kernel
theorem d_IN_append_34 : decode b_IN_append 34 = .ok (.getfield 15, 3) := by decide +kernel
theorem d_IN_append_37 : decode b_IN_append 37 = .ok (.iconst 1, 1) := by decide +kernel
theorem d_IN_append_38 : decode b_IN_append 38 = .ok (.iadd, 1) := by decide +kernel
theorem d_IN_append_39 : decode b_IN_append 39 = .ok (.putfield 15, 3) := by decide +kernel
theorem d_IN_append_42 : decode b_IN_append 42 = .ok (.iconst 1, 1) := by decide +kernel
theorem d_IN_append_43 : decode b_IN_append 43 = .ok (.ireturn, 1) := by decide +kernel
noncomputable def s_IN_append (j0 : Nat) (a1 : Int32) (M : Mem) : Option (Int32 × Mem) :=
  if a1 < 0 then (some ((0 : Int32), M)) else (if (255 : Int32) < a1 then (some ((0 : Int32), M)) else (if (M j0 1) < (6 : Int32) then (ck (M j0 1) 6 (nx (st M (j0 + 1) (M j0 1).toNatClampNeg a1) (fun M22 => nx (st M22 j0 1 ((M22 j0 1) + (1 : Int32))) (fun M23 => some ((1 : Int32), M23))))) else (some ((0 : Int32), M))))
set_option maxHeartbeats 4000000 in
set_option maxRecDepth 100000 in
theorem c_IN_append (l : Launch) (x : Cx) (hJ : Inj x) (j0 : Nat) (k0 : kd_in j0) (a1 : Int32) {M : Mem} {out : Int32 × Mem} (h : s_IN_append j0 a1 M = some out) : Ci l x y_IN_append (Cond.code y_IN_append b_IN_append 2 (some .boolean) :: tb) r_IN_append [.ref (x.2.1 j0), .int a1] M out := by
  refine ofCz (cc := b_IN_append) (maxL := 2) (by decide) rfl (rfl) (Nat.le_of_ble_eq_true rfl) ?_
  intro p e s m args below meth c Q G0 ls g hx hb hml hown hts hK hZ hP hS hl hret
  have hown : s.vm.findClass R_IN = some m.cls := hown
  have hl : lv_has ls 2 [(0, .ref (x.2.1 j0)), (1, .int a1)] := hl
  obtain ⟨H, eH⟩ : ∃ z, z = s.heap := ⟨_, rfl⟩
  obtain ⟨locs, eL⟩ : ∃ z, z = ([] : List Loc) := ⟨_, rfl⟩
  rw [← eH] at hP
  have hS : va_S (A0 x) s.heap H locs := by rw [eH, eL]; exact hS
  rw [← eL]
  have key : W p l e r_IN_append s m args below meth c H locs 0 0 Q (F0 m 0 ls []) := by
    clear eH eL
    unfold s_IN_append at h
    refine lv_iload_n hx hb d_IN_append_0 rfl (lv_at hl 1 rfl) ?_
    refine lv_if_lt (tgt := 20) hx hb d_IN_append_1 rfl (fun hc => ?_) (fun hc => ?_)
    · have h := if_p hc h
      refine lv_iconst (v := (0 : Int32)) hx hb d_IN_append_20 (by decide) ?_
      obtain rfl := Option.some.inj h
      exact hret (by decide) d_IN_append_21 g hP hS
    · have h := if_m hc h
      refine lv_iload_n hx hb d_IN_append_4 rfl (lv_at hl 1 rfl) ?_
      refine lv_sipush (v := (255 : Int32)) hx hb d_IN_append_5 (by decide) ?_
      refine lv_icmp_gt (tgt := 20) hx hb d_IN_append_8 rfl (fun hc => ?_) (fun hc => ?_)
      · have h := if_p hc h
        refine lv_iconst (v := (0 : Int32)) hx hb d_IN_append_20 (by decide) ?_
        obtain rfl := Option.some.inj h
        exact hret (by decide) d_IN_append_21 g hP hS
      · have h := if_m hc h
        refine lv_aload_n hx hb d_IN_append_11 rfl (lv_at hl 0 rfl) ?_
        refine gf_IN_15 hx hb hts hown hK hP k0 d_IN_append_12 ?_
        refine lv_bipush (v := (6 : Int32)) hx hb d_IN_append_15 (by decide) ?_
        refine lv_icmp_lt (tgt := 22) hx hb d_IN_append_17 rfl (fun hc => ?_) (fun hc => ?_)
        · have h := if_p hc h
          refine lv_aload_n hx hb d_IN_append_22 rfl (lv_at hl 0 rfl) ?_
          refine gf_IN_11 hx hb hts hown hK hP k0 d_IN_append_23 ?_
          refine lv_aload_n hx hb d_IN_append_26 rfl (lv_at hl 0 rfl) ?_
          refine gf_IN_15 hx hb hts hown hK hP k0 d_IN_append_27 ?_
          refine lv_iload_n hx hb d_IN_append_30 rfl (lv_at hl 1 rfl) ?_
          obtain ⟨b21, h⟩ := ck_e h
          obtain ⟨M22, eM22, h⟩ := nx_e h
          refine m_ast hx hb hK hJ hP hS (ar_IN_bytes k0) b21 eM22 d_IN_append_31 (fun H locs hP hS => ?_)
          refine lv_aload_n hx hb d_IN_append_32 rfl (lv_at hl 0 rfl) ?_
          refine lv_dup hx hb d_IN_append_33 rfl ?_
          refine gf_IN_15 hx hb hts hown hK hP k0 d_IN_append_34 ?_
          refine lv_iconst (v := (1 : Int32)) hx hb d_IN_append_37 (by decide) ?_
          refine lv_iadd hx hb d_IN_append_38 ?_
          obtain ⟨M23, eM23, h⟩ := nx_e h
          refine pf_IN_15 hx hb hts hown hK hJ hP hS k0 eM23 d_IN_append_39 (fun H locs hP hS => ?_)
          refine lv_iconst (v := (1 : Int32)) hx hb d_IN_append_42 (by decide) ?_
          obtain rfl := Option.some.inj h
          exact hret (by decide) d_IN_append_43 g hP hS
        · have h := if_m hc h
          refine lv_iconst (v := (0 : Int32)) hx hb d_IN_append_20 (by decide) ?_
          obtain rfl := Option.some.inj h
          exact hret (by decide) d_IN_append_21 g hP hS
  rw [eH] at key
  exact key
theorem d_IN_at_0 : decode b_IN_at 0 = .ok (.iload_n 1, 1) := by decide +kernel
theorem d_IN_at_1 : decode b_IN_at 1 = .ok (.ifCond .lt 20, 3) := by decide +kernel
theorem d_IN_at_4 : decode b_IN_at 4 = .ok (.iload_n 1, 1) := by decide +kernel
theorem d_IN_at_5 : decode b_IN_at 5 = .ok (.aload_n 0, 1) := by decide +kernel
theorem d_IN_at_6 : decode b_IN_at 6 = .ok (.getfield 15, 3) := by decide +kernel
theorem d_IN_at_9 : decode b_IN_at 9 = .ok (.if_icmp .ge 12, 3) := by decide +kernel
theorem d_IN_at_12 : decode b_IN_at 12 = .ok (.aload_n 0, 1) := by decide +kernel
theorem d_IN_at_13 : decode b_IN_at 13 = .ok (.getfield 11, 3) := by decide +kernel
theorem d_IN_at_16 : decode b_IN_at 16 = .ok (.iload_n 1, 1) := by decide +kernel
theorem d_IN_at_17 : decode b_IN_at 17 = .ok (.iaload, 1) := by decide +kernel
theorem d_IN_at_18 : decode b_IN_at 18 = .ok (.goto 4, 3) := by decide +kernel
theorem d_IN_at_21 : decode b_IN_at 21 = .ok (.iconst (-1), 1) := by decide +kernel
theorem d_IN_at_22 : decode b_IN_at 22 = .ok (.ireturn, 1) := by decide +kernel
noncomputable def s_IN_at (j0 : Nat) (a1 : Int32) (M : Mem) : Option (Int32 × Mem) :=
  if a1 < 0 then (some ((-1 : Int32), M)) else (if (M j0 1) ≤ a1 then (some ((-1 : Int32), M)) else (ck a1 6 (some (M (j0 + 1) a1.toNatClampNeg, M))))
set_option maxHeartbeats 4000000 in
set_option maxRecDepth 100000 in
theorem c_IN_at (l : Launch) (x : Cx) (hJ : Inj x) (j0 : Nat) (k0 : kd_in j0) (a1 : Int32) {M : Mem} {out : Int32 × Mem} (h : s_IN_at j0 a1 M = some out) : Ci l x y_IN_at (Cond.code y_IN_at b_IN_at 2 (some .int) :: tb) r_IN_at [.ref (x.2.1 j0), .int a1] M out := by
  refine ofCi (cc := b_IN_at) (maxL := 2) (by decide) rfl (rfl) (Nat.le_of_ble_eq_true rfl) ?_
  intro p e s m args below meth c Q G0 ls g hx hb hml hown hts hK hZ hP hS hl hret
  have hown : s.vm.findClass R_IN = some m.cls := hown
  have hl : lv_has ls 2 [(0, .ref (x.2.1 j0)), (1, .int a1)] := hl
  obtain ⟨H, eH⟩ : ∃ z, z = s.heap := ⟨_, rfl⟩
  obtain ⟨locs, eL⟩ : ∃ z, z = ([] : List Loc) := ⟨_, rfl⟩
  rw [← eH] at hP
  have hS : va_S (A0 x) s.heap H locs := by rw [eH, eL]; exact hS
  rw [← eL]
  have key : W p l e r_IN_at s m args below meth c H locs 0 0 Q (F0 m 0 ls []) := by
    clear eH eL
    unfold s_IN_at at h
    refine lv_iload_n hx hb d_IN_at_0 rfl (lv_at hl 1 rfl) ?_
    refine lv_if_lt (tgt := 21) hx hb d_IN_at_1 rfl (fun hc => ?_) (fun hc => ?_)
    · have h := if_p hc h
      refine lv_iconst (v := (-1 : Int32)) hx hb d_IN_at_21 (by decide) ?_
      obtain rfl := Option.some.inj h
      exact hret d_IN_at_22 g hP hS
    · have h := if_m hc h
      refine lv_iload_n hx hb d_IN_at_4 rfl (lv_at hl 1 rfl) ?_
      refine lv_aload_n hx hb d_IN_at_5 rfl (lv_at hl 0 rfl) ?_
      refine gf_IN_15 hx hb hts hown hK hP k0 d_IN_at_6 ?_
      refine lv_icmp_ge (tgt := 21) hx hb d_IN_at_9 rfl (fun hc => ?_) (fun hc => ?_)
      · have h := if_p hc h
        refine lv_iconst (v := (-1 : Int32)) hx hb d_IN_at_21 (by decide) ?_
        obtain rfl := Option.some.inj h
        exact hret d_IN_at_22 g hP hS
      · have h := if_m hc h
        refine lv_aload_n hx hb d_IN_at_12 rfl (lv_at hl 0 rfl) ?_
        refine gf_IN_11 hx hb hts hown hK hP k0 d_IN_at_13 ?_
        refine lv_iload_n hx hb d_IN_at_16 rfl (lv_at hl 1 rfl) ?_
        obtain ⟨b21, h⟩ := ck_e h
        refine m_ald hx hb hK hP (ar_IN_bytes k0) b21 d_IN_at_17 ?_
        refine lv_goto (tgt := 22) hx hb d_IN_at_18 rfl ?_
        obtain rfl := Option.some.inj h
        exact hret d_IN_at_22 g hP hS
  rw [eH] at key
  exact key
theorem d_IN_appendPart_0 : decode b_IN_appendPart 0 = .ok (.iload_n 3, 1) := by decide +kernel
theorem d_IN_appendPart_1 : decode b_IN_appendPart 1 = .ok (.aload_n 1, 1) := by decide +kernel
theorem d_IN_appendPart_2 : decode b_IN_appendPart 2 = .ok (.getfield 15, 3) := by decide +kernel
theorem d_IN_appendPart_5 : decode b_IN_appendPart 5 = .ok (.invokestatic 19, 3) := by decide +kernel
theorem d_IN_appendPart_8 : decode b_IN_appendPart 8 = .ok (.istore 4, 2) := by decide +kernel
theorem d_IN_appendPart_10 : decode b_IN_appendPart 10 = .ok (.iload_n 2, 1) := by decide +kernel
theorem d_IN_appendPart_11 : decode b_IN_appendPart 11 = .ok (.istore 5, 2) := by decide +kernel
theorem d_IN_appendPart_13 : decode b_IN_appendPart 13 = .ok (.iload 5, 2) := by decide +kernel
theorem d_IN_appendPart_15 : decode b_IN_appendPart 15 = .ok (.iload 4, 2) := by decide +kernel
theorem d_IN_appendPart_17 : decode b_IN_appendPart 17 = .ok (.if_icmp .ge 20, 3) := by decide +kernel
theorem d_IN_appendPart_20 : decode b_IN_appendPart 20 = .ok (.aload_n 0, 1) := by decide +kernel
theorem d_IN_appendPart_21 : decode b_IN_appendPart 21 = .ok (.aload_n 1, 1) := by decide +kernel
theorem d_IN_appendPart_22 : decode b_IN_appendPart 22 = .ok (.iload 5, 2) := by decide +kernel
theorem d_IN_appendPart_24 : decode b_IN_appendPart 24 = .ok (.invokevirtual 25, 3) := by decide +kernel
theorem d_IN_appendPart_27 : decode b_IN_appendPart 27 = .ok (.invokevirtual 29, 3) := by decide +kernel
theorem d_IN_appendPart_30 : decode b_IN_appendPart 30 = .ok (.pop, 1) := by decide +kernel
theorem d_IN_appendPart_31 : decode b_IN_appendPart 31 = .ok (.iinc 5 1, 3) := by decide +kernel
theorem d_IN_appendPart_34 : decode b_IN_appendPart 34 = .ok (.goto (-21), 3) := by decide +kernel
theorem d_IN_appendPart_37 : decode b_IN_appendPart 37 = .ok (.return_, 1) := by decide +kernel
noncomputable def l_IN_appendPart_13 (j0 : Nat) (j1 : Nat) (v21 : Int32) (v22 : Int32) (M23 : Mem) : Option ((Int32 × Mem) ⊕ (Mem)) :=
  if v21 ≤ v22 then (some (.inr M23)) else (bi (s_IN_at j1 v22 M23) (fun r26 M24 => bi (s_IN_append j0 r26 M24) (fun r29 M27 => nx (v22 + (1 : Int32)) (fun v30 => some (.inl (v30, M27))))))
noncomputable def s_IN_appendPart (j0 : Nat) (j1 : Nat) (a2 : Int32) (a3 : Int32) (M : Mem) : Option (Mem) :=
  nx (if (M j1 1) < a3 then (M j1 1) else a3) (fun v21 => lp (fun q : Int32 × Mem => l_IN_appendPart_13 j0 j1 v21 q.1 q.2) (a2, M))
set_option maxHeartbeats 4000000 in
set_option maxRecDepth 100000 in
theorem c_IN_appendPart (l : Launch) (x : Cx) (hJ : Inj x) (j0 : Nat) (k0 : kd_in j0) (j1 : Nat) (k1 : kd_in j1) (a2 : Int32) (a3 : Int32) {M : Mem} {out : Mem} (h : s_IN_appendPart j0 j1 a2 a3 M = some out) : Cv l x y_IN_appendPart (Cond.code y_IN_appendPart b_IN_appendPart 6 none :: tb) r_IN_appendPart [.ref (x.2.1 j0), .ref (x.2.1 j1), .int a2, .int a3] M out := by
  refine ofCv (cc := b_IN_appendPart) (maxL := 6) (by decide) rfl (rfl) (Nat.le_of_ble_eq_true rfl) ?_
  intro p e s m args below meth c Q G0 ls g hx hb hml hown hts hK hZ hP hS hl hret
  have hown : s.vm.findClass R_IN = some m.cls := hown
  have hl : lv_has ls 6 [(0, .ref (x.2.1 j0)), (1, .ref (x.2.1 j1)), (2, .int a2), (3, .int a3)] := hl
  obtain ⟨H, eH⟩ : ∃ z, z = s.heap := ⟨_, rfl⟩
  obtain ⟨locs, eL⟩ : ∃ z, z = ([] : List Loc) := ⟨_, rfl⟩
  rw [← eH] at hP
  have hS : va_S (A0 x) s.heap H locs := by rw [eH, eL]; exact hS
  rw [← eL]
  have key : W p l e r_IN_appendPart s m args below meth c H locs 0 0 Q (F0 m 0 ls []) := by
    clear eH eL
    unfold s_IN_appendPart at h
    refine lv_iload_n hx hb d_IN_appendPart_0 rfl (lv_at hl 3 rfl) ?_
    refine lv_aload_n hx hb d_IN_appendPart_1 rfl (lv_at hl 1 rfl) ?_
    refine gf_IN_15 hx hb hts hown hK hP k1 d_IN_appendPart_2 ?_
    refine va_mmin hx hb (hml.trans hl.1.symm) hown (hts.1 _ q_92) (hts.1 _ q_93) (hts.1 _ q_94) (hts.1 _ q_95) (Nat.le_of_ble_eq_true rfl) (Nat.le_of_ble_eq_true rfl) (Nat.zero_le _) (Nat.zero_le _) d_IN_appendPart_5 ?_
    obtain ⟨v21, ev21, h⟩ := nx_e h
    refine tp_i ev21 ?_
    refine lv_istore hx hb d_IN_appendPart_8 hl (by decide) rfl (fun ls hl => ?_)
    have hl : lv_has ls 6 [(4, .int v21), (0, .ref (x.2.1 j0)), (1, .ref (x.2.1 j1)), (2, .int a2), (3, .int a3)] := hl
    refine lv_iload_n hx hb d_IN_appendPart_10 rfl (lv_at hl 3 rfl) ?_
    refine lv_istore hx hb d_IN_appendPart_11 hl (by decide) rfl (fun ls hl => ?_)
    have hl : lv_has ls 6 [(5, .int a2), (4, .int v21), (0, .ref (x.2.1 j0)), (1, .ref (x.2.1 j1)), (2, .int a2), (3, .int a3)] := hl
    obtain ⟨P13, eP13⟩ : ∃ P : (Int32 × Mem) → Prop, P = (fun q => ∀ (H : Heap) (locs : List Loc) (ls : Array Slot), va_P x.1 vwCl (wld x (q.2)) H → va_S (A0 x) s.heap H locs → lv_has ls 6 [(0, .ref (x.2.1 j0)), (1, .ref (x.2.1 j1)), (4, .int v21), (5, .int (q.1))] → W p l e r_IN_appendPart s m args below meth c H locs 0 0 Q (F0 m 13 ls [])) := ⟨_, rfl⟩
    have L13 : P13 (a2, M) := by
      refine lp_walk (G := G0) ?_ h g
      intro q res h g
      obtain ⟨v22, M23⟩ := q
      rw [eP13]
      intro H locs ls hP hS hl
      have hP : va_P x.1 vwCl (wld x M23) H := hP
      have hl : lv_has ls 6 [(0, .ref (x.2.1 j0)), (1, .ref (x.2.1 j1)), (4, .int v21), (5, .int v22)] := hl
      have h : l_IN_appendPart_13 j0 j1 v21 v22 M23 = some res := h
      unfold l_IN_appendPart_13 at h
      refine lv_iload hx hb d_IN_appendPart_13 (lv_at hl 3 rfl) ?_
      refine lv_iload hx hb d_IN_appendPart_15 (lv_at hl 2 rfl) ?_
      refine lv_icmp_ge (tgt := 37) hx hb d_IN_appendPart_17 rfl (fun hc => ?_) (fun hc => ?_)
      · have h := if_p hc h
        obtain rfl := Option.some.inj h
        exact hret d_IN_appendPart_37 g hP hS
      · have h := if_m hc h
        refine lv_aload_n hx hb d_IN_appendPart_20 rfl (lv_at hl 0 rfl) ?_
        refine lv_aload_n hx hb d_IN_appendPart_21 rfl (lv_at hl 1 rfl) ?_
        refine lv_iload hx hb d_IN_appendPart_22 (lv_at hl 3 rfl) ?_
        obtain ⟨r26, M24, c25, h⟩ := bi_e h
        refine cl_IN_25 (rest := [.ref (x.2.1 j0)]) (R := r_IN_appendPart) (c_IN_at l x hJ j1 k1 v22 c25) k1 hx hb hml hts hown hK hZ hP hS hl.1 (Nat.le_of_ble_eq_true rfl) (Nat.le_of_ble_eq_true rfl) (Nat.le_of_ble_eq_true rfl) ⟨rfl, rfl, Nat.zero_le _, Nat.zero_le _⟩ d_IN_appendPart_24 (fun H locs hP hS => ?_)
        obtain ⟨r29, M27, c28, h⟩ := bi_e h
        refine cl_IN_29 (rest := []) (R := r_IN_appendPart) (c_IN_append l x hJ j0 k0 r26 c28) k0 hx hb hml hts hown hK hZ hP hS hl.1 (Nat.le_of_ble_eq_true rfl) (Nat.le_of_ble_eq_true rfl) (Nat.le_of_ble_eq_true rfl) ⟨rfl, rfl, Nat.zero_le _, Nat.zero_le _⟩ d_IN_appendPart_27 (fun H locs hP hS => ?_)
        refine lv_pop hx hb d_IN_appendPart_30 rfl ?_
        obtain ⟨v30, ev30, h⟩ := nx_e h
        refine lv_iinc (k := 3) hx hb d_IN_appendPart_31 hl rfl (iinc_v (k := (1 : Int32)) (by decide) ev30) (by decide) rfl (fun ls hl => ?_)
        have hl : lv_has ls 6 [(5, .int v30), (0, .ref (x.2.1 j0)), (1, .ref (x.2.1 j1)), (4, .int v21)] := hl
        refine lv_goto (tgt := 13) hx hb d_IN_appendPart_34 rfl ?_
        obtain rfl := Option.some.inj h
        have g : P13 (v30, M27) := g
        rw [eP13] at g
        exact g H locs ls hP hS (lv_sub hl [1, 2, 3, 0] rfl)
    rw [eP13] at L13
    exact L13 H locs ls hP hS (lv_sub hl [2, 3, 1, 0] rfl)
  rw [eH] at key
  exact key
theorem d_IN_copy_0 : decode b_IN_copy 0 = .ok (.aload_n 0, 1) := by decide +kernel
theorem d_IN_copy_1 : decode b_IN_copy 1 = .ok (.iconst 0, 1) := by decide +kernel
theorem d_IN_copy_2 : decode b_IN_copy 2 = .ok (.putfield 15, 3) := by decide +kernel
theorem d_IN_copy_5 : decode b_IN_copy 5 = .ok (.aload_n 0, 1) := by decide +kernel
theorem d_IN_copy_6 : decode b_IN_copy 6 = .ok (.aload_n 1, 1) := by decide +kernel
theorem d_IN_copy_7 : decode b_IN_copy 7 = .ok (.iconst 0, 1) := by decide +kernel
theorem d_IN_copy_8 : decode b_IN_copy 8 = .ok (.aload_n 1, 1) := by decide +kernel
theorem d_IN_copy_9 : decode b_IN_copy 9 = .ok (.getfield 15, 3) := by decide +kernel
theorem d_IN_copy_12 : decode b_IN_copy 12 = .ok (.invokevirtual 33, 3) := by decide +kernel
theorem d_IN_copy_15 : decode b_IN_copy 15 = .ok (.return_, 1) := by decide +kernel
noncomputable def s_IN_copy (j0 : Nat) (j1 : Nat) (M : Mem) : Option (Mem) :=
  nx (st M j0 1 (0 : Int32)) (fun M21 => bv (s_IN_appendPart j0 j1 (0 : Int32) (M21 j1 1) M21) (fun M22 => some M22))
set_option maxHeartbeats 4000000 in
set_option maxRecDepth 100000 in
theorem c_IN_copy (l : Launch) (x : Cx) (hJ : Inj x) (j0 : Nat) (k0 : kd_in j0) (j1 : Nat) (k1 : kd_in j1) {M : Mem} {out : Mem} (h : s_IN_copy j0 j1 M = some out) : Cv l x y_IN_copy (Cond.code y_IN_copy b_IN_copy 2 none :: tb) r_IN_copy [.ref (x.2.1 j0), .ref (x.2.1 j1)] M out := by
  refine ofCv (cc := b_IN_copy) (maxL := 2) (by decide) rfl (rfl) (Nat.le_of_ble_eq_true rfl) ?_
  intro p e s m args below meth c Q G0 ls g hx hb hml hown hts hK hZ hP hS hl hret
  have hown : s.vm.findClass R_IN = some m.cls := hown
  have hl : lv_has ls 2 [(0, .ref (x.2.1 j0)), (1, .ref (x.2.1 j1))] := hl
  obtain ⟨H, eH⟩ : ∃ z, z = s.heap := ⟨_, rfl⟩
  obtain ⟨locs, eL⟩ : ∃ z, z = ([] : List Loc) := ⟨_, rfl⟩
  rw [← eH] at hP
  have hS : va_S (A0 x) s.heap H locs := by rw [eH, eL]; exact hS
  rw [← eL]
  have key : W p l e r_IN_copy s m args below meth c H locs 0 0 Q (F0 m 0 ls []) := by
    clear eH eL
    unfold s_IN_copy at h
    refine lv_aload_n hx hb d_IN_copy_0 rfl (lv_at hl 0 rfl) ?_
    refine lv_iconst (v := (0 : Int32)) hx hb d_IN_copy_1 (by decide) ?_
    obtain ⟨M21, eM21, h⟩ := nx_e h
    refine pf_IN_15 hx hb hts hown hK hJ hP hS k0 eM21 d_IN_copy_2 (fun H locs hP hS => ?_)
    refine lv_aload_n hx hb d_IN_copy_5 rfl (lv_at hl 0 rfl) ?_
    refine lv_aload_n hx hb d_IN_copy_6 rfl (lv_at hl 1 rfl) ?_
    refine lv_iconst (v := (0 : Int32)) hx hb d_IN_copy_7 (by decide) ?_
    refine lv_aload_n hx hb d_IN_copy_8 rfl (lv_at hl 1 rfl) ?_
    refine gf_IN_15 hx hb hts hown hK hP k1 d_IN_copy_9 ?_
    obtain ⟨M22, c23, h⟩ := bv_e h
    refine cl_IN_33 (rest := []) (R := r_IN_copy) (c_IN_appendPart l x hJ j0 k0 j1 k1 (0 : Int32) (M21 j1 1) c23) k0 hx hb hml hts hown hK hZ hP hS hl.1 (Nat.le_of_ble_eq_true rfl) (Nat.le_of_ble_eq_true rfl) (Nat.le_of_ble_eq_true rfl) ⟨rfl, rfl, Nat.zero_le _, Nat.zero_le _⟩ d_IN_copy_12 (fun H locs hP hS => ?_)
    obtain rfl := Option.some.inj h
    exact hret d_IN_copy_15 g hP hS
  rw [eH] at key
  exact key
theorem d_IN_cutTo_0 : decode b_IN_cutTo 0 = .ok (.aload_n 0, 1) := by decide +kernel
theorem d_IN_cutTo_1 : decode b_IN_cutTo 1 = .ok (.iconst 0, 1) := by decide +kernel
theorem d_IN_cutTo_2 : decode b_IN_cutTo 2 = .ok (.aload_n 0, 1) := by decide +kernel
theorem d_IN_cutTo_3 : decode b_IN_cutTo 3 = .ok (.getfield 15, 3) := by decide +kernel
theorem d_IN_cutTo_6 : decode b_IN_cutTo 6 = .ok (.iload_n 1, 1) := by decide +kernel
theorem d_IN_cutTo_7 : decode b_IN_cutTo 7 = .ok (.invokestatic 19, 3) := by decide +kernel
theorem d_IN_cutTo_10 : decode b_IN_cutTo 10 = .ok (.invokestatic 37, 3) := by decide +kernel
theorem d_IN_cutTo_13 : decode b_IN_cutTo 13 = .ok (.putfield 15, 3) := by decide +kernel
theorem d_IN_cutTo_16 : decode b_IN_cutTo 16 = .ok (.return_, 1) := by decide +kernel
noncomputable def s_IN_cutTo (j0 : Nat) (a1 : Int32) (M : Mem) : Option (Mem) :=
  nx (st M j0 1 (if (0 : Int32) < (if a1 < (M j0 1) then a1 else (M j0 1)) then (if a1 < (M j0 1) then a1 else (M j0 1)) else (0 : Int32))) (fun M21 => some M21)
set_option maxHeartbeats 4000000 in
set_option maxRecDepth 100000 in
theorem c_IN_cutTo (l : Launch) (x : Cx) (hJ : Inj x) (j0 : Nat) (k0 : kd_in j0) (a1 : Int32) {M : Mem} {out : Mem} (h : s_IN_cutTo j0 a1 M = some out) : Cv l x y_IN_cutTo (Cond.code y_IN_cutTo b_IN_cutTo 2 none :: tb) r_IN_cutTo [.ref (x.2.1 j0), .int a1] M out := by
  refine ofCv (cc := b_IN_cutTo) (maxL := 2) (by decide) rfl (rfl) (Nat.le_of_ble_eq_true rfl) ?_
  intro p e s m args below meth c Q G0 ls g hx hb hml hown hts hK hZ hP hS hl hret
  have hown : s.vm.findClass R_IN = some m.cls := hown
  have hl : lv_has ls 2 [(0, .ref (x.2.1 j0)), (1, .int a1)] := hl
  obtain ⟨H, eH⟩ : ∃ z, z = s.heap := ⟨_, rfl⟩
  obtain ⟨locs, eL⟩ : ∃ z, z = ([] : List Loc) := ⟨_, rfl⟩
  rw [← eH] at hP
  have hS : va_S (A0 x) s.heap H locs := by rw [eH, eL]; exact hS
  rw [← eL]
  have key : W p l e r_IN_cutTo s m args below meth c H locs 0 0 Q (F0 m 0 ls []) := by
    clear eH eL
    unfold s_IN_cutTo at h
    refine lv_aload_n hx hb d_IN_cutTo_0 rfl (lv_at hl 0 rfl) ?_
    refine lv_iconst (v := (0 : Int32)) hx hb d_IN_cutTo_1 (by decide) ?_
    refine lv_aload_n hx hb d_IN_cutTo_2 rfl (lv_at hl 0 rfl) ?_
    refine gf_IN_15 hx hb hts hown hK hP k0 d_IN_cutTo_3 ?_
    refine lv_iload_n hx hb d_IN_cutTo_6 rfl (lv_at hl 1 rfl) ?_
    refine va_mmin hx hb (hml.trans hl.1.symm) hown (hts.1 _ q_92) (hts.1 _ q_93) (hts.1 _ q_94) (hts.1 _ q_95) (Nat.le_of_ble_eq_true rfl) (Nat.le_of_ble_eq_true rfl) (Nat.zero_le _) (Nat.zero_le _) d_IN_cutTo_7 ?_
    refine va_mmax hx hb (hml.trans hl.1.symm) hown (hts.1 _ q_155) (hts.1 _ q_156) (hts.1 _ q_94) (hts.1 _ q_157) (Nat.le_of_ble_eq_true rfl) (Nat.le_of_ble_eq_true rfl) (Nat.zero_le _) (Nat.zero_le _) d_IN_cutTo_10 ?_
    obtain ⟨M21, eM21, h⟩ := nx_e h
    refine pf_IN_15 hx hb hts hown hK hJ hP hS k0 eM21 d_IN_cutTo_13 (fun H locs hP hS => ?_)
    obtain rfl := Option.some.inj h
    exact hret d_IN_cutTo_16 g hP hS
  rw [eH] at key
  exact key
theorem d_IN_put_0 : decode b_IN_put 0 = .ok (.iload_n 1, 1) := by decide +kernel
theorem d_IN_put_1 : decode b_IN_put 1 = .ok (.ifCond .lt 22, 3) := by decide +kernel
theorem d_IN_put_4 : decode b_IN_put 4 = .ok (.iload_n 1, 1) := by decide +kernel
theorem d_IN_put_5 : decode b_IN_put 5 = .ok (.aload_n 0, 1) := by decide +kernel
theorem d_IN_put_6 : decode b_IN_put 6 = .ok (.getfield 15, 3) := by decide +kernel
theorem d_IN_put_9 : decode b_IN_put 9 = .ok (.if_icmp .ge 14, 3) := by decide +kernel
theorem d_IN_put_12 : decode b_IN_put 12 = .ok (.aload_n 0, 1) := by decide +kernel
theorem d_IN_put_13 : decode b_IN_put 13 = .ok (.getfield 11, 3) := by decide +kernel
theorem d_IN_put_16 : decode b_IN_put 16 = .ok (.iload_n 1, 1) := by decide +kernel
theorem d_IN_put_17 : decode b_IN_put 17 = .ok (.iload_n 2, 1) := by decide +kernel
theorem d_IN_put_18 : decode b_IN_put 18 = .ok (.sipush 255, 3) := by decide +kernel
theorem d_IN_put_21 : decode b_IN_put 21 = .ok (.iand, 1) := by decide +kernel
theorem d_IN_put_22 : decode b_IN_put 22 = .ok (.iastore, 1) := by decide +kernel
theorem d_IN_put_23 : decode b_IN_put 23 = .ok (.return_, 1) := by decide +kernel
noncomputable def s_IN_put (j0 : Nat) (a1 : Int32) (a2 : Int32) (M : Mem) : Option (Mem) :=
  if a1 < 0 then (some M) else (if (M j0 1) ≤ a1 then (some M) else (ck a1 6 (nx (st M (j0 + 1) a1.toNatClampNeg (a2 &&& (255 : Int32))) (fun M22 => some M22))))
set_option maxHeartbeats 4000000 in
set_option maxRecDepth 100000 in
theorem c_IN_put (l : Launch) (x : Cx) (hJ : Inj x) (j0 : Nat) (k0 : kd_in j0) (a1 : Int32) (a2 : Int32) {M : Mem} {out : Mem} (h : s_IN_put j0 a1 a2 M = some out) : Cv l x y_IN_put (Cond.code y_IN_put b_IN_put 3 none :: tb) r_IN_put [.ref (x.2.1 j0), .int a1, .int a2] M out := by
  refine ofCv (cc := b_IN_put) (maxL := 3) (by decide) rfl (rfl) (Nat.le_of_ble_eq_true rfl) ?_
  intro p e s m args below meth c Q G0 ls g hx hb hml hown hts hK hZ hP hS hl hret
  have hown : s.vm.findClass R_IN = some m.cls := hown
  have hl : lv_has ls 3 [(0, .ref (x.2.1 j0)), (1, .int a1), (2, .int a2)] := hl
  obtain ⟨H, eH⟩ : ∃ z, z = s.heap := ⟨_, rfl⟩
  obtain ⟨locs, eL⟩ : ∃ z, z = ([] : List Loc) := ⟨_, rfl⟩
  rw [← eH] at hP
  have hS : va_S (A0 x) s.heap H locs := by rw [eH, eL]; exact hS
  rw [← eL]
  have key : W p l e r_IN_put s m args below meth c H locs 0 0 Q (F0 m 0 ls []) := by
    clear eH eL
    unfold s_IN_put at h
    refine lv_iload_n hx hb d_IN_put_0 rfl (lv_at hl 1 rfl) ?_
    refine lv_if_lt (tgt := 23) hx hb d_IN_put_1 rfl (fun hc => ?_) (fun hc => ?_)
    · have h := if_p hc h
      obtain rfl := Option.some.inj h
      exact hret d_IN_put_23 g hP hS
    · have h := if_m hc h
      refine lv_iload_n hx hb d_IN_put_4 rfl (lv_at hl 1 rfl) ?_
      refine lv_aload_n hx hb d_IN_put_5 rfl (lv_at hl 0 rfl) ?_
      refine gf_IN_15 hx hb hts hown hK hP k0 d_IN_put_6 ?_
      refine lv_icmp_ge (tgt := 23) hx hb d_IN_put_9 rfl (fun hc => ?_) (fun hc => ?_)
      · have h := if_p hc h
        obtain rfl := Option.some.inj h
        exact hret d_IN_put_23 g hP hS
      · have h := if_m hc h
        refine lv_aload_n hx hb d_IN_put_12 rfl (lv_at hl 0 rfl) ?_
        refine gf_IN_11 hx hb hts hown hK hP k0 d_IN_put_13 ?_
        refine lv_iload_n hx hb d_IN_put_16 rfl (lv_at hl 1 rfl) ?_
        refine lv_iload_n hx hb d_IN_put_17 rfl (lv_at hl 2 rfl) ?_
        refine lv_sipush (v := (255 : Int32)) hx hb d_IN_put_18 (by decide) ?_
        refine lv_iand hx hb d_IN_put_21 ?_
        obtain ⟨b21, h⟩ := ck_e h
        obtain ⟨M22, eM22, h⟩ := nx_e h
        refine m_ast hx hb hK hJ hP hS (ar_IN_bytes k0) b21 eM22 d_IN_put_22 (fun H locs hP hS => ?_)
        obtain rfl := Option.some.inj h
        exact hret d_IN_put_23 g hP hS
  rw [eH] at key
  exact key
theorem d_IN_turnBit_0 : decode b_IN_turnBit 0 = .ok (.aload_n 0, 1) := by decide +kernel
theorem d_IN_turnBit_1 : decode b_IN_turnBit 1 = .ok (.iload_n 1, 1) := by decide +kernel
theorem d_IN_turnBit_2 : decode b_IN_turnBit 2 = .ok (.aload_n 0, 1) := by decide +kernel
theorem d_IN_turnBit_3 : decode b_IN_turnBit 3 = .ok (.iload_n 1, 1) := by decide +kernel
theorem d_IN_turnBit_4 : decode b_IN_turnBit 4 = .ok (.invokevirtual 25, 3) := by decide +kernel
theorem d_IN_turnBit_7 : decode b_IN_turnBit 7 = .ok (.iconst 1, 1) := by decide +kernel
theorem d_IN_turnBit_8 : decode b_IN_turnBit 8 = .ok (.iload_n 2, 1) := by decide +kernel
theorem d_IN_turnBit_9 : decode b_IN_turnBit 9 = .ok (.ishl, 1) := by decide +kernel
theorem d_IN_turnBit_10 : decode b_IN_turnBit 10 = .ok (.ixor, 1) := by decide +kernel
theorem d_IN_turnBit_11 : decode b_IN_turnBit 11 = .ok (.invokevirtual 40, 3) := by decide +kernel
theorem d_IN_turnBit_14 : decode b_IN_turnBit 14 = .ok (.return_, 1) := by decide +kernel
noncomputable def s_IN_turnBit (j0 : Nat) (a1 : Int32) (a2 : Int32) (M : Mem) : Option (Mem) :=
  bi (s_IN_at j0 a1 M) (fun r23 M21 => bv (s_IN_put j0 a1 (r23 ^^^ ((1 : Int32) <<< (a2 &&& 31))) M21) (fun M24 => some M24))
set_option maxHeartbeats 4000000 in
set_option maxRecDepth 100000 in
theorem c_IN_turnBit (l : Launch) (x : Cx) (hJ : Inj x) (j0 : Nat) (k0 : kd_in j0) (a1 : Int32) (a2 : Int32) {M : Mem} {out : Mem} (h : s_IN_turnBit j0 a1 a2 M = some out) : Cv l x y_IN_turnBit (Cond.code y_IN_turnBit b_IN_turnBit 3 none :: tb) r_IN_turnBit [.ref (x.2.1 j0), .int a1, .int a2] M out := by
  refine ofCv (cc := b_IN_turnBit) (maxL := 3) (by decide) rfl (rfl) (Nat.le_of_ble_eq_true rfl) ?_
  intro p e s m args below meth c Q G0 ls g hx hb hml hown hts hK hZ hP hS hl hret
  have hown : s.vm.findClass R_IN = some m.cls := hown
  have hl : lv_has ls 3 [(0, .ref (x.2.1 j0)), (1, .int a1), (2, .int a2)] := hl
  obtain ⟨H, eH⟩ : ∃ z, z = s.heap := ⟨_, rfl⟩
  obtain ⟨locs, eL⟩ : ∃ z, z = ([] : List Loc) := ⟨_, rfl⟩
  rw [← eH] at hP
  have hS : va_S (A0 x) s.heap H locs := by rw [eH, eL]; exact hS
  rw [← eL]
  have key : W p l e r_IN_turnBit s m args below meth c H locs 0 0 Q (F0 m 0 ls []) := by
    clear eH eL
    unfold s_IN_turnBit at h
    refine lv_aload_n hx hb d_IN_turnBit_0 rfl (lv_at hl 0 rfl) ?_
    refine lv_iload_n hx hb d_IN_turnBit_1 rfl (lv_at hl 1 rfl) ?_
    refine lv_aload_n hx hb d_IN_turnBit_2 rfl (lv_at hl 0 rfl) ?_
    refine lv_iload_n hx hb d_IN_turnBit_3 rfl (lv_at hl 1 rfl) ?_
    obtain ⟨r23, M21, c22, h⟩ := bi_e h
    refine cl_IN_25 (rest := [.int a1, .ref (x.2.1 j0)]) (R := r_IN_turnBit) (c_IN_at l x hJ j0 k0 a1 c22) k0 hx hb hml hts hown hK hZ hP hS hl.1 (Nat.le_of_ble_eq_true rfl) (Nat.le_of_ble_eq_true rfl) (Nat.le_of_ble_eq_true rfl) ⟨rfl, rfl, Nat.zero_le _, Nat.zero_le _⟩ d_IN_turnBit_4 (fun H locs hP hS => ?_)
    refine lv_iconst (v := (1 : Int32)) hx hb d_IN_turnBit_7 (by decide) ?_
    refine lv_iload_n hx hb d_IN_turnBit_8 rfl (lv_at hl 2 rfl) ?_
    refine lv_ishl hx hb d_IN_turnBit_9 ?_
    refine lv_ixor hx hb d_IN_turnBit_10 ?_
    obtain ⟨M24, c25, h⟩ := bv_e h
    refine cl_IN_40 (rest := []) (R := r_IN_turnBit) (c_IN_put l x hJ j0 k0 a1 (r23 ^^^ ((1 : Int32) <<< (a2 &&& 31))) c25) k0 hx hb hml hts hown hK hZ hP hS hl.1 (Nat.le_of_ble_eq_true rfl) (Nat.le_of_ble_eq_true rfl) (Nat.le_of_ble_eq_true rfl) ⟨rfl, rfl, Nat.zero_le _, Nat.zero_le _⟩ d_IN_turnBit_11 (fun H locs hP hS => ?_)
    obtain rfl := Option.some.inj h
    exact hret d_IN_turnBit_14 g hP hS
  rw [eH] at key
  exact key
theorem d_IN_addTo_0 : decode b_IN_addTo 0 = .ok (.aload_n 0, 1) := by decide +kernel
theorem d_IN_addTo_1 : decode b_IN_addTo 1 = .ok (.iload_n 1, 1) := by decide +kernel
theorem d_IN_addTo_2 : decode b_IN_addTo 2 = .ok (.aload_n 0, 1) := by decide +kernel
theorem d_IN_addTo_3 : decode b_IN_addTo 3 = .ok (.iload_n 1, 1) := by decide +kernel
theorem d_IN_addTo_4 : decode b_IN_addTo 4 = .ok (.invokevirtual 25, 3) := by decide +kernel
theorem d_IN_addTo_7 : decode b_IN_addTo 7 = .ok (.iload_n 2, 1) := by decide +kernel
theorem d_IN_addTo_8 : decode b_IN_addTo 8 = .ok (.iadd, 1) := by decide +kernel
theorem d_IN_addTo_9 : decode b_IN_addTo 9 = .ok (.invokevirtual 40, 3) := by decide +kernel
theorem d_IN_addTo_12 : decode b_IN_addTo 12 = .ok (.return_, 1) := by decide +kernel
noncomputable def s_IN_addTo (j0 : Nat) (a1 : Int32) (a2 : Int32) (M : Mem) : Option (Mem) :=
  bi (s_IN_at j0 a1 M) (fun r23 M21 => bv (s_IN_put j0 a1 (r23 + a2) M21) (fun M24 => some M24))
set_option maxHeartbeats 4000000 in
set_option maxRecDepth 100000 in
theorem c_IN_addTo (l : Launch) (x : Cx) (hJ : Inj x) (j0 : Nat) (k0 : kd_in j0) (a1 : Int32) (a2 : Int32) {M : Mem} {out : Mem} (h : s_IN_addTo j0 a1 a2 M = some out) : Cv l x y_IN_addTo (Cond.code y_IN_addTo b_IN_addTo 3 none :: tb) r_IN_addTo [.ref (x.2.1 j0), .int a1, .int a2] M out := by
  refine ofCv (cc := b_IN_addTo) (maxL := 3) (by decide) rfl (rfl) (Nat.le_of_ble_eq_true rfl) ?_
  intro p e s m args below meth c Q G0 ls g hx hb hml hown hts hK hZ hP hS hl hret
  have hown : s.vm.findClass R_IN = some m.cls := hown
  have hl : lv_has ls 3 [(0, .ref (x.2.1 j0)), (1, .int a1), (2, .int a2)] := hl
  obtain ⟨H, eH⟩ : ∃ z, z = s.heap := ⟨_, rfl⟩
  obtain ⟨locs, eL⟩ : ∃ z, z = ([] : List Loc) := ⟨_, rfl⟩
  rw [← eH] at hP
  have hS : va_S (A0 x) s.heap H locs := by rw [eH, eL]; exact hS
  rw [← eL]
  have key : W p l e r_IN_addTo s m args below meth c H locs 0 0 Q (F0 m 0 ls []) := by
    clear eH eL
    unfold s_IN_addTo at h
    refine lv_aload_n hx hb d_IN_addTo_0 rfl (lv_at hl 0 rfl) ?_
    refine lv_iload_n hx hb d_IN_addTo_1 rfl (lv_at hl 1 rfl) ?_
    refine lv_aload_n hx hb d_IN_addTo_2 rfl (lv_at hl 0 rfl) ?_
    refine lv_iload_n hx hb d_IN_addTo_3 rfl (lv_at hl 1 rfl) ?_
    obtain ⟨r23, M21, c22, h⟩ := bi_e h
    refine cl_IN_25 (rest := [.int a1, .ref (x.2.1 j0)]) (R := r_IN_addTo) (c_IN_at l x hJ j0 k0 a1 c22) k0 hx hb hml hts hown hK hZ hP hS hl.1 (Nat.le_of_ble_eq_true rfl) (Nat.le_of_ble_eq_true rfl) (Nat.le_of_ble_eq_true rfl) ⟨rfl, rfl, Nat.zero_le _, Nat.zero_le _⟩ d_IN_addTo_4 (fun H locs hP hS => ?_)
    refine lv_iload_n hx hb d_IN_addTo_7 rfl (lv_at hl 2 rfl) ?_
    refine lv_iadd hx hb d_IN_addTo_8 ?_
    obtain ⟨M24, c25, h⟩ := bv_e h
    refine cl_IN_40 (rest := []) (R := r_IN_addTo) (c_IN_put l x hJ j0 k0 a1 (r23 + a2) c25) k0 hx hb hml hts hown hK hZ hP hS hl.1 (Nat.le_of_ble_eq_true rfl) (Nat.le_of_ble_eq_true rfl) (Nat.le_of_ble_eq_true rfl) ⟨rfl, rfl, Nat.zero_le _, Nat.zero_le _⟩ d_IN_addTo_9 (fun H locs hP hS => ?_)
    obtain rfl := Option.some.inj h
    exact hret d_IN_addTo_12 g hP hS
  rw [eH] at key
  exact key
theorem d_IN_insert_0 : decode b_IN_insert 0 = .ok (.iload_n 1, 1) := by decide +kernel
theorem d_IN_insert_1 : decode b_IN_insert 1 = .ok (.ifCond .lt 19, 3) := by decide +kernel
theorem d_IN_insert_4 : decode b_IN_insert 4 = .ok (.iload_n 1, 1) := by decide +kernel
theorem d_IN_insert_5 : decode b_IN_insert 5 = .ok (.aload_n 0, 1) := by decide +kernel
theorem d_IN_insert_6 : decode b_IN_insert 6 = .ok (.getfield 15, 3) := by decide +kernel
theorem d_IN_insert_9 : decode b_IN_insert 9 = .ok (.if_icmp .gt 11, 3) := by decide +kernel
theorem d_IN_insert_12 : decode b_IN_insert 12 = .ok (.aload_n 0, 1) := by decide +kernel
theorem d_IN_insert_13 : decode b_IN_insert 13 = .ok (.iload_n 2, 1) := by decide +kernel
theorem d_IN_insert_14 : decode b_IN_insert 14 = .ok (.invokevirtual 29, 3) := by decide +kernel
theorem d_IN_insert_17 : decode b_IN_insert 17 = .ok (.ifCond .ne 4, 3) := by decide +kernel
theorem d_IN_insert_20 : decode b_IN_insert 20 = .ok (.return_, 1) := by decide +kernel
theorem d_IN_insert_21 : decode b_IN_insert 21 = .ok (.aload_n 0, 1) := by decide +kernel
theorem d_IN_insert_22 : decode b_IN_insert 22 = .ok (.getfield 15, 3) := by decide +kernel
theorem d_IN_insert_25 : decode b_IN_insert 25 = .ok (.iconst 1, 1) := by decide +kernel
theorem d_IN_insert_26 : decode b_IN_insert 26 = .ok (.isub, 1) := by decide +kernel
theorem d_IN_insert_27 : decode b_IN_insert 27 = .ok (.istore_n 3, 1) := by decide +kernel
theorem d_IN_insert_28 : decode b_IN_insert 28 = .ok (.iload_n 3, 1) := by decide +kernel
theorem d_IN_insert_29 : decode b_IN_insert 29 = .ok (.iload_n 1, 1) := by decide +kernel
theorem d_IN_insert_30 : decode b_IN_insert 30 = .ok (.if_icmp .le 23, 3) := by decide +kernel
theorem d_IN_insert_33 : decode b_IN_insert 33 = .ok (.aload_n 0, 1) := by decide +kernel
theorem d_IN_insert_34 : decode b_IN_insert 34 = .ok (.getfield 11, 3) := by decide +kernel
theorem d_IN_insert_37 : decode b_IN_insert 37 = .ok (.iload_n 3, 1) := by decide +kernel
theorem d_IN_insert_38 : decode b_IN_insert 38 = .ok (.aload_n 0, 1) := by decide +kernel
theorem d_IN_insert_39 : decode b_IN_insert 39 = .ok (.getfield 11, 3) := by decide +kernel
theorem d_IN_insert_42 : decode b_IN_insert 42 = .ok (.iload_n 3, 1) := by decide +kernel
theorem d_IN_insert_43 : decode b_IN_insert 43 = .ok (.iconst 1, 1) := by decide +kernel
theorem d_IN_insert_44 : decode b_IN_insert 44 = .ok (.isub, 1) := by decide +kernel
theorem d_IN_insert_45 : decode b_IN_insert 45 = .ok (.iaload, 1) := by decide +kernel
theorem d_IN_insert_46 : decode b_IN_insert 46 = .ok (.iastore, 1) := by decide +kernel
theorem d_IN_insert_47 : decode b_IN_insert 47 = .ok (.iinc 3 (-1), 3) := by decide +kernel
theorem d_IN_insert_50 : decode b_IN_insert 50 = .ok (.goto (-22), 3) := by decide +kernel
theorem d_IN_insert_53 : decode b_IN_insert 53 = .ok (.aload_n 0, 1) := by decide +kernel
theorem d_IN_insert_54 : decode b_IN_insert 54 = .ok (.getfield 11, 3) := by decide +kernel
theorem d_IN_insert_57 : decode b_IN_insert 57 = .ok (.iload_n 1, 1) := by decide +kernel
theorem d_IN_insert_58 : decode b_IN_insert 58 = .ok (.iload_n 2, 1) := by decide +kernel
theorem d_IN_insert_59 : decode b_IN_insert 59 = .ok (.iastore, 1) := by decide +kernel
theorem d_IN_insert_60 : decode b_IN_insert 60 = .ok (.return_, 1) := by decide +kernel
noncomputable def j_IN_insert_53 (j21 : Nat) (a23 : Int32) (a24 : Int32) (M25 : Mem) : Option (Mem) :=
  ck a23 6 (nx (st M25 (j21 + 1) a23.toNatClampNeg a24) (fun M27 => some M27))
noncomputable def l_IN_insert_28 (j0 : Nat) (a1 : Int32) (a2 : Int32) (v32 : Int32) (M33 : Mem) : Option ((Int32 × Mem) ⊕ (Mem)) :=
  if v32 ≤ a1 then (jw1 (j_IN_insert_53 j0 a1 a2 M33)) else (ck (v32 - (1 : Int32)) 6 (ck v32 6 (nx (st M33 (j0 + 1) v32.toNatClampNeg (M33 (j0 + 1) (v32 - (1 : Int32)).toNatClampNeg)) (fun M36 => nx (v32 + (-1 : Int32)) (fun v37 => some (.inl (v37, M36)))))))
noncomputable def s_IN_insert (j0 : Nat) (a1 : Int32) (a2 : Int32) (M : Mem) : Option (Mem) :=
  if a1 < 0 then (some M) else (if (M j0 1) < a1 then (some M) else (bi (s_IN_append j0 a2 M) (fun r30 M28 => if r30 = 0 then (some M28) else (nx ((M28 j0 1) - (1 : Int32)) (fun v31 => lp (fun q : Int32 × Mem => l_IN_insert_28 j0 a1 a2 q.1 q.2) (v31, M28))))))
set_option maxHeartbeats 4000000 in
set_option maxRecDepth 100000 in
theorem c_IN_insert (l : Launch) (x : Cx) (hJ : Inj x) (j0 : Nat) (k0 : kd_in j0) (a1 : Int32) (a2 : Int32) {M : Mem} {out : Mem} (h : s_IN_insert j0 a1 a2 M = some out) : Cv l x y_IN_insert (Cond.code y_IN_insert b_IN_insert 4 none :: tb) r_IN_insert [.ref (x.2.1 j0), .int a1, .int a2] M out := by
  refine ofCv (cc := b_IN_insert) (maxL := 4) (by decide) rfl (rfl) (Nat.le_of_ble_eq_true rfl) ?_
  intro p e s m args below meth c Q G0 ls g hx hb hml hown hts hK hZ hP hS hl hret
  have hown : s.vm.findClass R_IN = some m.cls := hown
  have hl : lv_has ls 4 [(0, .ref (x.2.1 j0)), (1, .int a1), (2, .int a2)] := hl
  obtain ⟨H, eH⟩ : ∃ z, z = s.heap := ⟨_, rfl⟩
  obtain ⟨locs, eL⟩ : ∃ z, z = ([] : List Loc) := ⟨_, rfl⟩
  rw [← eH] at hP
  have hS : va_S (A0 x) s.heap H locs := by rw [eH, eL]; exact hS
  rw [← eL]
  have key : W p l e r_IN_insert s m args below meth c H locs 0 0 Q (F0 m 0 ls []) := by
    clear eH eL
    unfold s_IN_insert at h
    have J53 : ∀ (j21 : Nat) (a23 : Int32) (a24 : Int32) (M25 : Mem) (k22 : kd_in j21) (res : Mem) (h : j_IN_insert_53 j21 a23 a24 M25 = some res) (g : G0 res) (H : Heap) (locs : List Loc) (ls : Array Slot) (hP : va_P x.1 vwCl (wld x M25) H) (hS : va_S (A0 x) s.heap H locs) (hl : lv_has ls 4 [(0, .ref (x.2.1 j21)), (1, .int a23), (2, .int a24)]), W p l e r_IN_insert s m args below meth c H locs 0 0 Q (F0 m 53 ls []) := by
      intro j21 a23 a24 M25 k22 res h g H locs ls hP hS hl
      unfold j_IN_insert_53 at h
      refine lv_aload_n hx hb d_IN_insert_53 rfl (lv_at hl 0 rfl) ?_
      refine gf_IN_11 hx hb hts hown hK hP k22 d_IN_insert_54 ?_
      refine lv_iload_n hx hb d_IN_insert_57 rfl (lv_at hl 1 rfl) ?_
      refine lv_iload_n hx hb d_IN_insert_58 rfl (lv_at hl 2 rfl) ?_
      obtain ⟨b26, h⟩ := ck_e h
      obtain ⟨M27, eM27, h⟩ := nx_e h
      refine m_ast hx hb hK hJ hP hS (ar_IN_bytes k22) b26 eM27 d_IN_insert_59 (fun H locs hP hS => ?_)
      obtain rfl := Option.some.inj h
      exact hret d_IN_insert_60 g hP hS
    refine lv_iload_n hx hb d_IN_insert_0 rfl (lv_at hl 1 rfl) ?_
    refine lv_if_lt (tgt := 20) hx hb d_IN_insert_1 rfl (fun hc => ?_) (fun hc => ?_)
    · have h := if_p hc h
      obtain rfl := Option.some.inj h
      exact hret d_IN_insert_20 g hP hS
    · have h := if_m hc h
      refine lv_iload_n hx hb d_IN_insert_4 rfl (lv_at hl 1 rfl) ?_
      refine lv_aload_n hx hb d_IN_insert_5 rfl (lv_at hl 0 rfl) ?_
      refine gf_IN_15 hx hb hts hown hK hP k0 d_IN_insert_6 ?_
      refine lv_icmp_gt (tgt := 20) hx hb d_IN_insert_9 rfl (fun hc => ?_) (fun hc => ?_)
      · have h := if_p hc h
        obtain rfl := Option.some.inj h
        exact hret d_IN_insert_20 g hP hS
      · have h := if_m hc h
        refine lv_aload_n hx hb d_IN_insert_12 rfl (lv_at hl 0 rfl) ?_
        refine lv_iload_n hx hb d_IN_insert_13 rfl (lv_at hl 2 rfl) ?_
        obtain ⟨r30, M28, c29, h⟩ := bi_e h
        refine cl_IN_29 (rest := []) (R := r_IN_insert) (c_IN_append l x hJ j0 k0 a2 c29) k0 hx hb hml hts hown hK hZ hP hS hl.1 (Nat.le_of_ble_eq_true rfl) (Nat.le_of_ble_eq_true rfl) (Nat.le_of_ble_eq_true rfl) ⟨rfl, rfl, Nat.zero_le _, Nat.zero_le _⟩ d_IN_insert_14 (fun H locs hP hS => ?_)
        refine lv_if_ne (tgt := 21) hx hb d_IN_insert_17 rfl (fun hc => ?_) (fun hc => ?_)
        · have h := if_m hc h
          refine lv_aload_n hx hb d_IN_insert_21 rfl (lv_at hl 0 rfl) ?_
          refine gf_IN_15 hx hb hts hown hK hP k0 d_IN_insert_22 ?_
          refine lv_iconst (v := (1 : Int32)) hx hb d_IN_insert_25 (by decide) ?_
          refine lv_isub hx hb d_IN_insert_26 ?_
          obtain ⟨v31, ev31, h⟩ := nx_e h
          refine tp_i ev31 ?_
          refine lv_istore_n hx hb d_IN_insert_27 rfl hl (by decide) rfl (fun ls hl => ?_)
          have hl : lv_has ls 4 [(3, .int v31), (0, .ref (x.2.1 j0)), (1, .int a1), (2, .int a2)] := hl
          obtain ⟨P28, eP28⟩ : ∃ P : (Int32 × Mem) → Prop, P = (fun q => ∀ (H : Heap) (locs : List Loc) (ls : Array Slot), va_P x.1 vwCl (wld x (q.2)) H → va_S (A0 x) s.heap H locs → lv_has ls 4 [(0, .ref (x.2.1 j0)), (1, .int a1), (2, .int a2), (3, .int (q.1))] → W p l e r_IN_insert s m args below meth c H locs 0 0 Q (F0 m 28 ls [])) := ⟨_, rfl⟩
          have L28 : P28 (v31, M28) := by
            refine lp_walk (G := G0) ?_ h g
            intro q res h g
            obtain ⟨v32, M33⟩ := q
            rw [eP28]
            intro H locs ls hP hS hl
            have hP : va_P x.1 vwCl (wld x M33) H := hP
            have hl : lv_has ls 4 [(0, .ref (x.2.1 j0)), (1, .int a1), (2, .int a2), (3, .int v32)] := hl
            have h : l_IN_insert_28 j0 a1 a2 v32 M33 = some res := h
            unfold l_IN_insert_28 at h
            refine lv_iload_n hx hb d_IN_insert_28 rfl (lv_at hl 3 rfl) ?_
            refine lv_iload_n hx hb d_IN_insert_29 rfl (lv_at hl 1 rfl) ?_
            refine lv_icmp_le (tgt := 53) hx hb d_IN_insert_30 rfl (fun hc => ?_) (fun hc => ?_)
            · have h := if_p hc h
              obtain ⟨res2, hres, h2⟩ := jw1_e h
              clear h
              subst hres
              have h := h2
              exact J53 j0 a1 a2 M33 k0 _ h g H locs ls hP hS (lv_sub hl [0, 1, 2] rfl)
            · have h := if_m hc h
              refine lv_aload_n hx hb d_IN_insert_33 rfl (lv_at hl 0 rfl) ?_
              refine gf_IN_11 hx hb hts hown hK hP k0 d_IN_insert_34 ?_
              refine lv_iload_n hx hb d_IN_insert_37 rfl (lv_at hl 3 rfl) ?_
              refine lv_aload_n hx hb d_IN_insert_38 rfl (lv_at hl 0 rfl) ?_
              refine gf_IN_11 hx hb hts hown hK hP k0 d_IN_insert_39 ?_
              refine lv_iload_n hx hb d_IN_insert_42 rfl (lv_at hl 3 rfl) ?_
              refine lv_iconst (v := (1 : Int32)) hx hb d_IN_insert_43 (by decide) ?_
              refine lv_isub hx hb d_IN_insert_44 ?_
              obtain ⟨b34, h⟩ := ck_e h
              refine m_ald hx hb hK hP (ar_IN_bytes k0) b34 d_IN_insert_45 ?_
              obtain ⟨b35, h⟩ := ck_e h
              obtain ⟨M36, eM36, h⟩ := nx_e h
              refine m_ast hx hb hK hJ hP hS (ar_IN_bytes k0) b35 eM36 d_IN_insert_46 (fun H locs hP hS => ?_)
              obtain ⟨v37, ev37, h⟩ := nx_e h
              refine lv_iinc (k := 3) hx hb d_IN_insert_47 hl rfl (iinc_v (k := (-1 : Int32)) (by decide) ev37) (by decide) rfl (fun ls hl => ?_)
              have hl : lv_has ls 4 [(3, .int v37), (0, .ref (x.2.1 j0)), (1, .int a1), (2, .int a2)] := hl
              refine lv_goto (tgt := 28) hx hb d_IN_insert_50 rfl ?_
              obtain rfl := Option.some.inj h
              have g : P28 (v37, M36) := g
              rw [eP28] at g
              exact g H locs ls hP hS (lv_sub hl [1, 2, 3, 0] rfl)
          rw [eP28] at L28
          exact L28 H locs ls hP hS (lv_sub hl [1, 2, 3, 0] rfl)
        · have h := if_p hc h
          obtain rfl := Option.some.inj h
          exact hret d_IN_insert_20 g hP hS
  rw [eH] at key
  exact key
theorem d_IN_takeOut_0 : decode b_IN_takeOut 0 = .ok (.iload_n 1, 1) := by decide +kernel
theorem d_IN_takeOut_1 : decode b_IN_takeOut 1 = .ok (.ifCond .lt 11, 3) := by decide +kernel
theorem d_IN_takeOut_4 : decode b_IN_takeOut 4 = .ok (.iload_n 1, 1) := by decide +kernel
theorem d_IN_takeOut_5 : decode b_IN_takeOut 5 = .ok (.aload_n 0, 1) := by decide +kernel
theorem d_IN_takeOut_6 : decode b_IN_takeOut 6 = .ok (.getfield 15, 3) := by decide +kernel
theorem d_IN_takeOut_9 : decode b_IN_takeOut 9 = .ok (.if_icmp .lt 4, 3) := by decide +kernel
theorem d_IN_takeOut_12 : decode b_IN_takeOut 12 = .ok (.return_, 1) := by decide +kernel
theorem d_IN_takeOut_13 : decode b_IN_takeOut 13 = .ok (.iload_n 1, 1) := by decide +kernel
theorem d_IN_takeOut_14 : decode b_IN_takeOut 14 = .ok (.istore_n 2, 1) := by decide +kernel
theorem d_IN_takeOut_15 : decode b_IN_takeOut 15 = .ok (.iload_n 2, 1) := by decide +kernel
theorem d_IN_takeOut_16 : decode b_IN_takeOut 16 = .ok (.aload_n 0, 1) := by decide +kernel
theorem d_IN_takeOut_17 : decode b_IN_takeOut 17 = .ok (.getfield 15, 3) := by decide +kernel
theorem d_IN_takeOut_20 : decode b_IN_takeOut 20 = .ok (.iconst 1, 1) := by decide +kernel
theorem d_IN_takeOut_21 : decode b_IN_takeOut 21 = .ok (.isub, 1) := by decide +kernel
theorem d_IN_takeOut_22 : decode b_IN_takeOut 22 = .ok (.if_icmp .ge 23, 3) := by decide +kernel
theorem d_IN_takeOut_25 : decode b_IN_takeOut 25 = .ok (.aload_n 0, 1) := by decide +kernel
theorem d_IN_takeOut_26 : decode b_IN_takeOut 26 = .ok (.getfield 11, 3) := by decide +kernel
theorem d_IN_takeOut_29 : decode b_IN_takeOut 29 = .ok (.iload_n 2, 1) := by decide +kernel
theorem d_IN_takeOut_30 : decode b_IN_takeOut 30 = .ok (.aload_n 0, 1) := by decide +kernel
theorem d_IN_takeOut_31 : decode b_IN_takeOut 31 = .ok (.getfield 11, 3) := by decide +kernel
theorem d_IN_takeOut_34 : decode b_IN_takeOut 34 = .ok (.iload_n 2, 1) := by decide +kernel
theorem d_IN_takeOut_35 : decode b_IN_takeOut 35 = .ok (.iconst 1, 1) := by decide +kernel
theorem d_IN_takeOut_36 : decode b_IN_takeOut 36 = .ok (.iadd, 1) := by decide +kernel
theorem d_IN_takeOut_37 : decode b_IN_takeOut 37 = .ok (.iaload, 1) := by decide +kernel
theorem d_IN_takeOut_38 : decode b_IN_takeOut 38 = .ok (.iastore, 1) := by decide +kernel
theorem d_IN_takeOut_39 : decode b_IN_takeOut 39 = .ok (.iinc 2 1, 3) := by decide +kernel
theorem d_IN_takeOut_42 : decode b_IN_takeOut 42 = .ok (.goto (-27), 3) := by decide +kernel
theorem d_IN_takeOut_45 : decode b_IN_takeOut 45 = .ok (.aload_n 0, 1) := by decide +kernel
theorem d_IN_takeOut_46 : decode b_IN_takeOut 46 = .ok (.dup, 1) := by decide +kernel
theorem d_IN_takeOut_47 : decode b_IN_takeOut 47 = .ok (.getfield 15, 3) := by decide +kernel
theorem d_IN_takeOut_50 : decode b_IN_takeOut 50 = .ok (.iconst 1, 1) := by decide +kernel
theorem d_IN_takeOut_51 : decode b_IN_takeOut 51 = .ok (.isub, 1) := by decide +kernel
theorem d_IN_takeOut_52 : decode b_IN_takeOut 52 = .ok (.putfield 15, 3) := by decide +kernel
theorem d_IN_takeOut_55 : decode b_IN_takeOut 55 = .ok (.return_, 1) := by decide +kernel
noncomputable def j_IN_takeOut_45 (j21 : Nat) (M23 : Mem) : Option (Mem) :=
  nx (st M23 j21 1 ((M23 j21 1) - (1 : Int32))) (fun M24 => some M24)
noncomputable def l_IN_takeOut_15 (j0 : Nat) (v25 : Int32) (M26 : Mem) : Option ((Int32 × Mem) ⊕ (Mem)) :=
  if ((M26 j0 1) - (1 : Int32)) ≤ v25 then (jw1 (j_IN_takeOut_45 j0 M26)) else (ck (v25 + (1 : Int32)) 6 (ck v25 6 (nx (st M26 (j0 + 1) v25.toNatClampNeg (M26 (j0 + 1) (v25 + (1 : Int32)).toNatClampNeg)) (fun M29 => nx (v25 + (1 : Int32)) (fun v30 => some (.inl (v30, M29)))))))
noncomputable def s_IN_takeOut (j0 : Nat) (a1 : Int32) (M : Mem) : Option (Mem) :=
  if a1 < 0 then (some M) else (if a1 < (M j0 1) then (lp (fun q : Int32 × Mem => l_IN_takeOut_15 j0 q.1 q.2) (a1, M)) else (some M))
set_option maxHeartbeats 4000000 in
set_option maxRecDepth 100000 in
theorem c_IN_takeOut (l : Launch) (x : Cx) (hJ : Inj x) (j0 : Nat) (k0 : kd_in j0) (a1 : Int32) {M : Mem} {out : Mem} (h : s_IN_takeOut j0 a1 M = some out) : Cv l x y_IN_takeOut (Cond.code y_IN_takeOut b_IN_takeOut 3 none :: tb) r_IN_takeOut [.ref (x.2.1 j0), .int a1] M out := by
  refine ofCv (cc := b_IN_takeOut) (maxL := 3) (by decide) rfl (rfl) (Nat.le_of_ble_eq_true rfl) ?_
  intro p e s m args below meth c Q G0 ls g hx hb hml hown hts hK hZ hP hS hl hret
  have hown : s.vm.findClass R_IN = some m.cls := hown
  have hl : lv_has ls 3 [(0, .ref (x.2.1 j0)), (1, .int a1)] := hl
  obtain ⟨H, eH⟩ : ∃ z, z = s.heap := ⟨_, rfl⟩
  obtain ⟨locs, eL⟩ : ∃ z, z = ([] : List Loc) := ⟨_, rfl⟩
  rw [← eH] at hP
  have hS : va_S (A0 x) s.heap H locs := by rw [eH, eL]; exact hS
  rw [← eL]
  have key : W p l e r_IN_takeOut s m args below meth c H locs 0 0 Q (F0 m 0 ls []) := by
    clear eH eL
    unfold s_IN_takeOut at h
    have J45 : ∀ (j21 : Nat) (M23 : Mem) (k22 : kd_in j21) (res : Mem) (h : j_IN_takeOut_45 j21 M23 = some res) (g : G0 res) (H : Heap) (locs : List Loc) (ls : Array Slot) (hP : va_P x.1 vwCl (wld x M23) H) (hS : va_S (A0 x) s.heap H locs) (hl : lv_has ls 3 [(0, .ref (x.2.1 j21))]), W p l e r_IN_takeOut s m args below meth c H locs 0 0 Q (F0 m 45 ls []) := by
      intro j21 M23 k22 res h g H locs ls hP hS hl
      unfold j_IN_takeOut_45 at h
      refine lv_aload_n hx hb d_IN_takeOut_45 rfl (lv_at hl 0 rfl) ?_
      refine lv_dup hx hb d_IN_takeOut_46 rfl ?_
      refine gf_IN_15 hx hb hts hown hK hP k22 d_IN_takeOut_47 ?_
      refine lv_iconst (v := (1 : Int32)) hx hb d_IN_takeOut_50 (by decide) ?_
      refine lv_isub hx hb d_IN_takeOut_51 ?_
      obtain ⟨M24, eM24, h⟩ := nx_e h
      refine pf_IN_15 hx hb hts hown hK hJ hP hS k22 eM24 d_IN_takeOut_52 (fun H locs hP hS => ?_)
      obtain rfl := Option.some.inj h
      exact hret d_IN_takeOut_55 g hP hS
    refine lv_iload_n hx hb d_IN_takeOut_0 rfl (lv_at hl 1 rfl) ?_
    refine lv_if_lt (tgt := 12) hx hb d_IN_takeOut_1 rfl (fun hc => ?_) (fun hc => ?_)
    · have h := if_p hc h
      obtain rfl := Option.some.inj h
      exact hret d_IN_takeOut_12 g hP hS
    · have h := if_m hc h
      refine lv_iload_n hx hb d_IN_takeOut_4 rfl (lv_at hl 1 rfl) ?_
      refine lv_aload_n hx hb d_IN_takeOut_5 rfl (lv_at hl 0 rfl) ?_
      refine gf_IN_15 hx hb hts hown hK hP k0 d_IN_takeOut_6 ?_
      refine lv_icmp_lt (tgt := 13) hx hb d_IN_takeOut_9 rfl (fun hc => ?_) (fun hc => ?_)
      · have h := if_p hc h
        refine lv_iload_n hx hb d_IN_takeOut_13 rfl (lv_at hl 1 rfl) ?_
        refine lv_istore_n hx hb d_IN_takeOut_14 rfl hl (by decide) rfl (fun ls hl => ?_)
        have hl : lv_has ls 3 [(2, .int a1), (0, .ref (x.2.1 j0)), (1, .int a1)] := hl
        obtain ⟨P15, eP15⟩ : ∃ P : (Int32 × Mem) → Prop, P = (fun q => ∀ (H : Heap) (locs : List Loc) (ls : Array Slot), va_P x.1 vwCl (wld x (q.2)) H → va_S (A0 x) s.heap H locs → lv_has ls 3 [(0, .ref (x.2.1 j0)), (2, .int (q.1))] → W p l e r_IN_takeOut s m args below meth c H locs 0 0 Q (F0 m 15 ls [])) := ⟨_, rfl⟩
        have L15 : P15 (a1, M) := by
          refine lp_walk (G := G0) ?_ h g
          intro q res h g
          obtain ⟨v25, M26⟩ := q
          rw [eP15]
          intro H locs ls hP hS hl
          have hP : va_P x.1 vwCl (wld x M26) H := hP
          have hl : lv_has ls 3 [(0, .ref (x.2.1 j0)), (2, .int v25)] := hl
          have h : l_IN_takeOut_15 j0 v25 M26 = some res := h
          unfold l_IN_takeOut_15 at h
          refine lv_iload_n hx hb d_IN_takeOut_15 rfl (lv_at hl 1 rfl) ?_
          refine lv_aload_n hx hb d_IN_takeOut_16 rfl (lv_at hl 0 rfl) ?_
          refine gf_IN_15 hx hb hts hown hK hP k0 d_IN_takeOut_17 ?_
          refine lv_iconst (v := (1 : Int32)) hx hb d_IN_takeOut_20 (by decide) ?_
          refine lv_isub hx hb d_IN_takeOut_21 ?_
          refine lv_icmp_ge (tgt := 45) hx hb d_IN_takeOut_22 rfl (fun hc => ?_) (fun hc => ?_)
          · have h := if_p hc h
            obtain ⟨res2, hres, h2⟩ := jw1_e h
            clear h
            subst hres
            have h := h2
            exact J45 j0 M26 k0 _ h g H locs ls hP hS (lv_sub hl [0] rfl)
          · have h := if_m hc h
            refine lv_aload_n hx hb d_IN_takeOut_25 rfl (lv_at hl 0 rfl) ?_
            refine gf_IN_11 hx hb hts hown hK hP k0 d_IN_takeOut_26 ?_
            refine lv_iload_n hx hb d_IN_takeOut_29 rfl (lv_at hl 1 rfl) ?_
            refine lv_aload_n hx hb d_IN_takeOut_30 rfl (lv_at hl 0 rfl) ?_
            refine gf_IN_11 hx hb hts hown hK hP k0 d_IN_takeOut_31 ?_
            refine lv_iload_n hx hb d_IN_takeOut_34 rfl (lv_at hl 1 rfl) ?_
            refine lv_iconst (v := (1 : Int32)) hx hb d_IN_takeOut_35 (by decide) ?_
            refine lv_iadd hx hb d_IN_takeOut_36 ?_
            obtain ⟨b27, h⟩ := ck_e h
            refine m_ald hx hb hK hP (ar_IN_bytes k0) b27 d_IN_takeOut_37 ?_
            obtain ⟨b28, h⟩ := ck_e h
            obtain ⟨M29, eM29, h⟩ := nx_e h
            refine m_ast hx hb hK hJ hP hS (ar_IN_bytes k0) b28 eM29 d_IN_takeOut_38 (fun H locs hP hS => ?_)
            obtain ⟨v30, ev30, h⟩ := nx_e h
            refine lv_iinc (k := 1) hx hb d_IN_takeOut_39 hl rfl (iinc_v (k := (1 : Int32)) (by decide) ev30) (by decide) rfl (fun ls hl => ?_)
            have hl : lv_has ls 3 [(2, .int v30), (0, .ref (x.2.1 j0))] := hl
            refine lv_goto (tgt := 15) hx hb d_IN_takeOut_42 rfl ?_
            obtain rfl := Option.some.inj h
            have g : P15 (v30, M29) := g
            rw [eP15] at g
            exact g H locs ls hP hS (lv_sub hl [1, 0] rfl)
        rw [eP15] at L15
        exact L15 H locs ls hP hS (lv_sub hl [1, 0] rfl)
      · have h := if_m hc h
        obtain rfl := Option.some.inj h
        exact hret d_IN_takeOut_12 g hP hS
  rw [eH] at key
  exact key
