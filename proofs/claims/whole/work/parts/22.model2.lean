theorem d_MO_edgesOf_0 : decode b_MO_edgesOf 0 = .ok (.iconst 0, 1) := by decide +kernel
theorem d_MO_edgesOf_1 : decode b_MO_edgesOf 1 = .ok (.istore_n 2, 1) := by decide +kernel
theorem d_MO_edgesOf_2 : decode b_MO_edgesOf 2 = .ok (.iconst 0, 1) := by decide +kernel
theorem d_MO_edgesOf_3 : decode b_MO_edgesOf 3 = .ok (.istore_n 3, 1) := by decide +kernel
theorem d_MO_edgesOf_4 : decode b_MO_edgesOf 4 = .ok (.iload_n 3, 1) := by decide +kernel
theorem d_MO_edgesOf_5 : decode b_MO_edgesOf 5 = .ok (.sipush 576, 3) := by decide +kernel
theorem d_MO_edgesOf_8 : decode b_MO_edgesOf 8 = .ok (.if_icmp .ge 22, 3) := by decide +kernel
theorem d_MO_edgesOf_11 : decode b_MO_edgesOf 11 = .ok (.iload_n 2, 1) := by decide +kernel
theorem d_MO_edgesOf_12 : decode b_MO_edgesOf 12 = .ok (.aload_n 0, 1) := by decide +kernel
theorem d_MO_edgesOf_13 : decode b_MO_edgesOf 13 = .ok (.getfield 76, 3) := by decide +kernel
theorem d_MO_edgesOf_16 : decode b_MO_edgesOf 16 = .ok (.iload_n 3, 1) := by decide +kernel
theorem d_MO_edgesOf_17 : decode b_MO_edgesOf 17 = .ok (.iaload, 1) := by decide +kernel
theorem d_MO_edgesOf_18 : decode b_MO_edgesOf 18 = .ok (.iload_n 1, 1) := by decide +kernel
theorem d_MO_edgesOf_19 : decode b_MO_edgesOf 19 = .ok (.ishr, 1) := by decide +kernel
theorem d_MO_edgesOf_20 : decode b_MO_edgesOf 20 = .ok (.iconst 1, 1) := by decide +kernel
theorem d_MO_edgesOf_21 : decode b_MO_edgesOf 21 = .ok (.iand, 1) := by decide +kernel
theorem d_MO_edgesOf_22 : decode b_MO_edgesOf 22 = .ok (.iadd, 1) := by decide +kernel
theorem d_MO_edgesOf_23 : decode b_MO_edgesOf 23 = .ok (.istore_n 2, 1) := by decide +kernel
theorem d_MO_edgesOf_24 : decode b_MO_edgesOf 24 = .ok (.iinc 3 1, 3) := by decide +kernel
theorem d_MO_edgesOf_27 : decode b_MO_edgesOf 27 = .ok (.goto (-23), 3) := by decide +kernel
theorem d_MO_edgesOf_30 : decode b_MO_edgesOf 30 = .ok (.iload_n 2, 1) := by decide +kernel
theorem d_MO_edgesOf_31 : decode b_MO_edgesOf 31 = .ok (.ireturn, 1) := by decide +kernel
noncomputable def l_MO_edgesOf_4 (a1 : Int32) (v23 : Int32) (v24 : Int32) (M25 : Mem) : Option ((Int32 × Int32 × Mem) ⊕ (Int32 × Mem)) :=
  if (576 : Int32) ≤ v24 then (some (.inr (v23, M25))) else (ck v24 576 (nx (v23 + (((M25 49 v24.toNatClampNeg) >>> (a1 &&& 31)) &&& (1 : Int32))) (fun v27 => nx (v24 + (1 : Int32)) (fun v28 => some (.inl (v27, v28, M25))))))
noncomputable def s_MO_edgesOf (a1 : Int32) (M : Mem) : Option (Int32 × Mem) :=
  nx ((0 : Int32)) (fun v21 => nx ((0 : Int32)) (fun v22 => lp (fun q : Int32 × Int32 × Mem => l_MO_edgesOf_4 a1 q.1 q.2.1 q.2.2) (v21, v22, M)))
set_option maxHeartbeats 4000000 in
set_option maxRecDepth 100000 in
theorem c_MO_edgesOf (l : Launch) (x : Cx) (hJ : Inj x) (a1 : Int32) {M : Mem} {out : Int32 × Mem} (h : s_MO_edgesOf a1 M = some out) : Ci l x y_MO_edgesOf (Cond.code y_MO_edgesOf b_MO_edgesOf 4 (some .int) :: tb) r_MO_edgesOf [.ref (x.2.1 26), .int a1] M out := by
  refine ofCi (cc := b_MO_edgesOf) (maxL := 4) (by decide) rfl (rfl) (Nat.le_of_ble_eq_true rfl) ?_
  intro p e s m args below meth c Q G0 ls g hx hb hml hown hts hK hZ hP hS hl hret
  have hown : s.vm.findClass R_MO = some m.cls := hown
  have hl : lv_has ls 4 [(0, .ref (x.2.1 26)), (1, .int a1)] := hl
  obtain ⟨H, eH⟩ : ∃ z, z = s.heap := ⟨_, rfl⟩
  obtain ⟨locs, eL⟩ : ∃ z, z = ([] : List Loc) := ⟨_, rfl⟩
  rw [← eH] at hP
  have hS : va_S (A0 x) s.heap H locs := by rw [eH, eL]; exact hS
  rw [← eL]
  have key : W p l e r_MO_edgesOf s m args below meth c H locs 0 0 Q (F0 m 0 ls []) := by
    clear eH eL
    unfold s_MO_edgesOf at h
    refine lv_iconst (v := (0 : Int32)) hx hb d_MO_edgesOf_0 (by decide) ?_
    obtain ⟨v21, ev21, h⟩ := nx_e h
    refine tp_i ev21 ?_
    refine lv_istore_n hx hb d_MO_edgesOf_1 rfl hl (by decide) rfl (fun ls hl => ?_)
    have hl : lv_has ls 4 [(2, .int v21), (0, .ref (x.2.1 26)), (1, .int a1)] := hl
    refine lv_iconst (v := (0 : Int32)) hx hb d_MO_edgesOf_2 (by decide) ?_
    obtain ⟨v22, ev22, h⟩ := nx_e h
    refine tp_i ev22 ?_
    refine lv_istore_n hx hb d_MO_edgesOf_3 rfl hl (by decide) rfl (fun ls hl => ?_)
    have hl : lv_has ls 4 [(3, .int v22), (2, .int v21), (0, .ref (x.2.1 26)), (1, .int a1)] := hl
    obtain ⟨P4, eP4⟩ : ∃ P : (Int32 × Int32 × Mem) → Prop, P = (fun q => ∀ (H : Heap) (locs : List Loc) (ls : Array Slot), va_P x.1 vwCl (wld x (q.2.2)) H → va_S (A0 x) s.heap H locs → lv_has ls 4 [(0, .ref (x.2.1 26)), (1, .int a1), (2, .int (q.1)), (3, .int (q.2.1))] → W p l e r_MO_edgesOf s m args below meth c H locs 0 0 Q (F0 m 4 ls [])) := ⟨_, rfl⟩
    have L4 : P4 (v21, v22, M) := by
      refine lp_walk (G := G0) ?_ h g
      intro q res h g
      obtain ⟨v23, v24, M25⟩ := q
      rw [eP4]
      intro H locs ls hP hS hl
      have hP : va_P x.1 vwCl (wld x M25) H := hP
      have hl : lv_has ls 4 [(0, .ref (x.2.1 26)), (1, .int a1), (2, .int v23), (3, .int v24)] := hl
      have h : l_MO_edgesOf_4 a1 v23 v24 M25 = some res := h
      unfold l_MO_edgesOf_4 at h
      refine lv_iload_n hx hb d_MO_edgesOf_4 rfl (lv_at hl 3 rfl) ?_
      refine lv_sipush (v := (576 : Int32)) hx hb d_MO_edgesOf_5 (by decide) ?_
      refine lv_icmp_ge (tgt := 30) hx hb d_MO_edgesOf_8 rfl (fun hc => ?_) (fun hc => ?_)
      · have h := if_p hc h
        refine lv_iload_n hx hb d_MO_edgesOf_30 rfl (lv_at hl 2 rfl) ?_
        obtain rfl := Option.some.inj h
        exact hret d_MO_edgesOf_31 g hP hS
      · have h := if_m hc h
        refine lv_iload_n hx hb d_MO_edgesOf_11 rfl (lv_at hl 2 rfl) ?_
        refine lv_aload_n hx hb d_MO_edgesOf_12 rfl (lv_at hl 0 rfl) ?_
        refine gf_MO_76 hx hb hts hown hK hP d_MO_edgesOf_13 ?_
        refine lv_iload_n hx hb d_MO_edgesOf_16 rfl (lv_at hl 3 rfl) ?_
        obtain ⟨b26, h⟩ := ck_e h
        refine m_ald hx hb hK hP ar_MO_went b26 d_MO_edgesOf_17 ?_
        refine lv_iload_n hx hb d_MO_edgesOf_18 rfl (lv_at hl 1 rfl) ?_
        refine lv_ishr hx hb d_MO_edgesOf_19 ?_
        refine lv_iconst (v := (1 : Int32)) hx hb d_MO_edgesOf_20 (by decide) ?_
        refine lv_iand hx hb d_MO_edgesOf_21 ?_
        refine lv_iadd hx hb d_MO_edgesOf_22 ?_
        obtain ⟨v27, ev27, h⟩ := nx_e h
        refine tp_i ev27 ?_
        refine lv_istore_n hx hb d_MO_edgesOf_23 rfl hl (by decide) rfl (fun ls hl => ?_)
        have hl : lv_has ls 4 [(2, .int v27), (0, .ref (x.2.1 26)), (1, .int a1), (3, .int v24)] := hl
        obtain ⟨v28, ev28, h⟩ := nx_e h
        refine lv_iinc (k := 3) hx hb d_MO_edgesOf_24 hl rfl (iinc_v (k := (1 : Int32)) (by decide) ev28) (by decide) rfl (fun ls hl => ?_)
        have hl : lv_has ls 4 [(3, .int v28), (2, .int v27), (0, .ref (x.2.1 26)), (1, .int a1)] := hl
        refine lv_goto (tgt := 4) hx hb d_MO_edgesOf_27 rfl ?_
        obtain rfl := Option.some.inj h
        have g : P4 (v27, v28, M25) := g
        rw [eP4] at g
        exact g H locs ls hP hS (lv_sub hl [2, 3, 1, 0] rfl)
    rw [eP4] at L4
    exact L4 H locs ls hP hS (lv_sub hl [2, 3, 1, 0] rfl)
  rw [eH] at key
  exact key
theorem d_MO_newPair_0 : decode b_MO_newPair 0 = .ok (.iconst 0, 1) := by decide +kernel
theorem d_MO_newPair_1 : decode b_MO_newPair 1 = .ok (.istore_n 1, 1) := by decide +kernel
theorem d_MO_newPair_2 : decode b_MO_newPair 2 = .ok (.iconst 0, 1) := by decide +kernel
theorem d_MO_newPair_3 : decode b_MO_newPair 3 = .ok (.istore_n 2, 1) := by decide +kernel
theorem d_MO_newPair_4 : decode b_MO_newPair 4 = .ok (.iload_n 2, 1) := by decide +kernel
theorem d_MO_newPair_5 : decode b_MO_newPair 5 = .ok (.sipush 576, 3) := by decide +kernel
theorem d_MO_newPair_8 : decode b_MO_newPair 8 = .ok (.if_icmp .ge 49, 3) := by decide +kernel
theorem d_MO_newPair_11 : decode b_MO_newPair 11 = .ok (.iload_n 1, 1) := by decide +kernel
theorem d_MO_newPair_12 : decode b_MO_newPair 12 = .ok (.ifCond .ne 33, 3) := by decide +kernel
theorem d_MO_newPair_15 : decode b_MO_newPair 15 = .ok (.aload_n 0, 1) := by decide +kernel
theorem d_MO_newPair_16 : decode b_MO_newPair 16 = .ok (.getfield 34, 3) := by decide +kernel
theorem d_MO_newPair_19 : decode b_MO_newPair 19 = .ok (.iload_n 2, 1) := by decide +kernel
theorem d_MO_newPair_20 : decode b_MO_newPair 20 = .ok (.iaload, 1) := by decide +kernel
theorem d_MO_newPair_21 : decode b_MO_newPair 21 = .ok (.ifCond .le 28, 3) := by decide +kernel
theorem d_MO_newPair_24 : decode b_MO_newPair 24 = .ok (.aload_n 0, 1) := by decide +kernel
theorem d_MO_newPair_25 : decode b_MO_newPair 25 = .ok (.getfield 73, 3) := by decide +kernel
theorem d_MO_newPair_28 : decode b_MO_newPair 28 = .ok (.iload_n 2, 1) := by decide +kernel
theorem d_MO_newPair_29 : decode b_MO_newPair 29 = .ok (.iaload, 1) := by decide +kernel
theorem d_MO_newPair_30 : decode b_MO_newPair 30 = .ok (.aload_n 0, 1) := by decide +kernel
theorem d_MO_newPair_31 : decode b_MO_newPair 31 = .ok (.getfield 34, 3) := by decide +kernel
theorem d_MO_newPair_34 : decode b_MO_newPair 34 = .ok (.iload_n 2, 1) := by decide +kernel
theorem d_MO_newPair_35 : decode b_MO_newPair 35 = .ok (.iaload, 1) := by decide +kernel
theorem d_MO_newPair_36 : decode b_MO_newPair 36 = .ok (.invokestatic 152, 3) := by decide +kernel
theorem d_MO_newPair_39 : decode b_MO_newPair 39 = .ok (.ishr, 1) := by decide +kernel
theorem d_MO_newPair_40 : decode b_MO_newPair 40 = .ok (.iconst 1, 1) := by decide +kernel
theorem d_MO_newPair_41 : decode b_MO_newPair 41 = .ok (.iand, 1) := by decide +kernel
theorem d_MO_newPair_42 : decode b_MO_newPair 42 = .ok (.ifCond .ne 7, 3) := by decide +kernel
theorem d_MO_newPair_45 : decode b_MO_newPair 45 = .ok (.iconst 1, 1) := by decide +kernel
theorem d_MO_newPair_46 : decode b_MO_newPair 46 = .ok (.goto 4, 3) := by decide +kernel
theorem d_MO_newPair_49 : decode b_MO_newPair 49 = .ok (.iconst 0, 1) := by decide +kernel
theorem d_MO_newPair_50 : decode b_MO_newPair 50 = .ok (.istore_n 1, 1) := by decide +kernel
theorem d_MO_newPair_51 : decode b_MO_newPair 51 = .ok (.iinc 2 1, 3) := by decide +kernel
theorem d_MO_newPair_54 : decode b_MO_newPair 54 = .ok (.goto (-50), 3) := by decide +kernel
theorem d_MO_newPair_57 : decode b_MO_newPair 57 = .ok (.iload_n 1, 1) := by decide +kernel
theorem d_MO_newPair_58 : decode b_MO_newPair 58 = .ok (.ireturn, 1) := by decide +kernel
noncomputable def j_MO_newPair_50 (a26 : Int32) (a27 : Int32) (M28 : Mem) : Option ((Int32 × Int32 × Mem) ⊕ (Int32 × Mem)) :=
  nx (a26 + (1 : Int32)) (fun v29 => some (.inl (a27, v29, M28)))
noncomputable def j_MO_newPair_49 (a30 : Int32) (M31 : Mem) : Option ((Int32 × Int32 × Mem) ⊕ (Int32 × Mem)) :=
  j_MO_newPair_50 a30 (0 : Int32) M31
noncomputable def j_MO_newPair_45 (a32 : Int32) (M33 : Mem) : Option ((Int32 × Int32 × Mem) ⊕ (Int32 × Mem)) :=
  j_MO_newPair_50 a32 (1 : Int32) M33
noncomputable def l_MO_newPair_4  (v23 : Int32) (v24 : Int32) (M25 : Mem) : Option ((Int32 × Int32 × Mem) ⊕ (Int32 × Mem)) :=
  if (576 : Int32) ≤ v24 then (cb v23 (some (.inr (v23, M25)))) else (if v23 = 0 then (ck v24 576 (if (M25 35 v24.toNatClampNeg) ≤ 0 then (j_MO_newPair_49 v24 M25) else (ck v24 576 (ck v24 576 (bi (s_MO_bucket (M25 35 v24.toNatClampNeg) M25) (fun r40 M38 => if (((M25 48 v24.toNatClampNeg) >>> (r40 &&& 31)) &&& (1 : Int32)) = 0 then (j_MO_newPair_45 v24 M38) else (j_MO_newPair_49 v24 M38))))))) else (j_MO_newPair_45 v24 M25))
noncomputable def s_MO_newPair  (M : Mem) : Option (Int32 × Mem) :=
  nx ((0 : Int32)) (fun v21 => nx ((0 : Int32)) (fun v22 => lp (fun q : Int32 × Int32 × Mem => l_MO_newPair_4 q.1 q.2.1 q.2.2) (v21, v22, M)))
set_option maxHeartbeats 4000000 in
set_option maxRecDepth 100000 in
theorem c_MO_newPair (l : Launch) (x : Cx) (hJ : Inj x)  {M : Mem} {out : Int32 × Mem} (h : s_MO_newPair M = some out) : Ci l x y_MO_newPair (Cond.code y_MO_newPair b_MO_newPair 3 (some .boolean) :: tb) r_MO_newPair [.ref (x.2.1 26)] M out := by
  refine ofCz (cc := b_MO_newPair) (maxL := 3) (by decide) rfl (rfl) (Nat.le_of_ble_eq_true rfl) ?_
  intro p e s m args below meth c Q G0 ls g hx hb hml hown hts hK hZ hP hS hl hret
  have hown : s.vm.findClass R_MO = some m.cls := hown
  have hl : lv_has ls 3 [(0, .ref (x.2.1 26))] := hl
  obtain ⟨H, eH⟩ : ∃ z, z = s.heap := ⟨_, rfl⟩
  obtain ⟨locs, eL⟩ : ∃ z, z = ([] : List Loc) := ⟨_, rfl⟩
  rw [← eH] at hP
  have hS : va_S (A0 x) s.heap H locs := by rw [eH, eL]; exact hS
  rw [← eL]
  have key : W p l e r_MO_newPair s m args below meth c H locs 0 0 Q (F0 m 0 ls []) := by
    clear eH eL
    unfold s_MO_newPair at h
    refine lv_iconst (v := (0 : Int32)) hx hb d_MO_newPair_0 (by decide) ?_
    obtain ⟨v21, ev21, h⟩ := nx_e h
    refine tp_i ev21 ?_
    refine lv_istore_n hx hb d_MO_newPair_1 rfl hl (by decide) rfl (fun ls hl => ?_)
    have hl : lv_has ls 3 [(1, .int v21), (0, .ref (x.2.1 26))] := hl
    refine lv_iconst (v := (0 : Int32)) hx hb d_MO_newPair_2 (by decide) ?_
    obtain ⟨v22, ev22, h⟩ := nx_e h
    refine tp_i ev22 ?_
    refine lv_istore_n hx hb d_MO_newPair_3 rfl hl (by decide) rfl (fun ls hl => ?_)
    have hl : lv_has ls 3 [(2, .int v22), (1, .int v21), (0, .ref (x.2.1 26))] := hl
    obtain ⟨P4, eP4⟩ : ∃ P : (Int32 × Int32 × Mem) → Prop, P = (fun q => ∀ (H : Heap) (locs : List Loc) (ls : Array Slot), va_P x.1 vwCl (wld x (q.2.2)) H → va_S (A0 x) s.heap H locs → lv_has ls 3 [(0, .ref (x.2.1 26)), (1, .int (q.1)), (2, .int (q.2.1))] → W p l e r_MO_newPair s m args below meth c H locs 0 0 Q (F0 m 4 ls [])) := ⟨_, rfl⟩
    have L4 : P4 (v21, v22, M) := by
      refine lp_walk (G := G0) ?_ h g
      intro q res h g
      obtain ⟨v23, v24, M25⟩ := q
      rw [eP4]
      intro H locs ls hP hS hl
      have hP : va_P x.1 vwCl (wld x M25) H := hP
      have hl : lv_has ls 3 [(0, .ref (x.2.1 26)), (1, .int v23), (2, .int v24)] := hl
      have h : l_MO_newPair_4 v23 v24 M25 = some res := h
      unfold l_MO_newPair_4 at h
      have J50 : ∀ (a26 : Int32) (a27 : Int32) (M28 : Mem)  (res : (Int32 × Int32 × Mem) ⊕ (Int32 × Mem)) (h : j_MO_newPair_50 a26 a27 M28 = some res) (g : (lpG P4 G0) res) (H : Heap) (locs : List Loc) (ls : Array Slot) (hP : va_P x.1 vwCl (wld x M28) H) (hS : va_S (A0 x) s.heap H locs) (hl : lv_has ls 3 [(0, .ref (x.2.1 26)), (2, .int a26)]), W p l e r_MO_newPair s m args below meth c H locs 0 0 Q (F0 m 50 ls [.int a27]) := by
        intro a26 a27 M28 res h g H locs ls hP hS hl
        unfold j_MO_newPair_50 at h
        refine lv_istore_n hx hb d_MO_newPair_50 rfl hl (by decide) rfl (fun ls hl => ?_)
        have hl : lv_has ls 3 [(1, .int a27), (0, .ref (x.2.1 26)), (2, .int a26)] := hl
        obtain ⟨v29, ev29, h⟩ := nx_e h
        refine lv_iinc (k := 2) hx hb d_MO_newPair_51 hl rfl (iinc_v (k := (1 : Int32)) (by decide) ev29) (by decide) rfl (fun ls hl => ?_)
        have hl : lv_has ls 3 [(2, .int v29), (1, .int a27), (0, .ref (x.2.1 26))] := hl
        refine lv_goto (tgt := 4) hx hb d_MO_newPair_54 rfl ?_
        obtain rfl := Option.some.inj h
        have g : P4 (a27, v29, M28) := g
        rw [eP4] at g
        exact g H locs ls hP hS (lv_sub hl [2, 1, 0] rfl)
      have J49 : ∀ (a30 : Int32) (M31 : Mem)  (res : (Int32 × Int32 × Mem) ⊕ (Int32 × Mem)) (h : j_MO_newPair_49 a30 M31 = some res) (g : (lpG P4 G0) res) (H : Heap) (locs : List Loc) (ls : Array Slot) (hP : va_P x.1 vwCl (wld x M31) H) (hS : va_S (A0 x) s.heap H locs) (hl : lv_has ls 3 [(0, .ref (x.2.1 26)), (2, .int a30)]), W p l e r_MO_newPair s m args below meth c H locs 0 0 Q (F0 m 49 ls []) := by
        intro a30 M31 res h g H locs ls hP hS hl
        unfold j_MO_newPair_49 at h
        refine lv_iconst (v := (0 : Int32)) hx hb d_MO_newPair_49 (by decide) ?_
        exact J50 a30 (0 : Int32) M31 _ h g H locs ls hP hS (lv_sub hl [0, 1] rfl)
      have J45 : ∀ (a32 : Int32) (M33 : Mem)  (res : (Int32 × Int32 × Mem) ⊕ (Int32 × Mem)) (h : j_MO_newPair_45 a32 M33 = some res) (g : (lpG P4 G0) res) (H : Heap) (locs : List Loc) (ls : Array Slot) (hP : va_P x.1 vwCl (wld x M33) H) (hS : va_S (A0 x) s.heap H locs) (hl : lv_has ls 3 [(0, .ref (x.2.1 26)), (2, .int a32)]), W p l e r_MO_newPair s m args below meth c H locs 0 0 Q (F0 m 45 ls []) := by
        intro a32 M33 res h g H locs ls hP hS hl
        unfold j_MO_newPair_45 at h
        refine lv_iconst (v := (1 : Int32)) hx hb d_MO_newPair_45 (by decide) ?_
        refine lv_goto (tgt := 50) hx hb d_MO_newPair_46 rfl ?_
        exact J50 a32 (1 : Int32) M33 _ h g H locs ls hP hS (lv_sub hl [0, 1] rfl)
      refine lv_iload_n hx hb d_MO_newPair_4 rfl (lv_at hl 2 rfl) ?_
      refine lv_sipush (v := (576 : Int32)) hx hb d_MO_newPair_5 (by decide) ?_
      refine lv_icmp_ge (tgt := 57) hx hb d_MO_newPair_8 rfl (fun hc => ?_) (fun hc => ?_)
      · have h := if_p hc h
        refine lv_iload_n hx hb d_MO_newPair_57 rfl (lv_at hl 1 rfl) ?_
        obtain ⟨b34, h⟩ := cb_e h
        obtain rfl := Option.some.inj h
        exact hret b34 d_MO_newPair_58 g hP hS
      · have h := if_m hc h
        refine lv_iload_n hx hb d_MO_newPair_11 rfl (lv_at hl 1 rfl) ?_
        refine lv_if_ne (tgt := 45) hx hb d_MO_newPair_12 rfl (fun hc => ?_) (fun hc => ?_)
        · have h := if_m hc h
          exact J45 v24 M25 _ h g H locs ls hP hS (lv_sub hl [0, 2] rfl)
        · have h := if_p hc h
          refine lv_aload_n hx hb d_MO_newPair_15 rfl (lv_at hl 0 rfl) ?_
          refine gf_MO_34 hx hb hts hown hK hP d_MO_newPair_16 ?_
          refine lv_iload_n hx hb d_MO_newPair_19 rfl (lv_at hl 2 rfl) ?_
          obtain ⟨b35, h⟩ := ck_e h
          refine m_ald hx hb hK hP ar_MO_times b35 d_MO_newPair_20 ?_
          refine lv_if_le (tgt := 49) hx hb d_MO_newPair_21 rfl (fun hc => ?_) (fun hc => ?_)
          · have h := if_p hc h
            exact J49 v24 M25 _ h g H locs ls hP hS (lv_sub hl [0, 2] rfl)
          · have h := if_m hc h
            refine lv_aload_n hx hb d_MO_newPair_24 rfl (lv_at hl 0 rfl) ?_
            refine gf_MO_73 hx hb hts hown hK hP d_MO_newPair_25 ?_
            refine lv_iload_n hx hb d_MO_newPair_28 rfl (lv_at hl 2 rfl) ?_
            obtain ⟨b36, h⟩ := ck_e h
            refine m_ald hx hb hK hP ar_MO_buckets b36 d_MO_newPair_29 ?_
            refine lv_aload_n hx hb d_MO_newPair_30 rfl (lv_at hl 0 rfl) ?_
            refine gf_MO_34 hx hb hts hown hK hP d_MO_newPair_31 ?_
            refine lv_iload_n hx hb d_MO_newPair_34 rfl (lv_at hl 2 rfl) ?_
            obtain ⟨b37, h⟩ := ck_e h
            refine m_ald hx hb hK hP ar_MO_times b37 d_MO_newPair_35 ?_
            obtain ⟨r40, M38, c39, h⟩ := bi_e h
            refine cl_MO_152 (rest := [.int (M25 48 v24.toNatClampNeg)]) (R := r_MO_newPair) (c_MO_bucket l x hJ (M25 35 v24.toNatClampNeg) c39) hx hb hml hts hown hK hZ hP hS hl.1 (Nat.le_of_ble_eq_true rfl) (Nat.le_of_ble_eq_true rfl) (Nat.le_of_ble_eq_true rfl) ⟨rfl, rfl, Nat.zero_le _, Nat.zero_le _⟩ d_MO_newPair_36 (fun H locs hP hS => ?_)
            refine lv_ishr hx hb d_MO_newPair_39 ?_
            refine lv_iconst (v := (1 : Int32)) hx hb d_MO_newPair_40 (by decide) ?_
            refine lv_iand hx hb d_MO_newPair_41 ?_
            refine lv_if_ne (tgt := 49) hx hb d_MO_newPair_42 rfl (fun hc => ?_) (fun hc => ?_)
            · have h := if_m hc h
              exact J49 v24 M38 _ h g H locs ls hP hS (lv_sub hl [0, 2] rfl)
            · have h := if_p hc h
              exact J45 v24 M38 _ h g H locs ls hP hS (lv_sub hl [0, 2] rfl)
    rw [eP4] at L4
    exact L4 H locs ls hP hS (lv_sub hl [2, 1, 0] rfl)
  rw [eH] at key
  exact key
theorem d_MO_signed_0 : decode b_MO_signed 0 = .ok (.aload_n 0, 1) := by decide +kernel
theorem d_MO_signed_1 : decode b_MO_signed 1 = .ok (.getfield 114, 3) := by decide +kernel
theorem d_MO_signed_4 : decode b_MO_signed 4 = .ok (.aload_n 0, 1) := by decide +kernel
theorem d_MO_signed_5 : decode b_MO_signed 5 = .ok (.getfield 46, 3) := by decide +kernel
theorem d_MO_signed_8 : decode b_MO_signed 8 = .ok (.iload_n 1, 1) := by decide +kernel
theorem d_MO_signed_9 : decode b_MO_signed 9 = .ok (.iaload, 1) := by decide +kernel
theorem d_MO_signed_10 : decode b_MO_signed 10 = .ok (.if_icmp .ne 33, 3) := by decide +kernel
theorem d_MO_signed_13 : decode b_MO_signed 13 = .ok (.aload_n 0, 1) := by decide +kernel
theorem d_MO_signed_14 : decode b_MO_signed 14 = .ok (.getfield 120, 3) := by decide +kernel
theorem d_MO_signed_17 : decode b_MO_signed 17 = .ok (.aload_n 0, 1) := by decide +kernel
theorem d_MO_signed_18 : decode b_MO_signed 18 = .ok (.getfield 49, 3) := by decide +kernel
theorem d_MO_signed_21 : decode b_MO_signed 21 = .ok (.iload_n 1, 1) := by decide +kernel
theorem d_MO_signed_22 : decode b_MO_signed 22 = .ok (.iaload, 1) := by decide +kernel
theorem d_MO_signed_23 : decode b_MO_signed 23 = .ok (.if_icmp .ne 20, 3) := by decide +kernel
theorem d_MO_signed_26 : decode b_MO_signed 26 = .ok (.aload_n 0, 1) := by decide +kernel
theorem d_MO_signed_27 : decode b_MO_signed 27 = .ok (.getfield 105, 3) := by decide +kernel
theorem d_MO_signed_30 : decode b_MO_signed 30 = .ok (.aload_n 0, 1) := by decide +kernel
theorem d_MO_signed_31 : decode b_MO_signed 31 = .ok (.getfield 52, 3) := by decide +kernel
theorem d_MO_signed_34 : decode b_MO_signed 34 = .ok (.iload_n 1, 1) := by decide +kernel
theorem d_MO_signed_35 : decode b_MO_signed 35 = .ok (.iaload, 1) := by decide +kernel
theorem d_MO_signed_36 : decode b_MO_signed 36 = .ok (.if_icmp .ne 7, 3) := by decide +kernel
theorem d_MO_signed_39 : decode b_MO_signed 39 = .ok (.iconst 1, 1) := by decide +kernel
theorem d_MO_signed_40 : decode b_MO_signed 40 = .ok (.goto 4, 3) := by decide +kernel
theorem d_MO_signed_43 : decode b_MO_signed 43 = .ok (.iconst 0, 1) := by decide +kernel
theorem d_MO_signed_44 : decode b_MO_signed 44 = .ok (.istore_n 2, 1) := by decide +kernel
theorem d_MO_signed_45 : decode b_MO_signed 45 = .ok (.iconst 0, 1) := by decide +kernel
theorem d_MO_signed_46 : decode b_MO_signed 46 = .ok (.istore_n 3, 1) := by decide +kernel
theorem d_MO_signed_47 : decode b_MO_signed 47 = .ok (.iload_n 3, 1) := by decide +kernel
theorem d_MO_signed_48 : decode b_MO_signed 48 = .ok (.aload_n 0, 1) := by decide +kernel
theorem d_MO_signed_49 : decode b_MO_signed 49 = .ok (.getfield 52, 3) := by decide +kernel
theorem d_MO_signed_52 : decode b_MO_signed 52 = .ok (.iload_n 1, 1) := by decide +kernel
theorem d_MO_signed_53 : decode b_MO_signed 53 = .ok (.iaload, 1) := by decide +kernel
theorem d_MO_signed_54 : decode b_MO_signed 54 = .ok (.if_icmp .ge 38, 3) := by decide +kernel
theorem d_MO_signed_57 : decode b_MO_signed 57 = .ok (.iload_n 2, 1) := by decide +kernel
theorem d_MO_signed_58 : decode b_MO_signed 58 = .ok (.ifCond .eq 26, 3) := by decide +kernel
theorem d_MO_signed_61 : decode b_MO_signed 61 = .ok (.aload_n 0, 1) := by decide +kernel
theorem d_MO_signed_62 : decode b_MO_signed 62 = .ok (.getfield 31, 3) := by decide +kernel
theorem d_MO_signed_65 : decode b_MO_signed 65 = .ok (.iload_n 3, 1) := by decide +kernel
theorem d_MO_signed_66 : decode b_MO_signed 66 = .ok (.iaload, 1) := by decide +kernel
theorem d_MO_signed_67 : decode b_MO_signed 67 = .ok (.aload_n 0, 1) := by decide +kernel
theorem d_MO_signed_68 : decode b_MO_signed 68 = .ok (.getfield 55, 3) := by decide +kernel
theorem d_MO_signed_71 : decode b_MO_signed 71 = .ok (.iconst 3, 1) := by decide +kernel
theorem d_MO_signed_72 : decode b_MO_signed 72 = .ok (.iload_n 1, 1) := by decide +kernel
theorem d_MO_signed_73 : decode b_MO_signed 73 = .ok (.imul, 1) := by decide +kernel
theorem d_MO_signed_74 : decode b_MO_signed 74 = .ok (.iload_n 3, 1) := by decide +kernel
theorem d_MO_signed_75 : decode b_MO_signed 75 = .ok (.iadd, 1) := by decide +kernel
theorem d_MO_signed_76 : decode b_MO_signed 76 = .ok (.iaload, 1) := by decide +kernel
theorem d_MO_signed_77 : decode b_MO_signed 77 = .ok (.if_icmp .ne 7, 3) := by decide +kernel
theorem d_MO_signed_80 : decode b_MO_signed 80 = .ok (.iconst 1, 1) := by decide +kernel
theorem d_MO_signed_81 : decode b_MO_signed 81 = .ok (.goto 4, 3) := by decide +kernel
theorem d_MO_signed_84 : decode b_MO_signed 84 = .ok (.iconst 0, 1) := by decide +kernel
theorem d_MO_signed_85 : decode b_MO_signed 85 = .ok (.istore_n 2, 1) := by decide +kernel
theorem d_MO_signed_86 : decode b_MO_signed 86 = .ok (.iinc 3 1, 3) := by decide +kernel
theorem d_MO_signed_89 : decode b_MO_signed 89 = .ok (.goto (-42), 3) := by decide +kernel
theorem d_MO_signed_92 : decode b_MO_signed 92 = .ok (.iload_n 2, 1) := by decide +kernel
theorem d_MO_signed_93 : decode b_MO_signed 93 = .ok (.ireturn, 1) := by decide +kernel
noncomputable def j_MO_signed_85 (a21 : Int32) (a28 : Int32) (a29 : Int32) (M30 : Mem) : Option ((Int32 × Int32 × Mem) ⊕ (Int32 × Mem)) :=
  nx (a28 + (1 : Int32)) (fun v31 => some (.inl (a29, v31, M30)))
noncomputable def j_MO_signed_84 (a21 : Int32) (a32 : Int32) (M33 : Mem) : Option ((Int32 × Int32 × Mem) ⊕ (Int32 × Mem)) :=
  j_MO_signed_85 a21 a32 (0 : Int32) M33
noncomputable def l_MO_signed_47 (a21 : Int32) (v25 : Int32) (v26 : Int32) (M27 : Mem) : Option ((Int32 × Int32 × Mem) ⊕ (Int32 × Mem)) :=
  ck a21 8 (if (M27 41 a21.toNatClampNeg) ≤ v26 then (cb v25 (some (.inr (v25, M27)))) else (if v25 = 0 then (j_MO_signed_84 a21 v26 M27) else (ck v26 3 (ck (((3 : Int32) * a21) + v26) 24 (if (M27 34 v26.toNatClampNeg) = (M27 42 (((3 : Int32) * a21) + v26).toNatClampNeg) then (j_MO_signed_85 a21 v26 (1 : Int32) M27) else (j_MO_signed_84 a21 v26 M27))))))
noncomputable def j_MO_signed_44 (a21 : Int32) (a22 : Int32) (M23 : Mem) : Option (Int32 × Mem) :=
  nx ((0 : Int32)) (fun v24 => lp (fun q : Int32 × Int32 × Mem => l_MO_signed_47 a21 q.1 q.2.1 q.2.2) (a22, v24, M23))
noncomputable def j_MO_signed_43 (a38 : Int32) (M39 : Mem) : Option (Int32 × Mem) :=
  j_MO_signed_44 a38 (0 : Int32) M39
noncomputable def s_MO_signed (a1 : Int32) (M : Mem) : Option (Int32 × Mem) :=
  ck a1 8 (if (M 26 16) = (M 39 a1.toNatClampNeg) then (ck a1 8 (if (M 26 14) = (M 40 a1.toNatClampNeg) then (ck a1 8 (if (M 26 12) = (M 41 a1.toNatClampNeg) then (j_MO_signed_44 a1 (1 : Int32) M) else (j_MO_signed_43 a1 M))) else (j_MO_signed_43 a1 M))) else (j_MO_signed_43 a1 M))
set_option maxHeartbeats 4000000 in
set_option maxRecDepth 100000 in
theorem c_MO_signed (l : Launch) (x : Cx) (hJ : Inj x) (a1 : Int32) {M : Mem} {out : Int32 × Mem} (h : s_MO_signed a1 M = some out) : Ci l x y_MO_signed (Cond.code y_MO_signed b_MO_signed 4 (some .boolean) :: tb) r_MO_signed [.ref (x.2.1 26), .int a1] M out := by
  refine ofCz (cc := b_MO_signed) (maxL := 4) (by decide) rfl (rfl) (Nat.le_of_ble_eq_true rfl) ?_
  intro p e s m args below meth c Q G0 ls g hx hb hml hown hts hK hZ hP hS hl hret
  have hown : s.vm.findClass R_MO = some m.cls := hown
  have hl : lv_has ls 4 [(0, .ref (x.2.1 26)), (1, .int a1)] := hl
  obtain ⟨H, eH⟩ : ∃ z, z = s.heap := ⟨_, rfl⟩
  obtain ⟨locs, eL⟩ : ∃ z, z = ([] : List Loc) := ⟨_, rfl⟩
  rw [← eH] at hP
  have hS : va_S (A0 x) s.heap H locs := by rw [eH, eL]; exact hS
  rw [← eL]
  have key : W p l e r_MO_signed s m args below meth c H locs 0 0 Q (F0 m 0 ls []) := by
    clear eH eL
    unfold s_MO_signed at h
    have J44 : ∀ (a21 : Int32) (a22 : Int32) (M23 : Mem)  (res : Int32 × Mem) (h : j_MO_signed_44 a21 a22 M23 = some res) (g : G0 res) (H : Heap) (locs : List Loc) (ls : Array Slot) (hP : va_P x.1 vwCl (wld x M23) H) (hS : va_S (A0 x) s.heap H locs) (hl : lv_has ls 4 [(0, .ref (x.2.1 26)), (1, .int a21)]), W p l e r_MO_signed s m args below meth c H locs 0 0 Q (F0 m 44 ls [.int a22]) := by
      intro a21 a22 M23 res h g H locs ls hP hS hl
      unfold j_MO_signed_44 at h
      refine lv_istore_n hx hb d_MO_signed_44 rfl hl (by decide) rfl (fun ls hl => ?_)
      have hl : lv_has ls 4 [(2, .int a22), (0, .ref (x.2.1 26)), (1, .int a21)] := hl
      refine lv_iconst (v := (0 : Int32)) hx hb d_MO_signed_45 (by decide) ?_
      obtain ⟨v24, ev24, h⟩ := nx_e h
      refine tp_i ev24 ?_
      refine lv_istore_n hx hb d_MO_signed_46 rfl hl (by decide) rfl (fun ls hl => ?_)
      have hl : lv_has ls 4 [(3, .int v24), (2, .int a22), (0, .ref (x.2.1 26)), (1, .int a21)] := hl
      obtain ⟨P47, eP47⟩ : ∃ P : (Int32 × Int32 × Mem) → Prop, P = (fun q => ∀ (H : Heap) (locs : List Loc) (ls : Array Slot), va_P x.1 vwCl (wld x (q.2.2)) H → va_S (A0 x) s.heap H locs → lv_has ls 4 [(0, .ref (x.2.1 26)), (1, .int a21), (2, .int (q.1)), (3, .int (q.2.1))] → W p l e r_MO_signed s m args below meth c H locs 0 0 Q (F0 m 47 ls [])) := ⟨_, rfl⟩
      have L47 : P47 (a22, v24, M23) := by
        refine lp_walk (G := G0) ?_ h g
        intro q res h g
        obtain ⟨v25, v26, M27⟩ := q
        rw [eP47]
        intro H locs ls hP hS hl
        have hP : va_P x.1 vwCl (wld x M27) H := hP
        have hl : lv_has ls 4 [(0, .ref (x.2.1 26)), (1, .int a21), (2, .int v25), (3, .int v26)] := hl
        have h : l_MO_signed_47 a21 v25 v26 M27 = some res := h
        unfold l_MO_signed_47 at h
        have J85 : ∀ (a28 : Int32) (a29 : Int32) (M30 : Mem)  (res : (Int32 × Int32 × Mem) ⊕ (Int32 × Mem)) (h : j_MO_signed_85 a21 a28 a29 M30 = some res) (g : (lpG P47 G0) res) (H : Heap) (locs : List Loc) (ls : Array Slot) (hP : va_P x.1 vwCl (wld x M30) H) (hS : va_S (A0 x) s.heap H locs) (hl : lv_has ls 4 [(0, .ref (x.2.1 26)), (1, .int a21), (3, .int a28)]), W p l e r_MO_signed s m args below meth c H locs 0 0 Q (F0 m 85 ls [.int a29]) := by
          intro a28 a29 M30 res h g H locs ls hP hS hl
          unfold j_MO_signed_85 at h
          refine lv_istore_n hx hb d_MO_signed_85 rfl hl (by decide) rfl (fun ls hl => ?_)
          have hl : lv_has ls 4 [(2, .int a29), (0, .ref (x.2.1 26)), (1, .int a21), (3, .int a28)] := hl
          obtain ⟨v31, ev31, h⟩ := nx_e h
          refine lv_iinc (k := 3) hx hb d_MO_signed_86 hl rfl (iinc_v (k := (1 : Int32)) (by decide) ev31) (by decide) rfl (fun ls hl => ?_)
          have hl : lv_has ls 4 [(3, .int v31), (2, .int a29), (0, .ref (x.2.1 26)), (1, .int a21)] := hl
          refine lv_goto (tgt := 47) hx hb d_MO_signed_89 rfl ?_
          obtain rfl := Option.some.inj h
          have g : P47 (a29, v31, M30) := g
          rw [eP47] at g
          exact g H locs ls hP hS (lv_sub hl [2, 3, 1, 0] rfl)
        have J84 : ∀ (a32 : Int32) (M33 : Mem)  (res : (Int32 × Int32 × Mem) ⊕ (Int32 × Mem)) (h : j_MO_signed_84 a21 a32 M33 = some res) (g : (lpG P47 G0) res) (H : Heap) (locs : List Loc) (ls : Array Slot) (hP : va_P x.1 vwCl (wld x M33) H) (hS : va_S (A0 x) s.heap H locs) (hl : lv_has ls 4 [(0, .ref (x.2.1 26)), (1, .int a21), (3, .int a32)]), W p l e r_MO_signed s m args below meth c H locs 0 0 Q (F0 m 84 ls []) := by
          intro a32 M33 res h g H locs ls hP hS hl
          unfold j_MO_signed_84 at h
          refine lv_iconst (v := (0 : Int32)) hx hb d_MO_signed_84 (by decide) ?_
          exact J85 a32 (0 : Int32) M33 _ h g H locs ls hP hS (lv_sub hl [0, 1, 2] rfl)
        refine lv_iload_n hx hb d_MO_signed_47 rfl (lv_at hl 3 rfl) ?_
        refine lv_aload_n hx hb d_MO_signed_48 rfl (lv_at hl 0 rfl) ?_
        refine gf_MO_52 hx hb hts hown hK hP d_MO_signed_49 ?_
        refine lv_iload_n hx hb d_MO_signed_52 rfl (lv_at hl 1 rfl) ?_
        obtain ⟨b34, h⟩ := ck_e h
        refine m_ald hx hb hK hP ar_MO_depths b34 d_MO_signed_53 ?_
        refine lv_icmp_ge (tgt := 92) hx hb d_MO_signed_54 rfl (fun hc => ?_) (fun hc => ?_)
        · have h := if_p hc h
          refine lv_iload_n hx hb d_MO_signed_92 rfl (lv_at hl 2 rfl) ?_
          obtain ⟨b35, h⟩ := cb_e h
          obtain rfl := Option.some.inj h
          exact hret b35 d_MO_signed_93 g hP hS
        · have h := if_m hc h
          refine lv_iload_n hx hb d_MO_signed_57 rfl (lv_at hl 2 rfl) ?_
          refine lv_if_eq (tgt := 84) hx hb d_MO_signed_58 rfl (fun hc => ?_) (fun hc => ?_)
          · have h := if_p hc h
            exact J84 v26 M27 _ h g H locs ls hP hS (lv_sub hl [0, 1, 3] rfl)
          · have h := if_m hc h
            refine lv_aload_n hx hb d_MO_signed_61 rfl (lv_at hl 0 rfl) ?_
            refine gf_MO_31 hx hb hts hown hK hP d_MO_signed_62 ?_
            refine lv_iload_n hx hb d_MO_signed_65 rfl (lv_at hl 3 rfl) ?_
            obtain ⟨b36, h⟩ := ck_e h
            refine m_ald hx hb hK hP ar_MO_stack b36 d_MO_signed_66 ?_
            refine lv_aload_n hx hb d_MO_signed_67 rfl (lv_at hl 0 rfl) ?_
            refine gf_MO_55 hx hb hts hown hK hP d_MO_signed_68 ?_
            refine lv_iconst (v := (3 : Int32)) hx hb d_MO_signed_71 (by decide) ?_
            refine lv_iload_n hx hb d_MO_signed_72 rfl (lv_at hl 1 rfl) ?_
            refine lv_imul hx hb d_MO_signed_73 ?_
            refine lv_iload_n hx hb d_MO_signed_74 rfl (lv_at hl 3 rfl) ?_
            refine lv_iadd hx hb d_MO_signed_75 ?_
            obtain ⟨b37, h⟩ := ck_e h
            refine m_ald hx hb hK hP ar_MO_stacks b37 d_MO_signed_76 ?_
            refine lv_icmp_ne (tgt := 84) hx hb d_MO_signed_77 rfl (fun hc => ?_) (fun hc => ?_)
            · have h := if_m hc h
              exact J84 v26 M27 _ h g H locs ls hP hS (lv_sub hl [0, 1, 3] rfl)
            · have h := if_p hc h
              refine lv_iconst (v := (1 : Int32)) hx hb d_MO_signed_80 (by decide) ?_
              refine lv_goto (tgt := 85) hx hb d_MO_signed_81 rfl ?_
              exact J85 v26 (1 : Int32) M27 _ h g H locs ls hP hS (lv_sub hl [0, 1, 3] rfl)
      rw [eP47] at L47
      exact L47 H locs ls hP hS (lv_sub hl [2, 3, 1, 0] rfl)
    have J43 : ∀ (a38 : Int32) (M39 : Mem)  (res : Int32 × Mem) (h : j_MO_signed_43 a38 M39 = some res) (g : G0 res) (H : Heap) (locs : List Loc) (ls : Array Slot) (hP : va_P x.1 vwCl (wld x M39) H) (hS : va_S (A0 x) s.heap H locs) (hl : lv_has ls 4 [(0, .ref (x.2.1 26)), (1, .int a38)]), W p l e r_MO_signed s m args below meth c H locs 0 0 Q (F0 m 43 ls []) := by
      intro a38 M39 res h g H locs ls hP hS hl
      unfold j_MO_signed_43 at h
      refine lv_iconst (v := (0 : Int32)) hx hb d_MO_signed_43 (by decide) ?_
      exact J44 a38 (0 : Int32) M39 _ h g H locs ls hP hS (lv_sub hl [0, 1] rfl)
    refine lv_aload_n hx hb d_MO_signed_0 rfl (lv_at hl 0 rfl) ?_
    refine gf_MO_114 hx hb hts hown hK hP d_MO_signed_1 ?_
    refine lv_aload_n hx hb d_MO_signed_4 rfl (lv_at hl 0 rfl) ?_
    refine gf_MO_46 hx hb hts hown hK hP d_MO_signed_5 ?_
    refine lv_iload_n hx hb d_MO_signed_8 rfl (lv_at hl 1 rfl) ?_
    obtain ⟨b40, h⟩ := ck_e h
    refine m_ald hx hb hK hP ar_MO_traps b40 d_MO_signed_9 ?_
    refine lv_icmp_ne (tgt := 43) hx hb d_MO_signed_10 rfl (fun hc => ?_) (fun hc => ?_)
    · have h := if_m hc h
      exact J43 a1 M _ h g H locs ls hP hS (lv_sub hl [0, 1] rfl)
    · have h := if_p hc h
      refine lv_aload_n hx hb d_MO_signed_13 rfl (lv_at hl 0 rfl) ?_
      refine gf_MO_120 hx hb hts hown hK hP d_MO_signed_14 ?_
      refine lv_aload_n hx hb d_MO_signed_17 rfl (lv_at hl 0 rfl) ?_
      refine gf_MO_49 hx hb hts hown hK hP d_MO_signed_18 ?_
      refine lv_iload_n hx hb d_MO_signed_21 rfl (lv_at hl 1 rfl) ?_
      obtain ⟨b41, h⟩ := ck_e h
      refine m_ald hx hb hK hP ar_MO_places b41 d_MO_signed_22 ?_
      refine lv_icmp_ne (tgt := 43) hx hb d_MO_signed_23 rfl (fun hc => ?_) (fun hc => ?_)
      · have h := if_m hc h
        exact J43 a1 M _ h g H locs ls hP hS (lv_sub hl [0, 1] rfl)
      · have h := if_p hc h
        refine lv_aload_n hx hb d_MO_signed_26 rfl (lv_at hl 0 rfl) ?_
        refine gf_MO_105 hx hb hts hown hK hP d_MO_signed_27 ?_
        refine lv_aload_n hx hb d_MO_signed_30 rfl (lv_at hl 0 rfl) ?_
        refine gf_MO_52 hx hb hts hown hK hP d_MO_signed_31 ?_
        refine lv_iload_n hx hb d_MO_signed_34 rfl (lv_at hl 1 rfl) ?_
        obtain ⟨b42, h⟩ := ck_e h
        refine m_ald hx hb hK hP ar_MO_depths b42 d_MO_signed_35 ?_
        refine lv_icmp_ne (tgt := 43) hx hb d_MO_signed_36 rfl (fun hc => ?_) (fun hc => ?_)
        · have h := if_m hc h
          exact J43 a1 M _ h g H locs ls hP hS (lv_sub hl [0, 1] rfl)
        · have h := if_p hc h
          refine lv_iconst (v := (1 : Int32)) hx hb d_MO_signed_39 (by decide) ?_
          refine lv_goto (tgt := 44) hx hb d_MO_signed_40 rfl ?_
          exact J44 a1 (1 : Int32) M _ h g H locs ls hP hS (lv_sub hl [0, 1] rfl)
  rw [eH] at key
  exact key
theorem d_MO_still_0 : decode b_MO_still 0 = .ok (.aload_n 0, 1) := by decide +kernel
theorem d_MO_still_1 : decode b_MO_still 1 = .ok (.iconst 0, 1) := by decide +kernel
theorem d_MO_still_2 : decode b_MO_still 2 = .ok (.putfield 130, 3) := by decide +kernel
theorem d_MO_still_5 : decode b_MO_still 5 = .ok (.iconst 0, 1) := by decide +kernel
theorem d_MO_still_6 : decode b_MO_still 6 = .ok (.istore 5, 2) := by decide +kernel
theorem d_MO_still_8 : decode b_MO_still 8 = .ok (.iload 5, 2) := by decide +kernel
theorem d_MO_still_10 : decode b_MO_still 10 = .ok (.aload_n 0, 1) := by decide +kernel
theorem d_MO_still_11 : decode b_MO_still 11 = .ok (.getfield 70, 3) := by decide +kernel
theorem d_MO_still_14 : decode b_MO_still 14 = .ok (.iload_n 1, 1) := by decide +kernel
theorem d_MO_still_15 : decode b_MO_still 15 = .ok (.iaload, 1) := by decide +kernel
theorem d_MO_still_16 : decode b_MO_still 16 = .ok (.if_icmp .ge 66, 3) := by decide +kernel
theorem d_MO_still_19 : decode b_MO_still 19 = .ok (.iload 5, 2) := by decide +kernel
theorem d_MO_still_21 : decode b_MO_still 21 = .ok (.iload_n 2, 1) := by decide +kernel
theorem d_MO_still_22 : decode b_MO_still 22 = .ok (.if_icmp .lt 13, 3) := by decide +kernel
theorem d_MO_still_25 : decode b_MO_still 25 = .ok (.iload 5, 2) := by decide +kernel
theorem d_MO_still_27 : decode b_MO_still 27 = .ok (.iload_n 3, 1) := by decide +kernel
theorem d_MO_still_28 : decode b_MO_still 28 = .ok (.if_icmp .ge 7, 3) := by decide +kernel
theorem d_MO_still_31 : decode b_MO_still 31 = .ok (.iconst 1, 1) := by decide +kernel
theorem d_MO_still_32 : decode b_MO_still 32 = .ok (.goto 4, 3) := by decide +kernel
theorem d_MO_still_35 : decode b_MO_still 35 = .ok (.iconst 0, 1) := by decide +kernel
theorem d_MO_still_36 : decode b_MO_still 36 = .ok (.istore 6, 2) := by decide +kernel
theorem d_MO_still_38 : decode b_MO_still 38 = .ok (.iload 6, 2) := by decide +kernel
theorem d_MO_still_40 : decode b_MO_still 40 = .ok (.iload 4, 2) := by decide +kernel
theorem d_MO_still_42 : decode b_MO_still 42 = .ok (.if_icmp .ne 34, 3) := by decide +kernel
theorem d_MO_still_45 : decode b_MO_still 45 = .ok (.aload_n 0, 1) := by decide +kernel
theorem d_MO_still_46 : decode b_MO_still 46 = .ok (.getfield 22, 3) := by decide +kernel
theorem d_MO_still_49 : decode b_MO_still 49 = .ok (.aload_n 0, 1) := by decide +kernel
theorem d_MO_still_50 : decode b_MO_still 50 = .ok (.getfield 130, 3) := by decide +kernel
theorem d_MO_still_53 : decode b_MO_still 53 = .ok (.aload_n 0, 1) := by decide +kernel
theorem d_MO_still_54 : decode b_MO_still 54 = .ok (.getfield 67, 3) := by decide +kernel
theorem d_MO_still_57 : decode b_MO_still 57 = .ok (.bipush 6, 2) := by decide +kernel
theorem d_MO_still_59 : decode b_MO_still 59 = .ok (.iload_n 1, 1) := by decide +kernel
theorem d_MO_still_60 : decode b_MO_still 60 = .ok (.imul, 1) := by decide +kernel
theorem d_MO_still_61 : decode b_MO_still 61 = .ok (.iload 5, 2) := by decide +kernel
theorem d_MO_still_63 : decode b_MO_still 63 = .ok (.iadd, 1) := by decide +kernel
theorem d_MO_still_64 : decode b_MO_still 64 = .ok (.iaload, 1) := by decide +kernel
theorem d_MO_still_65 : decode b_MO_still 65 = .ok (.iastore, 1) := by decide +kernel
theorem d_MO_still_66 : decode b_MO_still 66 = .ok (.aload_n 0, 1) := by decide +kernel
theorem d_MO_still_67 : decode b_MO_still 67 = .ok (.dup, 1) := by decide +kernel
theorem d_MO_still_68 : decode b_MO_still 68 = .ok (.getfield 130, 3) := by decide +kernel
theorem d_MO_still_71 : decode b_MO_still 71 = .ok (.iconst 1, 1) := by decide +kernel
theorem d_MO_still_72 : decode b_MO_still 72 = .ok (.iadd, 1) := by decide +kernel
theorem d_MO_still_73 : decode b_MO_still 73 = .ok (.putfield 130, 3) := by decide +kernel
theorem d_MO_still_76 : decode b_MO_still 76 = .ok (.iinc 5 1, 3) := by decide +kernel
theorem d_MO_still_79 : decode b_MO_still 79 = .ok (.goto (-71), 3) := by decide +kernel
theorem d_MO_still_82 : decode b_MO_still 82 = .ok (.aload_n 0, 1) := by decide +kernel
theorem d_MO_still_83 : decode b_MO_still 83 = .ok (.invokevirtual 136, 3) := by decide +kernel
theorem d_MO_still_86 : decode b_MO_still 86 = .ok (.aload_n 0, 1) := by decide +kernel
theorem d_MO_still_87 : decode b_MO_still 87 = .ok (.iload_n 1, 1) := by decide +kernel
theorem d_MO_still_88 : decode b_MO_still 88 = .ok (.invokevirtual 187, 3) := by decide +kernel
theorem d_MO_still_91 : decode b_MO_still 91 = .ok (.ireturn, 1) := by decide +kernel
noncomputable def j_MO_still_82 (a21 : Int32) (M22 : Mem) : Option (Int32 × Mem) :=
  bv (s_MO_run M22) (fun M23 => bi (s_MO_signed a21 M23) (fun r27 M25 => cb r27 (some (r27, M25))))
noncomputable def j_MO_still_76 (a1 : Int32) (a2 : Int32) (a3 : Int32) (a4 : Int32) (a33 : Int32) (M34 : Mem) : Option ((Int32 × Mem) ⊕ (Int32 × Mem)) :=
  nx (a33 + (1 : Int32)) (fun v35 => some (.inl (v35, M34)))
noncomputable def j_MO_still_36 (a1 : Int32) (a2 : Int32) (a3 : Int32) (a4 : Int32) (a36 : Int32) (a37 : Int32) (M38 : Mem) : Option ((Int32 × Mem) ⊕ (Int32 × Mem)) :=
  if a37 = a4 then (ck (((6 : Int32) * a1) + a36) 48 (ck (M38 26 8) 6 (nx (st M38 31 (M38 26 8).toNatClampNeg (M38 46 (((6 : Int32) * a1) + a36).toNatClampNeg)) (fun M41 => nx (st M41 26 8 ((M41 26 8) + (1 : Int32))) (fun M42 => j_MO_still_76 a1 a2 a3 a4 a36 M42))))) else (j_MO_still_76 a1 a2 a3 a4 a36 M38)
noncomputable def j_MO_still_35 (a1 : Int32) (a2 : Int32) (a3 : Int32) (a4 : Int32) (a43 : Int32) (M44 : Mem) : Option ((Int32 × Mem) ⊕ (Int32 × Mem)) :=
  j_MO_still_36 a1 a2 a3 a4 a43 (0 : Int32) M44
noncomputable def l_MO_still_8 (a1 : Int32) (a2 : Int32) (a3 : Int32) (a4 : Int32) (v31 : Int32) (M32 : Mem) : Option ((Int32 × Mem) ⊕ (Int32 × Mem)) :=
  ck a1 8 (if (M32 47 a1.toNatClampNeg) ≤ v31 then (jw1 (j_MO_still_82 a1 M32)) else (if v31 < a2 then (j_MO_still_35 a1 a2 a3 a4 v31 M32) else (if a3 ≤ v31 then (j_MO_still_35 a1 a2 a3 a4 v31 M32) else (j_MO_still_36 a1 a2 a3 a4 v31 (1 : Int32) M32))))
noncomputable def s_MO_still (a1 : Int32) (a2 : Int32) (a3 : Int32) (a4 : Int32) (M : Mem) : Option (Int32 × Mem) :=
  nx (st M 26 8 (0 : Int32)) (fun M29 => nx ((0 : Int32)) (fun v30 => lp (fun q : Int32 × Mem => l_MO_still_8 a1 a2 a3 a4 q.1 q.2) (v30, M29)))
set_option maxHeartbeats 4000000 in
set_option maxRecDepth 100000 in
theorem c_MO_still (l : Launch) (x : Cx) (hJ : Inj x) (a1 : Int32) (a2 : Int32) (a3 : Int32) (a4 : Int32) {M : Mem} {out : Int32 × Mem} (h : s_MO_still a1 a2 a3 a4 M = some out) : Ci l x y_MO_still (Cond.code y_MO_still b_MO_still 7 (some .boolean) :: tb) r_MO_still [.ref (x.2.1 26), .int a1, .int a2, .int a3, .int a4] M out := by
  refine ofCz (cc := b_MO_still) (maxL := 7) (by decide) rfl (rfl) (Nat.le_of_ble_eq_true rfl) ?_
  intro p e s m args below meth c Q G0 ls g hx hb hml hown hts hK hZ hP hS hl hret
  have hown : s.vm.findClass R_MO = some m.cls := hown
  have hl : lv_has ls 7 [(0, .ref (x.2.1 26)), (1, .int a1), (2, .int a2), (3, .int a3), (4, .int a4)] := hl
  obtain ⟨H, eH⟩ : ∃ z, z = s.heap := ⟨_, rfl⟩
  obtain ⟨locs, eL⟩ : ∃ z, z = ([] : List Loc) := ⟨_, rfl⟩
  rw [← eH] at hP
  have hS : va_S (A0 x) s.heap H locs := by rw [eH, eL]; exact hS
  rw [← eL]
  have key : W p l e r_MO_still s m args below meth c H locs 0 0 Q (F0 m 0 ls []) := by
    clear eH eL
    unfold s_MO_still at h
    have J82 : ∀ (a21 : Int32) (M22 : Mem)  (res : Int32 × Mem) (h : j_MO_still_82 a21 M22 = some res) (g : G0 res) (H : Heap) (locs : List Loc) (ls : Array Slot) (hP : va_P x.1 vwCl (wld x M22) H) (hS : va_S (A0 x) s.heap H locs) (hl : lv_has ls 7 [(0, .ref (x.2.1 26)), (1, .int a21)]), W p l e r_MO_still s m args below meth c H locs 0 0 Q (F0 m 82 ls []) := by
      intro a21 M22 res h g H locs ls hP hS hl
      unfold j_MO_still_82 at h
      refine lv_aload_n hx hb d_MO_still_82 rfl (lv_at hl 0 rfl) ?_
      obtain ⟨M23, c24, h⟩ := bv_e h
      refine cl_MO_136 (rest := []) (R := r_MO_still) (c_MO_run l x hJ c24) hx hb hml hts hown hK hZ hP hS hl.1 (Nat.le_of_ble_eq_true rfl) (Nat.le_of_ble_eq_true rfl) (Nat.le_of_ble_eq_true rfl) ⟨rfl, rfl, Nat.zero_le _, Nat.zero_le _⟩ d_MO_still_83 (fun H locs hP hS => ?_)
      refine lv_aload_n hx hb d_MO_still_86 rfl (lv_at hl 0 rfl) ?_
      refine lv_iload_n hx hb d_MO_still_87 rfl (lv_at hl 1 rfl) ?_
      obtain ⟨r27, M25, c26, h⟩ := bi_e h
      refine cl_MO_187 (rest := []) (R := r_MO_still) (c_MO_signed l x hJ a21 c26) hx hb hml hts hown hK hZ hP hS hl.1 (Nat.le_of_ble_eq_true rfl) (Nat.le_of_ble_eq_true rfl) (Nat.le_of_ble_eq_true rfl) ⟨rfl, rfl, Nat.zero_le _, Nat.zero_le _⟩ d_MO_still_88 (fun H locs hP hS => ?_)
      obtain ⟨b28, h⟩ := cb_e h
      obtain rfl := Option.some.inj h
      exact hret b28 d_MO_still_91 g hP hS
    refine lv_aload_n hx hb d_MO_still_0 rfl (lv_at hl 0 rfl) ?_
    refine lv_iconst (v := (0 : Int32)) hx hb d_MO_still_1 (by decide) ?_
    obtain ⟨M29, eM29, h⟩ := nx_e h
    refine pf_MO_130 hx hb hts hown hK hJ hP hS eM29 d_MO_still_2 (fun H locs hP hS => ?_)
    refine lv_iconst (v := (0 : Int32)) hx hb d_MO_still_5 (by decide) ?_
    obtain ⟨v30, ev30, h⟩ := nx_e h
    refine tp_i ev30 ?_
    refine lv_istore hx hb d_MO_still_6 hl (by decide) rfl (fun ls hl => ?_)
    have hl : lv_has ls 7 [(5, .int v30), (0, .ref (x.2.1 26)), (1, .int a1), (2, .int a2), (3, .int a3), (4, .int a4)] := hl
    obtain ⟨P8, eP8⟩ : ∃ P : (Int32 × Mem) → Prop, P = (fun q => ∀ (H : Heap) (locs : List Loc) (ls : Array Slot), va_P x.1 vwCl (wld x (q.2)) H → va_S (A0 x) s.heap H locs → lv_has ls 7 [(0, .ref (x.2.1 26)), (1, .int a1), (2, .int a2), (3, .int a3), (4, .int a4), (5, .int (q.1))] → W p l e r_MO_still s m args below meth c H locs 0 0 Q (F0 m 8 ls [])) := ⟨_, rfl⟩
    have L8 : P8 (v30, M29) := by
      refine lp_walk (G := G0) ?_ h g
      intro q res h g
      obtain ⟨v31, M32⟩ := q
      rw [eP8]
      intro H locs ls hP hS hl
      have hP : va_P x.1 vwCl (wld x M32) H := hP
      have hl : lv_has ls 7 [(0, .ref (x.2.1 26)), (1, .int a1), (2, .int a2), (3, .int a3), (4, .int a4), (5, .int v31)] := hl
      have h : l_MO_still_8 a1 a2 a3 a4 v31 M32 = some res := h
      unfold l_MO_still_8 at h
      have J76 : ∀ (a33 : Int32) (M34 : Mem)  (res : (Int32 × Mem) ⊕ (Int32 × Mem)) (h : j_MO_still_76 a1 a2 a3 a4 a33 M34 = some res) (g : (lpG P8 G0) res) (H : Heap) (locs : List Loc) (ls : Array Slot) (hP : va_P x.1 vwCl (wld x M34) H) (hS : va_S (A0 x) s.heap H locs) (hl : lv_has ls 7 [(0, .ref (x.2.1 26)), (1, .int a1), (2, .int a2), (3, .int a3), (4, .int a4), (5, .int a33)]), W p l e r_MO_still s m args below meth c H locs 0 0 Q (F0 m 76 ls []) := by
        intro a33 M34 res h g H locs ls hP hS hl
        unfold j_MO_still_76 at h
        obtain ⟨v35, ev35, h⟩ := nx_e h
        refine lv_iinc (k := 5) hx hb d_MO_still_76 hl rfl (iinc_v (k := (1 : Int32)) (by decide) ev35) (by decide) rfl (fun ls hl => ?_)
        have hl : lv_has ls 7 [(5, .int v35), (0, .ref (x.2.1 26)), (1, .int a1), (2, .int a2), (3, .int a3), (4, .int a4)] := hl
        refine lv_goto (tgt := 8) hx hb d_MO_still_79 rfl ?_
        obtain rfl := Option.some.inj h
        have g : P8 (v35, M34) := g
        rw [eP8] at g
        exact g H locs ls hP hS (lv_sub hl [1, 2, 3, 4, 5, 0] rfl)
      have J36 : ∀ (a36 : Int32) (a37 : Int32) (M38 : Mem)  (res : (Int32 × Mem) ⊕ (Int32 × Mem)) (h : j_MO_still_36 a1 a2 a3 a4 a36 a37 M38 = some res) (g : (lpG P8 G0) res) (H : Heap) (locs : List Loc) (ls : Array Slot) (hP : va_P x.1 vwCl (wld x M38) H) (hS : va_S (A0 x) s.heap H locs) (hl : lv_has ls 7 [(0, .ref (x.2.1 26)), (1, .int a1), (2, .int a2), (3, .int a3), (4, .int a4), (5, .int a36)]), W p l e r_MO_still s m args below meth c H locs 0 0 Q (F0 m 36 ls [.int a37]) := by
        intro a36 a37 M38 res h g H locs ls hP hS hl
        unfold j_MO_still_36 at h
        refine lv_istore hx hb d_MO_still_36 hl (by decide) rfl (fun ls hl => ?_)
        have hl : lv_has ls 7 [(6, .int a37), (0, .ref (x.2.1 26)), (1, .int a1), (2, .int a2), (3, .int a3), (4, .int a4), (5, .int a36)] := hl
        refine lv_iload hx hb d_MO_still_38 (lv_at hl 0 rfl) ?_
        refine lv_iload hx hb d_MO_still_40 (lv_at hl 5 rfl) ?_
        refine lv_icmp_ne (tgt := 76) hx hb d_MO_still_42 rfl (fun hc => ?_) (fun hc => ?_)
        · have h := if_m hc h
          exact J76 a36 M38 _ h g H locs ls hP hS (lv_sub hl [1, 2, 3, 4, 5, 6] rfl)
        · have h := if_p hc h
          refine lv_aload_n hx hb d_MO_still_45 rfl (lv_at hl 1 rfl) ?_
          refine gf_MO_22 hx hb hts hown hK hP d_MO_still_46 ?_
          refine lv_aload_n hx hb d_MO_still_49 rfl (lv_at hl 1 rfl) ?_
          refine gf_MO_130 hx hb hts hown hK hP d_MO_still_50 ?_
          refine lv_aload_n hx hb d_MO_still_53 rfl (lv_at hl 1 rfl) ?_
          refine gf_MO_67 hx hb hts hown hK hP d_MO_still_54 ?_
          refine lv_bipush (v := (6 : Int32)) hx hb d_MO_still_57 (by decide) ?_
          refine lv_iload_n hx hb d_MO_still_59 rfl (lv_at hl 2 rfl) ?_
          refine lv_imul hx hb d_MO_still_60 ?_
          refine lv_iload hx hb d_MO_still_61 (lv_at hl 6 rfl) ?_
          refine lv_iadd hx hb d_MO_still_63 ?_
          obtain ⟨b39, h⟩ := ck_e h
          refine m_ald hx hb hK hP ar_MO_brief b39 d_MO_still_64 ?_
          obtain ⟨b40, h⟩ := ck_e h
          obtain ⟨M41, eM41, h⟩ := nx_e h
          refine m_ast hx hb hK hJ hP hS ar_MO_tape b40 eM41 d_MO_still_65 (fun H locs hP hS => ?_)
          refine lv_aload_n hx hb d_MO_still_66 rfl (lv_at hl 1 rfl) ?_
          refine lv_dup hx hb d_MO_still_67 rfl ?_
          refine gf_MO_130 hx hb hts hown hK hP d_MO_still_68 ?_
          refine lv_iconst (v := (1 : Int32)) hx hb d_MO_still_71 (by decide) ?_
          refine lv_iadd hx hb d_MO_still_72 ?_
          obtain ⟨M42, eM42, h⟩ := nx_e h
          refine pf_MO_130 hx hb hts hown hK hJ hP hS eM42 d_MO_still_73 (fun H locs hP hS => ?_)
          exact J76 a36 M42 _ h g H locs ls hP hS (lv_sub hl [1, 2, 3, 4, 5, 6] rfl)
      have J35 : ∀ (a43 : Int32) (M44 : Mem)  (res : (Int32 × Mem) ⊕ (Int32 × Mem)) (h : j_MO_still_35 a1 a2 a3 a4 a43 M44 = some res) (g : (lpG P8 G0) res) (H : Heap) (locs : List Loc) (ls : Array Slot) (hP : va_P x.1 vwCl (wld x M44) H) (hS : va_S (A0 x) s.heap H locs) (hl : lv_has ls 7 [(0, .ref (x.2.1 26)), (1, .int a1), (2, .int a2), (3, .int a3), (4, .int a4), (5, .int a43)]), W p l e r_MO_still s m args below meth c H locs 0 0 Q (F0 m 35 ls []) := by
        intro a43 M44 res h g H locs ls hP hS hl
        unfold j_MO_still_35 at h
        refine lv_iconst (v := (0 : Int32)) hx hb d_MO_still_35 (by decide) ?_
        exact J36 a43 (0 : Int32) M44 _ h g H locs ls hP hS (lv_sub hl [0, 1, 2, 3, 4, 5] rfl)
      refine lv_iload hx hb d_MO_still_8 (lv_at hl 5 rfl) ?_
      refine lv_aload_n hx hb d_MO_still_10 rfl (lv_at hl 0 rfl) ?_
      refine gf_MO_70 hx hb hts hown hK hP d_MO_still_11 ?_
      refine lv_iload_n hx hb d_MO_still_14 rfl (lv_at hl 1 rfl) ?_
      obtain ⟨b45, h⟩ := ck_e h
      refine m_ald hx hb hK hP ar_MO_briefLength b45 d_MO_still_15 ?_
      refine lv_icmp_ge (tgt := 82) hx hb d_MO_still_16 rfl (fun hc => ?_) (fun hc => ?_)
      · have h := if_p hc h
        obtain ⟨res2, hres, h2⟩ := jw1_e h
        clear h
        subst hres
        have h := h2
        exact J82 a1 M32 _ h g H locs ls hP hS (lv_sub hl [0, 1] rfl)
      · have h := if_m hc h
        refine lv_iload hx hb d_MO_still_19 (lv_at hl 5 rfl) ?_
        refine lv_iload_n hx hb d_MO_still_21 rfl (lv_at hl 2 rfl) ?_
        refine lv_icmp_lt (tgt := 35) hx hb d_MO_still_22 rfl (fun hc => ?_) (fun hc => ?_)
        · have h := if_p hc h
          exact J35 v31 M32 _ h g H locs ls hP hS (lv_sub hl [0, 1, 2, 3, 4, 5] rfl)
        · have h := if_m hc h
          refine lv_iload hx hb d_MO_still_25 (lv_at hl 5 rfl) ?_
          refine lv_iload_n hx hb d_MO_still_27 rfl (lv_at hl 3 rfl) ?_
          refine lv_icmp_ge (tgt := 35) hx hb d_MO_still_28 rfl (fun hc => ?_) (fun hc => ?_)
          · have h := if_p hc h
            exact J35 v31 M32 _ h g H locs ls hP hS (lv_sub hl [0, 1, 2, 3, 4, 5] rfl)
          · have h := if_m hc h
            refine lv_iconst (v := (1 : Int32)) hx hb d_MO_still_31 (by decide) ?_
            refine lv_goto (tgt := 36) hx hb d_MO_still_32 rfl ?_
            exact J36 v31 (1 : Int32) M32 _ h g H locs ls hP hS (lv_sub hl [0, 1, 2, 3, 4, 5] rfl)
    rw [eP8] at L8
    exact L8 H locs ls hP hS (lv_sub hl [1, 2, 3, 4, 5, 0] rfl)
  rw [eH] at key
  exact key
theorem d_MO_adopt_0 : decode b_MO_adopt 0 = .ok (.aload_n 0, 1) := by decide +kernel
theorem d_MO_adopt_1 : decode b_MO_adopt 1 = .ok (.getfield 70, 3) := by decide +kernel
theorem d_MO_adopt_4 : decode b_MO_adopt 4 = .ok (.iload_n 1, 1) := by decide +kernel
theorem d_MO_adopt_5 : decode b_MO_adopt 5 = .ok (.aload_n 0, 1) := by decide +kernel
theorem d_MO_adopt_6 : decode b_MO_adopt 6 = .ok (.getfield 130, 3) := by decide +kernel
theorem d_MO_adopt_9 : decode b_MO_adopt 9 = .ok (.iastore, 1) := by decide +kernel
theorem d_MO_adopt_10 : decode b_MO_adopt 10 = .ok (.iconst 0, 1) := by decide +kernel
theorem d_MO_adopt_11 : decode b_MO_adopt 11 = .ok (.istore_n 2, 1) := by decide +kernel
theorem d_MO_adopt_12 : decode b_MO_adopt 12 = .ok (.iload_n 2, 1) := by decide +kernel
theorem d_MO_adopt_13 : decode b_MO_adopt 13 = .ok (.aload_n 0, 1) := by decide +kernel
theorem d_MO_adopt_14 : decode b_MO_adopt 14 = .ok (.getfield 130, 3) := by decide +kernel
theorem d_MO_adopt_17 : decode b_MO_adopt 17 = .ok (.if_icmp .ge 26, 3) := by decide +kernel
theorem d_MO_adopt_20 : decode b_MO_adopt 20 = .ok (.aload_n 0, 1) := by decide +kernel
theorem d_MO_adopt_21 : decode b_MO_adopt 21 = .ok (.getfield 67, 3) := by decide +kernel
theorem d_MO_adopt_24 : decode b_MO_adopt 24 = .ok (.bipush 6, 2) := by decide +kernel
theorem d_MO_adopt_26 : decode b_MO_adopt 26 = .ok (.iload_n 1, 1) := by decide +kernel
theorem d_MO_adopt_27 : decode b_MO_adopt 27 = .ok (.imul, 1) := by decide +kernel
theorem d_MO_adopt_28 : decode b_MO_adopt 28 = .ok (.iload_n 2, 1) := by decide +kernel
theorem d_MO_adopt_29 : decode b_MO_adopt 29 = .ok (.iadd, 1) := by decide +kernel
theorem d_MO_adopt_30 : decode b_MO_adopt 30 = .ok (.aload_n 0, 1) := by decide +kernel
theorem d_MO_adopt_31 : decode b_MO_adopt 31 = .ok (.getfield 22, 3) := by decide +kernel
theorem d_MO_adopt_34 : decode b_MO_adopt 34 = .ok (.iload_n 2, 1) := by decide +kernel
theorem d_MO_adopt_35 : decode b_MO_adopt 35 = .ok (.iaload, 1) := by decide +kernel
theorem d_MO_adopt_36 : decode b_MO_adopt 36 = .ok (.iastore, 1) := by decide +kernel
theorem d_MO_adopt_37 : decode b_MO_adopt 37 = .ok (.iinc 2 1, 3) := by decide +kernel
theorem d_MO_adopt_40 : decode b_MO_adopt 40 = .ok (.goto (-28), 3) := by decide +kernel
theorem d_MO_adopt_43 : decode b_MO_adopt 43 = .ok (.return_, 1) := by decide +kernel
noncomputable def l_MO_adopt_12 (a1 : Int32) (v24 : Int32) (M25 : Mem) : Option ((Int32 × Mem) ⊕ (Mem)) :=
  if (M25 26 8) ≤ v24 then (some (.inr M25)) else (ck v24 6 (ck (((6 : Int32) * a1) + v24) 48 (nx (st M25 46 (((6 : Int32) * a1) + v24).toNatClampNeg (M25 31 v24.toNatClampNeg)) (fun M28 => nx (v24 + (1 : Int32)) (fun v29 => some (.inl (v29, M28)))))))
noncomputable def s_MO_adopt (a1 : Int32) (M : Mem) : Option (Mem) :=
  ck a1 8 (nx (st M 47 a1.toNatClampNeg (M 26 8)) (fun M22 => nx ((0 : Int32)) (fun v23 => lp (fun q : Int32 × Mem => l_MO_adopt_12 a1 q.1 q.2) (v23, M22))))
set_option maxHeartbeats 4000000 in
set_option maxRecDepth 100000 in
theorem c_MO_adopt (l : Launch) (x : Cx) (hJ : Inj x) (a1 : Int32) {M : Mem} {out : Mem} (h : s_MO_adopt a1 M = some out) : Cv l x y_MO_adopt (Cond.code y_MO_adopt b_MO_adopt 3 none :: tb) r_MO_adopt [.ref (x.2.1 26), .int a1] M out := by
  refine ofCv (cc := b_MO_adopt) (maxL := 3) (by decide) rfl (rfl) (Nat.le_of_ble_eq_true rfl) ?_
  intro p e s m args below meth c Q G0 ls g hx hb hml hown hts hK hZ hP hS hl hret
  have hown : s.vm.findClass R_MO = some m.cls := hown
  have hl : lv_has ls 3 [(0, .ref (x.2.1 26)), (1, .int a1)] := hl
  obtain ⟨H, eH⟩ : ∃ z, z = s.heap := ⟨_, rfl⟩
  obtain ⟨locs, eL⟩ : ∃ z, z = ([] : List Loc) := ⟨_, rfl⟩
  rw [← eH] at hP
  have hS : va_S (A0 x) s.heap H locs := by rw [eH, eL]; exact hS
  rw [← eL]
  have key : W p l e r_MO_adopt s m args below meth c H locs 0 0 Q (F0 m 0 ls []) := by
    clear eH eL
    unfold s_MO_adopt at h
    refine lv_aload_n hx hb d_MO_adopt_0 rfl (lv_at hl 0 rfl) ?_
    refine gf_MO_70 hx hb hts hown hK hP d_MO_adopt_1 ?_
    refine lv_iload_n hx hb d_MO_adopt_4 rfl (lv_at hl 1 rfl) ?_
    refine lv_aload_n hx hb d_MO_adopt_5 rfl (lv_at hl 0 rfl) ?_
    refine gf_MO_130 hx hb hts hown hK hP d_MO_adopt_6 ?_
    obtain ⟨b21, h⟩ := ck_e h
    obtain ⟨M22, eM22, h⟩ := nx_e h
    refine m_ast hx hb hK hJ hP hS ar_MO_briefLength b21 eM22 d_MO_adopt_9 (fun H locs hP hS => ?_)
    refine lv_iconst (v := (0 : Int32)) hx hb d_MO_adopt_10 (by decide) ?_
    obtain ⟨v23, ev23, h⟩ := nx_e h
    refine tp_i ev23 ?_
    refine lv_istore_n hx hb d_MO_adopt_11 rfl hl (by decide) rfl (fun ls hl => ?_)
    have hl : lv_has ls 3 [(2, .int v23), (0, .ref (x.2.1 26)), (1, .int a1)] := hl
    obtain ⟨P12, eP12⟩ : ∃ P : (Int32 × Mem) → Prop, P = (fun q => ∀ (H : Heap) (locs : List Loc) (ls : Array Slot), va_P x.1 vwCl (wld x (q.2)) H → va_S (A0 x) s.heap H locs → lv_has ls 3 [(0, .ref (x.2.1 26)), (1, .int a1), (2, .int (q.1))] → W p l e r_MO_adopt s m args below meth c H locs 0 0 Q (F0 m 12 ls [])) := ⟨_, rfl⟩
    have L12 : P12 (v23, M22) := by
      refine lp_walk (G := G0) ?_ h g
      intro q res h g
      obtain ⟨v24, M25⟩ := q
      rw [eP12]
      intro H locs ls hP hS hl
      have hP : va_P x.1 vwCl (wld x M25) H := hP
      have hl : lv_has ls 3 [(0, .ref (x.2.1 26)), (1, .int a1), (2, .int v24)] := hl
      have h : l_MO_adopt_12 a1 v24 M25 = some res := h
      unfold l_MO_adopt_12 at h
      refine lv_iload_n hx hb d_MO_adopt_12 rfl (lv_at hl 2 rfl) ?_
      refine lv_aload_n hx hb d_MO_adopt_13 rfl (lv_at hl 0 rfl) ?_
      refine gf_MO_130 hx hb hts hown hK hP d_MO_adopt_14 ?_
      refine lv_icmp_ge (tgt := 43) hx hb d_MO_adopt_17 rfl (fun hc => ?_) (fun hc => ?_)
      · have h := if_p hc h
        obtain rfl := Option.some.inj h
        exact hret d_MO_adopt_43 g hP hS
      · have h := if_m hc h
        refine lv_aload_n hx hb d_MO_adopt_20 rfl (lv_at hl 0 rfl) ?_
        refine gf_MO_67 hx hb hts hown hK hP d_MO_adopt_21 ?_
        refine lv_bipush (v := (6 : Int32)) hx hb d_MO_adopt_24 (by decide) ?_
        refine lv_iload_n hx hb d_MO_adopt_26 rfl (lv_at hl 1 rfl) ?_
        refine lv_imul hx hb d_MO_adopt_27 ?_
        refine lv_iload_n hx hb d_MO_adopt_28 rfl (lv_at hl 2 rfl) ?_
        refine lv_iadd hx hb d_MO_adopt_29 ?_
        refine lv_aload_n hx hb d_MO_adopt_30 rfl (lv_at hl 0 rfl) ?_
        refine gf_MO_22 hx hb hts hown hK hP d_MO_adopt_31 ?_
        refine lv_iload_n hx hb d_MO_adopt_34 rfl (lv_at hl 2 rfl) ?_
        obtain ⟨b26, h⟩ := ck_e h
        refine m_ald hx hb hK hP ar_MO_tape b26 d_MO_adopt_35 ?_
        obtain ⟨b27, h⟩ := ck_e h
        obtain ⟨M28, eM28, h⟩ := nx_e h
        refine m_ast hx hb hK hJ hP hS ar_MO_brief b27 eM28 d_MO_adopt_36 (fun H locs hP hS => ?_)
        obtain ⟨v29, ev29, h⟩ := nx_e h
        refine lv_iinc (k := 2) hx hb d_MO_adopt_37 hl rfl (iinc_v (k := (1 : Int32)) (by decide) ev29) (by decide) rfl (fun ls hl => ?_)
        have hl : lv_has ls 3 [(2, .int v29), (0, .ref (x.2.1 26)), (1, .int a1)] := hl
        refine lv_goto (tgt := 12) hx hb d_MO_adopt_40 rfl ?_
        obtain rfl := Option.some.inj h
        have g : P12 (v29, M28) := g
        rw [eP12] at g
        exact g H locs ls hP hS (lv_sub hl [1, 2, 0] rfl)
    rw [eP12] at L12
    exact L12 H locs ls hP hS (lv_sub hl [1, 2, 0] rfl)
  rw [eH] at key
  exact key
theorem d_MO_part_0 : decode b_MO_part 0 = .ok (.aload_n 0, 1) := by decide +kernel
theorem d_MO_part_1 : decode b_MO_part 1 = .ok (.getfield 70, 3) := by decide +kernel
theorem d_MO_part_4 : decode b_MO_part 4 = .ok (.iload_n 1, 1) := by decide +kernel
theorem d_MO_part_5 : decode b_MO_part 5 = .ok (.iaload, 1) := by decide +kernel
theorem d_MO_part_6 : decode b_MO_part 6 = .ok (.istore 4, 2) := by decide +kernel
theorem d_MO_part_8 : decode b_MO_part 8 = .ok (.iconst 0, 1) := by decide +kernel
theorem d_MO_part_9 : decode b_MO_part 9 = .ok (.istore 5, 2) := by decide +kernel
theorem d_MO_part_11 : decode b_MO_part 11 = .ok (.iload 5, 2) := by decide +kernel
theorem d_MO_part_13 : decode b_MO_part 13 = .ok (.iload_n 2, 1) := by decide +kernel
theorem d_MO_part_14 : decode b_MO_part 14 = .ok (.if_icmp .ge 41, 3) := by decide +kernel
theorem d_MO_part_17 : decode b_MO_part 17 = .ok (.aload_n 0, 1) := by decide +kernel
theorem d_MO_part_18 : decode b_MO_part 18 = .ok (.iload_n 1, 1) := by decide +kernel
theorem d_MO_part_19 : decode b_MO_part 19 = .ok (.iload 5, 2) := by decide +kernel
theorem d_MO_part_21 : decode b_MO_part 21 = .ok (.iload 4, 2) := by decide +kernel
theorem d_MO_part_23 : decode b_MO_part 23 = .ok (.imul, 1) := by decide +kernel
theorem d_MO_part_24 : decode b_MO_part 24 = .ok (.iload_n 2, 1) := by decide +kernel
theorem d_MO_part_25 : decode b_MO_part 25 = .ok (.idiv, 1) := by decide +kernel
theorem d_MO_part_26 : decode b_MO_part 26 = .ok (.iload 5, 2) := by decide +kernel
theorem d_MO_part_28 : decode b_MO_part 28 = .ok (.iconst 1, 1) := by decide +kernel
theorem d_MO_part_29 : decode b_MO_part 29 = .ok (.iadd, 1) := by decide +kernel
theorem d_MO_part_30 : decode b_MO_part 30 = .ok (.iload 4, 2) := by decide +kernel
theorem d_MO_part_32 : decode b_MO_part 32 = .ok (.imul, 1) := by decide +kernel
theorem d_MO_part_33 : decode b_MO_part 33 = .ok (.iload_n 2, 1) := by decide +kernel
theorem d_MO_part_34 : decode b_MO_part 34 = .ok (.idiv, 1) := by decide +kernel
theorem d_MO_part_35 : decode b_MO_part 35 = .ok (.iload_n 3, 1) := by decide +kernel
theorem d_MO_part_36 : decode b_MO_part 36 = .ok (.invokevirtual 194, 3) := by decide +kernel
theorem d_MO_part_39 : decode b_MO_part 39 = .ok (.ifCond .eq 10, 3) := by decide +kernel
theorem d_MO_part_42 : decode b_MO_part 42 = .ok (.aload_n 0, 1) := by decide +kernel
theorem d_MO_part_43 : decode b_MO_part 43 = .ok (.iload_n 1, 1) := by decide +kernel
theorem d_MO_part_44 : decode b_MO_part 44 = .ok (.invokevirtual 198, 3) := by decide +kernel
theorem d_MO_part_47 : decode b_MO_part 47 = .ok (.iconst 1, 1) := by decide +kernel
theorem d_MO_part_48 : decode b_MO_part 48 = .ok (.ireturn, 1) := by decide +kernel
theorem d_MO_part_49 : decode b_MO_part 49 = .ok (.iinc 5 1, 3) := by decide +kernel
theorem d_MO_part_52 : decode b_MO_part 52 = .ok (.goto (-41), 3) := by decide +kernel
theorem d_MO_part_55 : decode b_MO_part 55 = .ok (.iconst 0, 1) := by decide +kernel
theorem d_MO_part_56 : decode b_MO_part 56 = .ok (.ireturn, 1) := by decide +kernel
noncomputable def j_MO_part_42 (a21 : Int32) (M22 : Mem) : Option (Int32 × Mem) :=
  bv (s_MO_adopt a21 M22) (fun M23 => some ((1 : Int32), M23))
noncomputable def l_MO_part_11 (a1 : Int32) (a2 : Int32) (a3 : Int32) (v26 : Int32) (v28 : Int32) (M29 : Mem) : Option ((Int32 × Mem) ⊕ (Int32 × Mem)) :=
  if a2 ≤ v28 then (some (.inr ((0 : Int32), M29))) else (cz a2 (cz a2 (bi (s_MO_still a1 ((v28 * v26) / a2) (((v28 + (1 : Int32)) * v26) / a2) a3 M29) (fun r34 M32 => if r34 = 0 then (nx (v28 + (1 : Int32)) (fun v35 => some (.inl (v35, M32)))) else (jw1 (j_MO_part_42 a1 M32))))))
noncomputable def s_MO_part (a1 : Int32) (a2 : Int32) (a3 : Int32) (M : Mem) : Option (Int32 × Mem) :=
  ck a1 8 (nx (M 47 a1.toNatClampNeg) (fun v26 => nx ((0 : Int32)) (fun v27 => lp (fun q : Int32 × Mem => l_MO_part_11 a1 a2 a3 v26 q.1 q.2) (v27, M))))
set_option maxHeartbeats 4000000 in
set_option maxRecDepth 100000 in
theorem c_MO_part (l : Launch) (x : Cx) (hJ : Inj x) (a1 : Int32) (a2 : Int32) (a3 : Int32) {M : Mem} {out : Int32 × Mem} (h : s_MO_part a1 a2 a3 M = some out) : Ci l x y_MO_part (Cond.code y_MO_part b_MO_part 6 (some .boolean) :: tb) r_MO_part [.ref (x.2.1 26), .int a1, .int a2, .int a3] M out := by
  refine ofCz (cc := b_MO_part) (maxL := 6) (by decide) rfl (rfl) (Nat.le_of_ble_eq_true rfl) ?_
  intro p e s m args below meth c Q G0 ls g hx hb hml hown hts hK hZ hP hS hl hret
  have hown : s.vm.findClass R_MO = some m.cls := hown
  have hl : lv_has ls 6 [(0, .ref (x.2.1 26)), (1, .int a1), (2, .int a2), (3, .int a3)] := hl
  obtain ⟨H, eH⟩ : ∃ z, z = s.heap := ⟨_, rfl⟩
  obtain ⟨locs, eL⟩ : ∃ z, z = ([] : List Loc) := ⟨_, rfl⟩
  rw [← eH] at hP
  have hS : va_S (A0 x) s.heap H locs := by rw [eH, eL]; exact hS
  rw [← eL]
  have key : W p l e r_MO_part s m args below meth c H locs 0 0 Q (F0 m 0 ls []) := by
    clear eH eL
    unfold s_MO_part at h
    have J42 : ∀ (a21 : Int32) (M22 : Mem)  (res : Int32 × Mem) (h : j_MO_part_42 a21 M22 = some res) (g : G0 res) (H : Heap) (locs : List Loc) (ls : Array Slot) (hP : va_P x.1 vwCl (wld x M22) H) (hS : va_S (A0 x) s.heap H locs) (hl : lv_has ls 6 [(0, .ref (x.2.1 26)), (1, .int a21)]), W p l e r_MO_part s m args below meth c H locs 0 0 Q (F0 m 42 ls []) := by
      intro a21 M22 res h g H locs ls hP hS hl
      unfold j_MO_part_42 at h
      refine lv_aload_n hx hb d_MO_part_42 rfl (lv_at hl 0 rfl) ?_
      refine lv_iload_n hx hb d_MO_part_43 rfl (lv_at hl 1 rfl) ?_
      obtain ⟨M23, c24, h⟩ := bv_e h
      refine cl_MO_198 (rest := []) (R := r_MO_part) (c_MO_adopt l x hJ a21 c24) hx hb hml hts hown hK hZ hP hS hl.1 (Nat.le_of_ble_eq_true rfl) (Nat.le_of_ble_eq_true rfl) (Nat.le_of_ble_eq_true rfl) ⟨rfl, rfl, Nat.zero_le _, Nat.zero_le _⟩ d_MO_part_44 (fun H locs hP hS => ?_)
      refine lv_iconst (v := (1 : Int32)) hx hb d_MO_part_47 (by decide) ?_
      obtain rfl := Option.some.inj h
      exact hret (by decide) d_MO_part_48 g hP hS
    refine lv_aload_n hx hb d_MO_part_0 rfl (lv_at hl 0 rfl) ?_
    refine gf_MO_70 hx hb hts hown hK hP d_MO_part_1 ?_
    refine lv_iload_n hx hb d_MO_part_4 rfl (lv_at hl 1 rfl) ?_
    obtain ⟨b25, h⟩ := ck_e h
    refine m_ald hx hb hK hP ar_MO_briefLength b25 d_MO_part_5 ?_
    obtain ⟨v26, ev26, h⟩ := nx_e h
    refine tp_i ev26 ?_
    refine lv_istore hx hb d_MO_part_6 hl (by decide) rfl (fun ls hl => ?_)
    have hl : lv_has ls 6 [(4, .int v26), (0, .ref (x.2.1 26)), (1, .int a1), (2, .int a2), (3, .int a3)] := hl
    refine lv_iconst (v := (0 : Int32)) hx hb d_MO_part_8 (by decide) ?_
    obtain ⟨v27, ev27, h⟩ := nx_e h
    refine tp_i ev27 ?_
    refine lv_istore hx hb d_MO_part_9 hl (by decide) rfl (fun ls hl => ?_)
    have hl : lv_has ls 6 [(5, .int v27), (4, .int v26), (0, .ref (x.2.1 26)), (1, .int a1), (2, .int a2), (3, .int a3)] := hl
    obtain ⟨P11, eP11⟩ : ∃ P : (Int32 × Mem) → Prop, P = (fun q => ∀ (H : Heap) (locs : List Loc) (ls : Array Slot), va_P x.1 vwCl (wld x (q.2)) H → va_S (A0 x) s.heap H locs → lv_has ls 6 [(0, .ref (x.2.1 26)), (1, .int a1), (2, .int a2), (3, .int a3), (4, .int v26), (5, .int (q.1))] → W p l e r_MO_part s m args below meth c H locs 0 0 Q (F0 m 11 ls [])) := ⟨_, rfl⟩
    have L11 : P11 (v27, M) := by
      refine lp_walk (G := G0) ?_ h g
      intro q res h g
      obtain ⟨v28, M29⟩ := q
      rw [eP11]
      intro H locs ls hP hS hl
      have hP : va_P x.1 vwCl (wld x M29) H := hP
      have hl : lv_has ls 6 [(0, .ref (x.2.1 26)), (1, .int a1), (2, .int a2), (3, .int a3), (4, .int v26), (5, .int v28)] := hl
      have h : l_MO_part_11 a1 a2 a3 v26 v28 M29 = some res := h
      unfold l_MO_part_11 at h
      refine lv_iload hx hb d_MO_part_11 (lv_at hl 5 rfl) ?_
      refine lv_iload_n hx hb d_MO_part_13 rfl (lv_at hl 2 rfl) ?_
      refine lv_icmp_ge (tgt := 55) hx hb d_MO_part_14 rfl (fun hc => ?_) (fun hc => ?_)
      · have h := if_p hc h
        refine lv_iconst (v := (0 : Int32)) hx hb d_MO_part_55 (by decide) ?_
        obtain rfl := Option.some.inj h
        exact hret (by decide) d_MO_part_56 g hP hS
      · have h := if_m hc h
        refine lv_aload_n hx hb d_MO_part_17 rfl (lv_at hl 0 rfl) ?_
        refine lv_iload_n hx hb d_MO_part_18 rfl (lv_at hl 1 rfl) ?_
        refine lv_iload hx hb d_MO_part_19 (lv_at hl 5 rfl) ?_
        refine lv_iload hx hb d_MO_part_21 (lv_at hl 4 rfl) ?_
        refine lv_imul hx hb d_MO_part_23 ?_
        refine lv_iload_n hx hb d_MO_part_24 rfl (lv_at hl 2 rfl) ?_
        obtain ⟨z30, h⟩ := cz_e h
        refine lv_idiv hx hb d_MO_part_25 z30 ?_
        refine lv_iload hx hb d_MO_part_26 (lv_at hl 5 rfl) ?_
        refine lv_iconst (v := (1 : Int32)) hx hb d_MO_part_28 (by decide) ?_
        refine lv_iadd hx hb d_MO_part_29 ?_
        refine lv_iload hx hb d_MO_part_30 (lv_at hl 4 rfl) ?_
        refine lv_imul hx hb d_MO_part_32 ?_
        refine lv_iload_n hx hb d_MO_part_33 rfl (lv_at hl 2 rfl) ?_
        obtain ⟨z31, h⟩ := cz_e h
        refine lv_idiv hx hb d_MO_part_34 z31 ?_
        refine lv_iload_n hx hb d_MO_part_35 rfl (lv_at hl 3 rfl) ?_
        obtain ⟨r34, M32, c33, h⟩ := bi_e h
        refine cl_MO_194 (rest := []) (R := r_MO_part) (c_MO_still l x hJ a1 ((v28 * v26) / a2) (((v28 + (1 : Int32)) * v26) / a2) a3 c33) hx hb hml hts hown hK hZ hP hS hl.1 (Nat.le_of_ble_eq_true rfl) (Nat.le_of_ble_eq_true rfl) (Nat.le_of_ble_eq_true rfl) ⟨rfl, rfl, Nat.zero_le _, Nat.zero_le _⟩ d_MO_part_36 (fun H locs hP hS => ?_)
        refine lv_if_eq (tgt := 49) hx hb d_MO_part_39 rfl (fun hc => ?_) (fun hc => ?_)
        · have h := if_p hc h
          obtain ⟨v35, ev35, h⟩ := nx_e h
          refine lv_iinc (k := 5) hx hb d_MO_part_49 hl rfl (iinc_v (k := (1 : Int32)) (by decide) ev35) (by decide) rfl (fun ls hl => ?_)
          have hl : lv_has ls 6 [(5, .int v35), (0, .ref (x.2.1 26)), (1, .int a1), (2, .int a2), (3, .int a3), (4, .int v26)] := hl
          refine lv_goto (tgt := 11) hx hb d_MO_part_52 rfl ?_
          obtain rfl := Option.some.inj h
          have g : P11 (v35, M32) := g
          rw [eP11] at g
          exact g H locs ls hP hS (lv_sub hl [1, 2, 3, 4, 5, 0] rfl)
        · have h := if_m hc h
          obtain ⟨res2, hres, h2⟩ := jw1_e h
          clear h
          subst hres
          have h := h2
          exact J42 a1 M32 _ h g H locs ls hP hS (lv_sub hl [0, 1] rfl)
    rw [eP11] at L11
    exact L11 H locs ls hP hS (lv_sub hl [2, 3, 4, 5, 1, 0] rfl)
  rw [eH] at key
  exact key
theorem d_MO_shorten_0 : decode b_MO_shorten 0 = .ok (.iconst 2, 1) := by decide +kernel
theorem d_MO_shorten_1 : decode b_MO_shorten 1 = .ok (.istore_n 2, 1) := by decide +kernel
theorem d_MO_shorten_2 : decode b_MO_shorten 2 = .ok (.iconst 0, 1) := by decide +kernel
theorem d_MO_shorten_3 : decode b_MO_shorten 3 = .ok (.istore_n 3, 1) := by decide +kernel
theorem d_MO_shorten_4 : decode b_MO_shorten 4 = .ok (.iload_n 3, 1) := by decide +kernel
theorem d_MO_shorten_5 : decode b_MO_shorten 5 = .ok (.ifCond .ne 121, 3) := by decide +kernel
theorem d_MO_shorten_8 : decode b_MO_shorten 8 = .ok (.aload_n 0, 1) := by decide +kernel
theorem d_MO_shorten_9 : decode b_MO_shorten 9 = .ok (.getfield 70, 3) := by decide +kernel
theorem d_MO_shorten_12 : decode b_MO_shorten 12 = .ok (.iload_n 1, 1) := by decide +kernel
theorem d_MO_shorten_13 : decode b_MO_shorten 13 = .ok (.iaload, 1) := by decide +kernel
theorem d_MO_shorten_14 : decode b_MO_shorten 14 = .ok (.ifCond .le 112, 3) := by decide +kernel
theorem d_MO_shorten_17 : decode b_MO_shorten 17 = .ok (.aload_n 0, 1) := by decide +kernel
theorem d_MO_shorten_18 : decode b_MO_shorten 18 = .ok (.getfield 70, 3) := by decide +kernel
theorem d_MO_shorten_21 : decode b_MO_shorten 21 = .ok (.iload_n 1, 1) := by decide +kernel
theorem d_MO_shorten_22 : decode b_MO_shorten 22 = .ok (.iaload, 1) := by decide +kernel
theorem d_MO_shorten_23 : decode b_MO_shorten 23 = .ok (.istore 4, 2) := by decide +kernel
theorem d_MO_shorten_25 : decode b_MO_shorten 25 = .ok (.iload_n 2, 1) := by decide +kernel
theorem d_MO_shorten_26 : decode b_MO_shorten 26 = .ok (.iload 4, 2) := by decide +kernel
theorem d_MO_shorten_28 : decode b_MO_shorten 28 = .ok (.if_icmp .ge 7, 3) := by decide +kernel
theorem d_MO_shorten_31 : decode b_MO_shorten 31 = .ok (.iload_n 2, 1) := by decide +kernel
theorem d_MO_shorten_32 : decode b_MO_shorten 32 = .ok (.goto 5, 3) := by decide +kernel
theorem d_MO_shorten_35 : decode b_MO_shorten 35 = .ok (.iload 4, 2) := by decide +kernel
theorem d_MO_shorten_37 : decode b_MO_shorten 37 = .ok (.istore 5, 2) := by decide +kernel
theorem d_MO_shorten_39 : decode b_MO_shorten 39 = .ok (.iload 5, 2) := by decide +kernel
theorem d_MO_shorten_41 : decode b_MO_shorten 41 = .ok (.iconst 2, 1) := by decide +kernel
theorem d_MO_shorten_42 : decode b_MO_shorten 42 = .ok (.if_icmp .lt 19, 3) := by decide +kernel
theorem d_MO_shorten_45 : decode b_MO_shorten 45 = .ok (.aload_n 0, 1) := by decide +kernel
theorem d_MO_shorten_46 : decode b_MO_shorten 46 = .ok (.iload_n 1, 1) := by decide +kernel
theorem d_MO_shorten_47 : decode b_MO_shorten 47 = .ok (.iload 5, 2) := by decide +kernel
theorem d_MO_shorten_49 : decode b_MO_shorten 49 = .ok (.iconst 1, 1) := by decide +kernel
theorem d_MO_shorten_50 : decode b_MO_shorten 50 = .ok (.invokevirtual 201, 3) := by decide +kernel
theorem d_MO_shorten_53 : decode b_MO_shorten 53 = .ok (.ifCond .eq 8, 3) := by decide +kernel
theorem d_MO_shorten_56 : decode b_MO_shorten 56 = .ok (.iconst 2, 1) := by decide +kernel
theorem d_MO_shorten_57 : decode b_MO_shorten 57 = .ok (.istore_n 2, 1) := by decide +kernel
theorem d_MO_shorten_58 : decode b_MO_shorten 58 = .ok (.goto 65, 3) := by decide +kernel
theorem d_MO_shorten_61 : decode b_MO_shorten 61 = .ok (.aload_n 0, 1) := by decide +kernel
theorem d_MO_shorten_62 : decode b_MO_shorten 62 = .ok (.iload_n 1, 1) := by decide +kernel
theorem d_MO_shorten_63 : decode b_MO_shorten 63 = .ok (.iload 5, 2) := by decide +kernel
theorem d_MO_shorten_65 : decode b_MO_shorten 65 = .ok (.iconst 0, 1) := by decide +kernel
theorem d_MO_shorten_66 : decode b_MO_shorten 66 = .ok (.invokevirtual 201, 3) := by decide +kernel
theorem d_MO_shorten_69 : decode b_MO_shorten 69 = .ok (.ifCond .eq 23, 3) := by decide +kernel
theorem d_MO_shorten_72 : decode b_MO_shorten 72 = .ok (.iload 5, 2) := by decide +kernel
theorem d_MO_shorten_74 : decode b_MO_shorten 74 = .ok (.iconst 1, 1) := by decide +kernel
theorem d_MO_shorten_75 : decode b_MO_shorten 75 = .ok (.isub, 1) := by decide +kernel
theorem d_MO_shorten_76 : decode b_MO_shorten 76 = .ok (.iconst 2, 1) := by decide +kernel
theorem d_MO_shorten_77 : decode b_MO_shorten 77 = .ok (.if_icmp .le 10, 3) := by decide +kernel
theorem d_MO_shorten_80 : decode b_MO_shorten 80 = .ok (.iload 5, 2) := by decide +kernel
theorem d_MO_shorten_82 : decode b_MO_shorten 82 = .ok (.iconst 1, 1) := by decide +kernel
theorem d_MO_shorten_83 : decode b_MO_shorten 83 = .ok (.isub, 1) := by decide +kernel
theorem d_MO_shorten_84 : decode b_MO_shorten 84 = .ok (.goto 4, 3) := by decide +kernel
theorem d_MO_shorten_87 : decode b_MO_shorten 87 = .ok (.iconst 2, 1) := by decide +kernel
theorem d_MO_shorten_88 : decode b_MO_shorten 88 = .ok (.istore_n 2, 1) := by decide +kernel
theorem d_MO_shorten_89 : decode b_MO_shorten 89 = .ok (.goto 34, 3) := by decide +kernel
theorem d_MO_shorten_92 : decode b_MO_shorten 92 = .ok (.iload 5, 2) := by decide +kernel
theorem d_MO_shorten_94 : decode b_MO_shorten 94 = .ok (.iload 4, 2) := by decide +kernel
theorem d_MO_shorten_96 : decode b_MO_shorten 96 = .ok (.if_icmp .ne 8, 3) := by decide +kernel
theorem d_MO_shorten_99 : decode b_MO_shorten 99 = .ok (.iconst 1, 1) := by decide +kernel
theorem d_MO_shorten_100 : decode b_MO_shorten 100 = .ok (.istore_n 3, 1) := by decide +kernel
theorem d_MO_shorten_101 : decode b_MO_shorten 101 = .ok (.goto 22, 3) := by decide +kernel
theorem d_MO_shorten_104 : decode b_MO_shorten 104 = .ok (.iconst 2, 1) := by decide +kernel
theorem d_MO_shorten_105 : decode b_MO_shorten 105 = .ok (.iload 5, 2) := by decide +kernel
theorem d_MO_shorten_107 : decode b_MO_shorten 107 = .ok (.imul, 1) := by decide +kernel
theorem d_MO_shorten_108 : decode b_MO_shorten 108 = .ok (.iload 4, 2) := by decide +kernel
theorem d_MO_shorten_110 : decode b_MO_shorten 110 = .ok (.if_icmp .ge 10, 3) := by decide +kernel
theorem d_MO_shorten_113 : decode b_MO_shorten 113 = .ok (.iconst 2, 1) := by decide +kernel
theorem d_MO_shorten_114 : decode b_MO_shorten 114 = .ok (.iload 5, 2) := by decide +kernel
theorem d_MO_shorten_116 : decode b_MO_shorten 116 = .ok (.imul, 1) := by decide +kernel
theorem d_MO_shorten_117 : decode b_MO_shorten 117 = .ok (.goto 5, 3) := by decide +kernel
theorem d_MO_shorten_120 : decode b_MO_shorten 120 = .ok (.iload 4, 2) := by decide +kernel
theorem d_MO_shorten_122 : decode b_MO_shorten 122 = .ok (.istore_n 2, 1) := by decide +kernel
theorem d_MO_shorten_123 : decode b_MO_shorten 123 = .ok (.goto (-119), 3) := by decide +kernel
theorem d_MO_shorten_126 : decode b_MO_shorten 126 = .ok (.return_, 1) := by decide +kernel
noncomputable def j_MO_shorten_123 (a1 : Int32) (a26 : Int32) (a27 : Int32) (M28 : Mem) : Option ((Int32 × Int32 × Mem) ⊕ Mem) :=
  some (.inl (a26, a27, M28))
noncomputable def j_MO_shorten_122 (a1 : Int32) (a29 : Int32) (a30 : Int32) (M31 : Mem) : Option ((Int32 × Int32 × Mem) ⊕ Mem) :=
  j_MO_shorten_123 a1 a30 a29 M31
noncomputable def j_MO_shorten_88 (a1 : Int32) (a32 : Int32) (a33 : Int32) (M34 : Mem) : Option ((Int32 × Int32 × Mem) ⊕ Mem) :=
  j_MO_shorten_123 a1 a33 a32 M34
noncomputable def j_MO_shorten_61 (a1 : Int32) (a35 : Int32) (a36 : Int32) (a37 : Int32) (a38 : Int32) (M39 : Mem) : Option ((Int32 × Int32 × Mem) ⊕ Mem) :=
  bi (s_MO_part a1 a38 (0 : Int32) M39) (fun r42 M40 => if r42 = 0 then (if a38 = a37 then (nx ((1 : Int32)) (fun v43 => j_MO_shorten_123 a1 a35 v43 M40)) else (if a37 ≤ ((2 : Int32) * a38) then (j_MO_shorten_122 a1 a36 a37 M40) else (j_MO_shorten_122 a1 a36 ((2 : Int32) * a38) M40))) else (if (a38 - (1 : Int32)) ≤ (2 : Int32) then (j_MO_shorten_88 a1 a36 (2 : Int32) M40) else (j_MO_shorten_88 a1 a36 (a38 - (1 : Int32)) M40)))
noncomputable def j_MO_shorten_37 (a1 : Int32) (a44 : Int32) (a45 : Int32) (a46 : Int32) (a47 : Int32) (M48 : Mem) : Option ((Int32 × Int32 × Mem) ⊕ Mem) :=
  if a47 < (2 : Int32) then (j_MO_shorten_61 a1 a44 a45 a46 a47 M48) else (bi (s_MO_part a1 a47 (1 : Int32) M48) (fun r51 M49 => if r51 = 0 then (j_MO_shorten_61 a1 a44 a45 a46 a47 M49) else (nx ((2 : Int32)) (fun v52 => j_MO_shorten_123 a1 v52 a45 M49))))
noncomputable def l_MO_shorten_4 (a1 : Int32) (v23 : Int32) (v24 : Int32) (M25 : Mem) : Option ((Int32 × Int32 × Mem) ⊕ (Mem)) :=
  if v24 = 0 then (ck a1 8 (if (M25 47 a1.toNatClampNeg) ≤ 0 then (some (.inr M25)) else (ck a1 8 (nx (M25 47 a1.toNatClampNeg) (fun v55 => if v55 ≤ v23 then (j_MO_shorten_37 a1 v23 v24 v55 v55 M25) else (j_MO_shorten_37 a1 v23 v24 v55 v23 M25)))))) else (some (.inr M25))
noncomputable def s_MO_shorten (a1 : Int32) (M : Mem) : Option (Mem) :=
  nx ((2 : Int32)) (fun v21 => nx ((0 : Int32)) (fun v22 => lp (fun q : Int32 × Int32 × Mem => l_MO_shorten_4 a1 q.1 q.2.1 q.2.2) (v21, v22, M)))
set_option maxHeartbeats 4000000 in
set_option maxRecDepth 100000 in
theorem c_MO_shorten (l : Launch) (x : Cx) (hJ : Inj x) (a1 : Int32) {M : Mem} {out : Mem} (h : s_MO_shorten a1 M = some out) : Cv l x y_MO_shorten (Cond.code y_MO_shorten b_MO_shorten 6 none :: tb) r_MO_shorten [.ref (x.2.1 26), .int a1] M out := by
  refine ofCv (cc := b_MO_shorten) (maxL := 6) (by decide) rfl (rfl) (Nat.le_of_ble_eq_true rfl) ?_
  intro p e s m args below meth c Q G0 ls g hx hb hml hown hts hK hZ hP hS hl hret
  have hown : s.vm.findClass R_MO = some m.cls := hown
  have hl : lv_has ls 6 [(0, .ref (x.2.1 26)), (1, .int a1)] := hl
  obtain ⟨H, eH⟩ : ∃ z, z = s.heap := ⟨_, rfl⟩
  obtain ⟨locs, eL⟩ : ∃ z, z = ([] : List Loc) := ⟨_, rfl⟩
  rw [← eH] at hP
  have hS : va_S (A0 x) s.heap H locs := by rw [eH, eL]; exact hS
  rw [← eL]
  have key : W p l e r_MO_shorten s m args below meth c H locs 0 0 Q (F0 m 0 ls []) := by
    clear eH eL
    unfold s_MO_shorten at h
    refine lv_iconst (v := (2 : Int32)) hx hb d_MO_shorten_0 (by decide) ?_
    obtain ⟨v21, ev21, h⟩ := nx_e h
    refine tp_i ev21 ?_
    refine lv_istore_n hx hb d_MO_shorten_1 rfl hl (by decide) rfl (fun ls hl => ?_)
    have hl : lv_has ls 6 [(2, .int v21), (0, .ref (x.2.1 26)), (1, .int a1)] := hl
    refine lv_iconst (v := (0 : Int32)) hx hb d_MO_shorten_2 (by decide) ?_
    obtain ⟨v22, ev22, h⟩ := nx_e h
    refine tp_i ev22 ?_
    refine lv_istore_n hx hb d_MO_shorten_3 rfl hl (by decide) rfl (fun ls hl => ?_)
    have hl : lv_has ls 6 [(3, .int v22), (2, .int v21), (0, .ref (x.2.1 26)), (1, .int a1)] := hl
    obtain ⟨P4, eP4⟩ : ∃ P : (Int32 × Int32 × Mem) → Prop, P = (fun q => ∀ (H : Heap) (locs : List Loc) (ls : Array Slot), va_P x.1 vwCl (wld x (q.2.2)) H → va_S (A0 x) s.heap H locs → lv_has ls 6 [(0, .ref (x.2.1 26)), (1, .int a1), (2, .int (q.1)), (3, .int (q.2.1))] → W p l e r_MO_shorten s m args below meth c H locs 0 0 Q (F0 m 4 ls [])) := ⟨_, rfl⟩
    have L4 : P4 (v21, v22, M) := by
      refine lp_walk (G := G0) ?_ h g
      intro q res h g
      obtain ⟨v23, v24, M25⟩ := q
      rw [eP4]
      intro H locs ls hP hS hl
      have hP : va_P x.1 vwCl (wld x M25) H := hP
      have hl : lv_has ls 6 [(0, .ref (x.2.1 26)), (1, .int a1), (2, .int v23), (3, .int v24)] := hl
      have h : l_MO_shorten_4 a1 v23 v24 M25 = some res := h
      unfold l_MO_shorten_4 at h
      have J123 : ∀ (a26 : Int32) (a27 : Int32) (M28 : Mem)  (res : (Int32 × Int32 × Mem) ⊕ Mem) (h : j_MO_shorten_123 a1 a26 a27 M28 = some res) (g : (lpG P4 G0) res) (H : Heap) (locs : List Loc) (ls : Array Slot) (hP : va_P x.1 vwCl (wld x M28) H) (hS : va_S (A0 x) s.heap H locs) (hl : lv_has ls 6 [(0, .ref (x.2.1 26)), (1, .int a1), (2, .int a26), (3, .int a27)]), W p l e r_MO_shorten s m args below meth c H locs 0 0 Q (F0 m 123 ls []) := by
        intro a26 a27 M28 res h g H locs ls hP hS hl
        unfold j_MO_shorten_123 at h
        refine lv_goto (tgt := 4) hx hb d_MO_shorten_123 rfl ?_
        obtain rfl := Option.some.inj h
        have g : P4 (a26, a27, M28) := g
        rw [eP4] at g
        exact g H locs ls hP hS (lv_sub hl [0, 1, 2, 3] rfl)
      have J122 : ∀ (a29 : Int32) (a30 : Int32) (M31 : Mem)  (res : (Int32 × Int32 × Mem) ⊕ Mem) (h : j_MO_shorten_122 a1 a29 a30 M31 = some res) (g : (lpG P4 G0) res) (H : Heap) (locs : List Loc) (ls : Array Slot) (hP : va_P x.1 vwCl (wld x M31) H) (hS : va_S (A0 x) s.heap H locs) (hl : lv_has ls 6 [(0, .ref (x.2.1 26)), (1, .int a1), (3, .int a29)]), W p l e r_MO_shorten s m args below meth c H locs 0 0 Q (F0 m 122 ls [.int a30]) := by
        intro a29 a30 M31 res h g H locs ls hP hS hl
        unfold j_MO_shorten_122 at h
        refine lv_istore_n hx hb d_MO_shorten_122 rfl hl (by decide) rfl (fun ls hl => ?_)
        have hl : lv_has ls 6 [(2, .int a30), (0, .ref (x.2.1 26)), (1, .int a1), (3, .int a29)] := hl
        exact J123 a30 a29 M31 _ h g H locs ls hP hS (lv_sub hl [1, 2, 0, 3] rfl)
      have J88 : ∀ (a32 : Int32) (a33 : Int32) (M34 : Mem)  (res : (Int32 × Int32 × Mem) ⊕ Mem) (h : j_MO_shorten_88 a1 a32 a33 M34 = some res) (g : (lpG P4 G0) res) (H : Heap) (locs : List Loc) (ls : Array Slot) (hP : va_P x.1 vwCl (wld x M34) H) (hS : va_S (A0 x) s.heap H locs) (hl : lv_has ls 6 [(0, .ref (x.2.1 26)), (1, .int a1), (3, .int a32)]), W p l e r_MO_shorten s m args below meth c H locs 0 0 Q (F0 m 88 ls [.int a33]) := by
        intro a32 a33 M34 res h g H locs ls hP hS hl
        unfold j_MO_shorten_88 at h
        refine lv_istore_n hx hb d_MO_shorten_88 rfl hl (by decide) rfl (fun ls hl => ?_)
        have hl : lv_has ls 6 [(2, .int a33), (0, .ref (x.2.1 26)), (1, .int a1), (3, .int a32)] := hl
        refine lv_goto (tgt := 123) hx hb d_MO_shorten_89 rfl ?_
        exact J123 a33 a32 M34 _ h g H locs ls hP hS (lv_sub hl [1, 2, 0, 3] rfl)
      have J61 : ∀ (a35 : Int32) (a36 : Int32) (a37 : Int32) (a38 : Int32) (M39 : Mem)  (res : (Int32 × Int32 × Mem) ⊕ Mem) (h : j_MO_shorten_61 a1 a35 a36 a37 a38 M39 = some res) (g : (lpG P4 G0) res) (H : Heap) (locs : List Loc) (ls : Array Slot) (hP : va_P x.1 vwCl (wld x M39) H) (hS : va_S (A0 x) s.heap H locs) (hl : lv_has ls 6 [(0, .ref (x.2.1 26)), (1, .int a1), (2, .int a35), (3, .int a36), (4, .int a37), (5, .int a38)]), W p l e r_MO_shorten s m args below meth c H locs 0 0 Q (F0 m 61 ls []) := by
        intro a35 a36 a37 a38 M39 res h g H locs ls hP hS hl
        unfold j_MO_shorten_61 at h
        refine lv_aload_n hx hb d_MO_shorten_61 rfl (lv_at hl 0 rfl) ?_
        refine lv_iload_n hx hb d_MO_shorten_62 rfl (lv_at hl 1 rfl) ?_
        refine lv_iload hx hb d_MO_shorten_63 (lv_at hl 5 rfl) ?_
        refine lv_iconst (v := (0 : Int32)) hx hb d_MO_shorten_65 (by decide) ?_
        obtain ⟨r42, M40, c41, h⟩ := bi_e h
        refine cl_MO_201 (rest := []) (R := r_MO_shorten) (c_MO_part l x hJ a1 a38 (0 : Int32) c41) hx hb hml hts hown hK hZ hP hS hl.1 (Nat.le_of_ble_eq_true rfl) (Nat.le_of_ble_eq_true rfl) (Nat.le_of_ble_eq_true rfl) ⟨rfl, rfl, Nat.zero_le _, Nat.zero_le _⟩ d_MO_shorten_66 (fun H locs hP hS => ?_)
        refine lv_if_eq (tgt := 92) hx hb d_MO_shorten_69 rfl (fun hc => ?_) (fun hc => ?_)
        · have h := if_p hc h
          refine lv_iload hx hb d_MO_shorten_92 (lv_at hl 5 rfl) ?_
          refine lv_iload hx hb d_MO_shorten_94 (lv_at hl 4 rfl) ?_
          refine lv_icmp_ne (tgt := 104) hx hb d_MO_shorten_96 rfl (fun hc => ?_) (fun hc => ?_)
          · have h := if_m hc h
            refine lv_iconst (v := (2 : Int32)) hx hb d_MO_shorten_104 (by decide) ?_
            refine lv_iload hx hb d_MO_shorten_105 (lv_at hl 5 rfl) ?_
            refine lv_imul hx hb d_MO_shorten_107 ?_
            refine lv_iload hx hb d_MO_shorten_108 (lv_at hl 4 rfl) ?_
            refine lv_icmp_ge (tgt := 120) hx hb d_MO_shorten_110 rfl (fun hc => ?_) (fun hc => ?_)
            · have h := if_p hc h
              refine lv_iload hx hb d_MO_shorten_120 (lv_at hl 4 rfl) ?_
              exact J122 a36 a37 M40 _ h g H locs ls hP hS (lv_sub hl [0, 1, 3] rfl)
            · have h := if_m hc h
              refine lv_iconst (v := (2 : Int32)) hx hb d_MO_shorten_113 (by decide) ?_
              refine lv_iload hx hb d_MO_shorten_114 (lv_at hl 5 rfl) ?_
              refine lv_imul hx hb d_MO_shorten_116 ?_
              refine lv_goto (tgt := 122) hx hb d_MO_shorten_117 rfl ?_
              exact J122 a36 ((2 : Int32) * a38) M40 _ h g H locs ls hP hS (lv_sub hl [0, 1, 3] rfl)
          · have h := if_p hc h
            refine lv_iconst (v := (1 : Int32)) hx hb d_MO_shorten_99 (by decide) ?_
            obtain ⟨v43, ev43, h⟩ := nx_e h
            refine tp_i ev43 ?_
            refine lv_istore_n hx hb d_MO_shorten_100 rfl hl (by decide) rfl (fun ls hl => ?_)
            have hl : lv_has ls 6 [(3, .int v43), (0, .ref (x.2.1 26)), (1, .int a1), (2, .int a35), (4, .int a37), (5, .int a38)] := hl
            refine lv_goto (tgt := 123) hx hb d_MO_shorten_101 rfl ?_
            exact J123 a35 v43 M40 _ h g H locs ls hP hS (lv_sub hl [1, 2, 3, 0] rfl)
        · have h := if_m hc h
          refine lv_iload hx hb d_MO_shorten_72 (lv_at hl 5 rfl) ?_
          refine lv_iconst (v := (1 : Int32)) hx hb d_MO_shorten_74 (by decide) ?_
          refine lv_isub hx hb d_MO_shorten_75 ?_
          refine lv_iconst (v := (2 : Int32)) hx hb d_MO_shorten_76 (by decide) ?_
          refine lv_icmp_le (tgt := 87) hx hb d_MO_shorten_77 rfl (fun hc => ?_) (fun hc => ?_)
          · have h := if_p hc h
            refine lv_iconst (v := (2 : Int32)) hx hb d_MO_shorten_87 (by decide) ?_
            exact J88 a36 (2 : Int32) M40 _ h g H locs ls hP hS (lv_sub hl [0, 1, 3] rfl)
          · have h := if_m hc h
            refine lv_iload hx hb d_MO_shorten_80 (lv_at hl 5 rfl) ?_
            refine lv_iconst (v := (1 : Int32)) hx hb d_MO_shorten_82 (by decide) ?_
            refine lv_isub hx hb d_MO_shorten_83 ?_
            refine lv_goto (tgt := 88) hx hb d_MO_shorten_84 rfl ?_
            exact J88 a36 (a38 - (1 : Int32)) M40 _ h g H locs ls hP hS (lv_sub hl [0, 1, 3] rfl)
      have J37 : ∀ (a44 : Int32) (a45 : Int32) (a46 : Int32) (a47 : Int32) (M48 : Mem)  (res : (Int32 × Int32 × Mem) ⊕ Mem) (h : j_MO_shorten_37 a1 a44 a45 a46 a47 M48 = some res) (g : (lpG P4 G0) res) (H : Heap) (locs : List Loc) (ls : Array Slot) (hP : va_P x.1 vwCl (wld x M48) H) (hS : va_S (A0 x) s.heap H locs) (hl : lv_has ls 6 [(0, .ref (x.2.1 26)), (1, .int a1), (2, .int a44), (3, .int a45), (4, .int a46)]), W p l e r_MO_shorten s m args below meth c H locs 0 0 Q (F0 m 37 ls [.int a47]) := by
        intro a44 a45 a46 a47 M48 res h g H locs ls hP hS hl
        unfold j_MO_shorten_37 at h
        refine lv_istore hx hb d_MO_shorten_37 hl (by decide) rfl (fun ls hl => ?_)
        have hl : lv_has ls 6 [(5, .int a47), (0, .ref (x.2.1 26)), (1, .int a1), (2, .int a44), (3, .int a45), (4, .int a46)] := hl
        refine lv_iload hx hb d_MO_shorten_39 (lv_at hl 0 rfl) ?_
        refine lv_iconst (v := (2 : Int32)) hx hb d_MO_shorten_41 (by decide) ?_
        refine lv_icmp_lt (tgt := 61) hx hb d_MO_shorten_42 rfl (fun hc => ?_) (fun hc => ?_)
        · have h := if_p hc h
          exact J61 a44 a45 a46 a47 M48 _ h g H locs ls hP hS (lv_sub hl [1, 2, 3, 4, 5, 0] rfl)
        · have h := if_m hc h
          refine lv_aload_n hx hb d_MO_shorten_45 rfl (lv_at hl 1 rfl) ?_
          refine lv_iload_n hx hb d_MO_shorten_46 rfl (lv_at hl 2 rfl) ?_
          refine lv_iload hx hb d_MO_shorten_47 (lv_at hl 0 rfl) ?_
          refine lv_iconst (v := (1 : Int32)) hx hb d_MO_shorten_49 (by decide) ?_
          obtain ⟨r51, M49, c50, h⟩ := bi_e h
          refine cl_MO_201 (rest := []) (R := r_MO_shorten) (c_MO_part l x hJ a1 a47 (1 : Int32) c50) hx hb hml hts hown hK hZ hP hS hl.1 (Nat.le_of_ble_eq_true rfl) (Nat.le_of_ble_eq_true rfl) (Nat.le_of_ble_eq_true rfl) ⟨rfl, rfl, Nat.zero_le _, Nat.zero_le _⟩ d_MO_shorten_50 (fun H locs hP hS => ?_)
          refine lv_if_eq (tgt := 61) hx hb d_MO_shorten_53 rfl (fun hc => ?_) (fun hc => ?_)
          · have h := if_p hc h
            exact J61 a44 a45 a46 a47 M49 _ h g H locs ls hP hS (lv_sub hl [1, 2, 3, 4, 5, 0] rfl)
          · have h := if_m hc h
            refine lv_iconst (v := (2 : Int32)) hx hb d_MO_shorten_56 (by decide) ?_
            obtain ⟨v52, ev52, h⟩ := nx_e h
            refine tp_i ev52 ?_
            refine lv_istore_n hx hb d_MO_shorten_57 rfl hl (by decide) rfl (fun ls hl => ?_)
            have hl : lv_has ls 6 [(2, .int v52), (5, .int a47), (0, .ref (x.2.1 26)), (1, .int a1), (3, .int a45), (4, .int a46)] := hl
            refine lv_goto (tgt := 123) hx hb d_MO_shorten_58 rfl ?_
            exact J123 v52 a45 M49 _ h g H locs ls hP hS (lv_sub hl [2, 3, 0, 4] rfl)
      refine lv_iload_n hx hb d_MO_shorten_4 rfl (lv_at hl 3 rfl) ?_
      refine lv_if_ne (tgt := 126) hx hb d_MO_shorten_5 rfl (fun hc => ?_) (fun hc => ?_)
      · have h := if_m hc h
        obtain rfl := Option.some.inj h
        exact hret d_MO_shorten_126 g hP hS
      · have h := if_p hc h
        refine lv_aload_n hx hb d_MO_shorten_8 rfl (lv_at hl 0 rfl) ?_
        refine gf_MO_70 hx hb hts hown hK hP d_MO_shorten_9 ?_
        refine lv_iload_n hx hb d_MO_shorten_12 rfl (lv_at hl 1 rfl) ?_
        obtain ⟨b53, h⟩ := ck_e h
        refine m_ald hx hb hK hP ar_MO_briefLength b53 d_MO_shorten_13 ?_
        refine lv_if_le (tgt := 126) hx hb d_MO_shorten_14 rfl (fun hc => ?_) (fun hc => ?_)
        · have h := if_p hc h
          obtain rfl := Option.some.inj h
          exact hret d_MO_shorten_126 g hP hS
        · have h := if_m hc h
          refine lv_aload_n hx hb d_MO_shorten_17 rfl (lv_at hl 0 rfl) ?_
          refine gf_MO_70 hx hb hts hown hK hP d_MO_shorten_18 ?_
          refine lv_iload_n hx hb d_MO_shorten_21 rfl (lv_at hl 1 rfl) ?_
          obtain ⟨b54, h⟩ := ck_e h
          refine m_ald hx hb hK hP ar_MO_briefLength b54 d_MO_shorten_22 ?_
          obtain ⟨v55, ev55, h⟩ := nx_e h
          refine tp_i ev55 ?_
          refine lv_istore hx hb d_MO_shorten_23 hl (by decide) rfl (fun ls hl => ?_)
          have hl : lv_has ls 6 [(4, .int v55), (0, .ref (x.2.1 26)), (1, .int a1), (2, .int v23), (3, .int v24)] := hl
          refine lv_iload_n hx hb d_MO_shorten_25 rfl (lv_at hl 3 rfl) ?_
          refine lv_iload hx hb d_MO_shorten_26 (lv_at hl 0 rfl) ?_
          refine lv_icmp_ge (tgt := 35) hx hb d_MO_shorten_28 rfl (fun hc => ?_) (fun hc => ?_)
          · have h := if_p hc h
            refine lv_iload hx hb d_MO_shorten_35 (lv_at hl 0 rfl) ?_
            exact J37 v23 v24 v55 v55 M25 _ h g H locs ls hP hS (lv_sub hl [1, 2, 3, 4, 0] rfl)
          · have h := if_m hc h
            refine lv_iload_n hx hb d_MO_shorten_31 rfl (lv_at hl 3 rfl) ?_
            refine lv_goto (tgt := 37) hx hb d_MO_shorten_32 rfl ?_
            exact J37 v23 v24 v55 v23 M25 _ h g H locs ls hP hS (lv_sub hl [1, 2, 3, 4, 0] rfl)
    rw [eP4] at L4
    exact L4 H locs ls hP hS (lv_sub hl [2, 3, 1, 0] rfl)
  rw [eH] at key
  exact key
