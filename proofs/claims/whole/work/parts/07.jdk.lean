theorem d_JA_fill_0 : decode b_JA_fill 0 = .ok (.iconst 0, 1) := by decide +kernel
theorem d_JA_fill_1 : decode b_JA_fill 1 = .ok (.istore_n 2, 1) := by decide +kernel
theorem d_JA_fill_2 : decode b_JA_fill 2 = .ok (.aload_n 0, 1) := by decide +kernel
theorem d_JA_fill_3 : decode b_JA_fill 3 = .ok (.arraylength, 1) := by decide +kernel
theorem d_JA_fill_4 : decode b_JA_fill 4 = .ok (.istore_n 3, 1) := by decide +kernel
theorem d_JA_fill_5 : decode b_JA_fill 5 = .ok (.iload_n 2, 1) := by decide +kernel
theorem d_JA_fill_6 : decode b_JA_fill 6 = .ok (.iload_n 3, 1) := by decide +kernel
theorem d_JA_fill_7 : decode b_JA_fill 7 = .ok (.if_icmp .ge 13, 3) := by decide +kernel
theorem d_JA_fill_10 : decode b_JA_fill 10 = .ok (.aload_n 0, 1) := by decide +kernel
theorem d_JA_fill_11 : decode b_JA_fill 11 = .ok (.iload_n 2, 1) := by decide +kernel
theorem d_JA_fill_12 : decode b_JA_fill 12 = .ok (.iload_n 1, 1) := by decide +kernel
theorem d_JA_fill_13 : decode b_JA_fill 13 = .ok (.iastore, 1) := by decide +kernel
theorem d_JA_fill_14 : decode b_JA_fill 14 = .ok (.iinc 2 1, 3) := by decide +kernel
theorem d_JA_fill_17 : decode b_JA_fill 17 = .ok (.goto (-12), 3) := by decide +kernel
theorem d_JA_fill_20 : decode b_JA_fill 20 = .ok (.return_, 1) := by decide +kernel
noncomputable def l_JA_fill_5 (j0 : Nat) (a1 : Int32) (v22 : Int32) (v23 : Int32) (M24 : Mem) : Option ((Int32 × Mem) ⊕ (Mem)) :=
  if v22 ≤ v23 then (some (.inr M24)) else (ck v23 4 (nx (st M24 j0 v23.toNatClampNeg a1) (fun M26 => nx (v23 + (1 : Int32)) (fun v27 => some (.inl (v27, M26))))))
noncomputable def s_JA_fill (j0 : Nat) (a1 : Int32) (M : Mem) : Option (Mem) :=
  nx ((0 : Int32)) (fun v21 => nx ((4 : Int32)) (fun v22 => lp (fun q : Int32 × Mem => l_JA_fill_5 j0 a1 v22 q.1 q.2) (v21, M)))
set_option maxHeartbeats 4000000 in
set_option maxRecDepth 100000 in
theorem c_JA_fill (l : Launch) (x : Cx) (hJ : Inj x) (j0 : Nat) (k0 : AR x j0 4) (a1 : Int32) {M : Mem} {out : Mem} (h : s_JA_fill j0 a1 M = some out) : Cv l x y_JA_fill (Cond.code y_JA_fill b_JA_fill 4 none :: tb) r_JA_fill [.ref (x.2.1 j0), .int a1] M out := by
  refine ofCv (cc := b_JA_fill) (maxL := 4) (by decide) rfl (rfl) (Nat.le_of_ble_eq_true rfl) ?_
  intro p e s m args below meth c Q G0 ls g hx hb hml hown hts hK hZ hP hS hl hret
  have hown : s.vm.findClass R_JA = some m.cls := hown
  have hl : lv_has ls 4 [(0, .ref (x.2.1 j0)), (1, .int a1)] := hl
  obtain ⟨H, eH⟩ : ∃ z, z = s.heap := ⟨_, rfl⟩
  obtain ⟨locs, eL⟩ : ∃ z, z = ([] : List Loc) := ⟨_, rfl⟩
  rw [← eH] at hP
  have hS : va_S (A0 x) s.heap H locs := by rw [eH, eL]; exact hS
  rw [← eL]
  have key : W p l e r_JA_fill s m args below meth c H locs 0 0 Q (F0 m 0 ls []) := by
    clear eH eL
    unfold s_JA_fill at h
    refine lv_iconst (v := (0 : Int32)) hx hb d_JA_fill_0 (by decide) ?_
    obtain ⟨v21, ev21, h⟩ := nx_e h
    refine tp_i ev21 ?_
    refine lv_istore_n hx hb d_JA_fill_1 rfl hl (by decide) rfl (fun ls hl => ?_)
    have hl : lv_has ls 4 [(2, .int v21), (0, .ref (x.2.1 j0)), (1, .int a1)] := hl
    refine lv_aload_n hx hb d_JA_fill_2 rfl (lv_at hl 1 rfl) ?_
    refine m_alen hx hb hK hP k0 (v := (4 : Int32)) rfl d_JA_fill_3 ?_
    obtain ⟨v22, ev22, h⟩ := nx_e h
    refine tp_i ev22 ?_
    refine lv_istore_n hx hb d_JA_fill_4 rfl hl (by decide) rfl (fun ls hl => ?_)
    have hl : lv_has ls 4 [(3, .int v22), (2, .int v21), (0, .ref (x.2.1 j0)), (1, .int a1)] := hl
    obtain ⟨P5, eP5⟩ : ∃ P : (Int32 × Mem) → Prop, P = (fun q => ∀ (H : Heap) (locs : List Loc) (ls : Array Slot), va_P x.1 vwCl (wld x (q.2)) H → va_S (A0 x) s.heap H locs → lv_has ls 4 [(0, .ref (x.2.1 j0)), (1, .int a1), (2, .int (q.1)), (3, .int v22)] → W p l e r_JA_fill s m args below meth c H locs 0 0 Q (F0 m 5 ls [])) := ⟨_, rfl⟩
    have L5 : P5 (v21, M) := by
      refine lp_walk (G := G0) ?_ h g
      intro q res h g
      obtain ⟨v23, M24⟩ := q
      rw [eP5]
      intro H locs ls hP hS hl
      have hP : va_P x.1 vwCl (wld x M24) H := hP
      have hl : lv_has ls 4 [(0, .ref (x.2.1 j0)), (1, .int a1), (2, .int v23), (3, .int v22)] := hl
      have h : l_JA_fill_5 j0 a1 v22 v23 M24 = some res := h
      unfold l_JA_fill_5 at h
      refine lv_iload_n hx hb d_JA_fill_5 rfl (lv_at hl 2 rfl) ?_
      refine lv_iload_n hx hb d_JA_fill_6 rfl (lv_at hl 3 rfl) ?_
      refine lv_icmp_ge (tgt := 20) hx hb d_JA_fill_7 rfl (fun hc => ?_) (fun hc => ?_)
      · have h := if_p hc h
        obtain rfl := Option.some.inj h
        exact hret d_JA_fill_20 g hP hS
      · have h := if_m hc h
        refine lv_aload_n hx hb d_JA_fill_10 rfl (lv_at hl 0 rfl) ?_
        refine lv_iload_n hx hb d_JA_fill_11 rfl (lv_at hl 2 rfl) ?_
        refine lv_iload_n hx hb d_JA_fill_12 rfl (lv_at hl 1 rfl) ?_
        obtain ⟨b25, h⟩ := ck_e h
        obtain ⟨M26, eM26, h⟩ := nx_e h
        refine m_ast hx hb hK hJ hP hS k0 b25 eM26 d_JA_fill_13 (fun H locs hP hS => ?_)
        obtain ⟨v27, ev27, h⟩ := nx_e h
        refine lv_iinc (k := 2) hx hb d_JA_fill_14 hl rfl (iinc_v (k := (1 : Int32)) (by decide) ev27) (by decide) rfl (fun ls hl => ?_)
        have hl : lv_has ls 4 [(2, .int v27), (0, .ref (x.2.1 j0)), (1, .int a1), (3, .int v22)] := hl
        refine lv_goto (tgt := 5) hx hb d_JA_fill_17 rfl ?_
        obtain rfl := Option.some.inj h
        have g : P5 (v27, M26) := g
        rw [eP5] at g
        exact g H locs ls hP hS (lv_sub hl [1, 2, 0, 3] rfl)
    rw [eP5] at L5
    exact L5 H locs ls hP hS (lv_sub hl [2, 3, 1, 0] rfl)
  rw [eH] at key
  exact key
