theorem d_RU_reset_0 : decode b_RU_reset 0 = .ok (.iconst 0, 1) := by decide +kernel
theorem d_RU_reset_1 : decode b_RU_reset 1 = .ok (.istore_n 1, 1) := by decide +kernel
theorem d_RU_reset_2 : decode b_RU_reset 2 = .ok (.iload_n 1, 1) := by decide +kernel
theorem d_RU_reset_3 : decode b_RU_reset 3 = .ok (.aload_n 0, 1) := by decide +kernel
theorem d_RU_reset_4 : decode b_RU_reset 4 = .ok (.getfield 50, 3) := by decide +kernel
theorem d_RU_reset_7 : decode b_RU_reset 7 = .ok (.if_icmp .ge 21, 3) := by decide +kernel
theorem d_RU_reset_10 : decode b_RU_reset 10 = .ok (.aload_n 0, 1) := by decide +kernel
theorem d_RU_reset_11 : decode b_RU_reset 11 = .ok (.getfield 23, 3) := by decide +kernel
theorem d_RU_reset_14 : decode b_RU_reset 14 = .ok (.aload_n 0, 1) := by decide +kernel
theorem d_RU_reset_15 : decode b_RU_reset 15 = .ok (.getfield 26, 3) := by decide +kernel
theorem d_RU_reset_18 : decode b_RU_reset 18 = .ok (.iload_n 1, 1) := by decide +kernel
theorem d_RU_reset_19 : decode b_RU_reset 19 = .ok (.iaload, 1) := by decide +kernel
theorem d_RU_reset_20 : decode b_RU_reset 20 = .ok (.iconst 0, 1) := by decide +kernel
theorem d_RU_reset_21 : decode b_RU_reset 21 = .ok (.iastore, 1) := by decide +kernel
theorem d_RU_reset_22 : decode b_RU_reset 22 = .ok (.iinc 1 1, 3) := by decide +kernel
theorem d_RU_reset_25 : decode b_RU_reset 25 = .ok (.goto (-23), 3) := by decide +kernel
theorem d_RU_reset_28 : decode b_RU_reset 28 = .ok (.aload_n 0, 1) := by decide +kernel
theorem d_RU_reset_29 : decode b_RU_reset 29 = .ok (.getfield 11, 3) := by decide +kernel
theorem d_RU_reset_32 : decode b_RU_reset 32 = .ok (.iconst 0, 1) := by decide +kernel
theorem d_RU_reset_33 : decode b_RU_reset 33 = .ok (.invokestatic 53, 3) := by decide +kernel
theorem d_RU_reset_36 : decode b_RU_reset 36 = .ok (.aload_n 0, 1) := by decide +kernel
theorem d_RU_reset_37 : decode b_RU_reset 37 = .ok (.getfield 17, 3) := by decide +kernel
theorem d_RU_reset_40 : decode b_RU_reset 40 = .ok (.iconst 0, 1) := by decide +kernel
theorem d_RU_reset_41 : decode b_RU_reset 41 = .ok (.invokestatic 53, 3) := by decide +kernel
theorem d_RU_reset_44 : decode b_RU_reset 44 = .ok (.aload_n 0, 1) := by decide +kernel
theorem d_RU_reset_45 : decode b_RU_reset 45 = .ok (.iconst 0, 1) := by decide +kernel
theorem d_RU_reset_46 : decode b_RU_reset 46 = .ok (.putfield 50, 3) := by decide +kernel
theorem d_RU_reset_49 : decode b_RU_reset 49 = .ok (.aload_n 0, 1) := by decide +kernel
theorem d_RU_reset_50 : decode b_RU_reset 50 = .ok (.iconst 0, 1) := by decide +kernel
theorem d_RU_reset_51 : decode b_RU_reset 51 = .ok (.putfield 47, 3) := by decide +kernel
theorem d_RU_reset_54 : decode b_RU_reset 54 = .ok (.aload_n 0, 1) := by decide +kernel
theorem d_RU_reset_55 : decode b_RU_reset 55 = .ok (.iconst 0, 1) := by decide +kernel
theorem d_RU_reset_56 : decode b_RU_reset 56 = .ok (.putfield 36, 3) := by decide +kernel
theorem d_RU_reset_59 : decode b_RU_reset 59 = .ok (.aload_n 0, 1) := by decide +kernel
theorem d_RU_reset_60 : decode b_RU_reset 60 = .ok (.iconst 0, 1) := by decide +kernel
theorem d_RU_reset_61 : decode b_RU_reset 61 = .ok (.putfield 59, 3) := by decide +kernel
theorem d_RU_reset_64 : decode b_RU_reset 64 = .ok (.aload_n 0, 1) := by decide +kernel
theorem d_RU_reset_65 : decode b_RU_reset 65 = .ok (.iconst 0, 1) := by decide +kernel
theorem d_RU_reset_66 : decode b_RU_reset 66 = .ok (.putfield 62, 3) := by decide +kernel
theorem d_RU_reset_69 : decode b_RU_reset 69 = .ok (.aload_n 0, 1) := by decide +kernel
theorem d_RU_reset_70 : decode b_RU_reset 70 = .ok (.iconst (-1), 1) := by decide +kernel
theorem d_RU_reset_71 : decode b_RU_reset 71 = .ok (.putfield 32, 3) := by decide +kernel
theorem d_RU_reset_74 : decode b_RU_reset 74 = .ok (.return_, 1) := by decide +kernel
noncomputable def j_RU_reset_28 (j21 : Nat) (M23 : Mem) : Option (Mem) :=
  bv (s_JA_fill (j21 + 1) (0 : Int32) M23) (fun M24 => bv (s_JA_fill (j21 + 2) (0 : Int32) M24) (fun M26 => nx (st M26 j21 5 (0 : Int32)) (fun M28 => nx (st M28 j21 6 (0 : Int32)) (fun M29 => nx (st M29 j21 7 (0 : Int32)) (fun M30 => nx (st M30 j21 8 (0 : Int32)) (fun M31 => nx (st M31 j21 9 (0 : Int32)) (fun M32 => nx (st M32 j21 10 (-1 : Int32)) (fun M33 => some M33))))))))
noncomputable def l_RU_reset_2 (j0 : Nat) (v35 : Int32) (M36 : Mem) : Option ((Int32 × Mem) ⊕ (Mem)) :=
  if (M36 j0 5) ≤ v35 then (jw1 (j_RU_reset_28 j0 M36)) else (ck v35 64 (ck (M36 (j0 + 5) v35.toNatClampNeg) 576 (nx (st M36 (j0 + 4) (M36 (j0 + 5) v35.toNatClampNeg).toNatClampNeg (0 : Int32)) (fun M39 => nx (v35 + (1 : Int32)) (fun v40 => some (.inl (v40, M39)))))))
noncomputable def s_RU_reset (j0 : Nat) (M : Mem) : Option (Mem) :=
  nx ((0 : Int32)) (fun v34 => lp (fun q : Int32 × Mem => l_RU_reset_2 j0 q.1 q.2) (v34, M))
set_option maxHeartbeats 4000000 in
set_option maxRecDepth 100000 in
theorem c_RU_reset (l : Launch) (x : Cx) (hJ : Inj x) (j0 : Nat) (k0 : kd_run j0) {M : Mem} {out : Mem} (h : s_RU_reset j0 M = some out) : Cv l x y_RU_reset (Cond.code y_RU_reset b_RU_reset 2 none :: tb) r_RU_reset [.ref (x.2.1 j0)] M out := by
  refine ofCv (cc := b_RU_reset) (maxL := 2) (by decide) rfl (rfl) (Nat.le_of_ble_eq_true rfl) ?_
  intro p e s m args below meth c Q G0 ls g hx hb hml hown hts hK hZ hP hS hl hret
  have hown : s.vm.findClass R_RU = some m.cls := hown
  have hl : lv_has ls 2 [(0, .ref (x.2.1 j0))] := hl
  obtain ⟨H, eH⟩ : ∃ z, z = s.heap := ⟨_, rfl⟩
  obtain ⟨locs, eL⟩ : ∃ z, z = ([] : List Loc) := ⟨_, rfl⟩
  rw [← eH] at hP
  have hS : va_S (A0 x) s.heap H locs := by rw [eH, eL]; exact hS
  rw [← eL]
  have key : W p l e r_RU_reset s m args below meth c H locs 0 0 Q (F0 m 0 ls []) := by
    clear eH eL
    unfold s_RU_reset at h
    have J28 : ∀ (j21 : Nat) (M23 : Mem) (k22 : kd_run j21) (res : Mem) (h : j_RU_reset_28 j21 M23 = some res) (g : G0 res) (H : Heap) (locs : List Loc) (ls : Array Slot) (hP : va_P x.1 vwCl (wld x M23) H) (hS : va_S (A0 x) s.heap H locs) (hl : lv_has ls 2 [(0, .ref (x.2.1 j21))]), W p l e r_RU_reset s m args below meth c H locs 0 0 Q (F0 m 28 ls []) := by
      intro j21 M23 k22 res h g H locs ls hP hS hl
      unfold j_RU_reset_28 at h
      refine lv_aload_n hx hb d_RU_reset_28 rfl (lv_at hl 0 rfl) ?_
      refine gf_RU_11 hx hb hts hown hK hP k22 d_RU_reset_29 ?_
      refine lv_iconst (v := (0 : Int32)) hx hb d_RU_reset_32 (by decide) ?_
      obtain ⟨M24, c25, h⟩ := bv_e h
      refine cl_RU_53 (rest := []) (R := r_RU_reset) (c_JA_fill l x hJ (j21 + 1) (ar_RU_registers k22) (0 : Int32) c25) hx hb hml hts hown hK hZ hP hS hl.1 (Nat.le_of_ble_eq_true rfl) (Nat.le_of_ble_eq_true rfl) (Nat.le_of_ble_eq_true rfl) ⟨rfl, rfl, Nat.zero_le _, Nat.zero_le _⟩ d_RU_reset_33 (fun H locs hP hS => ?_)
      refine lv_aload_n hx hb d_RU_reset_36 rfl (lv_at hl 0 rfl) ?_
      refine gf_RU_17 hx hb hts hown hK hP k22 d_RU_reset_37 ?_
      refine lv_iconst (v := (0 : Int32)) hx hb d_RU_reset_40 (by decide) ?_
      obtain ⟨M26, c27, h⟩ := bv_e h
      refine cl_RU_53 (rest := []) (R := r_RU_reset) (c_JA_fill l x hJ (j21 + 2) (ar_RU_memory k22) (0 : Int32) c27) hx hb hml hts hown hK hZ hP hS hl.1 (Nat.le_of_ble_eq_true rfl) (Nat.le_of_ble_eq_true rfl) (Nat.le_of_ble_eq_true rfl) ⟨rfl, rfl, Nat.zero_le _, Nat.zero_le _⟩ d_RU_reset_41 (fun H locs hP hS => ?_)
      refine lv_aload_n hx hb d_RU_reset_44 rfl (lv_at hl 0 rfl) ?_
      refine lv_iconst (v := (0 : Int32)) hx hb d_RU_reset_45 (by decide) ?_
      obtain ⟨M28, eM28, h⟩ := nx_e h
      refine pf_RU_50 hx hb hts hown hK hJ hP hS k22 eM28 d_RU_reset_46 (fun H locs hP hS => ?_)
      refine lv_aload_n hx hb d_RU_reset_49 rfl (lv_at hl 0 rfl) ?_
      refine lv_iconst (v := (0 : Int32)) hx hb d_RU_reset_50 (by decide) ?_
      obtain ⟨M29, eM29, h⟩ := nx_e h
      refine pf_RU_47 hx hb hts hown hK hJ hP hS k22 eM29 d_RU_reset_51 (fun H locs hP hS => ?_)
      refine lv_aload_n hx hb d_RU_reset_54 rfl (lv_at hl 0 rfl) ?_
      refine lv_iconst (v := (0 : Int32)) hx hb d_RU_reset_55 (by decide) ?_
      obtain ⟨M30, eM30, h⟩ := nx_e h
      refine pf_RU_36 hx hb hts hown hK hJ hP hS k22 eM30 d_RU_reset_56 (fun H locs hP hS => ?_)
      refine lv_aload_n hx hb d_RU_reset_59 rfl (lv_at hl 0 rfl) ?_
      refine lv_iconst (v := (0 : Int32)) hx hb d_RU_reset_60 (by decide) ?_
      obtain ⟨M31, eM31, h⟩ := nx_e h
      refine pf_RU_59 hx hb hts hown hK hJ hP hS k22 eM31 d_RU_reset_61 (fun H locs hP hS => ?_)
      refine lv_aload_n hx hb d_RU_reset_64 rfl (lv_at hl 0 rfl) ?_
      refine lv_iconst (v := (0 : Int32)) hx hb d_RU_reset_65 (by decide) ?_
      obtain ⟨M32, eM32, h⟩ := nx_e h
      refine pf_RU_62 hx hb hts hown hK hJ hP hS k22 eM32 d_RU_reset_66 (fun H locs hP hS => ?_)
      refine lv_aload_n hx hb d_RU_reset_69 rfl (lv_at hl 0 rfl) ?_
      refine lv_iconst (v := (-1 : Int32)) hx hb d_RU_reset_70 (by decide) ?_
      obtain ⟨M33, eM33, h⟩ := nx_e h
      refine pf_RU_32 hx hb hts hown hK hJ hP hS k22 eM33 d_RU_reset_71 (fun H locs hP hS => ?_)
      obtain rfl := Option.some.inj h
      exact hret d_RU_reset_74 g hP hS
    refine lv_iconst (v := (0 : Int32)) hx hb d_RU_reset_0 (by decide) ?_
    obtain ⟨v34, ev34, h⟩ := nx_e h
    refine tp_i ev34 ?_
    refine lv_istore_n hx hb d_RU_reset_1 rfl hl (by decide) rfl (fun ls hl => ?_)
    have hl : lv_has ls 2 [(1, .int v34), (0, .ref (x.2.1 j0))] := hl
    obtain ⟨P2, eP2⟩ : ∃ P : (Int32 × Mem) → Prop, P = (fun q => ∀ (H : Heap) (locs : List Loc) (ls : Array Slot), va_P x.1 vwCl (wld x (q.2)) H → va_S (A0 x) s.heap H locs → lv_has ls 2 [(0, .ref (x.2.1 j0)), (1, .int (q.1))] → W p l e r_RU_reset s m args below meth c H locs 0 0 Q (F0 m 2 ls [])) := ⟨_, rfl⟩
    have L2 : P2 (v34, M) := by
      refine lp_walk (G := G0) ?_ h g
      intro q res h g
      obtain ⟨v35, M36⟩ := q
      rw [eP2]
      intro H locs ls hP hS hl
      have hP : va_P x.1 vwCl (wld x M36) H := hP
      have hl : lv_has ls 2 [(0, .ref (x.2.1 j0)), (1, .int v35)] := hl
      have h : l_RU_reset_2 j0 v35 M36 = some res := h
      unfold l_RU_reset_2 at h
      refine lv_iload_n hx hb d_RU_reset_2 rfl (lv_at hl 1 rfl) ?_
      refine lv_aload_n hx hb d_RU_reset_3 rfl (lv_at hl 0 rfl) ?_
      refine gf_RU_50 hx hb hts hown hK hP k0 d_RU_reset_4 ?_
      refine lv_icmp_ge (tgt := 28) hx hb d_RU_reset_7 rfl (fun hc => ?_) (fun hc => ?_)
      · have h := if_p hc h
        obtain ⟨res2, hres, h2⟩ := jw1_e h
        clear h
        subst hres
        have h := h2
        exact J28 j0 M36 k0 _ h g H locs ls hP hS (lv_sub hl [0] rfl)
      · have h := if_m hc h
        refine lv_aload_n hx hb d_RU_reset_10 rfl (lv_at hl 0 rfl) ?_
        refine gf_RU_23 hx hb hts hown hK hP k0 d_RU_reset_11 ?_
        refine lv_aload_n hx hb d_RU_reset_14 rfl (lv_at hl 0 rfl) ?_
        refine gf_RU_26 hx hb hts hown hK hP k0 d_RU_reset_15 ?_
        refine lv_iload_n hx hb d_RU_reset_18 rfl (lv_at hl 1 rfl) ?_
        obtain ⟨b37, h⟩ := ck_e h
        refine m_ald hx hb hK hP (ar_RU_edges k0) b37 d_RU_reset_19 ?_
        refine lv_iconst (v := (0 : Int32)) hx hb d_RU_reset_20 (by decide) ?_
        obtain ⟨b38, h⟩ := ck_e h
        obtain ⟨M39, eM39, h⟩ := nx_e h
        refine m_ast hx hb hK hJ hP hS (ar_RU_times k0) b38 eM39 d_RU_reset_21 (fun H locs hP hS => ?_)
        obtain ⟨v40, ev40, h⟩ := nx_e h
        refine lv_iinc (k := 1) hx hb d_RU_reset_22 hl rfl (iinc_v (k := (1 : Int32)) (by decide) ev40) (by decide) rfl (fun ls hl => ?_)
        have hl : lv_has ls 2 [(1, .int v40), (0, .ref (x.2.1 j0))] := hl
        refine lv_goto (tgt := 2) hx hb d_RU_reset_25 rfl ?_
        obtain rfl := Option.some.inj h
        have g : P2 (v40, M39) := g
        rw [eP2] at g
        exact g H locs ls hP hS (lv_sub hl [1, 0] rfl)
    rw [eP2] at L2
    exact L2 H locs ls hP hS (lv_sub hl [1, 0] rfl)
  rw [eH] at key
  exact key
theorem d_RU_goInto_0 : decode b_RU_goInto 0 = .ok (.aload_n 0, 1) := by decide +kernel
theorem d_RU_goInto_1 : decode b_RU_goInto 1 = .ok (.getfield 47, 3) := by decide +kernel
theorem d_RU_goInto_4 : decode b_RU_goInto 4 = .ok (.iconst 3, 1) := by decide +kernel
theorem d_RU_goInto_5 : decode b_RU_goInto 5 = .ok (.if_icmp .lt 11, 3) := by decide +kernel
theorem d_RU_goInto_8 : decode b_RU_goInto 8 = .ok (.aload_n 0, 1) := by decide +kernel
theorem d_RU_goInto_9 : decode b_RU_goInto 9 = .ok (.iconst 4, 1) := by decide +kernel
theorem d_RU_goInto_10 : decode b_RU_goInto 10 = .ok (.putfield 32, 3) := by decide +kernel
theorem d_RU_goInto_13 : decode b_RU_goInto 13 = .ok (.goto 33, 3) := by decide +kernel
theorem d_RU_goInto_16 : decode b_RU_goInto 16 = .ok (.aload_n 0, 1) := by decide +kernel
theorem d_RU_goInto_17 : decode b_RU_goInto 17 = .ok (.getfield 20, 3) := by decide +kernel
theorem d_RU_goInto_20 : decode b_RU_goInto 20 = .ok (.aload_n 0, 1) := by decide +kernel
theorem d_RU_goInto_21 : decode b_RU_goInto 21 = .ok (.getfield 47, 3) := by decide +kernel
theorem d_RU_goInto_24 : decode b_RU_goInto 24 = .ok (.aload_n 0, 1) := by decide +kernel
theorem d_RU_goInto_25 : decode b_RU_goInto 25 = .ok (.getfield 59, 3) := by decide +kernel
theorem d_RU_goInto_28 : decode b_RU_goInto 28 = .ok (.iconst 1, 1) := by decide +kernel
theorem d_RU_goInto_29 : decode b_RU_goInto 29 = .ok (.iadd, 1) := by decide +kernel
theorem d_RU_goInto_30 : decode b_RU_goInto 30 = .ok (.iastore, 1) := by decide +kernel
theorem d_RU_goInto_31 : decode b_RU_goInto 31 = .ok (.aload_n 0, 1) := by decide +kernel
theorem d_RU_goInto_32 : decode b_RU_goInto 32 = .ok (.dup, 1) := by decide +kernel
theorem d_RU_goInto_33 : decode b_RU_goInto 33 = .ok (.getfield 47, 3) := by decide +kernel
theorem d_RU_goInto_36 : decode b_RU_goInto 36 = .ok (.iconst 1, 1) := by decide +kernel
theorem d_RU_goInto_37 : decode b_RU_goInto 37 = .ok (.iadd, 1) := by decide +kernel
theorem d_RU_goInto_38 : decode b_RU_goInto 38 = .ok (.putfield 47, 3) := by decide +kernel
theorem d_RU_goInto_41 : decode b_RU_goInto 41 = .ok (.aload_n 0, 1) := by decide +kernel
theorem d_RU_goInto_42 : decode b_RU_goInto 42 = .ok (.iload_n 1, 1) := by decide +kernel
theorem d_RU_goInto_43 : decode b_RU_goInto 43 = .ok (.putfield 36, 3) := by decide +kernel
theorem d_RU_goInto_46 : decode b_RU_goInto 46 = .ok (.return_, 1) := by decide +kernel
noncomputable def s_RU_goInto (j0 : Nat) (a1 : Int32) (M : Mem) : Option (Mem) :=
  if (M j0 6) < (3 : Int32) then (ck (M j0 6) 3 (nx (st M (j0 + 3) (M j0 6).toNatClampNeg ((M j0 8) + (1 : Int32))) (fun M22 => nx (st M22 j0 6 ((M22 j0 6) + (1 : Int32))) (fun M23 => nx (st M23 j0 7 a1) (fun M24 => some M24))))) else (nx (st M j0 10 (4 : Int32)) (fun M25 => some M25))
set_option maxHeartbeats 4000000 in
set_option maxRecDepth 100000 in
theorem c_RU_goInto (l : Launch) (x : Cx) (hJ : Inj x) (j0 : Nat) (k0 : kd_run j0) (a1 : Int32) {M : Mem} {out : Mem} (h : s_RU_goInto j0 a1 M = some out) : Cv l x y_RU_goInto (Cond.code y_RU_goInto b_RU_goInto 2 none :: tb) r_RU_goInto [.ref (x.2.1 j0), .int a1] M out := by
  refine ofCv (cc := b_RU_goInto) (maxL := 2) (by decide) rfl (rfl) (Nat.le_of_ble_eq_true rfl) ?_
  intro p e s m args below meth c Q G0 ls g hx hb hml hown hts hK hZ hP hS hl hret
  have hown : s.vm.findClass R_RU = some m.cls := hown
  have hl : lv_has ls 2 [(0, .ref (x.2.1 j0)), (1, .int a1)] := hl
  obtain ⟨H, eH⟩ : ∃ z, z = s.heap := ⟨_, rfl⟩
  obtain ⟨locs, eL⟩ : ∃ z, z = ([] : List Loc) := ⟨_, rfl⟩
  rw [← eH] at hP
  have hS : va_S (A0 x) s.heap H locs := by rw [eH, eL]; exact hS
  rw [← eL]
  have key : W p l e r_RU_goInto s m args below meth c H locs 0 0 Q (F0 m 0 ls []) := by
    clear eH eL
    unfold s_RU_goInto at h
    refine lv_aload_n hx hb d_RU_goInto_0 rfl (lv_at hl 0 rfl) ?_
    refine gf_RU_47 hx hb hts hown hK hP k0 d_RU_goInto_1 ?_
    refine lv_iconst (v := (3 : Int32)) hx hb d_RU_goInto_4 (by decide) ?_
    refine lv_icmp_lt (tgt := 16) hx hb d_RU_goInto_5 rfl (fun hc => ?_) (fun hc => ?_)
    · have h := if_p hc h
      refine lv_aload_n hx hb d_RU_goInto_16 rfl (lv_at hl 0 rfl) ?_
      refine gf_RU_20 hx hb hts hown hK hP k0 d_RU_goInto_17 ?_
      refine lv_aload_n hx hb d_RU_goInto_20 rfl (lv_at hl 0 rfl) ?_
      refine gf_RU_47 hx hb hts hown hK hP k0 d_RU_goInto_21 ?_
      refine lv_aload_n hx hb d_RU_goInto_24 rfl (lv_at hl 0 rfl) ?_
      refine gf_RU_59 hx hb hts hown hK hP k0 d_RU_goInto_25 ?_
      refine lv_iconst (v := (1 : Int32)) hx hb d_RU_goInto_28 (by decide) ?_
      refine lv_iadd hx hb d_RU_goInto_29 ?_
      obtain ⟨b21, h⟩ := ck_e h
      obtain ⟨M22, eM22, h⟩ := nx_e h
      refine m_ast hx hb hK hJ hP hS (ar_RU_stack k0) b21 eM22 d_RU_goInto_30 (fun H locs hP hS => ?_)
      refine lv_aload_n hx hb d_RU_goInto_31 rfl (lv_at hl 0 rfl) ?_
      refine lv_dup hx hb d_RU_goInto_32 rfl ?_
      refine gf_RU_47 hx hb hts hown hK hP k0 d_RU_goInto_33 ?_
      refine lv_iconst (v := (1 : Int32)) hx hb d_RU_goInto_36 (by decide) ?_
      refine lv_iadd hx hb d_RU_goInto_37 ?_
      obtain ⟨M23, eM23, h⟩ := nx_e h
      refine pf_RU_47 hx hb hts hown hK hJ hP hS k0 eM23 d_RU_goInto_38 (fun H locs hP hS => ?_)
      refine lv_aload_n hx hb d_RU_goInto_41 rfl (lv_at hl 0 rfl) ?_
      refine lv_iload_n hx hb d_RU_goInto_42 rfl (lv_at hl 1 rfl) ?_
      obtain ⟨M24, eM24, h⟩ := nx_e h
      refine pf_RU_36 hx hb hts hown hK hJ hP hS k0 eM24 d_RU_goInto_43 (fun H locs hP hS => ?_)
      obtain rfl := Option.some.inj h
      exact hret d_RU_goInto_46 g hP hS
    · have h := if_m hc h
      refine lv_aload_n hx hb d_RU_goInto_8 rfl (lv_at hl 0 rfl) ?_
      refine lv_iconst (v := (4 : Int32)) hx hb d_RU_goInto_9 (by decide) ?_
      obtain ⟨M25, eM25, h⟩ := nx_e h
      refine pf_RU_32 hx hb hts hown hK hJ hP hS k0 eM25 d_RU_goInto_10 (fun H locs hP hS => ?_)
      refine lv_goto (tgt := 46) hx hb d_RU_goInto_13 rfl ?_
      obtain rfl := Option.some.inj h
      exact hret d_RU_goInto_46 g hP hS
  rw [eH] at key
  exact key
theorem d_RU_goBack_0 : decode b_RU_goBack 0 = .ok (.aload_n 0, 1) := by decide +kernel
theorem d_RU_goBack_1 : decode b_RU_goBack 1 = .ok (.getfield 47, 3) := by decide +kernel
theorem d_RU_goBack_4 : decode b_RU_goBack 4 = .ok (.ifCond .gt 11, 3) := by decide +kernel
theorem d_RU_goBack_7 : decode b_RU_goBack 7 = .ok (.aload_n 0, 1) := by decide +kernel
theorem d_RU_goBack_8 : decode b_RU_goBack 8 = .ok (.iconst 0, 1) := by decide +kernel
theorem d_RU_goBack_9 : decode b_RU_goBack 9 = .ok (.putfield 32, 3) := by decide +kernel
theorem d_RU_goBack_12 : decode b_RU_goBack 12 = .ok (.goto 26, 3) := by decide +kernel
theorem d_RU_goBack_15 : decode b_RU_goBack 15 = .ok (.aload_n 0, 1) := by decide +kernel
theorem d_RU_goBack_16 : decode b_RU_goBack 16 = .ok (.dup, 1) := by decide +kernel
theorem d_RU_goBack_17 : decode b_RU_goBack 17 = .ok (.getfield 47, 3) := by decide +kernel
theorem d_RU_goBack_20 : decode b_RU_goBack 20 = .ok (.iconst 1, 1) := by decide +kernel
theorem d_RU_goBack_21 : decode b_RU_goBack 21 = .ok (.isub, 1) := by decide +kernel
theorem d_RU_goBack_22 : decode b_RU_goBack 22 = .ok (.putfield 47, 3) := by decide +kernel
theorem d_RU_goBack_25 : decode b_RU_goBack 25 = .ok (.aload_n 0, 1) := by decide +kernel
theorem d_RU_goBack_26 : decode b_RU_goBack 26 = .ok (.aload_n 0, 1) := by decide +kernel
theorem d_RU_goBack_27 : decode b_RU_goBack 27 = .ok (.getfield 20, 3) := by decide +kernel
theorem d_RU_goBack_30 : decode b_RU_goBack 30 = .ok (.aload_n 0, 1) := by decide +kernel
theorem d_RU_goBack_31 : decode b_RU_goBack 31 = .ok (.getfield 47, 3) := by decide +kernel
theorem d_RU_goBack_34 : decode b_RU_goBack 34 = .ok (.iaload, 1) := by decide +kernel
theorem d_RU_goBack_35 : decode b_RU_goBack 35 = .ok (.putfield 36, 3) := by decide +kernel
theorem d_RU_goBack_38 : decode b_RU_goBack 38 = .ok (.return_, 1) := by decide +kernel
noncomputable def s_RU_goBack (j0 : Nat) (M : Mem) : Option (Mem) :=
  if 0 < (M j0 6) then (nx (st M j0 6 ((M j0 6) - (1 : Int32))) (fun M21 => ck (M21 j0 6) 3 (nx (st M21 j0 7 (M21 (j0 + 3) (M21 j0 6).toNatClampNeg)) (fun M23 => some M23)))) else (nx (st M j0 10 (0 : Int32)) (fun M24 => some M24))
set_option maxHeartbeats 4000000 in
set_option maxRecDepth 100000 in
theorem c_RU_goBack (l : Launch) (x : Cx) (hJ : Inj x) (j0 : Nat) (k0 : kd_run j0) {M : Mem} {out : Mem} (h : s_RU_goBack j0 M = some out) : Cv l x y_RU_goBack (Cond.code y_RU_goBack b_RU_goBack 1 none :: tb) r_RU_goBack [.ref (x.2.1 j0)] M out := by
  refine ofCv (cc := b_RU_goBack) (maxL := 1) (by decide) rfl (rfl) (Nat.le_of_ble_eq_true rfl) ?_
  intro p e s m args below meth c Q G0 ls g hx hb hml hown hts hK hZ hP hS hl hret
  have hown : s.vm.findClass R_RU = some m.cls := hown
  have hl : lv_has ls 1 [(0, .ref (x.2.1 j0))] := hl
  obtain ⟨H, eH⟩ : ∃ z, z = s.heap := ⟨_, rfl⟩
  obtain ⟨locs, eL⟩ : ∃ z, z = ([] : List Loc) := ⟨_, rfl⟩
  rw [← eH] at hP
  have hS : va_S (A0 x) s.heap H locs := by rw [eH, eL]; exact hS
  rw [← eL]
  have key : W p l e r_RU_goBack s m args below meth c H locs 0 0 Q (F0 m 0 ls []) := by
    clear eH eL
    unfold s_RU_goBack at h
    refine lv_aload_n hx hb d_RU_goBack_0 rfl (lv_at hl 0 rfl) ?_
    refine gf_RU_47 hx hb hts hown hK hP k0 d_RU_goBack_1 ?_
    refine lv_if_gt (tgt := 15) hx hb d_RU_goBack_4 rfl (fun hc => ?_) (fun hc => ?_)
    · have h := if_p hc h
      refine lv_aload_n hx hb d_RU_goBack_15 rfl (lv_at hl 0 rfl) ?_
      refine lv_dup hx hb d_RU_goBack_16 rfl ?_
      refine gf_RU_47 hx hb hts hown hK hP k0 d_RU_goBack_17 ?_
      refine lv_iconst (v := (1 : Int32)) hx hb d_RU_goBack_20 (by decide) ?_
      refine lv_isub hx hb d_RU_goBack_21 ?_
      obtain ⟨M21, eM21, h⟩ := nx_e h
      refine pf_RU_47 hx hb hts hown hK hJ hP hS k0 eM21 d_RU_goBack_22 (fun H locs hP hS => ?_)
      refine lv_aload_n hx hb d_RU_goBack_25 rfl (lv_at hl 0 rfl) ?_
      refine lv_aload_n hx hb d_RU_goBack_26 rfl (lv_at hl 0 rfl) ?_
      refine gf_RU_20 hx hb hts hown hK hP k0 d_RU_goBack_27 ?_
      refine lv_aload_n hx hb d_RU_goBack_30 rfl (lv_at hl 0 rfl) ?_
      refine gf_RU_47 hx hb hts hown hK hP k0 d_RU_goBack_31 ?_
      obtain ⟨b22, h⟩ := ck_e h
      refine m_ald hx hb hK hP (ar_RU_stack k0) b22 d_RU_goBack_34 ?_
      obtain ⟨M23, eM23, h⟩ := nx_e h
      refine pf_RU_36 hx hb hts hown hK hJ hP hS k0 eM23 d_RU_goBack_35 (fun H locs hP hS => ?_)
      obtain rfl := Option.some.inj h
      exact hret d_RU_goBack_38 g hP hS
    · have h := if_m hc h
      refine lv_aload_n hx hb d_RU_goBack_7 rfl (lv_at hl 0 rfl) ?_
      refine lv_iconst (v := (0 : Int32)) hx hb d_RU_goBack_8 (by decide) ?_
      obtain ⟨M24, eM24, h⟩ := nx_e h
      refine pf_RU_32 hx hb hts hown hK hJ hP hS k0 eM24 d_RU_goBack_9 (fun H locs hP hS => ?_)
      refine lv_goto (tgt := 38) hx hb d_RU_goBack_12 rfl ?_
      obtain rfl := Option.some.inj h
      exact hret d_RU_goBack_38 g hP hS
  rw [eH] at key
  exact key
theorem d_RU_divide_0 : decode b_RU_divide 0 = .ok (.aload_n 0, 1) := by decide +kernel
theorem d_RU_divide_1 : decode b_RU_divide 1 = .ok (.getfield 11, 3) := by decide +kernel
theorem d_RU_divide_4 : decode b_RU_divide 4 = .ok (.iload_n 2, 1) := by decide +kernel
theorem d_RU_divide_5 : decode b_RU_divide 5 = .ok (.iaload, 1) := by decide +kernel
theorem d_RU_divide_6 : decode b_RU_divide 6 = .ok (.ifCond .ne 11, 3) := by decide +kernel
theorem d_RU_divide_9 : decode b_RU_divide 9 = .ok (.aload_n 0, 1) := by decide +kernel
theorem d_RU_divide_10 : decode b_RU_divide 10 = .ok (.iconst 2, 1) := by decide +kernel
theorem d_RU_divide_11 : decode b_RU_divide 11 = .ok (.putfield 32, 3) := by decide +kernel
theorem d_RU_divide_14 : decode b_RU_divide 14 = .ok (.goto 18, 3) := by decide +kernel
theorem d_RU_divide_17 : decode b_RU_divide 17 = .ok (.aload_n 0, 1) := by decide +kernel
theorem d_RU_divide_18 : decode b_RU_divide 18 = .ok (.getfield 11, 3) := by decide +kernel
theorem d_RU_divide_21 : decode b_RU_divide 21 = .ok (.iload_n 1, 1) := by decide +kernel
theorem d_RU_divide_22 : decode b_RU_divide 22 = .ok (.dup2, 1) := by decide +kernel
theorem d_RU_divide_23 : decode b_RU_divide 23 = .ok (.iaload, 1) := by decide +kernel
theorem d_RU_divide_24 : decode b_RU_divide 24 = .ok (.aload_n 0, 1) := by decide +kernel
theorem d_RU_divide_25 : decode b_RU_divide 25 = .ok (.getfield 11, 3) := by decide +kernel
theorem d_RU_divide_28 : decode b_RU_divide 28 = .ok (.iload_n 2, 1) := by decide +kernel
theorem d_RU_divide_29 : decode b_RU_divide 29 = .ok (.iaload, 1) := by decide +kernel
theorem d_RU_divide_30 : decode b_RU_divide 30 = .ok (.idiv, 1) := by decide +kernel
theorem d_RU_divide_31 : decode b_RU_divide 31 = .ok (.iastore, 1) := by decide +kernel
theorem d_RU_divide_32 : decode b_RU_divide 32 = .ok (.return_, 1) := by decide +kernel
noncomputable def s_RU_divide (j0 : Nat) (a1 : Int32) (a2 : Int32) (M : Mem) : Option (Mem) :=
  ck a2 4 (if (M (j0 + 1) a2.toNatClampNeg) = 0 then (nx (st M j0 10 (2 : Int32)) (fun M27 => some M27)) else (ck a1 4 (ck a2 4 (cz (M (j0 + 1) a2.toNatClampNeg) (ck a1 4 (nx (st M (j0 + 1) a1.toNatClampNeg ((M (j0 + 1) a1.toNatClampNeg) / (M (j0 + 1) a2.toNatClampNeg))) (fun M26 => some M26)))))))
set_option maxHeartbeats 4000000 in
set_option maxRecDepth 100000 in
theorem c_RU_divide (l : Launch) (x : Cx) (hJ : Inj x) (j0 : Nat) (k0 : kd_run j0) (a1 : Int32) (a2 : Int32) {M : Mem} {out : Mem} (h : s_RU_divide j0 a1 a2 M = some out) : Cv l x y_RU_divide (Cond.code y_RU_divide b_RU_divide 3 none :: tb) r_RU_divide [.ref (x.2.1 j0), .int a1, .int a2] M out := by
  refine ofCv (cc := b_RU_divide) (maxL := 3) (by decide) rfl (rfl) (Nat.le_of_ble_eq_true rfl) ?_
  intro p e s m args below meth c Q G0 ls g hx hb hml hown hts hK hZ hP hS hl hret
  have hown : s.vm.findClass R_RU = some m.cls := hown
  have hl : lv_has ls 3 [(0, .ref (x.2.1 j0)), (1, .int a1), (2, .int a2)] := hl
  obtain ⟨H, eH⟩ : ∃ z, z = s.heap := ⟨_, rfl⟩
  obtain ⟨locs, eL⟩ : ∃ z, z = ([] : List Loc) := ⟨_, rfl⟩
  rw [← eH] at hP
  have hS : va_S (A0 x) s.heap H locs := by rw [eH, eL]; exact hS
  rw [← eL]
  have key : W p l e r_RU_divide s m args below meth c H locs 0 0 Q (F0 m 0 ls []) := by
    clear eH eL
    unfold s_RU_divide at h
    refine lv_aload_n hx hb d_RU_divide_0 rfl (lv_at hl 0 rfl) ?_
    refine gf_RU_11 hx hb hts hown hK hP k0 d_RU_divide_1 ?_
    refine lv_iload_n hx hb d_RU_divide_4 rfl (lv_at hl 2 rfl) ?_
    obtain ⟨b21, h⟩ := ck_e h
    refine m_ald hx hb hK hP (ar_RU_registers k0) b21 d_RU_divide_5 ?_
    refine lv_if_ne (tgt := 17) hx hb d_RU_divide_6 rfl (fun hc => ?_) (fun hc => ?_)
    · have h := if_m hc h
      refine lv_aload_n hx hb d_RU_divide_17 rfl (lv_at hl 0 rfl) ?_
      refine gf_RU_11 hx hb hts hown hK hP k0 d_RU_divide_18 ?_
      refine lv_iload_n hx hb d_RU_divide_21 rfl (lv_at hl 1 rfl) ?_
      refine lv_dup2_11 hx hb d_RU_divide_22 rfl rfl ?_
      obtain ⟨b22, h⟩ := ck_e h
      refine m_ald hx hb hK hP (ar_RU_registers k0) b22 d_RU_divide_23 ?_
      refine lv_aload_n hx hb d_RU_divide_24 rfl (lv_at hl 0 rfl) ?_
      refine gf_RU_11 hx hb hts hown hK hP k0 d_RU_divide_25 ?_
      refine lv_iload_n hx hb d_RU_divide_28 rfl (lv_at hl 2 rfl) ?_
      obtain ⟨b23, h⟩ := ck_e h
      refine m_ald hx hb hK hP (ar_RU_registers k0) b23 d_RU_divide_29 ?_
      obtain ⟨z24, h⟩ := cz_e h
      refine lv_idiv hx hb d_RU_divide_30 z24 ?_
      obtain ⟨b25, h⟩ := ck_e h
      obtain ⟨M26, eM26, h⟩ := nx_e h
      refine m_ast hx hb hK hJ hP hS (ar_RU_registers k0) b25 eM26 d_RU_divide_31 (fun H locs hP hS => ?_)
      obtain rfl := Option.some.inj h
      exact hret d_RU_divide_32 g hP hS
    · have h := if_p hc h
      refine lv_aload_n hx hb d_RU_divide_9 rfl (lv_at hl 0 rfl) ?_
      refine lv_iconst (v := (2 : Int32)) hx hb d_RU_divide_10 (by decide) ?_
      obtain ⟨M27, eM27, h⟩ := nx_e h
      refine pf_RU_32 hx hb hts hown hK hJ hP hS k0 eM27 d_RU_divide_11 (fun H locs hP hS => ?_)
      refine lv_goto (tgt := 32) hx hb d_RU_divide_14 rfl ?_
      obtain rfl := Option.some.inj h
      exact hret d_RU_divide_32 g hP hS
  rw [eH] at key
  exact key
theorem d_RU_load_0 : decode b_RU_load 0 = .ok (.iload_n 2, 1) := by decide +kernel
theorem d_RU_load_1 : decode b_RU_load 1 = .ok (.ifCond .lt 8, 3) := by decide +kernel
theorem d_RU_load_4 : decode b_RU_load 4 = .ok (.iload_n 2, 1) := by decide +kernel
theorem d_RU_load_5 : decode b_RU_load 5 = .ok (.iconst 4, 1) := by decide +kernel
theorem d_RU_load_6 : decode b_RU_load 6 = .ok (.if_icmp .lt 11, 3) := by decide +kernel
theorem d_RU_load_9 : decode b_RU_load 9 = .ok (.aload_n 0, 1) := by decide +kernel
theorem d_RU_load_10 : decode b_RU_load 10 = .ok (.iconst 3, 1) := by decide +kernel
theorem d_RU_load_11 : decode b_RU_load 11 = .ok (.putfield 32, 3) := by decide +kernel
theorem d_RU_load_14 : decode b_RU_load 14 = .ok (.goto 15, 3) := by decide +kernel
theorem d_RU_load_17 : decode b_RU_load 17 = .ok (.aload_n 0, 1) := by decide +kernel
theorem d_RU_load_18 : decode b_RU_load 18 = .ok (.getfield 11, 3) := by decide +kernel
theorem d_RU_load_21 : decode b_RU_load 21 = .ok (.iload_n 1, 1) := by decide +kernel
theorem d_RU_load_22 : decode b_RU_load 22 = .ok (.aload_n 0, 1) := by decide +kernel
theorem d_RU_load_23 : decode b_RU_load 23 = .ok (.getfield 17, 3) := by decide +kernel
theorem d_RU_load_26 : decode b_RU_load 26 = .ok (.iload_n 2, 1) := by decide +kernel
theorem d_RU_load_27 : decode b_RU_load 27 = .ok (.iaload, 1) := by decide +kernel
theorem d_RU_load_28 : decode b_RU_load 28 = .ok (.iastore, 1) := by decide +kernel
theorem d_RU_load_29 : decode b_RU_load 29 = .ok (.return_, 1) := by decide +kernel
noncomputable def s_RU_load (j0 : Nat) (a1 : Int32) (a2 : Int32) (M : Mem) : Option (Mem) :=
  if a2 < 0 then (nx (st M j0 10 (3 : Int32)) (fun M21 => some M21)) else (if a2 < (4 : Int32) then (ck a2 4 (ck a1 4 (nx (st M (j0 + 1) a1.toNatClampNeg (M (j0 + 2) a2.toNatClampNeg)) (fun M24 => some M24)))) else (nx (st M j0 10 (3 : Int32)) (fun M25 => some M25)))
set_option maxHeartbeats 4000000 in
set_option maxRecDepth 100000 in
theorem c_RU_load (l : Launch) (x : Cx) (hJ : Inj x) (j0 : Nat) (k0 : kd_run j0) (a1 : Int32) (a2 : Int32) {M : Mem} {out : Mem} (h : s_RU_load j0 a1 a2 M = some out) : Cv l x y_RU_load (Cond.code y_RU_load b_RU_load 3 none :: tb) r_RU_load [.ref (x.2.1 j0), .int a1, .int a2] M out := by
  refine ofCv (cc := b_RU_load) (maxL := 3) (by decide) rfl (rfl) (Nat.le_of_ble_eq_true rfl) ?_
  intro p e s m args below meth c Q G0 ls g hx hb hml hown hts hK hZ hP hS hl hret
  have hown : s.vm.findClass R_RU = some m.cls := hown
  have hl : lv_has ls 3 [(0, .ref (x.2.1 j0)), (1, .int a1), (2, .int a2)] := hl
  obtain ⟨H, eH⟩ : ∃ z, z = s.heap := ⟨_, rfl⟩
  obtain ⟨locs, eL⟩ : ∃ z, z = ([] : List Loc) := ⟨_, rfl⟩
  rw [← eH] at hP
  have hS : va_S (A0 x) s.heap H locs := by rw [eH, eL]; exact hS
  rw [← eL]
  have key : W p l e r_RU_load s m args below meth c H locs 0 0 Q (F0 m 0 ls []) := by
    clear eH eL
    unfold s_RU_load at h
    refine lv_iload_n hx hb d_RU_load_0 rfl (lv_at hl 2 rfl) ?_
    refine lv_if_lt (tgt := 9) hx hb d_RU_load_1 rfl (fun hc => ?_) (fun hc => ?_)
    · have h := if_p hc h
      refine lv_aload_n hx hb d_RU_load_9 rfl (lv_at hl 0 rfl) ?_
      refine lv_iconst (v := (3 : Int32)) hx hb d_RU_load_10 (by decide) ?_
      obtain ⟨M21, eM21, h⟩ := nx_e h
      refine pf_RU_32 hx hb hts hown hK hJ hP hS k0 eM21 d_RU_load_11 (fun H locs hP hS => ?_)
      refine lv_goto (tgt := 29) hx hb d_RU_load_14 rfl ?_
      obtain rfl := Option.some.inj h
      exact hret d_RU_load_29 g hP hS
    · have h := if_m hc h
      refine lv_iload_n hx hb d_RU_load_4 rfl (lv_at hl 2 rfl) ?_
      refine lv_iconst (v := (4 : Int32)) hx hb d_RU_load_5 (by decide) ?_
      refine lv_icmp_lt (tgt := 17) hx hb d_RU_load_6 rfl (fun hc => ?_) (fun hc => ?_)
      · have h := if_p hc h
        refine lv_aload_n hx hb d_RU_load_17 rfl (lv_at hl 0 rfl) ?_
        refine gf_RU_11 hx hb hts hown hK hP k0 d_RU_load_18 ?_
        refine lv_iload_n hx hb d_RU_load_21 rfl (lv_at hl 1 rfl) ?_
        refine lv_aload_n hx hb d_RU_load_22 rfl (lv_at hl 0 rfl) ?_
        refine gf_RU_17 hx hb hts hown hK hP k0 d_RU_load_23 ?_
        refine lv_iload_n hx hb d_RU_load_26 rfl (lv_at hl 2 rfl) ?_
        obtain ⟨b22, h⟩ := ck_e h
        refine m_ald hx hb hK hP (ar_RU_memory k0) b22 d_RU_load_27 ?_
        obtain ⟨b23, h⟩ := ck_e h
        obtain ⟨M24, eM24, h⟩ := nx_e h
        refine m_ast hx hb hK hJ hP hS (ar_RU_registers k0) b23 eM24 d_RU_load_28 (fun H locs hP hS => ?_)
        obtain rfl := Option.some.inj h
        exact hret d_RU_load_29 g hP hS
      · have h := if_m hc h
        refine lv_aload_n hx hb d_RU_load_9 rfl (lv_at hl 0 rfl) ?_
        refine lv_iconst (v := (3 : Int32)) hx hb d_RU_load_10 (by decide) ?_
        obtain ⟨M25, eM25, h⟩ := nx_e h
        refine pf_RU_32 hx hb hts hown hK hJ hP hS k0 eM25 d_RU_load_11 (fun H locs hP hS => ?_)
        refine lv_goto (tgt := 29) hx hb d_RU_load_14 rfl ?_
        obtain rfl := Option.some.inj h
        exact hret d_RU_load_29 g hP hS
  rw [eH] at key
  exact key
theorem d_RU_save_0 : decode b_RU_save 0 = .ok (.iload_n 2, 1) := by decide +kernel
theorem d_RU_save_1 : decode b_RU_save 1 = .ok (.ifCond .lt 8, 3) := by decide +kernel
theorem d_RU_save_4 : decode b_RU_save 4 = .ok (.iload_n 2, 1) := by decide +kernel
theorem d_RU_save_5 : decode b_RU_save 5 = .ok (.iconst 4, 1) := by decide +kernel
theorem d_RU_save_6 : decode b_RU_save 6 = .ok (.if_icmp .lt 11, 3) := by decide +kernel
theorem d_RU_save_9 : decode b_RU_save 9 = .ok (.aload_n 0, 1) := by decide +kernel
theorem d_RU_save_10 : decode b_RU_save 10 = .ok (.iconst 3, 1) := by decide +kernel
theorem d_RU_save_11 : decode b_RU_save 11 = .ok (.putfield 32, 3) := by decide +kernel
theorem d_RU_save_14 : decode b_RU_save 14 = .ok (.goto 15, 3) := by decide +kernel
theorem d_RU_save_17 : decode b_RU_save 17 = .ok (.aload_n 0, 1) := by decide +kernel
theorem d_RU_save_18 : decode b_RU_save 18 = .ok (.getfield 17, 3) := by decide +kernel
theorem d_RU_save_21 : decode b_RU_save 21 = .ok (.iload_n 2, 1) := by decide +kernel
theorem d_RU_save_22 : decode b_RU_save 22 = .ok (.aload_n 0, 1) := by decide +kernel
theorem d_RU_save_23 : decode b_RU_save 23 = .ok (.getfield 11, 3) := by decide +kernel
theorem d_RU_save_26 : decode b_RU_save 26 = .ok (.iload_n 1, 1) := by decide +kernel
theorem d_RU_save_27 : decode b_RU_save 27 = .ok (.iaload, 1) := by decide +kernel
theorem d_RU_save_28 : decode b_RU_save 28 = .ok (.iastore, 1) := by decide +kernel
theorem d_RU_save_29 : decode b_RU_save 29 = .ok (.return_, 1) := by decide +kernel
noncomputable def s_RU_save (j0 : Nat) (a1 : Int32) (a2 : Int32) (M : Mem) : Option (Mem) :=
  if a2 < 0 then (nx (st M j0 10 (3 : Int32)) (fun M21 => some M21)) else (if a2 < (4 : Int32) then (ck a1 4 (ck a2 4 (nx (st M (j0 + 2) a2.toNatClampNeg (M (j0 + 1) a1.toNatClampNeg)) (fun M24 => some M24)))) else (nx (st M j0 10 (3 : Int32)) (fun M25 => some M25)))
set_option maxHeartbeats 4000000 in
set_option maxRecDepth 100000 in
theorem c_RU_save (l : Launch) (x : Cx) (hJ : Inj x) (j0 : Nat) (k0 : kd_run j0) (a1 : Int32) (a2 : Int32) {M : Mem} {out : Mem} (h : s_RU_save j0 a1 a2 M = some out) : Cv l x y_RU_save (Cond.code y_RU_save b_RU_save 3 none :: tb) r_RU_save [.ref (x.2.1 j0), .int a1, .int a2] M out := by
  refine ofCv (cc := b_RU_save) (maxL := 3) (by decide) rfl (rfl) (Nat.le_of_ble_eq_true rfl) ?_
  intro p e s m args below meth c Q G0 ls g hx hb hml hown hts hK hZ hP hS hl hret
  have hown : s.vm.findClass R_RU = some m.cls := hown
  have hl : lv_has ls 3 [(0, .ref (x.2.1 j0)), (1, .int a1), (2, .int a2)] := hl
  obtain ⟨H, eH⟩ : ∃ z, z = s.heap := ⟨_, rfl⟩
  obtain ⟨locs, eL⟩ : ∃ z, z = ([] : List Loc) := ⟨_, rfl⟩
  rw [← eH] at hP
  have hS : va_S (A0 x) s.heap H locs := by rw [eH, eL]; exact hS
  rw [← eL]
  have key : W p l e r_RU_save s m args below meth c H locs 0 0 Q (F0 m 0 ls []) := by
    clear eH eL
    unfold s_RU_save at h
    refine lv_iload_n hx hb d_RU_save_0 rfl (lv_at hl 2 rfl) ?_
    refine lv_if_lt (tgt := 9) hx hb d_RU_save_1 rfl (fun hc => ?_) (fun hc => ?_)
    · have h := if_p hc h
      refine lv_aload_n hx hb d_RU_save_9 rfl (lv_at hl 0 rfl) ?_
      refine lv_iconst (v := (3 : Int32)) hx hb d_RU_save_10 (by decide) ?_
      obtain ⟨M21, eM21, h⟩ := nx_e h
      refine pf_RU_32 hx hb hts hown hK hJ hP hS k0 eM21 d_RU_save_11 (fun H locs hP hS => ?_)
      refine lv_goto (tgt := 29) hx hb d_RU_save_14 rfl ?_
      obtain rfl := Option.some.inj h
      exact hret d_RU_save_29 g hP hS
    · have h := if_m hc h
      refine lv_iload_n hx hb d_RU_save_4 rfl (lv_at hl 2 rfl) ?_
      refine lv_iconst (v := (4 : Int32)) hx hb d_RU_save_5 (by decide) ?_
      refine lv_icmp_lt (tgt := 17) hx hb d_RU_save_6 rfl (fun hc => ?_) (fun hc => ?_)
      · have h := if_p hc h
        refine lv_aload_n hx hb d_RU_save_17 rfl (lv_at hl 0 rfl) ?_
        refine gf_RU_17 hx hb hts hown hK hP k0 d_RU_save_18 ?_
        refine lv_iload_n hx hb d_RU_save_21 rfl (lv_at hl 2 rfl) ?_
        refine lv_aload_n hx hb d_RU_save_22 rfl (lv_at hl 0 rfl) ?_
        refine gf_RU_11 hx hb hts hown hK hP k0 d_RU_save_23 ?_
        refine lv_iload_n hx hb d_RU_save_26 rfl (lv_at hl 1 rfl) ?_
        obtain ⟨b22, h⟩ := ck_e h
        refine m_ald hx hb hK hP (ar_RU_registers k0) b22 d_RU_save_27 ?_
        obtain ⟨b23, h⟩ := ck_e h
        obtain ⟨M24, eM24, h⟩ := nx_e h
        refine m_ast hx hb hK hJ hP hS (ar_RU_memory k0) b23 eM24 d_RU_save_28 (fun H locs hP hS => ?_)
        obtain rfl := Option.some.inj h
        exact hret d_RU_save_29 g hP hS
      · have h := if_m hc h
        refine lv_aload_n hx hb d_RU_save_9 rfl (lv_at hl 0 rfl) ?_
        refine lv_iconst (v := (3 : Int32)) hx hb d_RU_save_10 (by decide) ?_
        obtain ⟨M25, eM25, h⟩ := nx_e h
        refine pf_RU_32 hx hb hts hown hK hJ hP hS k0 eM25 d_RU_save_11 (fun H locs hP hS => ?_)
        refine lv_goto (tgt := 29) hx hb d_RU_save_14 rfl ?_
        obtain rfl := Option.some.inj h
        exact hret d_RU_save_29 g hP hS
  rw [eH] at key
  exact key
theorem d_RU_goAlong_0 : decode b_RU_goAlong 0 = .ok (.aload_n 0, 1) := by decide +kernel
theorem d_RU_goAlong_1 : decode b_RU_goAlong 1 = .ok (.getfield 23, 3) := by decide +kernel
theorem d_RU_goAlong_4 : decode b_RU_goAlong 4 = .ok (.iload_n 1, 1) := by decide +kernel
theorem d_RU_goAlong_5 : decode b_RU_goAlong 5 = .ok (.iaload, 1) := by decide +kernel
theorem d_RU_goAlong_6 : decode b_RU_goAlong 6 = .ok (.ifCond .ne 23, 3) := by decide +kernel
theorem d_RU_goAlong_9 : decode b_RU_goAlong 9 = .ok (.aload_n 0, 1) := by decide +kernel
theorem d_RU_goAlong_10 : decode b_RU_goAlong 10 = .ok (.getfield 26, 3) := by decide +kernel
theorem d_RU_goAlong_13 : decode b_RU_goAlong 13 = .ok (.aload_n 0, 1) := by decide +kernel
theorem d_RU_goAlong_14 : decode b_RU_goAlong 14 = .ok (.getfield 50, 3) := by decide +kernel
theorem d_RU_goAlong_17 : decode b_RU_goAlong 17 = .ok (.iload_n 1, 1) := by decide +kernel
theorem d_RU_goAlong_18 : decode b_RU_goAlong 18 = .ok (.iastore, 1) := by decide +kernel
theorem d_RU_goAlong_19 : decode b_RU_goAlong 19 = .ok (.aload_n 0, 1) := by decide +kernel
theorem d_RU_goAlong_20 : decode b_RU_goAlong 20 = .ok (.dup, 1) := by decide +kernel
theorem d_RU_goAlong_21 : decode b_RU_goAlong 21 = .ok (.getfield 50, 3) := by decide +kernel
theorem d_RU_goAlong_24 : decode b_RU_goAlong 24 = .ok (.iconst 1, 1) := by decide +kernel
theorem d_RU_goAlong_25 : decode b_RU_goAlong 25 = .ok (.iadd, 1) := by decide +kernel
theorem d_RU_goAlong_26 : decode b_RU_goAlong 26 = .ok (.putfield 50, 3) := by decide +kernel
theorem d_RU_goAlong_29 : decode b_RU_goAlong 29 = .ok (.aload_n 0, 1) := by decide +kernel
theorem d_RU_goAlong_30 : decode b_RU_goAlong 30 = .ok (.getfield 23, 3) := by decide +kernel
theorem d_RU_goAlong_33 : decode b_RU_goAlong 33 = .ok (.iload_n 1, 1) := by decide +kernel
theorem d_RU_goAlong_34 : decode b_RU_goAlong 34 = .ok (.dup2, 1) := by decide +kernel
theorem d_RU_goAlong_35 : decode b_RU_goAlong 35 = .ok (.iaload, 1) := by decide +kernel
theorem d_RU_goAlong_36 : decode b_RU_goAlong 36 = .ok (.iconst 1, 1) := by decide +kernel
theorem d_RU_goAlong_37 : decode b_RU_goAlong 37 = .ok (.iadd, 1) := by decide +kernel
theorem d_RU_goAlong_38 : decode b_RU_goAlong 38 = .ok (.iastore, 1) := by decide +kernel
theorem d_RU_goAlong_39 : decode b_RU_goAlong 39 = .ok (.return_, 1) := by decide +kernel
noncomputable def j_RU_goAlong_29 (j21 : Nat) (a23 : Int32) (M24 : Mem) : Option (Mem) :=
  ck a23 576 (ck a23 576 (nx (st M24 (j21 + 4) a23.toNatClampNeg ((M24 (j21 + 4) a23.toNatClampNeg) + (1 : Int32))) (fun M27 => some M27)))
noncomputable def s_RU_goAlong (j0 : Nat) (a1 : Int32) (M : Mem) : Option (Mem) :=
  ck a1 576 (if (M (j0 + 4) a1.toNatClampNeg) = 0 then (ck (M j0 5) 64 (nx (st M (j0 + 5) (M j0 5).toNatClampNeg a1) (fun M30 => nx (st M30 j0 5 ((M30 j0 5) + (1 : Int32))) (fun M31 => j_RU_goAlong_29 j0 a1 M31)))) else (j_RU_goAlong_29 j0 a1 M))
set_option maxHeartbeats 4000000 in
set_option maxRecDepth 100000 in
theorem c_RU_goAlong (l : Launch) (x : Cx) (hJ : Inj x) (j0 : Nat) (k0 : kd_run j0) (a1 : Int32) {M : Mem} {out : Mem} (h : s_RU_goAlong j0 a1 M = some out) : Cv l x y_RU_goAlong (Cond.code y_RU_goAlong b_RU_goAlong 2 none :: tb) r_RU_goAlong [.ref (x.2.1 j0), .int a1] M out := by
  refine ofCv (cc := b_RU_goAlong) (maxL := 2) (by decide) rfl (rfl) (Nat.le_of_ble_eq_true rfl) ?_
  intro p e s m args below meth c Q G0 ls g hx hb hml hown hts hK hZ hP hS hl hret
  have hown : s.vm.findClass R_RU = some m.cls := hown
  have hl : lv_has ls 2 [(0, .ref (x.2.1 j0)), (1, .int a1)] := hl
  obtain ⟨H, eH⟩ : ∃ z, z = s.heap := ⟨_, rfl⟩
  obtain ⟨locs, eL⟩ : ∃ z, z = ([] : List Loc) := ⟨_, rfl⟩
  rw [← eH] at hP
  have hS : va_S (A0 x) s.heap H locs := by rw [eH, eL]; exact hS
  rw [← eL]
  have key : W p l e r_RU_goAlong s m args below meth c H locs 0 0 Q (F0 m 0 ls []) := by
    clear eH eL
    unfold s_RU_goAlong at h
    have J29 : ∀ (j21 : Nat) (a23 : Int32) (M24 : Mem) (k22 : kd_run j21) (res : Mem) (h : j_RU_goAlong_29 j21 a23 M24 = some res) (g : G0 res) (H : Heap) (locs : List Loc) (ls : Array Slot) (hP : va_P x.1 vwCl (wld x M24) H) (hS : va_S (A0 x) s.heap H locs) (hl : lv_has ls 2 [(0, .ref (x.2.1 j21)), (1, .int a23)]), W p l e r_RU_goAlong s m args below meth c H locs 0 0 Q (F0 m 29 ls []) := by
      intro j21 a23 M24 k22 res h g H locs ls hP hS hl
      unfold j_RU_goAlong_29 at h
      refine lv_aload_n hx hb d_RU_goAlong_29 rfl (lv_at hl 0 rfl) ?_
      refine gf_RU_23 hx hb hts hown hK hP k22 d_RU_goAlong_30 ?_
      refine lv_iload_n hx hb d_RU_goAlong_33 rfl (lv_at hl 1 rfl) ?_
      refine lv_dup2_11 hx hb d_RU_goAlong_34 rfl rfl ?_
      obtain ⟨b25, h⟩ := ck_e h
      refine m_ald hx hb hK hP (ar_RU_times k22) b25 d_RU_goAlong_35 ?_
      refine lv_iconst (v := (1 : Int32)) hx hb d_RU_goAlong_36 (by decide) ?_
      refine lv_iadd hx hb d_RU_goAlong_37 ?_
      obtain ⟨b26, h⟩ := ck_e h
      obtain ⟨M27, eM27, h⟩ := nx_e h
      refine m_ast hx hb hK hJ hP hS (ar_RU_times k22) b26 eM27 d_RU_goAlong_38 (fun H locs hP hS => ?_)
      obtain rfl := Option.some.inj h
      exact hret d_RU_goAlong_39 g hP hS
    refine lv_aload_n hx hb d_RU_goAlong_0 rfl (lv_at hl 0 rfl) ?_
    refine gf_RU_23 hx hb hts hown hK hP k0 d_RU_goAlong_1 ?_
    refine lv_iload_n hx hb d_RU_goAlong_4 rfl (lv_at hl 1 rfl) ?_
    obtain ⟨b28, h⟩ := ck_e h
    refine m_ald hx hb hK hP (ar_RU_times k0) b28 d_RU_goAlong_5 ?_
    refine lv_if_ne (tgt := 29) hx hb d_RU_goAlong_6 rfl (fun hc => ?_) (fun hc => ?_)
    · have h := if_m hc h
      exact J29 j0 a1 M k0 _ h g H locs ls hP hS (lv_sub hl [0, 1] rfl)
    · have h := if_p hc h
      refine lv_aload_n hx hb d_RU_goAlong_9 rfl (lv_at hl 0 rfl) ?_
      refine gf_RU_26 hx hb hts hown hK hP k0 d_RU_goAlong_10 ?_
      refine lv_aload_n hx hb d_RU_goAlong_13 rfl (lv_at hl 0 rfl) ?_
      refine gf_RU_50 hx hb hts hown hK hP k0 d_RU_goAlong_14 ?_
      refine lv_iload_n hx hb d_RU_goAlong_17 rfl (lv_at hl 1 rfl) ?_
      obtain ⟨b29, h⟩ := ck_e h
      obtain ⟨M30, eM30, h⟩ := nx_e h
      refine m_ast hx hb hK hJ hP hS (ar_RU_edges k0) b29 eM30 d_RU_goAlong_18 (fun H locs hP hS => ?_)
      refine lv_aload_n hx hb d_RU_goAlong_19 rfl (lv_at hl 0 rfl) ?_
      refine lv_dup hx hb d_RU_goAlong_20 rfl ?_
      refine gf_RU_50 hx hb hts hown hK hP k0 d_RU_goAlong_21 ?_
      refine lv_iconst (v := (1 : Int32)) hx hb d_RU_goAlong_24 (by decide) ?_
      refine lv_iadd hx hb d_RU_goAlong_25 ?_
      obtain ⟨M31, eM31, h⟩ := nx_e h
      refine pf_RU_50 hx hb hts hown hK hJ hP hS k0 eM31 d_RU_goAlong_26 (fun H locs hP hS => ?_)
      exact J29 j0 a1 M31 k0 _ h g H locs ls hP hS (lv_sub hl [0, 1] rfl)
  rw [eH] at key
  exact key
theorem d_RU_step_0 : decode b_RU_step 0 = .ok (.aload_n 0, 1) := by decide +kernel
theorem d_RU_step_1 : decode b_RU_step 1 = .ok (.aload_n 0, 1) := by decide +kernel
theorem d_RU_step_2 : decode b_RU_step 2 = .ok (.getfield 36, 3) := by decide +kernel
theorem d_RU_step_5 : decode b_RU_step 5 = .ok (.putfield 59, 3) := by decide +kernel
theorem d_RU_step_8 : decode b_RU_step 8 = .ok (.aload_n 0, 1) := by decide +kernel
theorem d_RU_step_9 : decode b_RU_step 9 = .ok (.aload_n 0, 1) := by decide +kernel
theorem d_RU_step_10 : decode b_RU_step 10 = .ok (.getfield 59, 3) := by decide +kernel
theorem d_RU_step_13 : decode b_RU_step 13 = .ok (.iconst 1, 1) := by decide +kernel
theorem d_RU_step_14 : decode b_RU_step 14 = .ok (.iadd, 1) := by decide +kernel
theorem d_RU_step_15 : decode b_RU_step 15 = .ok (.putfield 36, 3) := by decide +kernel
theorem d_RU_step_18 : decode b_RU_step 18 = .ok (.aload_n 0, 1) := by decide +kernel
theorem d_RU_step_19 : decode b_RU_step 19 = .ok (.dup, 1) := by decide +kernel
theorem d_RU_step_20 : decode b_RU_step 20 = .ok (.getfield 62, 3) := by decide +kernel
theorem d_RU_step_23 : decode b_RU_step 23 = .ok (.iconst 1, 1) := by decide +kernel
theorem d_RU_step_24 : decode b_RU_step 24 = .ok (.iadd, 1) := by decide +kernel
theorem d_RU_step_25 : decode b_RU_step 25 = .ok (.putfield 62, 3) := by decide +kernel
theorem d_RU_step_28 : decode b_RU_step 28 = .ok (.aload_n 1, 1) := by decide +kernel
theorem d_RU_step_29 : decode b_RU_step 29 = .ok (.getfield 65, 3) := by decide +kernel
theorem d_RU_step_32 : decode b_RU_step 32 = .ok (.aload_n 0, 1) := by decide +kernel
theorem d_RU_step_33 : decode b_RU_step 33 = .ok (.getfield 59, 3) := by decide +kernel
theorem d_RU_step_36 : decode b_RU_step 36 = .ok (.iaload, 1) := by decide +kernel
theorem d_RU_step_37 : decode b_RU_step 37 = .ok (.istore_n 3, 1) := by decide +kernel
theorem d_RU_step_38 : decode b_RU_step 38 = .ok (.aload_n 1, 1) := by decide +kernel
theorem d_RU_step_39 : decode b_RU_step 39 = .ok (.getfield 68, 3) := by decide +kernel
theorem d_RU_step_42 : decode b_RU_step 42 = .ok (.aload_n 0, 1) := by decide +kernel
theorem d_RU_step_43 : decode b_RU_step 43 = .ok (.getfield 59, 3) := by decide +kernel
theorem d_RU_step_46 : decode b_RU_step 46 = .ok (.iaload, 1) := by decide +kernel
theorem d_RU_step_47 : decode b_RU_step 47 = .ok (.istore 4, 2) := by decide +kernel
theorem d_RU_step_49 : decode b_RU_step 49 = .ok (.aload_n 1, 1) := by decide +kernel
theorem d_RU_step_50 : decode b_RU_step 50 = .ok (.getfield 71, 3) := by decide +kernel
theorem d_RU_step_53 : decode b_RU_step 53 = .ok (.aload_n 0, 1) := by decide +kernel
theorem d_RU_step_54 : decode b_RU_step 54 = .ok (.getfield 59, 3) := by decide +kernel
theorem d_RU_step_57 : decode b_RU_step 57 = .ok (.iaload, 1) := by decide +kernel
theorem d_RU_step_58 : decode b_RU_step 58 = .ok (.istore 5, 2) := by decide +kernel
theorem d_RU_step_60 : decode b_RU_step 60 = .ok (.iload_n 3, 1) := by decide +kernel
theorem d_RU_step_61 : decode b_RU_step 61 = .ok (.tableswitch 326 1 15 #[75, 87, 108, 128, 148, 168, 194, 220, 229, 238, 245, 256, 280, 296, 312], 75) := by decide +kernel
theorem d_RU_step_136 : decode b_RU_step 136 = .ok (.aload_n 0, 1) := by decide +kernel
theorem d_RU_step_137 : decode b_RU_step 137 = .ok (.getfield 11, 3) := by decide +kernel
theorem d_RU_step_140 : decode b_RU_step 140 = .ok (.iload 4, 2) := by decide +kernel
theorem d_RU_step_142 : decode b_RU_step 142 = .ok (.iload 5, 2) := by decide +kernel
theorem d_RU_step_144 : decode b_RU_step 144 = .ok (.iastore, 1) := by decide +kernel
theorem d_RU_step_145 : decode b_RU_step 145 = .ok (.goto 247, 3) := by decide +kernel
theorem d_RU_step_148 : decode b_RU_step 148 = .ok (.aload_n 0, 1) := by decide +kernel
theorem d_RU_step_149 : decode b_RU_step 149 = .ok (.getfield 11, 3) := by decide +kernel
theorem d_RU_step_152 : decode b_RU_step 152 = .ok (.iload 4, 2) := by decide +kernel
theorem d_RU_step_154 : decode b_RU_step 154 = .ok (.aload_n 2, 1) := by decide +kernel
theorem d_RU_step_155 : decode b_RU_step 155 = .ok (.aload_n 0, 1) := by decide +kernel
theorem d_RU_step_156 : decode b_RU_step 156 = .ok (.getfield 11, 3) := by decide +kernel
theorem d_RU_step_159 : decode b_RU_step 159 = .ok (.iload 5, 2) := by decide +kernel
theorem d_RU_step_161 : decode b_RU_step 161 = .ok (.iaload, 1) := by decide +kernel
theorem d_RU_step_162 : decode b_RU_step 162 = .ok (.invokevirtual 74, 3) := by decide +kernel
theorem d_RU_step_165 : decode b_RU_step 165 = .ok (.iastore, 1) := by decide +kernel
theorem d_RU_step_166 : decode b_RU_step 166 = .ok (.goto 226, 3) := by decide +kernel
theorem d_RU_step_169 : decode b_RU_step 169 = .ok (.aload_n 0, 1) := by decide +kernel
theorem d_RU_step_170 : decode b_RU_step 170 = .ok (.getfield 11, 3) := by decide +kernel
theorem d_RU_step_173 : decode b_RU_step 173 = .ok (.iload 4, 2) := by decide +kernel
theorem d_RU_step_175 : decode b_RU_step 175 = .ok (.dup2, 1) := by decide +kernel
theorem d_RU_step_176 : decode b_RU_step 176 = .ok (.iaload, 1) := by decide +kernel
theorem d_RU_step_177 : decode b_RU_step 177 = .ok (.aload_n 0, 1) := by decide +kernel
theorem d_RU_step_178 : decode b_RU_step 178 = .ok (.getfield 11, 3) := by decide +kernel
theorem d_RU_step_181 : decode b_RU_step 181 = .ok (.iload 5, 2) := by decide +kernel
theorem d_RU_step_183 : decode b_RU_step 183 = .ok (.iaload, 1) := by decide +kernel
theorem d_RU_step_184 : decode b_RU_step 184 = .ok (.iadd, 1) := by decide +kernel
theorem d_RU_step_185 : decode b_RU_step 185 = .ok (.iastore, 1) := by decide +kernel
theorem d_RU_step_186 : decode b_RU_step 186 = .ok (.goto 206, 3) := by decide +kernel
theorem d_RU_step_189 : decode b_RU_step 189 = .ok (.aload_n 0, 1) := by decide +kernel
theorem d_RU_step_190 : decode b_RU_step 190 = .ok (.getfield 11, 3) := by decide +kernel
theorem d_RU_step_193 : decode b_RU_step 193 = .ok (.iload 4, 2) := by decide +kernel
theorem d_RU_step_195 : decode b_RU_step 195 = .ok (.dup2, 1) := by decide +kernel
theorem d_RU_step_196 : decode b_RU_step 196 = .ok (.iaload, 1) := by decide +kernel
theorem d_RU_step_197 : decode b_RU_step 197 = .ok (.aload_n 0, 1) := by decide +kernel
theorem d_RU_step_198 : decode b_RU_step 198 = .ok (.getfield 11, 3) := by decide +kernel
theorem d_RU_step_201 : decode b_RU_step 201 = .ok (.iload 5, 2) := by decide +kernel
theorem d_RU_step_203 : decode b_RU_step 203 = .ok (.iaload, 1) := by decide +kernel
theorem d_RU_step_204 : decode b_RU_step 204 = .ok (.isub, 1) := by decide +kernel
theorem d_RU_step_205 : decode b_RU_step 205 = .ok (.iastore, 1) := by decide +kernel
theorem d_RU_step_206 : decode b_RU_step 206 = .ok (.goto 186, 3) := by decide +kernel
theorem d_RU_step_209 : decode b_RU_step 209 = .ok (.aload_n 0, 1) := by decide +kernel
theorem d_RU_step_210 : decode b_RU_step 210 = .ok (.getfield 11, 3) := by decide +kernel
theorem d_RU_step_213 : decode b_RU_step 213 = .ok (.iload 4, 2) := by decide +kernel
theorem d_RU_step_215 : decode b_RU_step 215 = .ok (.dup2, 1) := by decide +kernel
theorem d_RU_step_216 : decode b_RU_step 216 = .ok (.iaload, 1) := by decide +kernel
theorem d_RU_step_217 : decode b_RU_step 217 = .ok (.aload_n 0, 1) := by decide +kernel
theorem d_RU_step_218 : decode b_RU_step 218 = .ok (.getfield 11, 3) := by decide +kernel
theorem d_RU_step_221 : decode b_RU_step 221 = .ok (.iload 5, 2) := by decide +kernel
theorem d_RU_step_223 : decode b_RU_step 223 = .ok (.iaload, 1) := by decide +kernel
theorem d_RU_step_224 : decode b_RU_step 224 = .ok (.imul, 1) := by decide +kernel
theorem d_RU_step_225 : decode b_RU_step 225 = .ok (.iastore, 1) := by decide +kernel
theorem d_RU_step_226 : decode b_RU_step 226 = .ok (.goto 166, 3) := by decide +kernel
theorem d_RU_step_229 : decode b_RU_step 229 = .ok (.aload_n 0, 1) := by decide +kernel
theorem d_RU_step_230 : decode b_RU_step 230 = .ok (.aload_n 0, 1) := by decide +kernel
theorem d_RU_step_231 : decode b_RU_step 231 = .ok (.getfield 11, 3) := by decide +kernel
theorem d_RU_step_234 : decode b_RU_step 234 = .ok (.iload 4, 2) := by decide +kernel
theorem d_RU_step_236 : decode b_RU_step 236 = .ok (.iaload, 1) := by decide +kernel
theorem d_RU_step_237 : decode b_RU_step 237 = .ok (.ifCond .ne 8, 3) := by decide +kernel
theorem d_RU_step_240 : decode b_RU_step 240 = .ok (.iload 5, 2) := by decide +kernel
theorem d_RU_step_242 : decode b_RU_step 242 = .ok (.goto 7, 3) := by decide +kernel
theorem d_RU_step_245 : decode b_RU_step 245 = .ok (.aload_n 0, 1) := by decide +kernel
theorem d_RU_step_246 : decode b_RU_step 246 = .ok (.getfield 36, 3) := by decide +kernel
theorem d_RU_step_249 : decode b_RU_step 249 = .ok (.putfield 36, 3) := by decide +kernel
theorem d_RU_step_252 : decode b_RU_step 252 = .ok (.goto 140, 3) := by decide +kernel
theorem d_RU_step_255 : decode b_RU_step 255 = .ok (.aload_n 0, 1) := by decide +kernel
theorem d_RU_step_256 : decode b_RU_step 256 = .ok (.aload_n 0, 1) := by decide +kernel
theorem d_RU_step_257 : decode b_RU_step 257 = .ok (.getfield 11, 3) := by decide +kernel
theorem d_RU_step_260 : decode b_RU_step 260 = .ok (.iload 4, 2) := by decide +kernel
theorem d_RU_step_262 : decode b_RU_step 262 = .ok (.iaload, 1) := by decide +kernel
theorem d_RU_step_263 : decode b_RU_step 263 = .ok (.ifCond .ge 8, 3) := by decide +kernel
theorem d_RU_step_266 : decode b_RU_step 266 = .ok (.iload 5, 2) := by decide +kernel
theorem d_RU_step_268 : decode b_RU_step 268 = .ok (.goto 7, 3) := by decide +kernel
theorem d_RU_step_271 : decode b_RU_step 271 = .ok (.aload_n 0, 1) := by decide +kernel
theorem d_RU_step_272 : decode b_RU_step 272 = .ok (.getfield 36, 3) := by decide +kernel
theorem d_RU_step_275 : decode b_RU_step 275 = .ok (.putfield 36, 3) := by decide +kernel
theorem d_RU_step_278 : decode b_RU_step 278 = .ok (.goto 114, 3) := by decide +kernel
theorem d_RU_step_281 : decode b_RU_step 281 = .ok (.aload_n 0, 1) := by decide +kernel
theorem d_RU_step_282 : decode b_RU_step 282 = .ok (.iload 5, 2) := by decide +kernel
theorem d_RU_step_284 : decode b_RU_step 284 = .ok (.putfield 36, 3) := by decide +kernel
theorem d_RU_step_287 : decode b_RU_step 287 = .ok (.goto 105, 3) := by decide +kernel
theorem d_RU_step_290 : decode b_RU_step 290 = .ok (.aload_n 0, 1) := by decide +kernel
theorem d_RU_step_291 : decode b_RU_step 291 = .ok (.iload 5, 2) := by decide +kernel
theorem d_RU_step_293 : decode b_RU_step 293 = .ok (.invokevirtual 80, 3) := by decide +kernel
theorem d_RU_step_296 : decode b_RU_step 296 = .ok (.goto 96, 3) := by decide +kernel
theorem d_RU_step_299 : decode b_RU_step 299 = .ok (.aload_n 0, 1) := by decide +kernel
theorem d_RU_step_300 : decode b_RU_step 300 = .ok (.invokevirtual 84, 3) := by decide +kernel
theorem d_RU_step_303 : decode b_RU_step 303 = .ok (.goto 89, 3) := by decide +kernel
theorem d_RU_step_306 : decode b_RU_step 306 = .ok (.aload_n 0, 1) := by decide +kernel
theorem d_RU_step_307 : decode b_RU_step 307 = .ok (.iload 4, 2) := by decide +kernel
theorem d_RU_step_309 : decode b_RU_step 309 = .ok (.iload 5, 2) := by decide +kernel
theorem d_RU_step_311 : decode b_RU_step 311 = .ok (.invokevirtual 87, 3) := by decide +kernel
theorem d_RU_step_314 : decode b_RU_step 314 = .ok (.goto 78, 3) := by decide +kernel
theorem d_RU_step_317 : decode b_RU_step 317 = .ok (.aload_n 0, 1) := by decide +kernel
theorem d_RU_step_318 : decode b_RU_step 318 = .ok (.aload_n 0, 1) := by decide +kernel
theorem d_RU_step_319 : decode b_RU_step 319 = .ok (.getfield 11, 3) := by decide +kernel
theorem d_RU_step_322 : decode b_RU_step 322 = .ok (.iload 4, 2) := by decide +kernel
theorem d_RU_step_324 : decode b_RU_step 324 = .ok (.iaload, 1) := by decide +kernel
theorem d_RU_step_325 : decode b_RU_step 325 = .ok (.iload 5, 2) := by decide +kernel
theorem d_RU_step_327 : decode b_RU_step 327 = .ok (.if_icmp .ne 7, 3) := by decide +kernel
theorem d_RU_step_330 : decode b_RU_step 330 = .ok (.iconst 1, 1) := by decide +kernel
theorem d_RU_step_331 : decode b_RU_step 331 = .ok (.goto 4, 3) := by decide +kernel
theorem d_RU_step_334 : decode b_RU_step 334 = .ok (.iconst (-1), 1) := by decide +kernel
theorem d_RU_step_335 : decode b_RU_step 335 = .ok (.putfield 32, 3) := by decide +kernel
theorem d_RU_step_338 : decode b_RU_step 338 = .ok (.goto 54, 3) := by decide +kernel
theorem d_RU_step_341 : decode b_RU_step 341 = .ok (.aload_n 0, 1) := by decide +kernel
theorem d_RU_step_342 : decode b_RU_step 342 = .ok (.iload 4, 2) := by decide +kernel
theorem d_RU_step_344 : decode b_RU_step 344 = .ok (.aload_n 0, 1) := by decide +kernel
theorem d_RU_step_345 : decode b_RU_step 345 = .ok (.getfield 11, 3) := by decide +kernel
theorem d_RU_step_348 : decode b_RU_step 348 = .ok (.iload 5, 2) := by decide +kernel
theorem d_RU_step_350 : decode b_RU_step 350 = .ok (.iaload, 1) := by decide +kernel
theorem d_RU_step_351 : decode b_RU_step 351 = .ok (.invokevirtual 91, 3) := by decide +kernel
theorem d_RU_step_354 : decode b_RU_step 354 = .ok (.goto 38, 3) := by decide +kernel
theorem d_RU_step_357 : decode b_RU_step 357 = .ok (.aload_n 0, 1) := by decide +kernel
theorem d_RU_step_358 : decode b_RU_step 358 = .ok (.iload 4, 2) := by decide +kernel
theorem d_RU_step_360 : decode b_RU_step 360 = .ok (.aload_n 0, 1) := by decide +kernel
theorem d_RU_step_361 : decode b_RU_step 361 = .ok (.getfield 11, 3) := by decide +kernel
theorem d_RU_step_364 : decode b_RU_step 364 = .ok (.iload 5, 2) := by decide +kernel
theorem d_RU_step_366 : decode b_RU_step 366 = .ok (.iaload, 1) := by decide +kernel
theorem d_RU_step_367 : decode b_RU_step 367 = .ok (.invokevirtual 94, 3) := by decide +kernel
theorem d_RU_step_370 : decode b_RU_step 370 = .ok (.goto 22, 3) := by decide +kernel
theorem d_RU_step_373 : decode b_RU_step 373 = .ok (.aload_n 0, 1) := by decide +kernel
theorem d_RU_step_374 : decode b_RU_step 374 = .ok (.getfield 11, 3) := by decide +kernel
theorem d_RU_step_377 : decode b_RU_step 377 = .ok (.iload 4, 2) := by decide +kernel
theorem d_RU_step_379 : decode b_RU_step 379 = .ok (.aload_n 2, 1) := by decide +kernel
theorem d_RU_step_380 : decode b_RU_step 380 = .ok (.getfield 97, 3) := by decide +kernel
theorem d_RU_step_383 : decode b_RU_step 383 = .ok (.iastore, 1) := by decide +kernel
theorem d_RU_step_384 : decode b_RU_step 384 = .ok (.goto 8, 3) := by decide +kernel
theorem d_RU_step_387 : decode b_RU_step 387 = .ok (.aload_n 0, 1) := by decide +kernel
theorem d_RU_step_388 : decode b_RU_step 388 = .ok (.iconst 0, 1) := by decide +kernel
theorem d_RU_step_389 : decode b_RU_step 389 = .ok (.putfield 32, 3) := by decide +kernel
theorem d_RU_step_392 : decode b_RU_step 392 = .ok (.aload_n 0, 1) := by decide +kernel
theorem d_RU_step_393 : decode b_RU_step 393 = .ok (.getfield 32, 3) := by decide +kernel
theorem d_RU_step_396 : decode b_RU_step 396 = .ok (.iconst (-1), 1) := by decide +kernel
theorem d_RU_step_397 : decode b_RU_step 397 = .ok (.if_icmp .ne 37, 3) := by decide +kernel
theorem d_RU_step_400 : decode b_RU_step 400 = .ok (.iload_n 3, 1) := by decide +kernel
theorem d_RU_step_401 : decode b_RU_step 401 = .ok (.invokestatic 100, 3) := by decide +kernel
theorem d_RU_step_404 : decode b_RU_step 404 = .ok (.ifCond .eq 30, 3) := by decide +kernel
theorem d_RU_step_407 : decode b_RU_step 407 = .ok (.aload_n 1, 1) := by decide +kernel
theorem d_RU_step_408 : decode b_RU_step 408 = .ok (.aload_n 0, 1) := by decide +kernel
theorem d_RU_step_409 : decode b_RU_step 409 = .ok (.getfield 36, 3) := by decide +kernel
theorem d_RU_step_412 : decode b_RU_step 412 = .ok (.invokevirtual 39, 3) := by decide +kernel
theorem d_RU_step_415 : decode b_RU_step 415 = .ok (.ifCond .eq 19, 3) := by decide +kernel
theorem d_RU_step_418 : decode b_RU_step 418 = .ok (.aload_n 0, 1) := by decide +kernel
theorem d_RU_step_419 : decode b_RU_step 419 = .ok (.bipush 24, 2) := by decide +kernel
theorem d_RU_step_421 : decode b_RU_step 421 = .ok (.aload_n 0, 1) := by decide +kernel
theorem d_RU_step_422 : decode b_RU_step 422 = .ok (.getfield 59, 3) := by decide +kernel
theorem d_RU_step_425 : decode b_RU_step 425 = .ok (.imul, 1) := by decide +kernel
theorem d_RU_step_426 : decode b_RU_step 426 = .ok (.aload_n 0, 1) := by decide +kernel
theorem d_RU_step_427 : decode b_RU_step 427 = .ok (.getfield 36, 3) := by decide +kernel
theorem d_RU_step_430 : decode b_RU_step 430 = .ok (.iadd, 1) := by decide +kernel
theorem d_RU_step_431 : decode b_RU_step 431 = .ok (.invokevirtual 103, 3) := by decide +kernel
theorem d_RU_step_434 : decode b_RU_step 434 = .ok (.return_, 1) := by decide +kernel
noncomputable def j_RU_step_392 (j21 : Nat) (a23 : Int32) (M24 : Mem) : Option (Mem) :=
  if (M24 j21 10) = (-1 : Int32) then (bi (s_PR_isJump a23 M24) (fun r27 M25 => if r27 = 0 then (some M25) else (bi (s_PR_has (M25 j21 7) M25) (fun r30 M28 => if r30 = 0 then (some M28) else (bv (s_RU_goAlong j21 (((24 : Int32) * (M28 j21 8)) + (M28 j21 7)) M28) (fun M31 => some M31)))))) else (some M24)
noncomputable def j_RU_step_335 (j33 : Nat) (a35 : Int32) (a36 : Int32) (j37 : Nat) (M39 : Mem) : Option (Mem) :=
  nx (st M39 j37 10 a36) (fun M40 => j_RU_step_392 j33 a35 M40)
noncomputable def j_RU_step_275 (j41 : Nat) (a43 : Int32) (a44 : Int32) (j45 : Nat) (M47 : Mem) : Option (Mem) :=
  nx (st M47 j45 7 a44) (fun M48 => j_RU_step_392 j41 a43 M48)
noncomputable def j_RU_step_249 (j49 : Nat) (a51 : Int32) (a52 : Int32) (j53 : Nat) (M55 : Mem) : Option (Mem) :=
  nx (st M55 j53 7 a52) (fun M56 => j_RU_step_392 j49 a51 M56)
noncomputable def s_RU_step (j0 : Nat) (j2 : Nat) (M : Mem) : Option (Mem) :=
  nx (st M j0 8 (M j0 7)) (fun M57 => nx (st M57 j0 7 ((M57 j0 8) + (1 : Int32))) (fun M58 => nx (st M58 j0 9 ((M58 j0 9) + (1 : Int32))) (fun M59 => ck (M59 j0 8) 24 (nx (M59 2 (M59 j0 8).toNatClampNeg) (fun v61 => ck (M59 j0 8) 24 (nx (M59 3 (M59 j0 8).toNatClampNeg) (fun v63 => ck (M59 j0 8) 24 (nx (M59 4 (M59 j0 8).toNatClampNeg) (fun v65 => if v61 = (1 : Int32) then (ck v63 4 (nx (st M59 (j0 + 1) v63.toNatClampNeg v65) (fun M67 => j_RU_step_392 j0 v61 M67))) else (if v61 = (2 : Int32) then (ck v65 4 (bi (s_IN_at j2 (M59 (j0 + 1) v65.toNatClampNeg) M59) (fun r72 M70 => ck v63 4 (nx (st M70 (j0 + 1) v63.toNatClampNeg r72) (fun M74 => j_RU_step_392 j0 v61 M74))))) else (if v61 = (3 : Int32) then (ck v63 4 (ck v65 4 (ck v63 4 (nx (st M59 (j0 + 1) v63.toNatClampNeg ((M59 (j0 + 1) v63.toNatClampNeg) + (M59 (j0 + 1) v65.toNatClampNeg))) (fun M79 => j_RU_step_392 j0 v61 M79))))) else (if v61 = (4 : Int32) then (ck v63 4 (ck v65 4 (ck v63 4 (nx (st M59 (j0 + 1) v63.toNatClampNeg ((M59 (j0 + 1) v63.toNatClampNeg) - (M59 (j0 + 1) v65.toNatClampNeg))) (fun M84 => j_RU_step_392 j0 v61 M84))))) else (if v61 = (5 : Int32) then (ck v63 4 (ck v65 4 (ck v63 4 (nx (st M59 (j0 + 1) v63.toNatClampNeg ((M59 (j0 + 1) v63.toNatClampNeg) * (M59 (j0 + 1) v65.toNatClampNeg))) (fun M89 => j_RU_step_392 j0 v61 M89))))) else (if v61 = (6 : Int32) then (ck v63 4 (if (M59 (j0 + 1) v63.toNatClampNeg) = 0 then (j_RU_step_249 j0 v61 v65 j0 M59) else (j_RU_step_249 j0 v61 (M59 j0 7) j0 M59))) else (if v61 = (7 : Int32) then (ck v63 4 (if 0 ≤ (M59 (j0 + 1) v63.toNatClampNeg) then (j_RU_step_275 j0 v61 (M59 j0 7) j0 M59) else (j_RU_step_275 j0 v61 v65 j0 M59))) else (if v61 = (8 : Int32) then (nx (st M59 j0 7 v65) (fun M95 => j_RU_step_392 j0 v61 M95)) else (if v61 = (9 : Int32) then (bv (s_RU_goInto j0 v65 M59) (fun M97 => j_RU_step_392 j0 v61 M97)) else (if v61 = (10 : Int32) then (bv (s_RU_goBack j0 M59) (fun M100 => j_RU_step_392 j0 v61 M100)) else (if v61 = (11 : Int32) then (bv (s_RU_divide j0 v63 v65 M59) (fun M103 => j_RU_step_392 j0 v61 M103)) else (if v61 = (12 : Int32) then (ck v63 4 (if (M59 (j0 + 1) v63.toNatClampNeg) = v65 then (j_RU_step_335 j0 v61 (1 : Int32) j0 M59) else (j_RU_step_335 j0 v61 (-1 : Int32) j0 M59))) else (if v61 = (13 : Int32) then (ck v65 4 (bv (s_RU_load j0 v63 (M59 (j0 + 1) v65.toNatClampNeg) M59) (fun M109 => j_RU_step_392 j0 v61 M109))) else (if v61 = (14 : Int32) then (ck v65 4 (bv (s_RU_save j0 v63 (M59 (j0 + 1) v65.toNatClampNeg) M59) (fun M113 => j_RU_step_392 j0 v61 M113))) else (if v61 = (15 : Int32) then (ck v63 4 (nx (st M59 (j0 + 1) v63.toNatClampNeg (M59 j2 1)) (fun M117 => j_RU_step_392 j0 v61 M117))) else (nx (st M59 j0 10 (0 : Int32)) (fun M119 => j_RU_step_392 j0 v61 M119)))))))))))))))))))))))))
set_option maxHeartbeats 4000000 in
set_option maxRecDepth 100000 in
theorem c_RU_step (l : Launch) (x : Cx) (hJ : Inj x) (j0 : Nat) (k0 : kd_run j0) (j2 : Nat) (k2 : kd_in j2) {M : Mem} {out : Mem} (h : s_RU_step j0 j2 M = some out) : Cv l x y_RU_step (Cond.code y_RU_step b_RU_step 6 none :: tb) r_RU_step [.ref (x.2.1 j0), .ref (x.2.1 1), .ref (x.2.1 j2)] M out := by
  refine ofCv (cc := b_RU_step) (maxL := 6) (by decide) rfl (rfl) (Nat.le_of_ble_eq_true rfl) ?_
  intro p e s m args below meth c Q G0 ls g hx hb hml hown hts hK hZ hP hS hl hret
  have hown : s.vm.findClass R_RU = some m.cls := hown
  have hl : lv_has ls 6 [(0, .ref (x.2.1 j0)), (1, .ref (x.2.1 1)), (2, .ref (x.2.1 j2))] := hl
  obtain ⟨H, eH⟩ : ∃ z, z = s.heap := ⟨_, rfl⟩
  obtain ⟨locs, eL⟩ : ∃ z, z = ([] : List Loc) := ⟨_, rfl⟩
  rw [← eH] at hP
  have hS : va_S (A0 x) s.heap H locs := by rw [eH, eL]; exact hS
  rw [← eL]
  have key : W p l e r_RU_step s m args below meth c H locs 0 0 Q (F0 m 0 ls []) := by
    clear eH eL
    unfold s_RU_step at h
    have J392 : ∀ (j21 : Nat) (a23 : Int32) (M24 : Mem) (k22 : kd_run j21) (res : Mem) (h : j_RU_step_392 j21 a23 M24 = some res) (g : G0 res) (H : Heap) (locs : List Loc) (ls : Array Slot) (hP : va_P x.1 vwCl (wld x M24) H) (hS : va_S (A0 x) s.heap H locs) (hl : lv_has ls 6 [(0, .ref (x.2.1 j21)), (1, .ref (x.2.1 1)), (3, .int a23)]), W p l e r_RU_step s m args below meth c H locs 0 0 Q (F0 m 392 ls []) := by
      intro j21 a23 M24 k22 res h g H locs ls hP hS hl
      unfold j_RU_step_392 at h
      refine lv_aload_n hx hb d_RU_step_392 rfl (lv_at hl 0 rfl) ?_
      refine gf_RU_32 hx hb hts hown hK hP k22 d_RU_step_393 ?_
      refine lv_iconst (v := (-1 : Int32)) hx hb d_RU_step_396 (by decide) ?_
      refine lv_icmp_ne (tgt := 434) hx hb d_RU_step_397 rfl (fun hc => ?_) (fun hc => ?_)
      · have h := if_m hc h
        obtain rfl := Option.some.inj h
        exact hret d_RU_step_434 g hP hS
      · have h := if_p hc h
        refine lv_iload_n hx hb d_RU_step_400 rfl (lv_at hl 2 rfl) ?_
        obtain ⟨r27, M25, c26, h⟩ := bi_e h
        refine cl_RU_100 (rest := []) (R := r_RU_step) (c_PR_isJump l x hJ a23 c26) hx hb hml hts hown hK hZ hP hS hl.1 (Nat.le_of_ble_eq_true rfl) (Nat.le_of_ble_eq_true rfl) (Nat.le_of_ble_eq_true rfl) ⟨rfl, rfl, Nat.zero_le _, Nat.zero_le _⟩ d_RU_step_401 (fun H locs hP hS => ?_)
        refine lv_if_eq (tgt := 434) hx hb d_RU_step_404 rfl (fun hc => ?_) (fun hc => ?_)
        · have h := if_p hc h
          obtain rfl := Option.some.inj h
          exact hret d_RU_step_434 g hP hS
        · have h := if_m hc h
          refine lv_aload_n hx hb d_RU_step_407 rfl (lv_at hl 1 rfl) ?_
          refine lv_aload_n hx hb d_RU_step_408 rfl (lv_at hl 0 rfl) ?_
          refine gf_RU_36 hx hb hts hown hK hP k22 d_RU_step_409 ?_
          obtain ⟨r30, M28, c29, h⟩ := bi_e h
          refine cl_RU_39 (rest := []) (R := r_RU_step) (c_PR_has l x hJ (M25 j21 7) c29) hx hb hml hts hown hK hZ hP hS hl.1 (Nat.le_of_ble_eq_true rfl) (Nat.le_of_ble_eq_true rfl) (Nat.le_of_ble_eq_true rfl) ⟨rfl, rfl, Nat.zero_le _, Nat.zero_le _⟩ d_RU_step_412 (fun H locs hP hS => ?_)
          refine lv_if_eq (tgt := 434) hx hb d_RU_step_415 rfl (fun hc => ?_) (fun hc => ?_)
          · have h := if_p hc h
            obtain rfl := Option.some.inj h
            exact hret d_RU_step_434 g hP hS
          · have h := if_m hc h
            refine lv_aload_n hx hb d_RU_step_418 rfl (lv_at hl 0 rfl) ?_
            refine lv_bipush (v := (24 : Int32)) hx hb d_RU_step_419 (by decide) ?_
            refine lv_aload_n hx hb d_RU_step_421 rfl (lv_at hl 0 rfl) ?_
            refine gf_RU_59 hx hb hts hown hK hP k22 d_RU_step_422 ?_
            refine lv_imul hx hb d_RU_step_425 ?_
            refine lv_aload_n hx hb d_RU_step_426 rfl (lv_at hl 0 rfl) ?_
            refine gf_RU_36 hx hb hts hown hK hP k22 d_RU_step_427 ?_
            refine lv_iadd hx hb d_RU_step_430 ?_
            obtain ⟨M31, c32, h⟩ := bv_e h
            refine cl_RU_103 (rest := []) (R := r_RU_step) (c_RU_goAlong l x hJ j21 k22 (((24 : Int32) * (M28 j21 8)) + (M28 j21 7)) c32) k22 hx hb hml hts hown hK hZ hP hS hl.1 (Nat.le_of_ble_eq_true rfl) (Nat.le_of_ble_eq_true rfl) (Nat.le_of_ble_eq_true rfl) ⟨rfl, rfl, Nat.zero_le _, Nat.zero_le _⟩ d_RU_step_431 (fun H locs hP hS => ?_)
            obtain rfl := Option.some.inj h
            exact hret d_RU_step_434 g hP hS
    have J335 : ∀ (j33 : Nat) (a35 : Int32) (a36 : Int32) (j37 : Nat) (M39 : Mem) (k34 : kd_run j33) (k38 : kd_run j37) (res : Mem) (h : j_RU_step_335 j33 a35 a36 j37 M39 = some res) (g : G0 res) (H : Heap) (locs : List Loc) (ls : Array Slot) (hP : va_P x.1 vwCl (wld x M39) H) (hS : va_S (A0 x) s.heap H locs) (hl : lv_has ls 6 [(0, .ref (x.2.1 j33)), (1, .ref (x.2.1 1)), (3, .int a35)]), W p l e r_RU_step s m args below meth c H locs 0 0 Q (F0 m 335 ls [.int a36, .ref (x.2.1 j37)]) := by
      intro j33 a35 a36 j37 M39 k34 k38 res h g H locs ls hP hS hl
      unfold j_RU_step_335 at h
      obtain ⟨M40, eM40, h⟩ := nx_e h
      refine pf_RU_32 hx hb hts hown hK hJ hP hS k38 eM40 d_RU_step_335 (fun H locs hP hS => ?_)
      refine lv_goto (tgt := 392) hx hb d_RU_step_338 rfl ?_
      exact J392 j33 a35 M40 k34 _ h g H locs ls hP hS (lv_sub hl [0, 1, 2] rfl)
    have J275 : ∀ (j41 : Nat) (a43 : Int32) (a44 : Int32) (j45 : Nat) (M47 : Mem) (k42 : kd_run j41) (k46 : kd_run j45) (res : Mem) (h : j_RU_step_275 j41 a43 a44 j45 M47 = some res) (g : G0 res) (H : Heap) (locs : List Loc) (ls : Array Slot) (hP : va_P x.1 vwCl (wld x M47) H) (hS : va_S (A0 x) s.heap H locs) (hl : lv_has ls 6 [(0, .ref (x.2.1 j41)), (1, .ref (x.2.1 1)), (3, .int a43)]), W p l e r_RU_step s m args below meth c H locs 0 0 Q (F0 m 275 ls [.int a44, .ref (x.2.1 j45)]) := by
      intro j41 a43 a44 j45 M47 k42 k46 res h g H locs ls hP hS hl
      unfold j_RU_step_275 at h
      obtain ⟨M48, eM48, h⟩ := nx_e h
      refine pf_RU_36 hx hb hts hown hK hJ hP hS k46 eM48 d_RU_step_275 (fun H locs hP hS => ?_)
      refine lv_goto (tgt := 392) hx hb d_RU_step_278 rfl ?_
      exact J392 j41 a43 M48 k42 _ h g H locs ls hP hS (lv_sub hl [0, 1, 2] rfl)
    have J249 : ∀ (j49 : Nat) (a51 : Int32) (a52 : Int32) (j53 : Nat) (M55 : Mem) (k50 : kd_run j49) (k54 : kd_run j53) (res : Mem) (h : j_RU_step_249 j49 a51 a52 j53 M55 = some res) (g : G0 res) (H : Heap) (locs : List Loc) (ls : Array Slot) (hP : va_P x.1 vwCl (wld x M55) H) (hS : va_S (A0 x) s.heap H locs) (hl : lv_has ls 6 [(0, .ref (x.2.1 j49)), (1, .ref (x.2.1 1)), (3, .int a51)]), W p l e r_RU_step s m args below meth c H locs 0 0 Q (F0 m 249 ls [.int a52, .ref (x.2.1 j53)]) := by
      intro j49 a51 a52 j53 M55 k50 k54 res h g H locs ls hP hS hl
      unfold j_RU_step_249 at h
      obtain ⟨M56, eM56, h⟩ := nx_e h
      refine pf_RU_36 hx hb hts hown hK hJ hP hS k54 eM56 d_RU_step_249 (fun H locs hP hS => ?_)
      refine lv_goto (tgt := 392) hx hb d_RU_step_252 rfl ?_
      exact J392 j49 a51 M56 k50 _ h g H locs ls hP hS (lv_sub hl [0, 1, 2] rfl)
    refine lv_aload_n hx hb d_RU_step_0 rfl (lv_at hl 0 rfl) ?_
    refine lv_aload_n hx hb d_RU_step_1 rfl (lv_at hl 0 rfl) ?_
    refine gf_RU_36 hx hb hts hown hK hP k0 d_RU_step_2 ?_
    obtain ⟨M57, eM57, h⟩ := nx_e h
    refine pf_RU_59 hx hb hts hown hK hJ hP hS k0 eM57 d_RU_step_5 (fun H locs hP hS => ?_)
    refine lv_aload_n hx hb d_RU_step_8 rfl (lv_at hl 0 rfl) ?_
    refine lv_aload_n hx hb d_RU_step_9 rfl (lv_at hl 0 rfl) ?_
    refine gf_RU_59 hx hb hts hown hK hP k0 d_RU_step_10 ?_
    refine lv_iconst (v := (1 : Int32)) hx hb d_RU_step_13 (by decide) ?_
    refine lv_iadd hx hb d_RU_step_14 ?_
    obtain ⟨M58, eM58, h⟩ := nx_e h
    refine pf_RU_36 hx hb hts hown hK hJ hP hS k0 eM58 d_RU_step_15 (fun H locs hP hS => ?_)
    refine lv_aload_n hx hb d_RU_step_18 rfl (lv_at hl 0 rfl) ?_
    refine lv_dup hx hb d_RU_step_19 rfl ?_
    refine gf_RU_62 hx hb hts hown hK hP k0 d_RU_step_20 ?_
    refine lv_iconst (v := (1 : Int32)) hx hb d_RU_step_23 (by decide) ?_
    refine lv_iadd hx hb d_RU_step_24 ?_
    obtain ⟨M59, eM59, h⟩ := nx_e h
    refine pf_RU_62 hx hb hts hown hK hJ hP hS k0 eM59 d_RU_step_25 (fun H locs hP hS => ?_)
    refine lv_aload_n hx hb d_RU_step_28 rfl (lv_at hl 1 rfl) ?_
    refine gf_RU_65 hx hb hts hown hK hP d_RU_step_29 ?_
    refine lv_aload_n hx hb d_RU_step_32 rfl (lv_at hl 0 rfl) ?_
    refine gf_RU_59 hx hb hts hown hK hP k0 d_RU_step_33 ?_
    obtain ⟨b60, h⟩ := ck_e h
    refine m_ald hx hb hK hP ar_PR_ops b60 d_RU_step_36 ?_
    obtain ⟨v61, ev61, h⟩ := nx_e h
    refine tp_i ev61 ?_
    refine lv_istore_n hx hb d_RU_step_37 rfl hl (by decide) rfl (fun ls hl => ?_)
    have hl : lv_has ls 6 [(3, .int v61), (0, .ref (x.2.1 j0)), (1, .ref (x.2.1 1)), (2, .ref (x.2.1 j2))] := hl
    refine lv_aload_n hx hb d_RU_step_38 rfl (lv_at hl 2 rfl) ?_
    refine gf_RU_68 hx hb hts hown hK hP d_RU_step_39 ?_
    refine lv_aload_n hx hb d_RU_step_42 rfl (lv_at hl 1 rfl) ?_
    refine gf_RU_59 hx hb hts hown hK hP k0 d_RU_step_43 ?_
    obtain ⟨b62, h⟩ := ck_e h
    refine m_ald hx hb hK hP ar_PR_as b62 d_RU_step_46 ?_
    obtain ⟨v63, ev63, h⟩ := nx_e h
    refine tp_i ev63 ?_
    refine lv_istore hx hb d_RU_step_47 hl (by decide) rfl (fun ls hl => ?_)
    have hl : lv_has ls 6 [(4, .int v63), (3, .int v61), (0, .ref (x.2.1 j0)), (1, .ref (x.2.1 1)), (2, .ref (x.2.1 j2))] := hl
    refine lv_aload_n hx hb d_RU_step_49 rfl (lv_at hl 3 rfl) ?_
    refine gf_RU_71 hx hb hts hown hK hP d_RU_step_50 ?_
    refine lv_aload_n hx hb d_RU_step_53 rfl (lv_at hl 2 rfl) ?_
    refine gf_RU_59 hx hb hts hown hK hP k0 d_RU_step_54 ?_
    obtain ⟨b64, h⟩ := ck_e h
    refine m_ald hx hb hK hP ar_PR_bs b64 d_RU_step_57 ?_
    obtain ⟨v65, ev65, h⟩ := nx_e h
    refine tp_i ev65 ?_
    refine lv_istore hx hb d_RU_step_58 hl (by decide) rfl (fun ls hl => ?_)
    have hl : lv_has ls 6 [(5, .int v65), (4, .int v63), (3, .int v61), (0, .ref (x.2.1 j0)), (1, .ref (x.2.1 1)), (2, .ref (x.2.1 j2))] := hl
    refine lv_iload_n hx hb d_RU_step_60 rfl (lv_at hl 2 rfl) ?_
    by_cases n68 : v61 = (1 : Int32)
    · have h := if_p n68 h
      refine sw_in (k := (1 : Int32)) (tgt := 136) hx hb n68 d_RU_step_61 (by decide) (by decide) rfl rfl ?_
      refine lv_aload_n hx hb d_RU_step_136 rfl (lv_at hl 3 rfl) ?_
      refine gf_RU_11 hx hb hts hown hK hP k0 d_RU_step_137 ?_
      refine lv_iload hx hb d_RU_step_140 (lv_at hl 1 rfl) ?_
      refine lv_iload hx hb d_RU_step_142 (lv_at hl 0 rfl) ?_
      obtain ⟨b66, h⟩ := ck_e h
      obtain ⟨M67, eM67, h⟩ := nx_e h
      refine m_ast hx hb hK hJ hP hS (ar_RU_registers k0) b66 eM67 d_RU_step_144 (fun H locs hP hS => ?_)
      refine lv_goto (tgt := 392) hx hb d_RU_step_145 rfl ?_
      exact J392 j0 v61 M67 k0 _ h g H locs ls hP hS (lv_sub hl [3, 4, 2] rfl)
    have h := if_m n68 h
    by_cases n75 : v61 = (2 : Int32)
    · have h := if_p n75 h
      refine sw_in (k := (2 : Int32)) (tgt := 148) hx hb n75 d_RU_step_61 (by decide) (by decide) rfl rfl ?_
      refine lv_aload_n hx hb d_RU_step_148 rfl (lv_at hl 3 rfl) ?_
      refine gf_RU_11 hx hb hts hown hK hP k0 d_RU_step_149 ?_
      refine lv_iload hx hb d_RU_step_152 (lv_at hl 1 rfl) ?_
      refine lv_aload_n hx hb d_RU_step_154 rfl (lv_at hl 5 rfl) ?_
      refine lv_aload_n hx hb d_RU_step_155 rfl (lv_at hl 3 rfl) ?_
      refine gf_RU_11 hx hb hts hown hK hP k0 d_RU_step_156 ?_
      refine lv_iload hx hb d_RU_step_159 (lv_at hl 0 rfl) ?_
      obtain ⟨b69, h⟩ := ck_e h
      refine m_ald hx hb hK hP (ar_RU_registers k0) b69 d_RU_step_161 ?_
      obtain ⟨r72, M70, c71, h⟩ := bi_e h
      refine cl_RU_74 (rest := [.int v63, .ref (x.2.1 (j0 + 1))]) (R := r_RU_step) (c_IN_at l x hJ j2 k2 (M59 (j0 + 1) v65.toNatClampNeg) c71) k2 hx hb hml hts hown hK hZ hP hS hl.1 (Nat.le_of_ble_eq_true rfl) (Nat.le_of_ble_eq_true rfl) (Nat.le_of_ble_eq_true rfl) ⟨rfl, rfl, Nat.zero_le _, Nat.zero_le _⟩ d_RU_step_162 (fun H locs hP hS => ?_)
      obtain ⟨b73, h⟩ := ck_e h
      obtain ⟨M74, eM74, h⟩ := nx_e h
      refine m_ast hx hb hK hJ hP hS (ar_RU_registers k0) b73 eM74 d_RU_step_165 (fun H locs hP hS => ?_)
      refine lv_goto (tgt := 392) hx hb d_RU_step_166 rfl ?_
      exact J392 j0 v61 M74 k0 _ h g H locs ls hP hS (lv_sub hl [3, 4, 2] rfl)
    have h := if_m n75 h
    by_cases n80 : v61 = (3 : Int32)
    · have h := if_p n80 h
      refine sw_in (k := (3 : Int32)) (tgt := 169) hx hb n80 d_RU_step_61 (by decide) (by decide) rfl rfl ?_
      refine lv_aload_n hx hb d_RU_step_169 rfl (lv_at hl 3 rfl) ?_
      refine gf_RU_11 hx hb hts hown hK hP k0 d_RU_step_170 ?_
      refine lv_iload hx hb d_RU_step_173 (lv_at hl 1 rfl) ?_
      refine lv_dup2_11 hx hb d_RU_step_175 rfl rfl ?_
      obtain ⟨b76, h⟩ := ck_e h
      refine m_ald hx hb hK hP (ar_RU_registers k0) b76 d_RU_step_176 ?_
      refine lv_aload_n hx hb d_RU_step_177 rfl (lv_at hl 3 rfl) ?_
      refine gf_RU_11 hx hb hts hown hK hP k0 d_RU_step_178 ?_
      refine lv_iload hx hb d_RU_step_181 (lv_at hl 0 rfl) ?_
      obtain ⟨b77, h⟩ := ck_e h
      refine m_ald hx hb hK hP (ar_RU_registers k0) b77 d_RU_step_183 ?_
      refine lv_iadd hx hb d_RU_step_184 ?_
      obtain ⟨b78, h⟩ := ck_e h
      obtain ⟨M79, eM79, h⟩ := nx_e h
      refine m_ast hx hb hK hJ hP hS (ar_RU_registers k0) b78 eM79 d_RU_step_185 (fun H locs hP hS => ?_)
      refine lv_goto (tgt := 392) hx hb d_RU_step_186 rfl ?_
      exact J392 j0 v61 M79 k0 _ h g H locs ls hP hS (lv_sub hl [3, 4, 2] rfl)
    have h := if_m n80 h
    by_cases n85 : v61 = (4 : Int32)
    · have h := if_p n85 h
      refine sw_in (k := (4 : Int32)) (tgt := 189) hx hb n85 d_RU_step_61 (by decide) (by decide) rfl rfl ?_
      refine lv_aload_n hx hb d_RU_step_189 rfl (lv_at hl 3 rfl) ?_
      refine gf_RU_11 hx hb hts hown hK hP k0 d_RU_step_190 ?_
      refine lv_iload hx hb d_RU_step_193 (lv_at hl 1 rfl) ?_
      refine lv_dup2_11 hx hb d_RU_step_195 rfl rfl ?_
      obtain ⟨b81, h⟩ := ck_e h
      refine m_ald hx hb hK hP (ar_RU_registers k0) b81 d_RU_step_196 ?_
      refine lv_aload_n hx hb d_RU_step_197 rfl (lv_at hl 3 rfl) ?_
      refine gf_RU_11 hx hb hts hown hK hP k0 d_RU_step_198 ?_
      refine lv_iload hx hb d_RU_step_201 (lv_at hl 0 rfl) ?_
      obtain ⟨b82, h⟩ := ck_e h
      refine m_ald hx hb hK hP (ar_RU_registers k0) b82 d_RU_step_203 ?_
      refine lv_isub hx hb d_RU_step_204 ?_
      obtain ⟨b83, h⟩ := ck_e h
      obtain ⟨M84, eM84, h⟩ := nx_e h
      refine m_ast hx hb hK hJ hP hS (ar_RU_registers k0) b83 eM84 d_RU_step_205 (fun H locs hP hS => ?_)
      refine lv_goto (tgt := 392) hx hb d_RU_step_206 rfl ?_
      exact J392 j0 v61 M84 k0 _ h g H locs ls hP hS (lv_sub hl [3, 4, 2] rfl)
    have h := if_m n85 h
    by_cases n90 : v61 = (5 : Int32)
    · have h := if_p n90 h
      refine sw_in (k := (5 : Int32)) (tgt := 209) hx hb n90 d_RU_step_61 (by decide) (by decide) rfl rfl ?_
      refine lv_aload_n hx hb d_RU_step_209 rfl (lv_at hl 3 rfl) ?_
      refine gf_RU_11 hx hb hts hown hK hP k0 d_RU_step_210 ?_
      refine lv_iload hx hb d_RU_step_213 (lv_at hl 1 rfl) ?_
      refine lv_dup2_11 hx hb d_RU_step_215 rfl rfl ?_
      obtain ⟨b86, h⟩ := ck_e h
      refine m_ald hx hb hK hP (ar_RU_registers k0) b86 d_RU_step_216 ?_
      refine lv_aload_n hx hb d_RU_step_217 rfl (lv_at hl 3 rfl) ?_
      refine gf_RU_11 hx hb hts hown hK hP k0 d_RU_step_218 ?_
      refine lv_iload hx hb d_RU_step_221 (lv_at hl 0 rfl) ?_
      obtain ⟨b87, h⟩ := ck_e h
      refine m_ald hx hb hK hP (ar_RU_registers k0) b87 d_RU_step_223 ?_
      refine lv_imul hx hb d_RU_step_224 ?_
      obtain ⟨b88, h⟩ := ck_e h
      obtain ⟨M89, eM89, h⟩ := nx_e h
      refine m_ast hx hb hK hJ hP hS (ar_RU_registers k0) b88 eM89 d_RU_step_225 (fun H locs hP hS => ?_)
      refine lv_goto (tgt := 392) hx hb d_RU_step_226 rfl ?_
      exact J392 j0 v61 M89 k0 _ h g H locs ls hP hS (lv_sub hl [3, 4, 2] rfl)
    have h := if_m n90 h
    by_cases n92 : v61 = (6 : Int32)
    · have h := if_p n92 h
      refine sw_in (k := (6 : Int32)) (tgt := 229) hx hb n92 d_RU_step_61 (by decide) (by decide) rfl rfl ?_
      refine lv_aload_n hx hb d_RU_step_229 rfl (lv_at hl 3 rfl) ?_
      refine lv_aload_n hx hb d_RU_step_230 rfl (lv_at hl 3 rfl) ?_
      refine gf_RU_11 hx hb hts hown hK hP k0 d_RU_step_231 ?_
      refine lv_iload hx hb d_RU_step_234 (lv_at hl 1 rfl) ?_
      obtain ⟨b91, h⟩ := ck_e h
      refine m_ald hx hb hK hP (ar_RU_registers k0) b91 d_RU_step_236 ?_
      refine lv_if_ne (tgt := 245) hx hb d_RU_step_237 rfl (fun hc => ?_) (fun hc => ?_)
      · have h := if_m hc h
        refine lv_aload_n hx hb d_RU_step_245 rfl (lv_at hl 3 rfl) ?_
        refine gf_RU_36 hx hb hts hown hK hP k0 d_RU_step_246 ?_
        exact J249 j0 v61 (M59 j0 7) j0 M59 k0 k0 _ h g H locs ls hP hS (lv_sub hl [3, 4, 2] rfl)
      · have h := if_p hc h
        refine lv_iload hx hb d_RU_step_240 (lv_at hl 0 rfl) ?_
        refine lv_goto (tgt := 249) hx hb d_RU_step_242 rfl ?_
        exact J249 j0 v61 v65 j0 M59 k0 k0 _ h g H locs ls hP hS (lv_sub hl [3, 4, 2] rfl)
    have h := if_m n92 h
    by_cases n94 : v61 = (7 : Int32)
    · have h := if_p n94 h
      refine sw_in (k := (7 : Int32)) (tgt := 255) hx hb n94 d_RU_step_61 (by decide) (by decide) rfl rfl ?_
      refine lv_aload_n hx hb d_RU_step_255 rfl (lv_at hl 3 rfl) ?_
      refine lv_aload_n hx hb d_RU_step_256 rfl (lv_at hl 3 rfl) ?_
      refine gf_RU_11 hx hb hts hown hK hP k0 d_RU_step_257 ?_
      refine lv_iload hx hb d_RU_step_260 (lv_at hl 1 rfl) ?_
      obtain ⟨b93, h⟩ := ck_e h
      refine m_ald hx hb hK hP (ar_RU_registers k0) b93 d_RU_step_262 ?_
      refine lv_if_ge (tgt := 271) hx hb d_RU_step_263 rfl (fun hc => ?_) (fun hc => ?_)
      · have h := if_p hc h
        refine lv_aload_n hx hb d_RU_step_271 rfl (lv_at hl 3 rfl) ?_
        refine gf_RU_36 hx hb hts hown hK hP k0 d_RU_step_272 ?_
        exact J275 j0 v61 (M59 j0 7) j0 M59 k0 k0 _ h g H locs ls hP hS (lv_sub hl [3, 4, 2] rfl)
      · have h := if_m hc h
        refine lv_iload hx hb d_RU_step_266 (lv_at hl 0 rfl) ?_
        refine lv_goto (tgt := 275) hx hb d_RU_step_268 rfl ?_
        exact J275 j0 v61 v65 j0 M59 k0 k0 _ h g H locs ls hP hS (lv_sub hl [3, 4, 2] rfl)
    have h := if_m n94 h
    by_cases n96 : v61 = (8 : Int32)
    · have h := if_p n96 h
      refine sw_in (k := (8 : Int32)) (tgt := 281) hx hb n96 d_RU_step_61 (by decide) (by decide) rfl rfl ?_
      refine lv_aload_n hx hb d_RU_step_281 rfl (lv_at hl 3 rfl) ?_
      refine lv_iload hx hb d_RU_step_282 (lv_at hl 0 rfl) ?_
      obtain ⟨M95, eM95, h⟩ := nx_e h
      refine pf_RU_36 hx hb hts hown hK hJ hP hS k0 eM95 d_RU_step_284 (fun H locs hP hS => ?_)
      refine lv_goto (tgt := 392) hx hb d_RU_step_287 rfl ?_
      exact J392 j0 v61 M95 k0 _ h g H locs ls hP hS (lv_sub hl [3, 4, 2] rfl)
    have h := if_m n96 h
    by_cases n99 : v61 = (9 : Int32)
    · have h := if_p n99 h
      refine sw_in (k := (9 : Int32)) (tgt := 290) hx hb n99 d_RU_step_61 (by decide) (by decide) rfl rfl ?_
      refine lv_aload_n hx hb d_RU_step_290 rfl (lv_at hl 3 rfl) ?_
      refine lv_iload hx hb d_RU_step_291 (lv_at hl 0 rfl) ?_
      obtain ⟨M97, c98, h⟩ := bv_e h
      refine cl_RU_80 (rest := []) (R := r_RU_step) (c_RU_goInto l x hJ j0 k0 v65 c98) k0 hx hb hml hts hown hK hZ hP hS hl.1 (Nat.le_of_ble_eq_true rfl) (Nat.le_of_ble_eq_true rfl) (Nat.le_of_ble_eq_true rfl) ⟨rfl, rfl, Nat.zero_le _, Nat.zero_le _⟩ d_RU_step_293 (fun H locs hP hS => ?_)
      refine lv_goto (tgt := 392) hx hb d_RU_step_296 rfl ?_
      exact J392 j0 v61 M97 k0 _ h g H locs ls hP hS (lv_sub hl [3, 4, 2] rfl)
    have h := if_m n99 h
    by_cases n102 : v61 = (10 : Int32)
    · have h := if_p n102 h
      refine sw_in (k := (10 : Int32)) (tgt := 299) hx hb n102 d_RU_step_61 (by decide) (by decide) rfl rfl ?_
      refine lv_aload_n hx hb d_RU_step_299 rfl (lv_at hl 3 rfl) ?_
      obtain ⟨M100, c101, h⟩ := bv_e h
      refine cl_RU_84 (rest := []) (R := r_RU_step) (c_RU_goBack l x hJ j0 k0 c101) k0 hx hb hml hts hown hK hZ hP hS hl.1 (Nat.le_of_ble_eq_true rfl) (Nat.le_of_ble_eq_true rfl) (Nat.le_of_ble_eq_true rfl) ⟨rfl, rfl, Nat.zero_le _, Nat.zero_le _⟩ d_RU_step_300 (fun H locs hP hS => ?_)
      refine lv_goto (tgt := 392) hx hb d_RU_step_303 rfl ?_
      exact J392 j0 v61 M100 k0 _ h g H locs ls hP hS (lv_sub hl [3, 4, 2] rfl)
    have h := if_m n102 h
    by_cases n105 : v61 = (11 : Int32)
    · have h := if_p n105 h
      refine sw_in (k := (11 : Int32)) (tgt := 306) hx hb n105 d_RU_step_61 (by decide) (by decide) rfl rfl ?_
      refine lv_aload_n hx hb d_RU_step_306 rfl (lv_at hl 3 rfl) ?_
      refine lv_iload hx hb d_RU_step_307 (lv_at hl 1 rfl) ?_
      refine lv_iload hx hb d_RU_step_309 (lv_at hl 0 rfl) ?_
      obtain ⟨M103, c104, h⟩ := bv_e h
      refine cl_RU_87 (rest := []) (R := r_RU_step) (c_RU_divide l x hJ j0 k0 v63 v65 c104) k0 hx hb hml hts hown hK hZ hP hS hl.1 (Nat.le_of_ble_eq_true rfl) (Nat.le_of_ble_eq_true rfl) (Nat.le_of_ble_eq_true rfl) ⟨rfl, rfl, Nat.zero_le _, Nat.zero_le _⟩ d_RU_step_311 (fun H locs hP hS => ?_)
      refine lv_goto (tgt := 392) hx hb d_RU_step_314 rfl ?_
      exact J392 j0 v61 M103 k0 _ h g H locs ls hP hS (lv_sub hl [3, 4, 2] rfl)
    have h := if_m n105 h
    by_cases n107 : v61 = (12 : Int32)
    · have h := if_p n107 h
      refine sw_in (k := (12 : Int32)) (tgt := 317) hx hb n107 d_RU_step_61 (by decide) (by decide) rfl rfl ?_
      refine lv_aload_n hx hb d_RU_step_317 rfl (lv_at hl 3 rfl) ?_
      refine lv_aload_n hx hb d_RU_step_318 rfl (lv_at hl 3 rfl) ?_
      refine gf_RU_11 hx hb hts hown hK hP k0 d_RU_step_319 ?_
      refine lv_iload hx hb d_RU_step_322 (lv_at hl 1 rfl) ?_
      obtain ⟨b106, h⟩ := ck_e h
      refine m_ald hx hb hK hP (ar_RU_registers k0) b106 d_RU_step_324 ?_
      refine lv_iload hx hb d_RU_step_325 (lv_at hl 0 rfl) ?_
      refine lv_icmp_ne (tgt := 334) hx hb d_RU_step_327 rfl (fun hc => ?_) (fun hc => ?_)
      · have h := if_m hc h
        refine lv_iconst (v := (-1 : Int32)) hx hb d_RU_step_334 (by decide) ?_
        exact J335 j0 v61 (-1 : Int32) j0 M59 k0 k0 _ h g H locs ls hP hS (lv_sub hl [3, 4, 2] rfl)
      · have h := if_p hc h
        refine lv_iconst (v := (1 : Int32)) hx hb d_RU_step_330 (by decide) ?_
        refine lv_goto (tgt := 335) hx hb d_RU_step_331 rfl ?_
        exact J335 j0 v61 (1 : Int32) j0 M59 k0 k0 _ h g H locs ls hP hS (lv_sub hl [3, 4, 2] rfl)
    have h := if_m n107 h
    by_cases n111 : v61 = (13 : Int32)
    · have h := if_p n111 h
      refine sw_in (k := (13 : Int32)) (tgt := 341) hx hb n111 d_RU_step_61 (by decide) (by decide) rfl rfl ?_
      refine lv_aload_n hx hb d_RU_step_341 rfl (lv_at hl 3 rfl) ?_
      refine lv_iload hx hb d_RU_step_342 (lv_at hl 1 rfl) ?_
      refine lv_aload_n hx hb d_RU_step_344 rfl (lv_at hl 3 rfl) ?_
      refine gf_RU_11 hx hb hts hown hK hP k0 d_RU_step_345 ?_
      refine lv_iload hx hb d_RU_step_348 (lv_at hl 0 rfl) ?_
      obtain ⟨b108, h⟩ := ck_e h
      refine m_ald hx hb hK hP (ar_RU_registers k0) b108 d_RU_step_350 ?_
      obtain ⟨M109, c110, h⟩ := bv_e h
      refine cl_RU_91 (rest := []) (R := r_RU_step) (c_RU_load l x hJ j0 k0 v63 (M59 (j0 + 1) v65.toNatClampNeg) c110) k0 hx hb hml hts hown hK hZ hP hS hl.1 (Nat.le_of_ble_eq_true rfl) (Nat.le_of_ble_eq_true rfl) (Nat.le_of_ble_eq_true rfl) ⟨rfl, rfl, Nat.zero_le _, Nat.zero_le _⟩ d_RU_step_351 (fun H locs hP hS => ?_)
      refine lv_goto (tgt := 392) hx hb d_RU_step_354 rfl ?_
      exact J392 j0 v61 M109 k0 _ h g H locs ls hP hS (lv_sub hl [3, 4, 2] rfl)
    have h := if_m n111 h
    by_cases n115 : v61 = (14 : Int32)
    · have h := if_p n115 h
      refine sw_in (k := (14 : Int32)) (tgt := 357) hx hb n115 d_RU_step_61 (by decide) (by decide) rfl rfl ?_
      refine lv_aload_n hx hb d_RU_step_357 rfl (lv_at hl 3 rfl) ?_
      refine lv_iload hx hb d_RU_step_358 (lv_at hl 1 rfl) ?_
      refine lv_aload_n hx hb d_RU_step_360 rfl (lv_at hl 3 rfl) ?_
      refine gf_RU_11 hx hb hts hown hK hP k0 d_RU_step_361 ?_
      refine lv_iload hx hb d_RU_step_364 (lv_at hl 0 rfl) ?_
      obtain ⟨b112, h⟩ := ck_e h
      refine m_ald hx hb hK hP (ar_RU_registers k0) b112 d_RU_step_366 ?_
      obtain ⟨M113, c114, h⟩ := bv_e h
      refine cl_RU_94 (rest := []) (R := r_RU_step) (c_RU_save l x hJ j0 k0 v63 (M59 (j0 + 1) v65.toNatClampNeg) c114) k0 hx hb hml hts hown hK hZ hP hS hl.1 (Nat.le_of_ble_eq_true rfl) (Nat.le_of_ble_eq_true rfl) (Nat.le_of_ble_eq_true rfl) ⟨rfl, rfl, Nat.zero_le _, Nat.zero_le _⟩ d_RU_step_367 (fun H locs hP hS => ?_)
      refine lv_goto (tgt := 392) hx hb d_RU_step_370 rfl ?_
      exact J392 j0 v61 M113 k0 _ h g H locs ls hP hS (lv_sub hl [3, 4, 2] rfl)
    have h := if_m n115 h
    by_cases n118 : v61 = (15 : Int32)
    · have h := if_p n118 h
      refine sw_in (k := (15 : Int32)) (tgt := 373) hx hb n118 d_RU_step_61 (by decide) (by decide) rfl rfl ?_
      refine lv_aload_n hx hb d_RU_step_373 rfl (lv_at hl 3 rfl) ?_
      refine gf_RU_11 hx hb hts hown hK hP k0 d_RU_step_374 ?_
      refine lv_iload hx hb d_RU_step_377 (lv_at hl 1 rfl) ?_
      refine lv_aload_n hx hb d_RU_step_379 rfl (lv_at hl 5 rfl) ?_
      refine gf_RU_97 hx hb hts hown hK hP k2 d_RU_step_380 ?_
      obtain ⟨b116, h⟩ := ck_e h
      obtain ⟨M117, eM117, h⟩ := nx_e h
      refine m_ast hx hb hK hJ hP hS (ar_RU_registers k0) b116 eM117 d_RU_step_383 (fun H locs hP hS => ?_)
      refine lv_goto (tgt := 392) hx hb d_RU_step_384 rfl ?_
      exact J392 j0 v61 M117 k0 _ h g H locs ls hP hS (lv_sub hl [3, 4, 2] rfl)
    have h := if_m n118 h
    have b0 := sw_ne (k := (1 : Int32)) (z := 1) (by decide) n68
    have b1 := sw_ne (k := (2 : Int32)) (z := 2) (by decide) n75
    have b2 := sw_ne (k := (3 : Int32)) (z := 3) (by decide) n80
    have b3 := sw_ne (k := (4 : Int32)) (z := 4) (by decide) n85
    have b4 := sw_ne (k := (5 : Int32)) (z := 5) (by decide) n90
    have b5 := sw_ne (k := (6 : Int32)) (z := 6) (by decide) n92
    have b6 := sw_ne (k := (7 : Int32)) (z := 7) (by decide) n94
    have b7 := sw_ne (k := (8 : Int32)) (z := 8) (by decide) n96
    have b8 := sw_ne (k := (9 : Int32)) (z := 9) (by decide) n99
    have b9 := sw_ne (k := (10 : Int32)) (z := 10) (by decide) n102
    have b10 := sw_ne (k := (11 : Int32)) (z := 11) (by decide) n105
    have b11 := sw_ne (k := (12 : Int32)) (z := 12) (by decide) n107
    have b12 := sw_ne (k := (13 : Int32)) (z := 13) (by decide) n111
    have b13 := sw_ne (k := (14 : Int32)) (z := 14) (by decide) n115
    have b14 := sw_ne (k := (15 : Int32)) (z := 15) (by decide) n118
    refine lv_tableOut (tgt := 387) hx hb d_RU_step_61 (by omega) rfl ?_
    refine lv_aload_n hx hb d_RU_step_387 rfl (lv_at hl 3 rfl) ?_
    refine lv_iconst (v := (0 : Int32)) hx hb d_RU_step_388 (by decide) ?_
    obtain ⟨M119, eM119, h⟩ := nx_e h
    refine pf_RU_32 hx hb hts hown hK hJ hP hS k0 eM119 d_RU_step_389 (fun H locs hP hS => ?_)
    exact J392 j0 v61 M119 k0 _ h g H locs ls hP hS (lv_sub hl [3, 4, 2] rfl)
  rw [eH] at key
  exact key
theorem d_RU_perform_0 : decode b_RU_perform 0 = .ok (.aload_n 0, 1) := by decide +kernel
theorem d_RU_perform_1 : decode b_RU_perform 1 = .ok (.invokevirtual 29, 3) := by decide +kernel
theorem d_RU_perform_4 : decode b_RU_perform 4 = .ok (.iconst 0, 1) := by decide +kernel
theorem d_RU_perform_5 : decode b_RU_perform 5 = .ok (.istore_n 3, 1) := by decide +kernel
theorem d_RU_perform_6 : decode b_RU_perform 6 = .ok (.iload_n 3, 1) := by decide +kernel
theorem d_RU_perform_7 : decode b_RU_perform 7 = .ok (.bipush 64, 2) := by decide +kernel
theorem d_RU_perform_9 : decode b_RU_perform 9 = .ok (.if_icmp .gt 56, 3) := by decide +kernel
theorem d_RU_perform_12 : decode b_RU_perform 12 = .ok (.aload_n 0, 1) := by decide +kernel
theorem d_RU_perform_13 : decode b_RU_perform 13 = .ok (.getfield 32, 3) := by decide +kernel
theorem d_RU_perform_16 : decode b_RU_perform 16 = .ok (.iconst (-1), 1) := by decide +kernel
theorem d_RU_perform_17 : decode b_RU_perform 17 = .ok (.if_icmp .ne 48, 3) := by decide +kernel
theorem d_RU_perform_20 : decode b_RU_perform 20 = .ok (.aload_n 1, 1) := by decide +kernel
theorem d_RU_perform_21 : decode b_RU_perform 21 = .ok (.aload_n 0, 1) := by decide +kernel
theorem d_RU_perform_22 : decode b_RU_perform 22 = .ok (.getfield 36, 3) := by decide +kernel
theorem d_RU_perform_25 : decode b_RU_perform 25 = .ok (.invokevirtual 39, 3) := by decide +kernel
theorem d_RU_perform_28 : decode b_RU_perform 28 = .ok (.ifCond .ne 11, 3) := by decide +kernel
theorem d_RU_perform_31 : decode b_RU_perform 31 = .ok (.aload_n 0, 1) := by decide +kernel
theorem d_RU_perform_32 : decode b_RU_perform 32 = .ok (.iconst 0, 1) := by decide +kernel
theorem d_RU_perform_33 : decode b_RU_perform 33 = .ok (.putfield 32, 3) := by decide +kernel
theorem d_RU_perform_36 : decode b_RU_perform 36 = .ok (.goto 23, 3) := by decide +kernel
theorem d_RU_perform_39 : decode b_RU_perform 39 = .ok (.iload_n 3, 1) := by decide +kernel
theorem d_RU_perform_40 : decode b_RU_perform 40 = .ok (.bipush 64, 2) := by decide +kernel
theorem d_RU_perform_42 : decode b_RU_perform 42 = .ok (.if_icmp .ne 11, 3) := by decide +kernel
theorem d_RU_perform_45 : decode b_RU_perform 45 = .ok (.aload_n 0, 1) := by decide +kernel
theorem d_RU_perform_46 : decode b_RU_perform 46 = .ok (.iconst 5, 1) := by decide +kernel
theorem d_RU_perform_47 : decode b_RU_perform 47 = .ok (.putfield 32, 3) := by decide +kernel
theorem d_RU_perform_50 : decode b_RU_perform 50 = .ok (.goto 9, 3) := by decide +kernel
theorem d_RU_perform_53 : decode b_RU_perform 53 = .ok (.aload_n 0, 1) := by decide +kernel
theorem d_RU_perform_54 : decode b_RU_perform 54 = .ok (.aload_n 1, 1) := by decide +kernel
theorem d_RU_perform_55 : decode b_RU_perform 55 = .ok (.aload_n 2, 1) := by decide +kernel
theorem d_RU_perform_56 : decode b_RU_perform 56 = .ok (.invokevirtual 43, 3) := by decide +kernel
theorem d_RU_perform_59 : decode b_RU_perform 59 = .ok (.iinc 3 1, 3) := by decide +kernel
theorem d_RU_perform_62 : decode b_RU_perform 62 = .ok (.goto (-56), 3) := by decide +kernel
theorem d_RU_perform_65 : decode b_RU_perform 65 = .ok (.return_, 1) := by decide +kernel
noncomputable def j_RU_perform_59 (j0 : Nat) (j2 : Nat) (a26 : Int32) (M27 : Mem) : Option ((Int32 × Mem) ⊕ Mem) :=
  nx (a26 + (1 : Int32)) (fun v28 => some (.inl (v28, M27)))
noncomputable def l_RU_perform_6 (j0 : Nat) (j2 : Nat) (v24 : Int32) (M25 : Mem) : Option ((Int32 × Mem) ⊕ (Mem)) :=
  if (64 : Int32) < v24 then (some (.inr M25)) else (if (M25 j0 10) = (-1 : Int32) then (bi (s_PR_has (M25 j0 7) M25) (fun r31 M29 => if r31 = 0 then (nx (st M29 j0 10 (0 : Int32)) (fun M35 => j_RU_perform_59 j0 j2 v24 M35)) else (if v24 = (64 : Int32) then (nx (st M29 j0 10 (5 : Int32)) (fun M34 => j_RU_perform_59 j0 j2 v24 M34)) else (bv (s_RU_step j0 j2 M29) (fun M32 => j_RU_perform_59 j0 j2 v24 M32))))) else (some (.inr M25)))
noncomputable def s_RU_perform (j0 : Nat) (j2 : Nat) (M : Mem) : Option (Mem) :=
  bv (s_RU_reset j0 M) (fun M21 => nx ((0 : Int32)) (fun v23 => lp (fun q : Int32 × Mem => l_RU_perform_6 j0 j2 q.1 q.2) (v23, M21)))
set_option maxHeartbeats 4000000 in
set_option maxRecDepth 100000 in
theorem c_RU_perform (l : Launch) (x : Cx) (hJ : Inj x) (j0 : Nat) (k0 : kd_run j0) (j2 : Nat) (k2 : kd_in j2) {M : Mem} {out : Mem} (h : s_RU_perform j0 j2 M = some out) : Cv l x y_RU_perform (Cond.code y_RU_perform b_RU_perform 4 none :: tb) r_RU_perform [.ref (x.2.1 j0), .ref (x.2.1 1), .ref (x.2.1 j2)] M out := by
  refine ofCv (cc := b_RU_perform) (maxL := 4) (by decide) rfl (rfl) (Nat.le_of_ble_eq_true rfl) ?_
  intro p e s m args below meth c Q G0 ls g hx hb hml hown hts hK hZ hP hS hl hret
  have hown : s.vm.findClass R_RU = some m.cls := hown
  have hl : lv_has ls 4 [(0, .ref (x.2.1 j0)), (1, .ref (x.2.1 1)), (2, .ref (x.2.1 j2))] := hl
  obtain ⟨H, eH⟩ : ∃ z, z = s.heap := ⟨_, rfl⟩
  obtain ⟨locs, eL⟩ : ∃ z, z = ([] : List Loc) := ⟨_, rfl⟩
  rw [← eH] at hP
  have hS : va_S (A0 x) s.heap H locs := by rw [eH, eL]; exact hS
  rw [← eL]
  have key : W p l e r_RU_perform s m args below meth c H locs 0 0 Q (F0 m 0 ls []) := by
    clear eH eL
    unfold s_RU_perform at h
    refine lv_aload_n hx hb d_RU_perform_0 rfl (lv_at hl 0 rfl) ?_
    obtain ⟨M21, c22, h⟩ := bv_e h
    refine cl_RU_29 (rest := []) (R := r_RU_perform) (c_RU_reset l x hJ j0 k0 c22) k0 hx hb hml hts hown hK hZ hP hS hl.1 (Nat.le_of_ble_eq_true rfl) (Nat.le_of_ble_eq_true rfl) (Nat.le_of_ble_eq_true rfl) ⟨rfl, rfl, Nat.zero_le _, Nat.zero_le _⟩ d_RU_perform_1 (fun H locs hP hS => ?_)
    refine lv_iconst (v := (0 : Int32)) hx hb d_RU_perform_4 (by decide) ?_
    obtain ⟨v23, ev23, h⟩ := nx_e h
    refine tp_i ev23 ?_
    refine lv_istore_n hx hb d_RU_perform_5 rfl hl (by decide) rfl (fun ls hl => ?_)
    have hl : lv_has ls 4 [(3, .int v23), (0, .ref (x.2.1 j0)), (1, .ref (x.2.1 1)), (2, .ref (x.2.1 j2))] := hl
    obtain ⟨P6, eP6⟩ : ∃ P : (Int32 × Mem) → Prop, P = (fun q => ∀ (H : Heap) (locs : List Loc) (ls : Array Slot), va_P x.1 vwCl (wld x (q.2)) H → va_S (A0 x) s.heap H locs → lv_has ls 4 [(0, .ref (x.2.1 j0)), (1, .ref (x.2.1 1)), (2, .ref (x.2.1 j2)), (3, .int (q.1))] → W p l e r_RU_perform s m args below meth c H locs 0 0 Q (F0 m 6 ls [])) := ⟨_, rfl⟩
    have L6 : P6 (v23, M21) := by
      refine lp_walk (G := G0) ?_ h g
      intro q res h g
      obtain ⟨v24, M25⟩ := q
      rw [eP6]
      intro H locs ls hP hS hl
      have hP : va_P x.1 vwCl (wld x M25) H := hP
      have hl : lv_has ls 4 [(0, .ref (x.2.1 j0)), (1, .ref (x.2.1 1)), (2, .ref (x.2.1 j2)), (3, .int v24)] := hl
      have h : l_RU_perform_6 j0 j2 v24 M25 = some res := h
      unfold l_RU_perform_6 at h
      have J59 : ∀ (a26 : Int32) (M27 : Mem)  (res : (Int32 × Mem) ⊕ Mem) (h : j_RU_perform_59 j0 j2 a26 M27 = some res) (g : (lpG P6 G0) res) (H : Heap) (locs : List Loc) (ls : Array Slot) (hP : va_P x.1 vwCl (wld x M27) H) (hS : va_S (A0 x) s.heap H locs) (hl : lv_has ls 4 [(0, .ref (x.2.1 j0)), (1, .ref (x.2.1 1)), (2, .ref (x.2.1 j2)), (3, .int a26)]), W p l e r_RU_perform s m args below meth c H locs 0 0 Q (F0 m 59 ls []) := by
        intro a26 M27 res h g H locs ls hP hS hl
        unfold j_RU_perform_59 at h
        obtain ⟨v28, ev28, h⟩ := nx_e h
        refine lv_iinc (k := 3) hx hb d_RU_perform_59 hl rfl (iinc_v (k := (1 : Int32)) (by decide) ev28) (by decide) rfl (fun ls hl => ?_)
        have hl : lv_has ls 4 [(3, .int v28), (0, .ref (x.2.1 j0)), (1, .ref (x.2.1 1)), (2, .ref (x.2.1 j2))] := hl
        refine lv_goto (tgt := 6) hx hb d_RU_perform_62 rfl ?_
        obtain rfl := Option.some.inj h
        have g : P6 (v28, M27) := g
        rw [eP6] at g
        exact g H locs ls hP hS (lv_sub hl [1, 2, 3, 0] rfl)
      refine lv_iload_n hx hb d_RU_perform_6 rfl (lv_at hl 3 rfl) ?_
      refine lv_bipush (v := (64 : Int32)) hx hb d_RU_perform_7 (by decide) ?_
      refine lv_icmp_gt (tgt := 65) hx hb d_RU_perform_9 rfl (fun hc => ?_) (fun hc => ?_)
      · have h := if_p hc h
        obtain rfl := Option.some.inj h
        exact hret d_RU_perform_65 g hP hS
      · have h := if_m hc h
        refine lv_aload_n hx hb d_RU_perform_12 rfl (lv_at hl 0 rfl) ?_
        refine gf_RU_32 hx hb hts hown hK hP k0 d_RU_perform_13 ?_
        refine lv_iconst (v := (-1 : Int32)) hx hb d_RU_perform_16 (by decide) ?_
        refine lv_icmp_ne (tgt := 65) hx hb d_RU_perform_17 rfl (fun hc => ?_) (fun hc => ?_)
        · have h := if_m hc h
          obtain rfl := Option.some.inj h
          exact hret d_RU_perform_65 g hP hS
        · have h := if_p hc h
          refine lv_aload_n hx hb d_RU_perform_20 rfl (lv_at hl 1 rfl) ?_
          refine lv_aload_n hx hb d_RU_perform_21 rfl (lv_at hl 0 rfl) ?_
          refine gf_RU_36 hx hb hts hown hK hP k0 d_RU_perform_22 ?_
          obtain ⟨r31, M29, c30, h⟩ := bi_e h
          refine cl_RU_39 (rest := []) (R := r_RU_perform) (c_PR_has l x hJ (M25 j0 7) c30) hx hb hml hts hown hK hZ hP hS hl.1 (Nat.le_of_ble_eq_true rfl) (Nat.le_of_ble_eq_true rfl) (Nat.le_of_ble_eq_true rfl) ⟨rfl, rfl, Nat.zero_le _, Nat.zero_le _⟩ d_RU_perform_25 (fun H locs hP hS => ?_)
          refine lv_if_ne (tgt := 39) hx hb d_RU_perform_28 rfl (fun hc => ?_) (fun hc => ?_)
          · have h := if_m hc h
            refine lv_iload_n hx hb d_RU_perform_39 rfl (lv_at hl 3 rfl) ?_
            refine lv_bipush (v := (64 : Int32)) hx hb d_RU_perform_40 (by decide) ?_
            refine lv_icmp_ne (tgt := 53) hx hb d_RU_perform_42 rfl (fun hc => ?_) (fun hc => ?_)
            · have h := if_m hc h
              refine lv_aload_n hx hb d_RU_perform_53 rfl (lv_at hl 0 rfl) ?_
              refine lv_aload_n hx hb d_RU_perform_54 rfl (lv_at hl 1 rfl) ?_
              refine lv_aload_n hx hb d_RU_perform_55 rfl (lv_at hl 2 rfl) ?_
              obtain ⟨M32, c33, h⟩ := bv_e h
              refine cl_RU_43 (rest := []) (R := r_RU_perform) (c_RU_step l x hJ j0 k0 j2 k2 c33) k0 hx hb hml hts hown hK hZ hP hS hl.1 (Nat.le_of_ble_eq_true rfl) (Nat.le_of_ble_eq_true rfl) (Nat.le_of_ble_eq_true rfl) ⟨rfl, rfl, Nat.zero_le _, Nat.zero_le _⟩ d_RU_perform_56 (fun H locs hP hS => ?_)
              exact J59 v24 M32 _ h g H locs ls hP hS (lv_sub hl [0, 1, 2, 3] rfl)
            · have h := if_p hc h
              refine lv_aload_n hx hb d_RU_perform_45 rfl (lv_at hl 0 rfl) ?_
              refine lv_iconst (v := (5 : Int32)) hx hb d_RU_perform_46 (by decide) ?_
              obtain ⟨M34, eM34, h⟩ := nx_e h
              refine pf_RU_32 hx hb hts hown hK hJ hP hS k0 eM34 d_RU_perform_47 (fun H locs hP hS => ?_)
              refine lv_goto (tgt := 59) hx hb d_RU_perform_50 rfl ?_
              exact J59 v24 M34 _ h g H locs ls hP hS (lv_sub hl [0, 1, 2, 3] rfl)
          · have h := if_p hc h
            refine lv_aload_n hx hb d_RU_perform_31 rfl (lv_at hl 0 rfl) ?_
            refine lv_iconst (v := (0 : Int32)) hx hb d_RU_perform_32 (by decide) ?_
            obtain ⟨M35, eM35, h⟩ := nx_e h
            refine pf_RU_32 hx hb hts hown hK hJ hP hS k0 eM35 d_RU_perform_33 (fun H locs hP hS => ?_)
            refine lv_goto (tgt := 59) hx hb d_RU_perform_36 rfl ?_
            exact J59 v24 M35 _ h g H locs ls hP hS (lv_sub hl [0, 1, 2, 3] rfl)
    rw [eP6] at L6
    exact L6 H locs ls hP hS (lv_sub hl [1, 2, 3, 0] rfl)
  rw [eH] at key
  exact key
theorem d_RU_pairBit_0 : decode b_RU_pairBit 0 = .ok (.aload_n 0, 1) := by decide +kernel
theorem d_RU_pairBit_1 : decode b_RU_pairBit 1 = .ok (.getfield 23, 3) := by decide +kernel
theorem d_RU_pairBit_4 : decode b_RU_pairBit 4 = .ok (.iload_n 1, 1) := by decide +kernel
theorem d_RU_pairBit_5 : decode b_RU_pairBit 5 = .ok (.iaload, 1) := by decide +kernel
theorem d_RU_pairBit_6 : decode b_RU_pairBit 6 = .ok (.istore_n 2, 1) := by decide +kernel
theorem d_RU_pairBit_7 : decode b_RU_pairBit 7 = .ok (.iload_n 2, 1) := by decide +kernel
theorem d_RU_pairBit_8 : decode b_RU_pairBit 8 = .ok (.iconst 3, 1) := by decide +kernel
theorem d_RU_pairBit_9 : decode b_RU_pairBit 9 = .ok (.if_icmp .gt 9, 3) := by decide +kernel
theorem d_RU_pairBit_12 : decode b_RU_pairBit 12 = .ok (.iconst 1, 1) := by decide +kernel
theorem d_RU_pairBit_13 : decode b_RU_pairBit 13 = .ok (.iload_n 2, 1) := by decide +kernel
theorem d_RU_pairBit_14 : decode b_RU_pairBit 14 = .ok (.iconst 1, 1) := by decide +kernel
theorem d_RU_pairBit_15 : decode b_RU_pairBit 15 = .ok (.isub, 1) := by decide +kernel
theorem d_RU_pairBit_16 : decode b_RU_pairBit 16 = .ok (.ishl, 1) := by decide +kernel
theorem d_RU_pairBit_17 : decode b_RU_pairBit 17 = .ok (.ireturn, 1) := by decide +kernel
theorem d_RU_pairBit_18 : decode b_RU_pairBit 18 = .ok (.iload_n 2, 1) := by decide +kernel
theorem d_RU_pairBit_19 : decode b_RU_pairBit 19 = .ok (.bipush 7, 2) := by decide +kernel
theorem d_RU_pairBit_21 : decode b_RU_pairBit 21 = .ok (.if_icmp .gt 6, 3) := by decide +kernel
theorem d_RU_pairBit_24 : decode b_RU_pairBit 24 = .ok (.bipush 8, 2) := by decide +kernel
theorem d_RU_pairBit_26 : decode b_RU_pairBit 26 = .ok (.ireturn, 1) := by decide +kernel
theorem d_RU_pairBit_27 : decode b_RU_pairBit 27 = .ok (.iload_n 2, 1) := by decide +kernel
theorem d_RU_pairBit_28 : decode b_RU_pairBit 28 = .ok (.bipush 15, 2) := by decide +kernel
theorem d_RU_pairBit_30 : decode b_RU_pairBit 30 = .ok (.if_icmp .gt 8, 3) := by decide +kernel
theorem d_RU_pairBit_33 : decode b_RU_pairBit 33 = .ok (.bipush 16, 2) := by decide +kernel
theorem d_RU_pairBit_35 : decode b_RU_pairBit 35 = .ok (.goto 5, 3) := by decide +kernel
theorem d_RU_pairBit_38 : decode b_RU_pairBit 38 = .ok (.bipush 32, 2) := by decide +kernel
theorem d_RU_pairBit_40 : decode b_RU_pairBit 40 = .ok (.ireturn, 1) := by decide +kernel
noncomputable def s_RU_pairBit (j0 : Nat) (a1 : Int32) (M : Mem) : Option (Int32 × Mem) :=
  ck a1 576 (nx (M (j0 + 4) a1.toNatClampNeg) (fun v22 => if (3 : Int32) < v22 then (if (7 : Int32) < v22 then (if (15 : Int32) < v22 then (some ((32 : Int32), M)) else (some ((16 : Int32), M))) else (some ((8 : Int32), M))) else (some ((1 : Int32) <<< ((v22 - (1 : Int32)) &&& 31), M))))
set_option maxHeartbeats 4000000 in
set_option maxRecDepth 100000 in
theorem c_RU_pairBit (l : Launch) (x : Cx) (hJ : Inj x) (j0 : Nat) (k0 : kd_run j0) (a1 : Int32) {M : Mem} {out : Int32 × Mem} (h : s_RU_pairBit j0 a1 M = some out) : Ci l x y_RU_pairBit (Cond.code y_RU_pairBit b_RU_pairBit 3 (some .int) :: tb) r_RU_pairBit [.ref (x.2.1 j0), .int a1] M out := by
  refine ofCi (cc := b_RU_pairBit) (maxL := 3) (by decide) rfl (rfl) (Nat.le_of_ble_eq_true rfl) ?_
  intro p e s m args below meth c Q G0 ls g hx hb hml hown hts hK hZ hP hS hl hret
  have hown : s.vm.findClass R_RU = some m.cls := hown
  have hl : lv_has ls 3 [(0, .ref (x.2.1 j0)), (1, .int a1)] := hl
  obtain ⟨H, eH⟩ : ∃ z, z = s.heap := ⟨_, rfl⟩
  obtain ⟨locs, eL⟩ : ∃ z, z = ([] : List Loc) := ⟨_, rfl⟩
  rw [← eH] at hP
  have hS : va_S (A0 x) s.heap H locs := by rw [eH, eL]; exact hS
  rw [← eL]
  have key : W p l e r_RU_pairBit s m args below meth c H locs 0 0 Q (F0 m 0 ls []) := by
    clear eH eL
    unfold s_RU_pairBit at h
    refine lv_aload_n hx hb d_RU_pairBit_0 rfl (lv_at hl 0 rfl) ?_
    refine gf_RU_23 hx hb hts hown hK hP k0 d_RU_pairBit_1 ?_
    refine lv_iload_n hx hb d_RU_pairBit_4 rfl (lv_at hl 1 rfl) ?_
    obtain ⟨b21, h⟩ := ck_e h
    refine m_ald hx hb hK hP (ar_RU_times k0) b21 d_RU_pairBit_5 ?_
    obtain ⟨v22, ev22, h⟩ := nx_e h
    refine tp_i ev22 ?_
    refine lv_istore_n hx hb d_RU_pairBit_6 rfl hl (by decide) rfl (fun ls hl => ?_)
    have hl : lv_has ls 3 [(2, .int v22), (0, .ref (x.2.1 j0)), (1, .int a1)] := hl
    refine lv_iload_n hx hb d_RU_pairBit_7 rfl (lv_at hl 0 rfl) ?_
    refine lv_iconst (v := (3 : Int32)) hx hb d_RU_pairBit_8 (by decide) ?_
    refine lv_icmp_gt (tgt := 18) hx hb d_RU_pairBit_9 rfl (fun hc => ?_) (fun hc => ?_)
    · have h := if_p hc h
      refine lv_iload_n hx hb d_RU_pairBit_18 rfl (lv_at hl 0 rfl) ?_
      refine lv_bipush (v := (7 : Int32)) hx hb d_RU_pairBit_19 (by decide) ?_
      refine lv_icmp_gt (tgt := 27) hx hb d_RU_pairBit_21 rfl (fun hc => ?_) (fun hc => ?_)
      · have h := if_p hc h
        refine lv_iload_n hx hb d_RU_pairBit_27 rfl (lv_at hl 0 rfl) ?_
        refine lv_bipush (v := (15 : Int32)) hx hb d_RU_pairBit_28 (by decide) ?_
        refine lv_icmp_gt (tgt := 38) hx hb d_RU_pairBit_30 rfl (fun hc => ?_) (fun hc => ?_)
        · have h := if_p hc h
          refine lv_bipush (v := (32 : Int32)) hx hb d_RU_pairBit_38 (by decide) ?_
          obtain rfl := Option.some.inj h
          exact hret d_RU_pairBit_40 g hP hS
        · have h := if_m hc h
          refine lv_bipush (v := (16 : Int32)) hx hb d_RU_pairBit_33 (by decide) ?_
          refine lv_goto (tgt := 40) hx hb d_RU_pairBit_35 rfl ?_
          obtain rfl := Option.some.inj h
          exact hret d_RU_pairBit_40 g hP hS
      · have h := if_m hc h
        refine lv_bipush (v := (8 : Int32)) hx hb d_RU_pairBit_24 (by decide) ?_
        obtain rfl := Option.some.inj h
        exact hret d_RU_pairBit_26 g hP hS
    · have h := if_m hc h
      refine lv_iconst (v := (1 : Int32)) hx hb d_RU_pairBit_12 (by decide) ?_
      refine lv_iload_n hx hb d_RU_pairBit_13 rfl (lv_at hl 0 rfl) ?_
      refine lv_iconst (v := (1 : Int32)) hx hb d_RU_pairBit_14 (by decide) ?_
      refine lv_isub hx hb d_RU_pairBit_15 ?_
      refine lv_ishl hx hb d_RU_pairBit_16 ?_
      obtain rfl := Option.some.inj h
      exact hret d_RU_pairBit_17 g hP hS
  rw [eH] at key
  exact key
theorem d_RU_hasTrapped_0 : decode b_RU_hasTrapped 0 = .ok (.aload_n 0, 1) := by decide +kernel
theorem d_RU_hasTrapped_1 : decode b_RU_hasTrapped 1 = .ok (.getfield 32, 3) := by decide +kernel
theorem d_RU_hasTrapped_4 : decode b_RU_hasTrapped 4 = .ok (.iconst 1, 1) := by decide +kernel
theorem d_RU_hasTrapped_5 : decode b_RU_hasTrapped 5 = .ok (.if_icmp .lt 15, 3) := by decide +kernel
theorem d_RU_hasTrapped_8 : decode b_RU_hasTrapped 8 = .ok (.aload_n 0, 1) := by decide +kernel
theorem d_RU_hasTrapped_9 : decode b_RU_hasTrapped 9 = .ok (.getfield 32, 3) := by decide +kernel
theorem d_RU_hasTrapped_12 : decode b_RU_hasTrapped 12 = .ok (.iconst 4, 1) := by decide +kernel
theorem d_RU_hasTrapped_13 : decode b_RU_hasTrapped 13 = .ok (.if_icmp .gt 7, 3) := by decide +kernel
theorem d_RU_hasTrapped_16 : decode b_RU_hasTrapped 16 = .ok (.iconst 1, 1) := by decide +kernel
theorem d_RU_hasTrapped_17 : decode b_RU_hasTrapped 17 = .ok (.goto 4, 3) := by decide +kernel
theorem d_RU_hasTrapped_20 : decode b_RU_hasTrapped 20 = .ok (.iconst 0, 1) := by decide +kernel
theorem d_RU_hasTrapped_21 : decode b_RU_hasTrapped 21 = .ok (.ireturn, 1) := by decide +kernel
noncomputable def s_RU_hasTrapped (j0 : Nat) (M : Mem) : Option (Int32 × Mem) :=
  if (M j0 10) < (1 : Int32) then (some ((0 : Int32), M)) else (if (4 : Int32) < (M j0 10) then (some ((0 : Int32), M)) else (some ((1 : Int32), M)))
set_option maxHeartbeats 4000000 in
set_option maxRecDepth 100000 in
theorem c_RU_hasTrapped (l : Launch) (x : Cx) (hJ : Inj x) (j0 : Nat) (k0 : kd_run j0) {M : Mem} {out : Int32 × Mem} (h : s_RU_hasTrapped j0 M = some out) : Ci l x y_RU_hasTrapped (Cond.code y_RU_hasTrapped b_RU_hasTrapped 1 (some .boolean) :: tb) r_RU_hasTrapped [.ref (x.2.1 j0)] M out := by
  refine ofCz (cc := b_RU_hasTrapped) (maxL := 1) (by decide) rfl (rfl) (Nat.le_of_ble_eq_true rfl) ?_
  intro p e s m args below meth c Q G0 ls g hx hb hml hown hts hK hZ hP hS hl hret
  have hown : s.vm.findClass R_RU = some m.cls := hown
  have hl : lv_has ls 1 [(0, .ref (x.2.1 j0))] := hl
  obtain ⟨H, eH⟩ : ∃ z, z = s.heap := ⟨_, rfl⟩
  obtain ⟨locs, eL⟩ : ∃ z, z = ([] : List Loc) := ⟨_, rfl⟩
  rw [← eH] at hP
  have hS : va_S (A0 x) s.heap H locs := by rw [eH, eL]; exact hS
  rw [← eL]
  have key : W p l e r_RU_hasTrapped s m args below meth c H locs 0 0 Q (F0 m 0 ls []) := by
    clear eH eL
    unfold s_RU_hasTrapped at h
    refine lv_aload_n hx hb d_RU_hasTrapped_0 rfl (lv_at hl 0 rfl) ?_
    refine gf_RU_32 hx hb hts hown hK hP k0 d_RU_hasTrapped_1 ?_
    refine lv_iconst (v := (1 : Int32)) hx hb d_RU_hasTrapped_4 (by decide) ?_
    refine lv_icmp_lt (tgt := 20) hx hb d_RU_hasTrapped_5 rfl (fun hc => ?_) (fun hc => ?_)
    · have h := if_p hc h
      refine lv_iconst (v := (0 : Int32)) hx hb d_RU_hasTrapped_20 (by decide) ?_
      obtain rfl := Option.some.inj h
      exact hret (by decide) d_RU_hasTrapped_21 g hP hS
    · have h := if_m hc h
      refine lv_aload_n hx hb d_RU_hasTrapped_8 rfl (lv_at hl 0 rfl) ?_
      refine gf_RU_32 hx hb hts hown hK hP k0 d_RU_hasTrapped_9 ?_
      refine lv_iconst (v := (4 : Int32)) hx hb d_RU_hasTrapped_12 (by decide) ?_
      refine lv_icmp_gt (tgt := 20) hx hb d_RU_hasTrapped_13 rfl (fun hc => ?_) (fun hc => ?_)
      · have h := if_p hc h
        refine lv_iconst (v := (0 : Int32)) hx hb d_RU_hasTrapped_20 (by decide) ?_
        obtain rfl := Option.some.inj h
        exact hret (by decide) d_RU_hasTrapped_21 g hP hS
      · have h := if_m hc h
        refine lv_iconst (v := (1 : Int32)) hx hb d_RU_hasTrapped_16 (by decide) ?_
        refine lv_goto (tgt := 21) hx hb d_RU_hasTrapped_17 rfl ?_
        obtain rfl := Option.some.inj h
        exact hret (by decide) d_RU_hasTrapped_21 g hP hS
  rw [eH] at key
  exact key
theorem d_RU_onStack_0 : decode b_RU_onStack 0 = .ok (.aload_n 0, 1) := by decide +kernel
theorem d_RU_onStack_1 : decode b_RU_onStack 1 = .ok (.getfield 47, 3) := by decide +kernel
theorem d_RU_onStack_4 : decode b_RU_onStack 4 = .ok (.iconst 1, 1) := by decide +kernel
theorem d_RU_onStack_5 : decode b_RU_onStack 5 = .ok (.isub, 1) := by decide +kernel
theorem d_RU_onStack_6 : decode b_RU_onStack 6 = .ok (.iload_n 1, 1) := by decide +kernel
theorem d_RU_onStack_7 : decode b_RU_onStack 7 = .ok (.isub, 1) := by decide +kernel
theorem d_RU_onStack_8 : decode b_RU_onStack 8 = .ok (.istore_n 2, 1) := by decide +kernel
theorem d_RU_onStack_9 : decode b_RU_onStack 9 = .ok (.iload_n 1, 1) := by decide +kernel
theorem d_RU_onStack_10 : decode b_RU_onStack 10 = .ok (.ifCond .lt 16, 3) := by decide +kernel
theorem d_RU_onStack_13 : decode b_RU_onStack 13 = .ok (.iload_n 2, 1) := by decide +kernel
theorem d_RU_onStack_14 : decode b_RU_onStack 14 = .ok (.ifCond .lt 12, 3) := by decide +kernel
theorem d_RU_onStack_17 : decode b_RU_onStack 17 = .ok (.aload_n 0, 1) := by decide +kernel
theorem d_RU_onStack_18 : decode b_RU_onStack 18 = .ok (.getfield 20, 3) := by decide +kernel
theorem d_RU_onStack_21 : decode b_RU_onStack 21 = .ok (.iload_n 2, 1) := by decide +kernel
theorem d_RU_onStack_22 : decode b_RU_onStack 22 = .ok (.iaload, 1) := by decide +kernel
theorem d_RU_onStack_23 : decode b_RU_onStack 23 = .ok (.goto 4, 3) := by decide +kernel
theorem d_RU_onStack_26 : decode b_RU_onStack 26 = .ok (.iconst 0, 1) := by decide +kernel
theorem d_RU_onStack_27 : decode b_RU_onStack 27 = .ok (.ireturn, 1) := by decide +kernel
noncomputable def s_RU_onStack (j0 : Nat) (a1 : Int32) (M : Mem) : Option (Int32 × Mem) :=
  nx (((M j0 6) - (1 : Int32)) - a1) (fun v21 => if a1 < 0 then (some ((0 : Int32), M)) else (if v21 < 0 then (some ((0 : Int32), M)) else (ck v21 3 (some (M (j0 + 3) v21.toNatClampNeg, M)))))
set_option maxHeartbeats 4000000 in
set_option maxRecDepth 100000 in
theorem c_RU_onStack (l : Launch) (x : Cx) (hJ : Inj x) (j0 : Nat) (k0 : kd_run j0) (a1 : Int32) {M : Mem} {out : Int32 × Mem} (h : s_RU_onStack j0 a1 M = some out) : Ci l x y_RU_onStack (Cond.code y_RU_onStack b_RU_onStack 3 (some .int) :: tb) r_RU_onStack [.ref (x.2.1 j0), .int a1] M out := by
  refine ofCi (cc := b_RU_onStack) (maxL := 3) (by decide) rfl (rfl) (Nat.le_of_ble_eq_true rfl) ?_
  intro p e s m args below meth c Q G0 ls g hx hb hml hown hts hK hZ hP hS hl hret
  have hown : s.vm.findClass R_RU = some m.cls := hown
  have hl : lv_has ls 3 [(0, .ref (x.2.1 j0)), (1, .int a1)] := hl
  obtain ⟨H, eH⟩ : ∃ z, z = s.heap := ⟨_, rfl⟩
  obtain ⟨locs, eL⟩ : ∃ z, z = ([] : List Loc) := ⟨_, rfl⟩
  rw [← eH] at hP
  have hS : va_S (A0 x) s.heap H locs := by rw [eH, eL]; exact hS
  rw [← eL]
  have key : W p l e r_RU_onStack s m args below meth c H locs 0 0 Q (F0 m 0 ls []) := by
    clear eH eL
    unfold s_RU_onStack at h
    refine lv_aload_n hx hb d_RU_onStack_0 rfl (lv_at hl 0 rfl) ?_
    refine gf_RU_47 hx hb hts hown hK hP k0 d_RU_onStack_1 ?_
    refine lv_iconst (v := (1 : Int32)) hx hb d_RU_onStack_4 (by decide) ?_
    refine lv_isub hx hb d_RU_onStack_5 ?_
    refine lv_iload_n hx hb d_RU_onStack_6 rfl (lv_at hl 1 rfl) ?_
    refine lv_isub hx hb d_RU_onStack_7 ?_
    obtain ⟨v21, ev21, h⟩ := nx_e h
    refine tp_i ev21 ?_
    refine lv_istore_n hx hb d_RU_onStack_8 rfl hl (by decide) rfl (fun ls hl => ?_)
    have hl : lv_has ls 3 [(2, .int v21), (0, .ref (x.2.1 j0)), (1, .int a1)] := hl
    refine lv_iload_n hx hb d_RU_onStack_9 rfl (lv_at hl 2 rfl) ?_
    refine lv_if_lt (tgt := 26) hx hb d_RU_onStack_10 rfl (fun hc => ?_) (fun hc => ?_)
    · have h := if_p hc h
      refine lv_iconst (v := (0 : Int32)) hx hb d_RU_onStack_26 (by decide) ?_
      obtain rfl := Option.some.inj h
      exact hret d_RU_onStack_27 g hP hS
    · have h := if_m hc h
      refine lv_iload_n hx hb d_RU_onStack_13 rfl (lv_at hl 0 rfl) ?_
      refine lv_if_lt (tgt := 26) hx hb d_RU_onStack_14 rfl (fun hc => ?_) (fun hc => ?_)
      · have h := if_p hc h
        refine lv_iconst (v := (0 : Int32)) hx hb d_RU_onStack_26 (by decide) ?_
        obtain rfl := Option.some.inj h
        exact hret d_RU_onStack_27 g hP hS
      · have h := if_m hc h
        refine lv_aload_n hx hb d_RU_onStack_17 rfl (lv_at hl 1 rfl) ?_
        refine gf_RU_20 hx hb hts hown hK hP k0 d_RU_onStack_18 ?_
        refine lv_iload_n hx hb d_RU_onStack_21 rfl (lv_at hl 0 rfl) ?_
        obtain ⟨b22, h⟩ := ck_e h
        refine m_ald hx hb hK hP (ar_RU_stack k0) b22 d_RU_onStack_22 ?_
        refine lv_goto (tgt := 27) hx hb d_RU_onStack_23 rfl ?_
        obtain rfl := Option.some.inj h
        exact hret d_RU_onStack_27 g hP hS
  rw [eH] at key
  exact key
