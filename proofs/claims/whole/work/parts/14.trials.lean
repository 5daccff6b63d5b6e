theorem d_TR_firstDrawing_0 : decode b_TR_firstDrawing 0 = .ok (.bipush 16, 2) := by decide +kernel
theorem d_TR_firstDrawing_2 : decode b_TR_firstDrawing 2 = .ok (.aload_n 0, 1) := by decide +kernel
theorem d_TR_firstDrawing_3 : decode b_TR_firstDrawing 3 = .ok (.getfield 41, 3) := by decide +kernel
theorem d_TR_firstDrawing_6 : decode b_TR_firstDrawing 6 = .ok (.imul, 1) := by decide +kernel
theorem d_TR_firstDrawing_7 : decode b_TR_firstDrawing 7 = .ok (.ireturn, 1) := by decide +kernel
noncomputable def s_TR_firstDrawing (j0 : Nat) (M : Mem) : Option (Int32 × Mem) :=
  some ((16 : Int32) * (M j0 1), M)
set_option maxHeartbeats 4000000 in
set_option maxRecDepth 100000 in
theorem c_TR_firstDrawing (l : Launch) (x : Cx) (hJ : Inj x) (j0 : Nat) (k0 : kd_in j0) {M : Mem} {out : Int32 × Mem} (h : s_TR_firstDrawing j0 M = some out) : Ci l x y_TR_firstDrawing (Cond.code y_TR_firstDrawing b_TR_firstDrawing 1 (some .int) :: tb) r_TR_firstDrawing [.ref (x.2.1 j0)] M out := by
  refine ofCi (cc := b_TR_firstDrawing) (maxL := 1) (by decide) rfl (rfl) (Nat.le_of_ble_eq_true rfl) ?_
  intro p e s m args below meth c Q G0 ls g hx hb hml hown hts hK hZ hP hS hl hret
  have hown : s.vm.findClass R_TR = some m.cls := hown
  have hl : lv_has ls 1 [(0, .ref (x.2.1 j0))] := hl
  obtain ⟨H, eH⟩ : ∃ z, z = s.heap := ⟨_, rfl⟩
  obtain ⟨locs, eL⟩ : ∃ z, z = ([] : List Loc) := ⟨_, rfl⟩
  rw [← eH] at hP
  have hS : va_S (A0 x) s.heap H locs := by rw [eH, eL]; exact hS
  rw [← eL]
  have key : W p l e r_TR_firstDrawing s m args below meth c H locs 0 0 Q (F0 m 0 ls []) := by
    clear eH eL
    unfold s_TR_firstDrawing at h
    refine lv_bipush (v := (16 : Int32)) hx hb d_TR_firstDrawing_0 (by decide) ?_
    refine lv_aload_n hx hb d_TR_firstDrawing_2 rfl (lv_at hl 0 rfl) ?_
    refine gf_TR_41 hx hb hts hown hK hP k0 d_TR_firstDrawing_3 ?_
    refine lv_imul hx hb d_TR_firstDrawing_6 ?_
    obtain rfl := Option.some.inj h
    exact hret d_TR_firstDrawing_7 g hP hS
  rw [eH] at key
  exact key
theorem d_TR_takeUp_0 : decode b_TR_takeUp 0 = .ok (.aload_n 1, 1) := by decide +kernel
theorem d_TR_takeUp_1 : decode b_TR_takeUp 1 = .ok (.getfield 25, 3) := by decide +kernel
theorem d_TR_takeUp_4 : decode b_TR_takeUp 4 = .ok (.iload_n 2, 1) := by decide +kernel
theorem d_TR_takeUp_5 : decode b_TR_takeUp 5 = .ok (.aaload, 1) := by decide +kernel
theorem d_TR_takeUp_6 : decode b_TR_takeUp 6 = .ok (.astore_n 3, 1) := by decide +kernel
theorem d_TR_takeUp_7 : decode b_TR_takeUp 7 = .ok (.aload_n 0, 1) := by decide +kernel
theorem d_TR_takeUp_8 : decode b_TR_takeUp 8 = .ok (.iload_n 2, 1) := by decide +kernel
theorem d_TR_takeUp_9 : decode b_TR_takeUp 9 = .ok (.putfield 9, 3) := by decide +kernel
theorem d_TR_takeUp_12 : decode b_TR_takeUp 12 = .ok (.aload_n 0, 1) := by decide +kernel
theorem d_TR_takeUp_13 : decode b_TR_takeUp 13 = .ok (.aload_n 3, 1) := by decide +kernel
theorem d_TR_takeUp_14 : decode b_TR_takeUp 14 = .ok (.getfield 80, 3) := by decide +kernel
theorem d_TR_takeUp_17 : decode b_TR_takeUp 17 = .ok (.ifCond .le 13, 3) := by decide +kernel
theorem d_TR_takeUp_20 : decode b_TR_takeUp 20 = .ok (.aload_n 3, 1) := by decide +kernel
theorem d_TR_takeUp_21 : decode b_TR_takeUp 21 = .ok (.getfield 29, 3) := by decide +kernel
theorem d_TR_takeUp_24 : decode b_TR_takeUp 24 = .ok (.invokestatic 44, 3) := by decide +kernel
theorem d_TR_takeUp_27 : decode b_TR_takeUp 27 = .ok (.goto 4, 3) := by decide +kernel
theorem d_TR_takeUp_30 : decode b_TR_takeUp 30 = .ok (.iconst 0, 1) := by decide +kernel
theorem d_TR_takeUp_31 : decode b_TR_takeUp 31 = .ok (.putfield 48, 3) := by decide +kernel
theorem d_TR_takeUp_34 : decode b_TR_takeUp 34 = .ok (.aload_n 0, 1) := by decide +kernel
theorem d_TR_takeUp_35 : decode b_TR_takeUp 35 = .ok (.bipush 8, 2) := by decide +kernel
theorem d_TR_takeUp_37 : decode b_TR_takeUp 37 = .ok (.aload_n 3, 1) := by decide +kernel
theorem d_TR_takeUp_38 : decode b_TR_takeUp 38 = .ok (.getfield 87, 3) := by decide +kernel
theorem d_TR_takeUp_41 : decode b_TR_takeUp 41 = .ok (.invokestatic 90, 3) := by decide +kernel
theorem d_TR_takeUp_44 : decode b_TR_takeUp 44 = .ok (.aload_n 1, 1) := by decide +kernel
theorem d_TR_takeUp_45 : decode b_TR_takeUp 45 = .ok (.iload_n 2, 1) := by decide +kernel
theorem d_TR_takeUp_46 : decode b_TR_takeUp 46 = .ok (.invokevirtual 96, 3) := by decide +kernel
theorem d_TR_takeUp_49 : decode b_TR_takeUp 49 = .ok (.ifCond .eq 7, 3) := by decide +kernel
theorem d_TR_takeUp_52 : decode b_TR_takeUp 52 = .ok (.iconst 2, 1) := by decide +kernel
theorem d_TR_takeUp_53 : decode b_TR_takeUp 53 = .ok (.goto 4, 3) := by decide +kernel
theorem d_TR_takeUp_56 : decode b_TR_takeUp 56 = .ok (.iconst 1, 1) := by decide +kernel
theorem d_TR_takeUp_57 : decode b_TR_takeUp 57 = .ok (.imul, 1) := by decide +kernel
theorem d_TR_takeUp_58 : decode b_TR_takeUp 58 = .ok (.putfield 68, 3) := by decide +kernel
theorem d_TR_takeUp_61 : decode b_TR_takeUp 61 = .ok (.return_, 1) := by decide +kernel
noncomputable def j_TR_takeUp_31 (a21 : Int32) (j22 : Nat) (a24 : Int32) (M25 : Mem) : Option (Mem) :=
  nx (st M25 13 1 a24) (fun M26 => bi (s_ST_isFavoured a21 M26) (fun r29 M27 => if r29 = 0 then (nx (st M27 13 2 ((if (M26 j22 2) < (8 : Int32) then (M26 j22 2) else (8 : Int32)) * (1 : Int32))) (fun M30 => some M30)) else (nx (st M27 13 2 ((if (M26 j22 2) < (8 : Int32) then (M26 j22 2) else (8 : Int32)) * (2 : Int32))) (fun M31 => some M31))))
noncomputable def s_TR_takeUp (a2 : Int32) (M : Mem) : Option (Mem) :=
  ck a2 16 (nx (122 + a2.toNatClampNeg) (fun j33 => nx (st M 13 0 a2) (fun M34 => if (M34 j33 3) ≤ 0 then (j_TR_takeUp_31 a2 j33 (0 : Int32) M34) else (bi (s_TR_firstDrawing (2 * j33 - 186) M34) (fun r37 M35 => j_TR_takeUp_31 a2 j33 r37 M35)))))
set_option maxHeartbeats 4000000 in
set_option maxRecDepth 100000 in
theorem c_TR_takeUp (l : Launch) (x : Cx) (hJ : Inj x) (a2 : Int32) {M : Mem} {out : Mem} (h : s_TR_takeUp a2 M = some out) : Cv l x y_TR_takeUp (Cond.code y_TR_takeUp b_TR_takeUp 4 none :: tb) r_TR_takeUp [.ref (x.2.1 13), .ref (x.2.1 5), .int a2] M out := by
  refine ofCv (cc := b_TR_takeUp) (maxL := 4) (by decide) rfl (rfl) (Nat.le_of_ble_eq_true rfl) ?_
  intro p e s m args below meth c Q G0 ls g hx hb hml hown hts hK hZ hP hS hl hret
  have hown : s.vm.findClass R_TR = some m.cls := hown
  have hl : lv_has ls 4 [(0, .ref (x.2.1 13)), (1, .ref (x.2.1 5)), (2, .int a2)] := hl
  obtain ⟨H, eH⟩ : ∃ z, z = s.heap := ⟨_, rfl⟩
  obtain ⟨locs, eL⟩ : ∃ z, z = ([] : List Loc) := ⟨_, rfl⟩
  rw [← eH] at hP
  have hS : va_S (A0 x) s.heap H locs := by rw [eH, eL]; exact hS
  rw [← eL]
  have key : W p l e r_TR_takeUp s m args below meth c H locs 0 0 Q (F0 m 0 ls []) := by
    clear eH eL
    unfold s_TR_takeUp at h
    have J31 : ∀ (a21 : Int32) (j22 : Nat) (a24 : Int32) (M25 : Mem) (k23 : kd_en j22) (res : Mem) (h : j_TR_takeUp_31 a21 j22 a24 M25 = some res) (g : G0 res) (H : Heap) (locs : List Loc) (ls : Array Slot) (hP : va_P x.1 vwCl (wld x M25) H) (hS : va_S (A0 x) s.heap H locs) (hl : lv_has ls 4 [(0, .ref (x.2.1 13)), (1, .ref (x.2.1 5)), (2, .int a21), (3, .ref (x.2.1 j22))]), W p l e r_TR_takeUp s m args below meth c H locs 0 0 Q (F0 m 31 ls [.int a24, .ref (x.2.1 13)]) := by
      intro a21 j22 a24 M25 k23 res h g H locs ls hP hS hl
      unfold j_TR_takeUp_31 at h
      obtain ⟨M26, eM26, h⟩ := nx_e h
      refine pf_TR_48 hx hb hts hown hK hJ hP hS eM26 d_TR_takeUp_31 (fun H locs hP hS => ?_)
      refine lv_aload_n hx hb d_TR_takeUp_34 rfl (lv_at hl 0 rfl) ?_
      refine lv_bipush (v := (8 : Int32)) hx hb d_TR_takeUp_35 (by decide) ?_
      refine lv_aload_n hx hb d_TR_takeUp_37 rfl (lv_at hl 3 rfl) ?_
      refine gf_TR_87 hx hb hts hown hK hP k23 d_TR_takeUp_38 ?_
      refine va_mmin hx hb (hml.trans hl.1.symm) hown (hts.1 _ q_187) (hts.1 _ q_93) (hts.1 _ q_94) (hts.1 _ q_95) (Nat.le_of_ble_eq_true rfl) (Nat.le_of_ble_eq_true rfl) (Nat.zero_le _) (Nat.zero_le _) d_TR_takeUp_41 ?_
      refine lv_aload_n hx hb d_TR_takeUp_44 rfl (lv_at hl 1 rfl) ?_
      refine lv_iload_n hx hb d_TR_takeUp_45 rfl (lv_at hl 2 rfl) ?_
      obtain ⟨r29, M27, c28, h⟩ := bi_e h
      refine cl_TR_96 (rest := [.int (if (M26 j22 2) < (8 : Int32) then (M26 j22 2) else (8 : Int32)), .ref (x.2.1 13)]) (R := r_TR_takeUp) (c_ST_isFavoured l x hJ a21 c28) hx hb hml hts hown hK hZ hP hS hl.1 (Nat.le_of_ble_eq_true rfl) (Nat.le_of_ble_eq_true rfl) (Nat.le_of_ble_eq_true rfl) ⟨rfl, rfl, Nat.zero_le _, Nat.zero_le _⟩ d_TR_takeUp_46 (fun H locs hP hS => ?_)
      refine lv_if_eq (tgt := 56) hx hb d_TR_takeUp_49 rfl (fun hc => ?_) (fun hc => ?_)
      · have h := if_p hc h
        refine lv_iconst (v := (1 : Int32)) hx hb d_TR_takeUp_56 (by decide) ?_
        refine lv_imul hx hb d_TR_takeUp_57 ?_
        obtain ⟨M30, eM30, h⟩ := nx_e h
        refine pf_TR_68 hx hb hts hown hK hJ hP hS eM30 d_TR_takeUp_58 (fun H locs hP hS => ?_)
        obtain rfl := Option.some.inj h
        exact hret d_TR_takeUp_61 g hP hS
      · have h := if_m hc h
        refine lv_iconst (v := (2 : Int32)) hx hb d_TR_takeUp_52 (by decide) ?_
        refine lv_goto (tgt := 57) hx hb d_TR_takeUp_53 rfl ?_
        refine lv_imul hx hb d_TR_takeUp_57 ?_
        obtain ⟨M31, eM31, h⟩ := nx_e h
        refine pf_TR_68 hx hb hts hown hK hJ hP hS eM31 d_TR_takeUp_58 (fun H locs hP hS => ?_)
        obtain rfl := Option.some.inj h
        exact hret d_TR_takeUp_61 g hP hS
    refine lv_aload_n hx hb d_TR_takeUp_0 rfl (lv_at hl 1 rfl) ?_
    refine gf_TR_25 hx hb hts hown hK hP d_TR_takeUp_1 ?_
    refine lv_iload_n hx hb d_TR_takeUp_4 rfl (lv_at hl 2 rfl) ?_
    obtain ⟨b32, h⟩ := ck_e h
    refine m_aaE hx hb hK hP b32 d_TR_takeUp_5 ?_
    obtain ⟨j33, ej33, h⟩ := nx_e h
    have kj33 : kd_en j33 := by rw [ej33]; exact kd_en_at b32
    refine tp_r ej33 ?_
    refine lv_astore_n hx hb d_TR_takeUp_6 rfl hl (by decide) rfl (fun ls hl => ?_)
    have hl : lv_has ls 4 [(3, .ref (x.2.1 j33)), (0, .ref (x.2.1 13)), (1, .ref (x.2.1 5)), (2, .int a2)] := hl
    refine lv_aload_n hx hb d_TR_takeUp_7 rfl (lv_at hl 1 rfl) ?_
    refine lv_iload_n hx hb d_TR_takeUp_8 rfl (lv_at hl 3 rfl) ?_
    obtain ⟨M34, eM34, h⟩ := nx_e h
    refine pf_TR_9 hx hb hts hown hK hJ hP hS eM34 d_TR_takeUp_9 (fun H locs hP hS => ?_)
    refine lv_aload_n hx hb d_TR_takeUp_12 rfl (lv_at hl 1 rfl) ?_
    refine lv_aload_n hx hb d_TR_takeUp_13 rfl (lv_at hl 0 rfl) ?_
    refine gf_TR_80 hx hb hts hown hK hP kj33 d_TR_takeUp_14 ?_
    refine lv_if_le (tgt := 30) hx hb d_TR_takeUp_17 rfl (fun hc => ?_) (fun hc => ?_)
    · have h := if_p hc h
      refine lv_iconst (v := (0 : Int32)) hx hb d_TR_takeUp_30 (by decide) ?_
      exact J31 a2 j33 (0 : Int32) M34 kj33 _ h g H locs ls hP hS (lv_sub hl [1, 2, 3, 0] rfl)
    · have h := if_m hc h
      refine lv_aload_n hx hb d_TR_takeUp_20 rfl (lv_at hl 0 rfl) ?_
      refine gf_TR_29 hx hb hts hown hK hP kj33 d_TR_takeUp_21 ?_
      obtain ⟨r37, M35, c36, h⟩ := bi_e h
      refine cl_TR_44 (rest := [.ref (x.2.1 13)]) (R := r_TR_takeUp) (c_TR_firstDrawing l x hJ (2 * j33 - 186) (kd_EN_input kj33) c36) hx hb hml hts hown hK hZ hP hS hl.1 (Nat.le_of_ble_eq_true rfl) (Nat.le_of_ble_eq_true rfl) (Nat.le_of_ble_eq_true rfl) ⟨rfl, rfl, Nat.zero_le _, Nat.zero_le _⟩ d_TR_takeUp_24 (fun H locs hP hS => ?_)
      refine lv_goto (tgt := 31) hx hb d_TR_takeUp_27 rfl ?_
      exact J31 a2 j33 r37 M35 kj33 _ h g H locs ls hP hS (lv_sub hl [1, 2, 3, 0] rfl)
  rw [eH] at key
  exact key
theorem d_TR_beginWithFirst_0 : decode b_TR_beginWithFirst 0 = .ok (.aload_n 0, 1) := by decide +kernel
theorem d_TR_beginWithFirst_1 : decode b_TR_beginWithFirst 1 = .ok (.getfield 9, 3) := by decide +kernel
theorem d_TR_beginWithFirst_4 : decode b_TR_beginWithFirst 4 = .ok (.iconst (-1), 1) := by decide +kernel
theorem d_TR_beginWithFirst_5 : decode b_TR_beginWithFirst 5 = .ok (.if_icmp .ne 17, 3) := by decide +kernel
theorem d_TR_beginWithFirst_8 : decode b_TR_beginWithFirst 8 = .ok (.aload_n 1, 1) := by decide +kernel
theorem d_TR_beginWithFirst_9 : decode b_TR_beginWithFirst 9 = .ok (.iconst 0, 1) := by decide +kernel
theorem d_TR_beginWithFirst_10 : decode b_TR_beginWithFirst 10 = .ok (.invokevirtual 15, 3) := by decide +kernel
theorem d_TR_beginWithFirst_13 : decode b_TR_beginWithFirst 13 = .ok (.ifCond .eq 9, 3) := by decide +kernel
theorem d_TR_beginWithFirst_16 : decode b_TR_beginWithFirst 16 = .ok (.aload_n 0, 1) := by decide +kernel
theorem d_TR_beginWithFirst_17 : decode b_TR_beginWithFirst 17 = .ok (.aload_n 1, 1) := by decide +kernel
theorem d_TR_beginWithFirst_18 : decode b_TR_beginWithFirst 18 = .ok (.iconst 0, 1) := by decide +kernel
theorem d_TR_beginWithFirst_19 : decode b_TR_beginWithFirst 19 = .ok (.invokevirtual 21, 3) := by decide +kernel
theorem d_TR_beginWithFirst_22 : decode b_TR_beginWithFirst 22 = .ok (.return_, 1) := by decide +kernel
noncomputable def s_TR_beginWithFirst  (M : Mem) : Option (Mem) :=
  if (M 13 0) = (-1 : Int32) then (bi (s_ST_has (0 : Int32) M) (fun r23 M21 => if r23 = 0 then (some M21) else (bv (s_TR_takeUp (0 : Int32) M21) (fun M24 => some M24)))) else (some M)
set_option maxHeartbeats 4000000 in
set_option maxRecDepth 100000 in
theorem c_TR_beginWithFirst (l : Launch) (x : Cx) (hJ : Inj x)  {M : Mem} {out : Mem} (h : s_TR_beginWithFirst M = some out) : Cv l x y_TR_beginWithFirst (Cond.code y_TR_beginWithFirst b_TR_beginWithFirst 2 none :: tb) r_TR_beginWithFirst [.ref (x.2.1 13), .ref (x.2.1 5)] M out := by
  refine ofCv (cc := b_TR_beginWithFirst) (maxL := 2) (by decide) rfl (rfl) (Nat.le_of_ble_eq_true rfl) ?_
  intro p e s m args below meth c Q G0 ls g hx hb hml hown hts hK hZ hP hS hl hret
  have hown : s.vm.findClass R_TR = some m.cls := hown
  have hl : lv_has ls 2 [(0, .ref (x.2.1 13)), (1, .ref (x.2.1 5))] := hl
  obtain ⟨H, eH⟩ : ∃ z, z = s.heap := ⟨_, rfl⟩
  obtain ⟨locs, eL⟩ : ∃ z, z = ([] : List Loc) := ⟨_, rfl⟩
  rw [← eH] at hP
  have hS : va_S (A0 x) s.heap H locs := by rw [eH, eL]; exact hS
  rw [← eL]
  have key : W p l e r_TR_beginWithFirst s m args below meth c H locs 0 0 Q (F0 m 0 ls []) := by
    clear eH eL
    unfold s_TR_beginWithFirst at h
    refine lv_aload_n hx hb d_TR_beginWithFirst_0 rfl (lv_at hl 0 rfl) ?_
    refine gf_TR_9 hx hb hts hown hK hP d_TR_beginWithFirst_1 ?_
    refine lv_iconst (v := (-1 : Int32)) hx hb d_TR_beginWithFirst_4 (by decide) ?_
    refine lv_icmp_ne (tgt := 22) hx hb d_TR_beginWithFirst_5 rfl (fun hc => ?_) (fun hc => ?_)
    · have h := if_m hc h
      obtain rfl := Option.some.inj h
      exact hret d_TR_beginWithFirst_22 g hP hS
    · have h := if_p hc h
      refine lv_aload_n hx hb d_TR_beginWithFirst_8 rfl (lv_at hl 1 rfl) ?_
      refine lv_iconst (v := (0 : Int32)) hx hb d_TR_beginWithFirst_9 (by decide) ?_
      obtain ⟨r23, M21, c22, h⟩ := bi_e h
      refine cl_TR_15 (rest := []) (R := r_TR_beginWithFirst) (c_ST_has l x hJ (0 : Int32) c22) hx hb hml hts hown hK hZ hP hS hl.1 (Nat.le_of_ble_eq_true rfl) (Nat.le_of_ble_eq_true rfl) (Nat.le_of_ble_eq_true rfl) ⟨rfl, rfl, Nat.zero_le _, Nat.zero_le _⟩ d_TR_beginWithFirst_10 (fun H locs hP hS => ?_)
      refine lv_if_eq (tgt := 22) hx hb d_TR_beginWithFirst_13 rfl (fun hc => ?_) (fun hc => ?_)
      · have h := if_p hc h
        obtain rfl := Option.some.inj h
        exact hret d_TR_beginWithFirst_22 g hP hS
      · have h := if_m hc h
        refine lv_aload_n hx hb d_TR_beginWithFirst_16 rfl (lv_at hl 0 rfl) ?_
        refine lv_aload_n hx hb d_TR_beginWithFirst_17 rfl (lv_at hl 1 rfl) ?_
        refine lv_iconst (v := (0 : Int32)) hx hb d_TR_beginWithFirst_18 (by decide) ?_
        obtain ⟨M24, c25, h⟩ := bv_e h
        refine cl_TR_21 (rest := []) (R := r_TR_beginWithFirst) (c_TR_takeUp l x hJ (0 : Int32) c25) hx hb hml hts hown hK hZ hP hS hl.1 (Nat.le_of_ble_eq_true rfl) (Nat.le_of_ble_eq_true rfl) (Nat.le_of_ble_eq_true rfl) ⟨rfl, rfl, Nat.zero_le _, Nat.zero_le _⟩ d_TR_beginWithFirst_19 (fun H locs hP hS => ?_)
        obtain rfl := Option.some.inj h
        exact hret d_TR_beginWithFirst_22 g hP hS
  rw [eH] at key
  exact key
theorem d_TR_insertDrawn_0 : decode b_TR_insertDrawn 0 = .ok (.aload_n 0, 1) := by decide +kernel
theorem d_TR_insertDrawn_1 : decode b_TR_insertDrawn 1 = .ok (.getfield 41, 3) := by decide +kernel
theorem d_TR_insertDrawn_4 : decode b_TR_insertDrawn 4 = .ok (.bipush 6, 2) := by decide +kernel
theorem d_TR_insertDrawn_6 : decode b_TR_insertDrawn 6 = .ok (.if_icmp .lt 4, 3) := by decide +kernel
theorem d_TR_insertDrawn_9 : decode b_TR_insertDrawn 9 = .ok (.return_, 1) := by decide +kernel
theorem d_TR_insertDrawn_10 : decode b_TR_insertDrawn 10 = .ok (.aload_n 1, 1) := by decide +kernel
theorem d_TR_insertDrawn_11 : decode b_TR_insertDrawn 11 = .ok (.sipush 256, 3) := by decide +kernel
theorem d_TR_insertDrawn_14 : decode b_TR_insertDrawn 14 = .ok (.invokevirtual 103, 3) := by decide +kernel
theorem d_TR_insertDrawn_17 : decode b_TR_insertDrawn 17 = .ok (.istore_n 2, 1) := by decide +kernel
theorem d_TR_insertDrawn_18 : decode b_TR_insertDrawn 18 = .ok (.aload_n 0, 1) := by decide +kernel
theorem d_TR_insertDrawn_19 : decode b_TR_insertDrawn 19 = .ok (.aload_n 1, 1) := by decide +kernel
theorem d_TR_insertDrawn_20 : decode b_TR_insertDrawn 20 = .ok (.aload_n 0, 1) := by decide +kernel
theorem d_TR_insertDrawn_21 : decode b_TR_insertDrawn 21 = .ok (.getfield 41, 3) := by decide +kernel
theorem d_TR_insertDrawn_24 : decode b_TR_insertDrawn 24 = .ok (.iconst 1, 1) := by decide +kernel
theorem d_TR_insertDrawn_25 : decode b_TR_insertDrawn 25 = .ok (.iadd, 1) := by decide +kernel
theorem d_TR_insertDrawn_26 : decode b_TR_insertDrawn 26 = .ok (.invokevirtual 103, 3) := by decide +kernel
theorem d_TR_insertDrawn_29 : decode b_TR_insertDrawn 29 = .ok (.iload_n 2, 1) := by decide +kernel
theorem d_TR_insertDrawn_30 : decode b_TR_insertDrawn 30 = .ok (.invokevirtual 115, 3) := by decide +kernel
theorem d_TR_insertDrawn_33 : decode b_TR_insertDrawn 33 = .ok (.return_, 1) := by decide +kernel
noncomputable def s_TR_insertDrawn (j0 : Nat) (M : Mem) : Option (Mem) :=
  if (M j0 1) < (6 : Int32) then (bi (s_GE_draw (256 : Int32) M) (fun r23 M21 => bi (s_GE_draw ((M21 j0 1) + (1 : Int32)) M21) (fun r26 M24 => bv (s_IN_insert j0 r26 r23 M24) (fun M27 => some M27)))) else (some M)
set_option maxHeartbeats 4000000 in
set_option maxRecDepth 100000 in
theorem c_TR_insertDrawn (l : Launch) (x : Cx) (hJ : Inj x) (j0 : Nat) (k0 : kd_in j0) {M : Mem} {out : Mem} (h : s_TR_insertDrawn j0 M = some out) : Cv l x y_TR_insertDrawn (Cond.code y_TR_insertDrawn b_TR_insertDrawn 3 none :: tb) r_TR_insertDrawn [.ref (x.2.1 j0), .ref (x.2.1 12)] M out := by
  refine ofCv (cc := b_TR_insertDrawn) (maxL := 3) (by decide) rfl (rfl) (Nat.le_of_ble_eq_true rfl) ?_
  intro p e s m args below meth c Q G0 ls g hx hb hml hown hts hK hZ hP hS hl hret
  have hown : s.vm.findClass R_TR = some m.cls := hown
  have hl : lv_has ls 3 [(0, .ref (x.2.1 j0)), (1, .ref (x.2.1 12))] := hl
  obtain ⟨H, eH⟩ : ∃ z, z = s.heap := ⟨_, rfl⟩
  obtain ⟨locs, eL⟩ : ∃ z, z = ([] : List Loc) := ⟨_, rfl⟩
  rw [← eH] at hP
  have hS : va_S (A0 x) s.heap H locs := by rw [eH, eL]; exact hS
  rw [← eL]
  have key : W p l e r_TR_insertDrawn s m args below meth c H locs 0 0 Q (F0 m 0 ls []) := by
    clear eH eL
    unfold s_TR_insertDrawn at h
    refine lv_aload_n hx hb d_TR_insertDrawn_0 rfl (lv_at hl 0 rfl) ?_
    refine gf_TR_41 hx hb hts hown hK hP k0 d_TR_insertDrawn_1 ?_
    refine lv_bipush (v := (6 : Int32)) hx hb d_TR_insertDrawn_4 (by decide) ?_
    refine lv_icmp_lt (tgt := 10) hx hb d_TR_insertDrawn_6 rfl (fun hc => ?_) (fun hc => ?_)
    · have h := if_p hc h
      refine lv_aload_n hx hb d_TR_insertDrawn_10 rfl (lv_at hl 1 rfl) ?_
      refine lv_sipush (v := (256 : Int32)) hx hb d_TR_insertDrawn_11 (by decide) ?_
      obtain ⟨r23, M21, c22, h⟩ := bi_e h
      refine cl_TR_103 (rest := []) (R := r_TR_insertDrawn) (c_GE_draw l x hJ (256 : Int32) c22) hx hb hml hts hown hK hZ hP hS hl.1 (Nat.le_of_ble_eq_true rfl) (Nat.le_of_ble_eq_true rfl) (Nat.le_of_ble_eq_true rfl) ⟨rfl, rfl, Nat.zero_le _, Nat.zero_le _⟩ d_TR_insertDrawn_14 (fun H locs hP hS => ?_)
      refine lv_istore_n hx hb d_TR_insertDrawn_17 rfl hl (by decide) rfl (fun ls hl => ?_)
      have hl : lv_has ls 3 [(2, .int r23), (0, .ref (x.2.1 j0)), (1, .ref (x.2.1 12))] := hl
      refine lv_aload_n hx hb d_TR_insertDrawn_18 rfl (lv_at hl 1 rfl) ?_
      refine lv_aload_n hx hb d_TR_insertDrawn_19 rfl (lv_at hl 2 rfl) ?_
      refine lv_aload_n hx hb d_TR_insertDrawn_20 rfl (lv_at hl 1 rfl) ?_
      refine gf_TR_41 hx hb hts hown hK hP k0 d_TR_insertDrawn_21 ?_
      refine lv_iconst (v := (1 : Int32)) hx hb d_TR_insertDrawn_24 (by decide) ?_
      refine lv_iadd hx hb d_TR_insertDrawn_25 ?_
      obtain ⟨r26, M24, c25, h⟩ := bi_e h
      refine cl_TR_103 (rest := [.ref (x.2.1 j0)]) (R := r_TR_insertDrawn) (c_GE_draw l x hJ ((M21 j0 1) + (1 : Int32)) c25) hx hb hml hts hown hK hZ hP hS hl.1 (Nat.le_of_ble_eq_true rfl) (Nat.le_of_ble_eq_true rfl) (Nat.le_of_ble_eq_true rfl) ⟨rfl, rfl, Nat.zero_le _, Nat.zero_le _⟩ d_TR_insertDrawn_26 (fun H locs hP hS => ?_)
      refine lv_iload_n hx hb d_TR_insertDrawn_29 rfl (lv_at hl 0 rfl) ?_
      obtain ⟨M27, c28, h⟩ := bv_e h
      refine cl_TR_115 (rest := []) (R := r_TR_insertDrawn) (c_IN_insert l x hJ j0 k0 r26 r23 c28) k0 hx hb hml hts hown hK hZ hP hS hl.1 (Nat.le_of_ble_eq_true rfl) (Nat.le_of_ble_eq_true rfl) (Nat.le_of_ble_eq_true rfl) ⟨rfl, rfl, Nat.zero_le _, Nat.zero_le _⟩ d_TR_insertDrawn_30 (fun H locs hP hS => ?_)
      obtain rfl := Option.some.inj h
      exact hret d_TR_insertDrawn_33 g hP hS
    · have h := if_m hc h
      obtain rfl := Option.some.inj h
      exact hret d_TR_insertDrawn_9 g hP hS
  rw [eH] at key
  exact key
theorem d_TR_changeDrawn_0 : decode b_TR_changeDrawn 0 = .ok (.aload_n 1, 1) := by decide +kernel
theorem d_TR_changeDrawn_1 : decode b_TR_changeDrawn 1 = .ok (.getfield 41, 3) := by decide +kernel
theorem d_TR_changeDrawn_4 : decode b_TR_changeDrawn 4 = .ok (.istore_n 3, 1) := by decide +kernel
theorem d_TR_changeDrawn_5 : decode b_TR_changeDrawn 5 = .ok (.iload_n 0, 1) := by decide +kernel
theorem d_TR_changeDrawn_6 : decode b_TR_changeDrawn 6 = .ok (.tableswitch 87 0 3 #[30, 52, 87, 75], 30) := by decide +kernel
theorem d_TR_changeDrawn_36 : decode b_TR_changeDrawn 36 = .ok (.aload_n 2, 1) := by decide +kernel
theorem d_TR_changeDrawn_37 : decode b_TR_changeDrawn 37 = .ok (.bipush 8, 2) := by decide +kernel
theorem d_TR_changeDrawn_39 : decode b_TR_changeDrawn 39 = .ok (.invokevirtual 103, 3) := by decide +kernel
theorem d_TR_changeDrawn_42 : decode b_TR_changeDrawn 42 = .ok (.istore 4, 2) := by decide +kernel
theorem d_TR_changeDrawn_44 : decode b_TR_changeDrawn 44 = .ok (.aload_n 1, 1) := by decide +kernel
theorem d_TR_changeDrawn_45 : decode b_TR_changeDrawn 45 = .ok (.aload_n 2, 1) := by decide +kernel
theorem d_TR_changeDrawn_46 : decode b_TR_changeDrawn 46 = .ok (.iload_n 3, 1) := by decide +kernel
theorem d_TR_changeDrawn_47 : decode b_TR_changeDrawn 47 = .ok (.invokevirtual 103, 3) := by decide +kernel
theorem d_TR_changeDrawn_50 : decode b_TR_changeDrawn 50 = .ok (.iload 4, 2) := by decide +kernel
theorem d_TR_changeDrawn_52 : decode b_TR_changeDrawn 52 = .ok (.invokevirtual 51, 3) := by decide +kernel
theorem d_TR_changeDrawn_55 : decode b_TR_changeDrawn 55 = .ok (.goto 60, 3) := by decide +kernel
theorem d_TR_changeDrawn_58 : decode b_TR_changeDrawn 58 = .ok (.aload_n 2, 1) := by decide +kernel
theorem d_TR_changeDrawn_59 : decode b_TR_changeDrawn 59 = .ok (.iload_n 3, 1) := by decide +kernel
theorem d_TR_changeDrawn_60 : decode b_TR_changeDrawn 60 = .ok (.invokevirtual 103, 3) := by decide +kernel
theorem d_TR_changeDrawn_63 : decode b_TR_changeDrawn 63 = .ok (.istore 4, 2) := by decide +kernel
theorem d_TR_changeDrawn_65 : decode b_TR_changeDrawn 65 = .ok (.aload_n 1, 1) := by decide +kernel
theorem d_TR_changeDrawn_66 : decode b_TR_changeDrawn 66 = .ok (.iload 4, 2) := by decide +kernel
theorem d_TR_changeDrawn_68 : decode b_TR_changeDrawn 68 = .ok (.aload_n 2, 1) := by decide +kernel
theorem d_TR_changeDrawn_69 : decode b_TR_changeDrawn 69 = .ok (.sipush 256, 3) := by decide +kernel
theorem d_TR_changeDrawn_72 : decode b_TR_changeDrawn 72 = .ok (.invokevirtual 103, 3) := by decide +kernel
theorem d_TR_changeDrawn_75 : decode b_TR_changeDrawn 75 = .ok (.invokevirtual 65, 3) := by decide +kernel
theorem d_TR_changeDrawn_78 : decode b_TR_changeDrawn 78 = .ok (.goto 37, 3) := by decide +kernel
theorem d_TR_changeDrawn_81 : decode b_TR_changeDrawn 81 = .ok (.aload_n 1, 1) := by decide +kernel
theorem d_TR_changeDrawn_82 : decode b_TR_changeDrawn 82 = .ok (.aload_n 2, 1) := by decide +kernel
theorem d_TR_changeDrawn_83 : decode b_TR_changeDrawn 83 = .ok (.iload_n 3, 1) := by decide +kernel
theorem d_TR_changeDrawn_84 : decode b_TR_changeDrawn 84 = .ok (.invokevirtual 103, 3) := by decide +kernel
theorem d_TR_changeDrawn_87 : decode b_TR_changeDrawn 87 = .ok (.invokevirtual 118, 3) := by decide +kernel
theorem d_TR_changeDrawn_90 : decode b_TR_changeDrawn 90 = .ok (.goto 25, 3) := by decide +kernel
theorem d_TR_changeDrawn_93 : decode b_TR_changeDrawn 93 = .ok (.aload_n 2, 1) := by decide +kernel
theorem d_TR_changeDrawn_94 : decode b_TR_changeDrawn 94 = .ok (.bipush 16, 2) := by decide +kernel
theorem d_TR_changeDrawn_96 : decode b_TR_changeDrawn 96 = .ok (.invokevirtual 103, 3) := by decide +kernel
theorem d_TR_changeDrawn_99 : decode b_TR_changeDrawn 99 = .ok (.bipush 8, 2) := by decide +kernel
theorem d_TR_changeDrawn_101 : decode b_TR_changeDrawn 101 = .ok (.isub, 1) := by decide +kernel
theorem d_TR_changeDrawn_102 : decode b_TR_changeDrawn 102 = .ok (.istore 4, 2) := by decide +kernel
theorem d_TR_changeDrawn_104 : decode b_TR_changeDrawn 104 = .ok (.aload_n 1, 1) := by decide +kernel
theorem d_TR_changeDrawn_105 : decode b_TR_changeDrawn 105 = .ok (.aload_n 2, 1) := by decide +kernel
theorem d_TR_changeDrawn_106 : decode b_TR_changeDrawn 106 = .ok (.iload_n 3, 1) := by decide +kernel
theorem d_TR_changeDrawn_107 : decode b_TR_changeDrawn 107 = .ok (.invokevirtual 103, 3) := by decide +kernel
theorem d_TR_changeDrawn_110 : decode b_TR_changeDrawn 110 = .ok (.iload 4, 2) := by decide +kernel
theorem d_TR_changeDrawn_112 : decode b_TR_changeDrawn 112 = .ok (.invokevirtual 59, 3) := by decide +kernel
theorem d_TR_changeDrawn_115 : decode b_TR_changeDrawn 115 = .ok (.return_, 1) := by decide +kernel
noncomputable def j_TR_changeDrawn_93 (j21 : Nat) (a23 : Int32) (M24 : Mem) : Option (Mem) :=
  bi (s_GE_draw (16 : Int32) M24) (fun r27 M25 => nx (r27 - (8 : Int32)) (fun v28 => bi (s_GE_draw a23 M25) (fun r31 M29 => bv (s_IN_addTo j21 r31 v28 M29) (fun M32 => some M32))))
noncomputable def s_TR_changeDrawn (a0 : Int32) (j1 : Nat) (M : Mem) : Option (Mem) :=
  nx (M j1 1) (fun v34 => if a0 = (0 : Int32) then (bi (s_GE_draw (8 : Int32) M) (fun r37 M35 => bi (s_GE_draw v34 M35) (fun r40 M38 => bv (s_IN_turnBit j1 r40 r37 M38) (fun M41 => some M41)))) else (if a0 = (1 : Int32) then (bi (s_GE_draw v34 M) (fun r46 M44 => bi (s_GE_draw (256 : Int32) M44) (fun r49 M47 => bv (s_IN_put j1 r46 r49 M47) (fun M50 => some M50)))) else (if a0 = (2 : Int32) then (j_TR_changeDrawn_93 j1 v34 M) else (if a0 = (3 : Int32) then (bi (s_GE_draw v34 M) (fun r56 M54 => bv (s_IN_takeOut j1 r56 M54) (fun M57 => some M57))) else (j_TR_changeDrawn_93 j1 v34 M)))))
set_option maxHeartbeats 4000000 in
set_option maxRecDepth 100000 in
theorem c_TR_changeDrawn (l : Launch) (x : Cx) (hJ : Inj x) (a0 : Int32) (j1 : Nat) (k1 : kd_in j1) {M : Mem} {out : Mem} (h : s_TR_changeDrawn a0 j1 M = some out) : Cv l x y_TR_changeDrawn (Cond.code y_TR_changeDrawn b_TR_changeDrawn 5 none :: tb) r_TR_changeDrawn [.int a0, .ref (x.2.1 j1), .ref (x.2.1 12)] M out := by
  refine ofCv (cc := b_TR_changeDrawn) (maxL := 5) (by decide) rfl (rfl) (Nat.le_of_ble_eq_true rfl) ?_
  intro p e s m args below meth c Q G0 ls g hx hb hml hown hts hK hZ hP hS hl hret
  have hown : s.vm.findClass R_TR = some m.cls := hown
  have hl : lv_has ls 5 [(0, .int a0), (1, .ref (x.2.1 j1)), (2, .ref (x.2.1 12))] := hl
  obtain ⟨H, eH⟩ : ∃ z, z = s.heap := ⟨_, rfl⟩
  obtain ⟨locs, eL⟩ : ∃ z, z = ([] : List Loc) := ⟨_, rfl⟩
  rw [← eH] at hP
  have hS : va_S (A0 x) s.heap H locs := by rw [eH, eL]; exact hS
  rw [← eL]
  have key : W p l e r_TR_changeDrawn s m args below meth c H locs 0 0 Q (F0 m 0 ls []) := by
    clear eH eL
    unfold s_TR_changeDrawn at h
    have J93 : ∀ (j21 : Nat) (a23 : Int32) (M24 : Mem) (k22 : kd_in j21) (res : Mem) (h : j_TR_changeDrawn_93 j21 a23 M24 = some res) (g : G0 res) (H : Heap) (locs : List Loc) (ls : Array Slot) (hP : va_P x.1 vwCl (wld x M24) H) (hS : va_S (A0 x) s.heap H locs) (hl : lv_has ls 5 [(1, .ref (x.2.1 j21)), (2, .ref (x.2.1 12)), (3, .int a23)]), W p l e r_TR_changeDrawn s m args below meth c H locs 0 0 Q (F0 m 93 ls []) := by
      intro j21 a23 M24 k22 res h g H locs ls hP hS hl
      unfold j_TR_changeDrawn_93 at h
      refine lv_aload_n hx hb d_TR_changeDrawn_93 rfl (lv_at hl 1 rfl) ?_
      refine lv_bipush (v := (16 : Int32)) hx hb d_TR_changeDrawn_94 (by decide) ?_
      obtain ⟨r27, M25, c26, h⟩ := bi_e h
      refine cl_TR_103 (rest := []) (R := r_TR_changeDrawn) (c_GE_draw l x hJ (16 : Int32) c26) hx hb hml hts hown hK hZ hP hS hl.1 (Nat.le_of_ble_eq_true rfl) (Nat.le_of_ble_eq_true rfl) (Nat.le_of_ble_eq_true rfl) ⟨rfl, rfl, Nat.zero_le _, Nat.zero_le _⟩ d_TR_changeDrawn_96 (fun H locs hP hS => ?_)
      refine lv_bipush (v := (8 : Int32)) hx hb d_TR_changeDrawn_99 (by decide) ?_
      refine lv_isub hx hb d_TR_changeDrawn_101 ?_
      obtain ⟨v28, ev28, h⟩ := nx_e h
      refine tp_i ev28 ?_
      refine lv_istore hx hb d_TR_changeDrawn_102 hl (by decide) rfl (fun ls hl => ?_)
      have hl : lv_has ls 5 [(4, .int v28), (1, .ref (x.2.1 j21)), (2, .ref (x.2.1 12)), (3, .int a23)] := hl
      refine lv_aload_n hx hb d_TR_changeDrawn_104 rfl (lv_at hl 1 rfl) ?_
      refine lv_aload_n hx hb d_TR_changeDrawn_105 rfl (lv_at hl 2 rfl) ?_
      refine lv_iload_n hx hb d_TR_changeDrawn_106 rfl (lv_at hl 3 rfl) ?_
      obtain ⟨r31, M29, c30, h⟩ := bi_e h
      refine cl_TR_103 (rest := [.ref (x.2.1 j21)]) (R := r_TR_changeDrawn) (c_GE_draw l x hJ a23 c30) hx hb hml hts hown hK hZ hP hS hl.1 (Nat.le_of_ble_eq_true rfl) (Nat.le_of_ble_eq_true rfl) (Nat.le_of_ble_eq_true rfl) ⟨rfl, rfl, Nat.zero_le _, Nat.zero_le _⟩ d_TR_changeDrawn_107 (fun H locs hP hS => ?_)
      refine lv_iload hx hb d_TR_changeDrawn_110 (lv_at hl 0 rfl) ?_
      obtain ⟨M32, c33, h⟩ := bv_e h
      refine cl_TR_59 (rest := []) (R := r_TR_changeDrawn) (c_IN_addTo l x hJ j21 k22 r31 v28 c33) k22 hx hb hml hts hown hK hZ hP hS hl.1 (Nat.le_of_ble_eq_true rfl) (Nat.le_of_ble_eq_true rfl) (Nat.le_of_ble_eq_true rfl) ⟨rfl, rfl, Nat.zero_le _, Nat.zero_le _⟩ d_TR_changeDrawn_112 (fun H locs hP hS => ?_)
      obtain rfl := Option.some.inj h
      exact hret d_TR_changeDrawn_115 g hP hS
    refine lv_aload_n hx hb d_TR_changeDrawn_0 rfl (lv_at hl 1 rfl) ?_
    refine gf_TR_41 hx hb hts hown hK hP k1 d_TR_changeDrawn_1 ?_
    obtain ⟨v34, ev34, h⟩ := nx_e h
    refine tp_i ev34 ?_
    refine lv_istore_n hx hb d_TR_changeDrawn_4 rfl hl (by decide) rfl (fun ls hl => ?_)
    have hl : lv_has ls 5 [(3, .int v34), (0, .int a0), (1, .ref (x.2.1 j1)), (2, .ref (x.2.1 12))] := hl
    refine lv_iload_n hx hb d_TR_changeDrawn_5 rfl (lv_at hl 1 rfl) ?_
    by_cases n43 : a0 = (0 : Int32)
    · have h := if_p n43 h
      refine sw_in (k := (0 : Int32)) (tgt := 36) hx hb n43 d_TR_changeDrawn_6 (by decide) (by decide) rfl rfl ?_
      refine lv_aload_n hx hb d_TR_changeDrawn_36 rfl (lv_at hl 3 rfl) ?_
      refine lv_bipush (v := (8 : Int32)) hx hb d_TR_changeDrawn_37 (by decide) ?_
      obtain ⟨r37, M35, c36, h⟩ := bi_e h
      refine cl_TR_103 (rest := []) (R := r_TR_changeDrawn) (c_GE_draw l x hJ (8 : Int32) c36) hx hb hml hts hown hK hZ hP hS hl.1 (Nat.le_of_ble_eq_true rfl) (Nat.le_of_ble_eq_true rfl) (Nat.le_of_ble_eq_true rfl) ⟨rfl, rfl, Nat.zero_le _, Nat.zero_le _⟩ d_TR_changeDrawn_39 (fun H locs hP hS => ?_)
      refine lv_istore hx hb d_TR_changeDrawn_42 hl (by decide) rfl (fun ls hl => ?_)
      have hl : lv_has ls 5 [(4, .int r37), (3, .int v34), (0, .int a0), (1, .ref (x.2.1 j1)), (2, .ref (x.2.1 12))] := hl
      refine lv_aload_n hx hb d_TR_changeDrawn_44 rfl (lv_at hl 3 rfl) ?_
      refine lv_aload_n hx hb d_TR_changeDrawn_45 rfl (lv_at hl 4 rfl) ?_
      refine lv_iload_n hx hb d_TR_changeDrawn_46 rfl (lv_at hl 1 rfl) ?_
      obtain ⟨r40, M38, c39, h⟩ := bi_e h
      refine cl_TR_103 (rest := [.ref (x.2.1 j1)]) (R := r_TR_changeDrawn) (c_GE_draw l x hJ v34 c39) hx hb hml hts hown hK hZ hP hS hl.1 (Nat.le_of_ble_eq_true rfl) (Nat.le_of_ble_eq_true rfl) (Nat.le_of_ble_eq_true rfl) ⟨rfl, rfl, Nat.zero_le _, Nat.zero_le _⟩ d_TR_changeDrawn_47 (fun H locs hP hS => ?_)
      refine lv_iload hx hb d_TR_changeDrawn_50 (lv_at hl 0 rfl) ?_
      obtain ⟨M41, c42, h⟩ := bv_e h
      refine cl_TR_51 (rest := []) (R := r_TR_changeDrawn) (c_IN_turnBit l x hJ j1 k1 r40 r37 c42) k1 hx hb hml hts hown hK hZ hP hS hl.1 (Nat.le_of_ble_eq_true rfl) (Nat.le_of_ble_eq_true rfl) (Nat.le_of_ble_eq_true rfl) ⟨rfl, rfl, Nat.zero_le _, Nat.zero_le _⟩ d_TR_changeDrawn_52 (fun H locs hP hS => ?_)
      refine lv_goto (tgt := 115) hx hb d_TR_changeDrawn_55 rfl ?_
      obtain rfl := Option.some.inj h
      exact hret d_TR_changeDrawn_115 g hP hS
    have h := if_m n43 h
    by_cases n52 : a0 = (1 : Int32)
    · have h := if_p n52 h
      refine sw_in (k := (1 : Int32)) (tgt := 58) hx hb n52 d_TR_changeDrawn_6 (by decide) (by decide) rfl rfl ?_
      refine lv_aload_n hx hb d_TR_changeDrawn_58 rfl (lv_at hl 3 rfl) ?_
      refine lv_iload_n hx hb d_TR_changeDrawn_59 rfl (lv_at hl 0 rfl) ?_
      obtain ⟨r46, M44, c45, h⟩ := bi_e h
      refine cl_TR_103 (rest := []) (R := r_TR_changeDrawn) (c_GE_draw l x hJ v34 c45) hx hb hml hts hown hK hZ hP hS hl.1 (Nat.le_of_ble_eq_true rfl) (Nat.le_of_ble_eq_true rfl) (Nat.le_of_ble_eq_true rfl) ⟨rfl, rfl, Nat.zero_le _, Nat.zero_le _⟩ d_TR_changeDrawn_60 (fun H locs hP hS => ?_)
      refine lv_istore hx hb d_TR_changeDrawn_63 hl (by decide) rfl (fun ls hl => ?_)
      have hl : lv_has ls 5 [(4, .int r46), (3, .int v34), (0, .int a0), (1, .ref (x.2.1 j1)), (2, .ref (x.2.1 12))] := hl
      refine lv_aload_n hx hb d_TR_changeDrawn_65 rfl (lv_at hl 3 rfl) ?_
      refine lv_iload hx hb d_TR_changeDrawn_66 (lv_at hl 0 rfl) ?_
      refine lv_aload_n hx hb d_TR_changeDrawn_68 rfl (lv_at hl 4 rfl) ?_
      refine lv_sipush (v := (256 : Int32)) hx hb d_TR_changeDrawn_69 (by decide) ?_
      obtain ⟨r49, M47, c48, h⟩ := bi_e h
      refine cl_TR_103 (rest := [.int r46, .ref (x.2.1 j1)]) (R := r_TR_changeDrawn) (c_GE_draw l x hJ (256 : Int32) c48) hx hb hml hts hown hK hZ hP hS hl.1 (Nat.le_of_ble_eq_true rfl) (Nat.le_of_ble_eq_true rfl) (Nat.le_of_ble_eq_true rfl) ⟨rfl, rfl, Nat.zero_le _, Nat.zero_le _⟩ d_TR_changeDrawn_72 (fun H locs hP hS => ?_)
      obtain ⟨M50, c51, h⟩ := bv_e h
      refine cl_TR_65 (rest := []) (R := r_TR_changeDrawn) (c_IN_put l x hJ j1 k1 r46 r49 c51) k1 hx hb hml hts hown hK hZ hP hS hl.1 (Nat.le_of_ble_eq_true rfl) (Nat.le_of_ble_eq_true rfl) (Nat.le_of_ble_eq_true rfl) ⟨rfl, rfl, Nat.zero_le _, Nat.zero_le _⟩ d_TR_changeDrawn_75 (fun H locs hP hS => ?_)
      refine lv_goto (tgt := 115) hx hb d_TR_changeDrawn_78 rfl ?_
      obtain rfl := Option.some.inj h
      exact hret d_TR_changeDrawn_115 g hP hS
    have h := if_m n52 h
    by_cases n53 : a0 = (2 : Int32)
    · have h := if_p n53 h
      refine sw_in (k := (2 : Int32)) (tgt := 93) hx hb n53 d_TR_changeDrawn_6 (by decide) (by decide) rfl rfl ?_
      exact J93 j1 v34 M k1 _ h g H locs ls hP hS (lv_sub hl [2, 3, 0] rfl)
    have h := if_m n53 h
    by_cases n59 : a0 = (3 : Int32)
    · have h := if_p n59 h
      refine sw_in (k := (3 : Int32)) (tgt := 81) hx hb n59 d_TR_changeDrawn_6 (by decide) (by decide) rfl rfl ?_
      refine lv_aload_n hx hb d_TR_changeDrawn_81 rfl (lv_at hl 2 rfl) ?_
      refine lv_aload_n hx hb d_TR_changeDrawn_82 rfl (lv_at hl 3 rfl) ?_
      refine lv_iload_n hx hb d_TR_changeDrawn_83 rfl (lv_at hl 0 rfl) ?_
      obtain ⟨r56, M54, c55, h⟩ := bi_e h
      refine cl_TR_103 (rest := [.ref (x.2.1 j1)]) (R := r_TR_changeDrawn) (c_GE_draw l x hJ v34 c55) hx hb hml hts hown hK hZ hP hS hl.1 (Nat.le_of_ble_eq_true rfl) (Nat.le_of_ble_eq_true rfl) (Nat.le_of_ble_eq_true rfl) ⟨rfl, rfl, Nat.zero_le _, Nat.zero_le _⟩ d_TR_changeDrawn_84 (fun H locs hP hS => ?_)
      obtain ⟨M57, c58, h⟩ := bv_e h
      refine cl_TR_118 (rest := []) (R := r_TR_changeDrawn) (c_IN_takeOut l x hJ j1 k1 r56 c58) k1 hx hb hml hts hown hK hZ hP hS hl.1 (Nat.le_of_ble_eq_true rfl) (Nat.le_of_ble_eq_true rfl) (Nat.le_of_ble_eq_true rfl) ⟨rfl, rfl, Nat.zero_le _, Nat.zero_le _⟩ d_TR_changeDrawn_87 (fun H locs hP hS => ?_)
      refine lv_goto (tgt := 115) hx hb d_TR_changeDrawn_90 rfl ?_
      obtain rfl := Option.some.inj h
      exact hret d_TR_changeDrawn_115 g hP hS
    have h := if_m n59 h
    have b0 := sw_ne (k := (0 : Int32)) (z := 0) (by decide) n43
    have b1 := sw_ne (k := (1 : Int32)) (z := 1) (by decide) n52
    have b2 := sw_ne (k := (2 : Int32)) (z := 2) (by decide) n53
    have b3 := sw_ne (k := (3 : Int32)) (z := 3) (by decide) n59
    refine lv_tableOut (tgt := 93) hx hb d_TR_changeDrawn_6 (by omega) rfl ?_
    exact J93 j1 v34 M k1 _ h g H locs ls hP hS (lv_sub hl [2, 3, 0] rfl)
  rw [eH] at key
  exact key
theorem d_TR_changeByDraws_0 : decode b_TR_changeByDraws 0 = .ok (.aload_n 1, 1) := by decide +kernel
theorem d_TR_changeByDraws_1 : decode b_TR_changeByDraws 1 = .ok (.iconst 4, 1) := by decide +kernel
theorem d_TR_changeByDraws_2 : decode b_TR_changeByDraws 2 = .ok (.invokevirtual 103, 3) := by decide +kernel
theorem d_TR_changeByDraws_5 : decode b_TR_changeByDraws 5 = .ok (.iconst 1, 1) := by decide +kernel
theorem d_TR_changeByDraws_6 : decode b_TR_changeByDraws 6 = .ok (.iadd, 1) := by decide +kernel
theorem d_TR_changeByDraws_7 : decode b_TR_changeByDraws 7 = .ok (.istore_n 2, 1) := by decide +kernel
theorem d_TR_changeByDraws_8 : decode b_TR_changeByDraws 8 = .ok (.iconst 0, 1) := by decide +kernel
theorem d_TR_changeByDraws_9 : decode b_TR_changeByDraws 9 = .ok (.istore_n 3, 1) := by decide +kernel
theorem d_TR_changeByDraws_10 : decode b_TR_changeByDraws 10 = .ok (.iload_n 3, 1) := by decide +kernel
theorem d_TR_changeByDraws_11 : decode b_TR_changeByDraws 11 = .ok (.iload_n 2, 1) := by decide +kernel
theorem d_TR_changeByDraws_12 : decode b_TR_changeByDraws 12 = .ok (.if_icmp .ge 44, 3) := by decide +kernel
theorem d_TR_changeByDraws_15 : decode b_TR_changeByDraws 15 = .ok (.aload_n 1, 1) := by decide +kernel
theorem d_TR_changeByDraws_16 : decode b_TR_changeByDraws 16 = .ok (.iconst 5, 1) := by decide +kernel
theorem d_TR_changeByDraws_17 : decode b_TR_changeByDraws 17 = .ok (.invokevirtual 103, 3) := by decide +kernel
theorem d_TR_changeByDraws_20 : decode b_TR_changeByDraws 20 = .ok (.istore 4, 2) := by decide +kernel
theorem d_TR_changeByDraws_22 : decode b_TR_changeByDraws 22 = .ok (.iload 4, 2) := by decide +kernel
theorem d_TR_changeByDraws_24 : decode b_TR_changeByDraws 24 = .ok (.iconst 2, 1) := by decide +kernel
theorem d_TR_changeByDraws_25 : decode b_TR_changeByDraws 25 = .ok (.if_icmp .ne 11, 3) := by decide +kernel
theorem d_TR_changeByDraws_28 : decode b_TR_changeByDraws 28 = .ok (.aload_n 0, 1) := by decide +kernel
theorem d_TR_changeByDraws_29 : decode b_TR_changeByDraws 29 = .ok (.aload_n 1, 1) := by decide +kernel
theorem d_TR_changeByDraws_30 : decode b_TR_changeByDraws 30 = .ok (.invokestatic 108, 3) := by decide +kernel
theorem d_TR_changeByDraws_33 : decode b_TR_changeByDraws 33 = .ok (.goto 17, 3) := by decide +kernel
theorem d_TR_changeByDraws_36 : decode b_TR_changeByDraws 36 = .ok (.aload_n 0, 1) := by decide +kernel
theorem d_TR_changeByDraws_37 : decode b_TR_changeByDraws 37 = .ok (.getfield 41, 3) := by decide +kernel
theorem d_TR_changeByDraws_40 : decode b_TR_changeByDraws 40 = .ok (.ifCond .le 10, 3) := by decide +kernel
theorem d_TR_changeByDraws_43 : decode b_TR_changeByDraws 43 = .ok (.iload 4, 2) := by decide +kernel
theorem d_TR_changeByDraws_45 : decode b_TR_changeByDraws 45 = .ok (.aload_n 0, 1) := by decide +kernel
theorem d_TR_changeByDraws_46 : decode b_TR_changeByDraws 46 = .ok (.aload_n 1, 1) := by decide +kernel
theorem d_TR_changeByDraws_47 : decode b_TR_changeByDraws 47 = .ok (.invokestatic 111, 3) := by decide +kernel
theorem d_TR_changeByDraws_50 : decode b_TR_changeByDraws 50 = .ok (.iinc 3 1, 3) := by decide +kernel
theorem d_TR_changeByDraws_53 : decode b_TR_changeByDraws 53 = .ok (.goto (-43), 3) := by decide +kernel
theorem d_TR_changeByDraws_56 : decode b_TR_changeByDraws 56 = .ok (.return_, 1) := by decide +kernel
noncomputable def j_TR_changeByDraws_50 (j0 : Nat) (v24 : Int32) (a28 : Int32) (M29 : Mem) : Option ((Int32 × Mem) ⊕ Mem) :=
  nx (a28 + (1 : Int32)) (fun v30 => some (.inl (v30, M29)))
noncomputable def l_TR_changeByDraws_10 (j0 : Nat) (v24 : Int32) (v26 : Int32) (M27 : Mem) : Option ((Int32 × Mem) ⊕ (Mem)) :=
  if v24 ≤ v26 then (some (.inr M27)) else (bi (s_GE_draw (5 : Int32) M27) (fun r33 M31 => if r33 = (2 : Int32) then (bv (s_TR_insertDrawn j0 M31) (fun M36 => j_TR_changeByDraws_50 j0 v24 v26 M36)) else (if (M31 j0 1) ≤ 0 then (j_TR_changeByDraws_50 j0 v24 v26 M31) else (bv (s_TR_changeDrawn r33 j0 M31) (fun M34 => j_TR_changeByDraws_50 j0 v24 v26 M34)))))
noncomputable def s_TR_changeByDraws (j0 : Nat) (M : Mem) : Option (Mem) :=
  bi (s_GE_draw (4 : Int32) M) (fun r23 M21 => nx (r23 + (1 : Int32)) (fun v24 => nx ((0 : Int32)) (fun v25 => lp (fun q : Int32 × Mem => l_TR_changeByDraws_10 j0 v24 q.1 q.2) (v25, M21))))
set_option maxHeartbeats 4000000 in
set_option maxRecDepth 100000 in
theorem c_TR_changeByDraws (l : Launch) (x : Cx) (hJ : Inj x) (j0 : Nat) (k0 : kd_in j0) {M : Mem} {out : Mem} (h : s_TR_changeByDraws j0 M = some out) : Cv l x y_TR_changeByDraws (Cond.code y_TR_changeByDraws b_TR_changeByDraws 5 none :: tb) r_TR_changeByDraws [.ref (x.2.1 j0), .ref (x.2.1 12)] M out := by
  refine ofCv (cc := b_TR_changeByDraws) (maxL := 5) (by decide) rfl (rfl) (Nat.le_of_ble_eq_true rfl) ?_
  intro p e s m args below meth c Q G0 ls g hx hb hml hown hts hK hZ hP hS hl hret
  have hown : s.vm.findClass R_TR = some m.cls := hown
  have hl : lv_has ls 5 [(0, .ref (x.2.1 j0)), (1, .ref (x.2.1 12))] := hl
  obtain ⟨H, eH⟩ : ∃ z, z = s.heap := ⟨_, rfl⟩
  obtain ⟨locs, eL⟩ : ∃ z, z = ([] : List Loc) := ⟨_, rfl⟩
  rw [← eH] at hP
  have hS : va_S (A0 x) s.heap H locs := by rw [eH, eL]; exact hS
  rw [← eL]
  have key : W p l e r_TR_changeByDraws s m args below meth c H locs 0 0 Q (F0 m 0 ls []) := by
    clear eH eL
    unfold s_TR_changeByDraws at h
    refine lv_aload_n hx hb d_TR_changeByDraws_0 rfl (lv_at hl 1 rfl) ?_
    refine lv_iconst (v := (4 : Int32)) hx hb d_TR_changeByDraws_1 (by decide) ?_
    obtain ⟨r23, M21, c22, h⟩ := bi_e h
    refine cl_TR_103 (rest := []) (R := r_TR_changeByDraws) (c_GE_draw l x hJ (4 : Int32) c22) hx hb hml hts hown hK hZ hP hS hl.1 (Nat.le_of_ble_eq_true rfl) (Nat.le_of_ble_eq_true rfl) (Nat.le_of_ble_eq_true rfl) ⟨rfl, rfl, Nat.zero_le _, Nat.zero_le _⟩ d_TR_changeByDraws_2 (fun H locs hP hS => ?_)
    refine lv_iconst (v := (1 : Int32)) hx hb d_TR_changeByDraws_5 (by decide) ?_
    refine lv_iadd hx hb d_TR_changeByDraws_6 ?_
    obtain ⟨v24, ev24, h⟩ := nx_e h
    refine tp_i ev24 ?_
    refine lv_istore_n hx hb d_TR_changeByDraws_7 rfl hl (by decide) rfl (fun ls hl => ?_)
    have hl : lv_has ls 5 [(2, .int v24), (0, .ref (x.2.1 j0)), (1, .ref (x.2.1 12))] := hl
    refine lv_iconst (v := (0 : Int32)) hx hb d_TR_changeByDraws_8 (by decide) ?_
    obtain ⟨v25, ev25, h⟩ := nx_e h
    refine tp_i ev25 ?_
    refine lv_istore_n hx hb d_TR_changeByDraws_9 rfl hl (by decide) rfl (fun ls hl => ?_)
    have hl : lv_has ls 5 [(3, .int v25), (2, .int v24), (0, .ref (x.2.1 j0)), (1, .ref (x.2.1 12))] := hl
    obtain ⟨P10, eP10⟩ : ∃ P : (Int32 × Mem) → Prop, P = (fun q => ∀ (H : Heap) (locs : List Loc) (ls : Array Slot), va_P x.1 vwCl (wld x (q.2)) H → va_S (A0 x) s.heap H locs → lv_has ls 5 [(0, .ref (x.2.1 j0)), (1, .ref (x.2.1 12)), (2, .int v24), (3, .int (q.1))] → W p l e r_TR_changeByDraws s m args below meth c H locs 0 0 Q (F0 m 10 ls [])) := ⟨_, rfl⟩
    have L10 : P10 (v25, M21) := by
      refine lp_walk (G := G0) ?_ h g
      intro q res h g
      obtain ⟨v26, M27⟩ := q
      rw [eP10]
      intro H locs ls hP hS hl
      have hP : va_P x.1 vwCl (wld x M27) H := hP
      have hl : lv_has ls 5 [(0, .ref (x.2.1 j0)), (1, .ref (x.2.1 12)), (2, .int v24), (3, .int v26)] := hl
      have h : l_TR_changeByDraws_10 j0 v24 v26 M27 = some res := h
      unfold l_TR_changeByDraws_10 at h
      have J50 : ∀ (a28 : Int32) (M29 : Mem)  (res : (Int32 × Mem) ⊕ Mem) (h : j_TR_changeByDraws_50 j0 v24 a28 M29 = some res) (g : (lpG P10 G0) res) (H : Heap) (locs : List Loc) (ls : Array Slot) (hP : va_P x.1 vwCl (wld x M29) H) (hS : va_S (A0 x) s.heap H locs) (hl : lv_has ls 5 [(0, .ref (x.2.1 j0)), (1, .ref (x.2.1 12)), (2, .int v24), (3, .int a28)]), W p l e r_TR_changeByDraws s m args below meth c H locs 0 0 Q (F0 m 50 ls []) := by
        intro a28 M29 res h g H locs ls hP hS hl
        unfold j_TR_changeByDraws_50 at h
        obtain ⟨v30, ev30, h⟩ := nx_e h
        refine lv_iinc (k := 3) hx hb d_TR_changeByDraws_50 hl rfl (iinc_v (k := (1 : Int32)) (by decide) ev30) (by decide) rfl (fun ls hl => ?_)
        have hl : lv_has ls 5 [(3, .int v30), (0, .ref (x.2.1 j0)), (1, .ref (x.2.1 12)), (2, .int v24)] := hl
        refine lv_goto (tgt := 10) hx hb d_TR_changeByDraws_53 rfl ?_
        obtain rfl := Option.some.inj h
        have g : P10 (v30, M29) := g
        rw [eP10] at g
        exact g H locs ls hP hS (lv_sub hl [1, 2, 3, 0] rfl)
      refine lv_iload_n hx hb d_TR_changeByDraws_10 rfl (lv_at hl 3 rfl) ?_
      refine lv_iload_n hx hb d_TR_changeByDraws_11 rfl (lv_at hl 2 rfl) ?_
      refine lv_icmp_ge (tgt := 56) hx hb d_TR_changeByDraws_12 rfl (fun hc => ?_) (fun hc => ?_)
      · have h := if_p hc h
        obtain rfl := Option.some.inj h
        exact hret d_TR_changeByDraws_56 g hP hS
      · have h := if_m hc h
        refine lv_aload_n hx hb d_TR_changeByDraws_15 rfl (lv_at hl 1 rfl) ?_
        refine lv_iconst (v := (5 : Int32)) hx hb d_TR_changeByDraws_16 (by decide) ?_
        obtain ⟨r33, M31, c32, h⟩ := bi_e h
        refine cl_TR_103 (rest := []) (R := r_TR_changeByDraws) (c_GE_draw l x hJ (5 : Int32) c32) hx hb hml hts hown hK hZ hP hS hl.1 (Nat.le_of_ble_eq_true rfl) (Nat.le_of_ble_eq_true rfl) (Nat.le_of_ble_eq_true rfl) ⟨rfl, rfl, Nat.zero_le _, Nat.zero_le _⟩ d_TR_changeByDraws_17 (fun H locs hP hS => ?_)
        refine lv_istore hx hb d_TR_changeByDraws_20 hl (by decide) rfl (fun ls hl => ?_)
        have hl : lv_has ls 5 [(4, .int r33), (0, .ref (x.2.1 j0)), (1, .ref (x.2.1 12)), (2, .int v24), (3, .int v26)] := hl
        refine lv_iload hx hb d_TR_changeByDraws_22 (lv_at hl 0 rfl) ?_
        refine lv_iconst (v := (2 : Int32)) hx hb d_TR_changeByDraws_24 (by decide) ?_
        refine lv_icmp_ne (tgt := 36) hx hb d_TR_changeByDraws_25 rfl (fun hc => ?_) (fun hc => ?_)
        · have h := if_m hc h
          refine lv_aload_n hx hb d_TR_changeByDraws_36 rfl (lv_at hl 1 rfl) ?_
          refine gf_TR_41 hx hb hts hown hK hP k0 d_TR_changeByDraws_37 ?_
          refine lv_if_le (tgt := 50) hx hb d_TR_changeByDraws_40 rfl (fun hc => ?_) (fun hc => ?_)
          · have h := if_p hc h
            exact J50 v26 M31 _ h g H locs ls hP hS (lv_sub hl [1, 2, 3, 4] rfl)
          · have h := if_m hc h
            refine lv_iload hx hb d_TR_changeByDraws_43 (lv_at hl 0 rfl) ?_
            refine lv_aload_n hx hb d_TR_changeByDraws_45 rfl (lv_at hl 1 rfl) ?_
            refine lv_aload_n hx hb d_TR_changeByDraws_46 rfl (lv_at hl 2 rfl) ?_
            obtain ⟨M34, c35, h⟩ := bv_e h
            refine cl_TR_111 (rest := []) (R := r_TR_changeByDraws) (c_TR_changeDrawn l x hJ r33 j0 k0 c35) hx hb hml hts hown hK hZ hP hS hl.1 (Nat.le_of_ble_eq_true rfl) (Nat.le_of_ble_eq_true rfl) (Nat.le_of_ble_eq_true rfl) ⟨rfl, rfl, Nat.zero_le _, Nat.zero_le _⟩ d_TR_changeByDraws_47 (fun H locs hP hS => ?_)
            exact J50 v26 M34 _ h g H locs ls hP hS (lv_sub hl [1, 2, 3, 4] rfl)
        · have h := if_p hc h
          refine lv_aload_n hx hb d_TR_changeByDraws_28 rfl (lv_at hl 1 rfl) ?_
          refine lv_aload_n hx hb d_TR_changeByDraws_29 rfl (lv_at hl 2 rfl) ?_
          obtain ⟨M36, c37, h⟩ := bv_e h
          refine cl_TR_108 (rest := []) (R := r_TR_changeByDraws) (c_TR_insertDrawn l x hJ j0 k0 c37) hx hb hml hts hown hK hZ hP hS hl.1 (Nat.le_of_ble_eq_true rfl) (Nat.le_of_ble_eq_true rfl) (Nat.le_of_ble_eq_true rfl) ⟨rfl, rfl, Nat.zero_le _, Nat.zero_le _⟩ d_TR_changeByDraws_30 (fun H locs hP hS => ?_)
          refine lv_goto (tgt := 50) hx hb d_TR_changeByDraws_33 rfl ?_
          exact J50 v26 M36 _ h g H locs ls hP hS (lv_sub hl [1, 2, 3, 4] rfl)
    rw [eP10] at L10
    exact L10 H locs ls hP hS (lv_sub hl [2, 3, 1, 0] rfl)
  rw [eH] at key
  exact key
theorem d_TR_joinPartner_0 : decode b_TR_joinPartner 0 = .ok (.aload_n 3, 1) := by decide +kernel
theorem d_TR_joinPartner_1 : decode b_TR_joinPartner 1 = .ok (.aload_n 2, 1) := by decide +kernel
theorem d_TR_joinPartner_2 : decode b_TR_joinPartner 2 = .ok (.getfield 79, 3) := by decide +kernel
theorem d_TR_joinPartner_5 : decode b_TR_joinPartner 5 = .ok (.iconst 1, 1) := by decide +kernel
theorem d_TR_joinPartner_6 : decode b_TR_joinPartner 6 = .ok (.isub, 1) := by decide +kernel
theorem d_TR_joinPartner_7 : decode b_TR_joinPartner 7 = .ok (.invokevirtual 103, 3) := by decide +kernel
theorem d_TR_joinPartner_10 : decode b_TR_joinPartner 10 = .ok (.istore 4, 2) := by decide +kernel
theorem d_TR_joinPartner_12 : decode b_TR_joinPartner 12 = .ok (.iload 4, 2) := by decide +kernel
theorem d_TR_joinPartner_14 : decode b_TR_joinPartner 14 = .ok (.aload_n 0, 1) := by decide +kernel
theorem d_TR_joinPartner_15 : decode b_TR_joinPartner 15 = .ok (.getfield 9, 3) := by decide +kernel
theorem d_TR_joinPartner_18 : decode b_TR_joinPartner 18 = .ok (.if_icmp .ge 8, 3) := by decide +kernel
theorem d_TR_joinPartner_21 : decode b_TR_joinPartner 21 = .ok (.iload 4, 2) := by decide +kernel
theorem d_TR_joinPartner_23 : decode b_TR_joinPartner 23 = .ok (.goto 7, 3) := by decide +kernel
theorem d_TR_joinPartner_26 : decode b_TR_joinPartner 26 = .ok (.iload 4, 2) := by decide +kernel
theorem d_TR_joinPartner_28 : decode b_TR_joinPartner 28 = .ok (.iconst 1, 1) := by decide +kernel
theorem d_TR_joinPartner_29 : decode b_TR_joinPartner 29 = .ok (.iadd, 1) := by decide +kernel
theorem d_TR_joinPartner_30 : decode b_TR_joinPartner 30 = .ok (.istore 5, 2) := by decide +kernel
theorem d_TR_joinPartner_32 : decode b_TR_joinPartner 32 = .ok (.aload_n 2, 1) := by decide +kernel
theorem d_TR_joinPartner_33 : decode b_TR_joinPartner 33 = .ok (.iload 5, 2) := by decide +kernel
theorem d_TR_joinPartner_35 : decode b_TR_joinPartner 35 = .ok (.invokevirtual 15, 3) := by decide +kernel
theorem d_TR_joinPartner_38 : decode b_TR_joinPartner 38 = .ok (.ifCond .ne 4, 3) := by decide +kernel
theorem d_TR_joinPartner_41 : decode b_TR_joinPartner 41 = .ok (.return_, 1) := by decide +kernel
theorem d_TR_joinPartner_42 : decode b_TR_joinPartner 42 = .ok (.aload_n 2, 1) := by decide +kernel
theorem d_TR_joinPartner_43 : decode b_TR_joinPartner 43 = .ok (.getfield 25, 3) := by decide +kernel
theorem d_TR_joinPartner_46 : decode b_TR_joinPartner 46 = .ok (.iload 5, 2) := by decide +kernel
theorem d_TR_joinPartner_48 : decode b_TR_joinPartner 48 = .ok (.aaload, 1) := by decide +kernel
theorem d_TR_joinPartner_49 : decode b_TR_joinPartner 49 = .ok (.getfield 29, 3) := by decide +kernel
theorem d_TR_joinPartner_52 : decode b_TR_joinPartner 52 = .ok (.astore 6, 2) := by decide +kernel
theorem d_TR_joinPartner_54 : decode b_TR_joinPartner 54 = .ok (.aload_n 3, 1) := by decide +kernel
theorem d_TR_joinPartner_55 : decode b_TR_joinPartner 55 = .ok (.iconst 1, 1) := by decide +kernel
theorem d_TR_joinPartner_56 : decode b_TR_joinPartner 56 = .ok (.aload_n 1, 1) := by decide +kernel
theorem d_TR_joinPartner_57 : decode b_TR_joinPartner 57 = .ok (.getfield 41, 3) := by decide +kernel
theorem d_TR_joinPartner_60 : decode b_TR_joinPartner 60 = .ok (.aload 6, 2) := by decide +kernel
theorem d_TR_joinPartner_62 : decode b_TR_joinPartner 62 = .ok (.getfield 41, 3) := by decide +kernel
theorem d_TR_joinPartner_65 : decode b_TR_joinPartner 65 = .ok (.invokestatic 90, 3) := by decide +kernel
theorem d_TR_joinPartner_68 : decode b_TR_joinPartner 68 = .ok (.iadd, 1) := by decide +kernel
theorem d_TR_joinPartner_69 : decode b_TR_joinPartner 69 = .ok (.invokevirtual 103, 3) := by decide +kernel
theorem d_TR_joinPartner_72 : decode b_TR_joinPartner 72 = .ok (.istore 7, 2) := by decide +kernel
theorem d_TR_joinPartner_74 : decode b_TR_joinPartner 74 = .ok (.aload_n 1, 1) := by decide +kernel
theorem d_TR_joinPartner_75 : decode b_TR_joinPartner 75 = .ok (.iload 7, 2) := by decide +kernel
theorem d_TR_joinPartner_77 : decode b_TR_joinPartner 77 = .ok (.invokevirtual 122, 3) := by decide +kernel
theorem d_TR_joinPartner_80 : decode b_TR_joinPartner 80 = .ok (.aload_n 1, 1) := by decide +kernel
theorem d_TR_joinPartner_81 : decode b_TR_joinPartner 81 = .ok (.aload 6, 2) := by decide +kernel
theorem d_TR_joinPartner_83 : decode b_TR_joinPartner 83 = .ok (.iload 7, 2) := by decide +kernel
theorem d_TR_joinPartner_85 : decode b_TR_joinPartner 85 = .ok (.aload 6, 2) := by decide +kernel
theorem d_TR_joinPartner_87 : decode b_TR_joinPartner 87 = .ok (.getfield 41, 3) := by decide +kernel
theorem d_TR_joinPartner_90 : decode b_TR_joinPartner 90 = .ok (.invokevirtual 125, 3) := by decide +kernel
theorem d_TR_joinPartner_93 : decode b_TR_joinPartner 93 = .ok (.return_, 1) := by decide +kernel
noncomputable def j_TR_joinPartner_30 (j21 : Nat) (a23 : Int32) (M24 : Mem) : Option (Mem) :=
  bi (s_ST_has a23 M24) (fun r27 M25 => if r27 = 0 then (some M25) else (ck a23 16 (nx (2 * (122 + a23.toNatClampNeg) - 186) (fun j29 => bi (s_GE_draw ((1 : Int32) + (if (M25 j29 1) < (M25 j21 1) then (M25 j29 1) else (M25 j21 1))) M25) (fun r32 M30 => bv (s_IN_cutTo j21 r32 M30) (fun M33 => bv (s_IN_appendPart j21 j29 r32 (M33 j29 1) M33) (fun M35 => some M35)))))))
noncomputable def s_TR_joinPartner (j1 : Nat) (M : Mem) : Option (Mem) :=
  bi (s_GE_draw ((M 5 3) - (1 : Int32)) M) (fun r39 M37 => if (M37 13 0) ≤ r39 then (j_TR_joinPartner_30 j1 (r39 + (1 : Int32)) M37) else (j_TR_joinPartner_30 j1 r39 M37))
set_option maxHeartbeats 4000000 in
set_option maxRecDepth 100000 in
theorem c_TR_joinPartner (l : Launch) (x : Cx) (hJ : Inj x) (j1 : Nat) (k1 : kd_in j1) {M : Mem} {out : Mem} (h : s_TR_joinPartner j1 M = some out) : Cv l x y_TR_joinPartner (Cond.code y_TR_joinPartner b_TR_joinPartner 8 none :: tb) r_TR_joinPartner [.ref (x.2.1 13), .ref (x.2.1 j1), .ref (x.2.1 5), .ref (x.2.1 12)] M out := by
  refine ofCv (cc := b_TR_joinPartner) (maxL := 8) (by decide) rfl (rfl) (Nat.le_of_ble_eq_true rfl) ?_
  intro p e s m args below meth c Q G0 ls g hx hb hml hown hts hK hZ hP hS hl hret
  have hown : s.vm.findClass R_TR = some m.cls := hown
  have hl : lv_has ls 8 [(0, .ref (x.2.1 13)), (1, .ref (x.2.1 j1)), (2, .ref (x.2.1 5)), (3, .ref (x.2.1 12))] := hl
  obtain ⟨H, eH⟩ : ∃ z, z = s.heap := ⟨_, rfl⟩
  obtain ⟨locs, eL⟩ : ∃ z, z = ([] : List Loc) := ⟨_, rfl⟩
  rw [← eH] at hP
  have hS : va_S (A0 x) s.heap H locs := by rw [eH, eL]; exact hS
  rw [← eL]
  have key : W p l e r_TR_joinPartner s m args below meth c H locs 0 0 Q (F0 m 0 ls []) := by
    clear eH eL
    unfold s_TR_joinPartner at h
    have J30 : ∀ (j21 : Nat) (a23 : Int32) (M24 : Mem) (k22 : kd_in j21) (res : Mem) (h : j_TR_joinPartner_30 j21 a23 M24 = some res) (g : G0 res) (H : Heap) (locs : List Loc) (ls : Array Slot) (hP : va_P x.1 vwCl (wld x M24) H) (hS : va_S (A0 x) s.heap H locs) (hl : lv_has ls 8 [(1, .ref (x.2.1 j21)), (2, .ref (x.2.1 5)), (3, .ref (x.2.1 12))]), W p l e r_TR_joinPartner s m args below meth c H locs 0 0 Q (F0 m 30 ls [.int a23]) := by
      intro j21 a23 M24 k22 res h g H locs ls hP hS hl
      unfold j_TR_joinPartner_30 at h
      refine lv_istore hx hb d_TR_joinPartner_30 hl (by decide) rfl (fun ls hl => ?_)
      have hl : lv_has ls 8 [(5, .int a23), (1, .ref (x.2.1 j21)), (2, .ref (x.2.1 5)), (3, .ref (x.2.1 12))] := hl
      refine lv_aload_n hx hb d_TR_joinPartner_32 rfl (lv_at hl 2 rfl) ?_
      refine lv_iload hx hb d_TR_joinPartner_33 (lv_at hl 0 rfl) ?_
      obtain ⟨r27, M25, c26, h⟩ := bi_e h
      refine cl_TR_15 (rest := []) (R := r_TR_joinPartner) (c_ST_has l x hJ a23 c26) hx hb hml hts hown hK hZ hP hS hl.1 (Nat.le_of_ble_eq_true rfl) (Nat.le_of_ble_eq_true rfl) (Nat.le_of_ble_eq_true rfl) ⟨rfl, rfl, Nat.zero_le _, Nat.zero_le _⟩ d_TR_joinPartner_35 (fun H locs hP hS => ?_)
      refine lv_if_ne (tgt := 42) hx hb d_TR_joinPartner_38 rfl (fun hc => ?_) (fun hc => ?_)
      · have h := if_m hc h
        refine lv_aload_n hx hb d_TR_joinPartner_42 rfl (lv_at hl 2 rfl) ?_
        refine gf_TR_25 hx hb hts hown hK hP d_TR_joinPartner_43 ?_
        refine lv_iload hx hb d_TR_joinPartner_46 (lv_at hl 0 rfl) ?_
        obtain ⟨b28, h⟩ := ck_e h
        refine m_aaE hx hb hK hP b28 d_TR_joinPartner_48 ?_
        refine gf_TR_29 hx hb hts hown hK hP (kd_en_at b28) d_TR_joinPartner_49 ?_
        obtain ⟨j29, ej29, h⟩ := nx_e h
        have kj29 : kd_in j29 := by rw [ej29]; exact kd_EN_input (kd_en_at b28)
        refine tp_r ej29 ?_
        refine lv_astore hx hb d_TR_joinPartner_52 hl (by decide) rfl (fun ls hl => ?_)
        have hl : lv_has ls 8 [(6, .ref (x.2.1 j29)), (5, .int a23), (1, .ref (x.2.1 j21)), (2, .ref (x.2.1 5)), (3, .ref (x.2.1 12))] := hl
        refine lv_aload_n hx hb d_TR_joinPartner_54 rfl (lv_at hl 4 rfl) ?_
        refine lv_iconst (v := (1 : Int32)) hx hb d_TR_joinPartner_55 (by decide) ?_
        refine lv_aload_n hx hb d_TR_joinPartner_56 rfl (lv_at hl 2 rfl) ?_
        refine gf_TR_41 hx hb hts hown hK hP k22 d_TR_joinPartner_57 ?_
        refine lv_aload hx hb d_TR_joinPartner_60 (lv_at hl 0 rfl) ?_
        refine gf_TR_41 hx hb hts hown hK hP kj29 d_TR_joinPartner_62 ?_
        refine va_mmin hx hb (hml.trans hl.1.symm) hown (hts.1 _ q_187) (hts.1 _ q_93) (hts.1 _ q_94) (hts.1 _ q_95) (Nat.le_of_ble_eq_true rfl) (Nat.le_of_ble_eq_true rfl) (Nat.zero_le _) (Nat.zero_le _) d_TR_joinPartner_65 ?_
        refine lv_iadd hx hb d_TR_joinPartner_68 ?_
        obtain ⟨r32, M30, c31, h⟩ := bi_e h
        refine cl_TR_103 (rest := []) (R := r_TR_joinPartner) (c_GE_draw l x hJ ((1 : Int32) + (if (M25 j29 1) < (M25 j21 1) then (M25 j29 1) else (M25 j21 1))) c31) hx hb hml hts hown hK hZ hP hS hl.1 (Nat.le_of_ble_eq_true rfl) (Nat.le_of_ble_eq_true rfl) (Nat.le_of_ble_eq_true rfl) ⟨rfl, rfl, Nat.zero_le _, Nat.zero_le _⟩ d_TR_joinPartner_69 (fun H locs hP hS => ?_)
        refine lv_istore hx hb d_TR_joinPartner_72 hl (by decide) rfl (fun ls hl => ?_)
        have hl : lv_has ls 8 [(7, .int r32), (6, .ref (x.2.1 j29)), (5, .int a23), (1, .ref (x.2.1 j21)), (2, .ref (x.2.1 5)), (3, .ref (x.2.1 12))] := hl
        refine lv_aload_n hx hb d_TR_joinPartner_74 rfl (lv_at hl 3 rfl) ?_
        refine lv_iload hx hb d_TR_joinPartner_75 (lv_at hl 0 rfl) ?_
        obtain ⟨M33, c34, h⟩ := bv_e h
        refine cl_TR_122 (rest := []) (R := r_TR_joinPartner) (c_IN_cutTo l x hJ j21 k22 r32 c34) k22 hx hb hml hts hown hK hZ hP hS hl.1 (Nat.le_of_ble_eq_true rfl) (Nat.le_of_ble_eq_true rfl) (Nat.le_of_ble_eq_true rfl) ⟨rfl, rfl, Nat.zero_le _, Nat.zero_le _⟩ d_TR_joinPartner_77 (fun H locs hP hS => ?_)
        refine lv_aload_n hx hb d_TR_joinPartner_80 rfl (lv_at hl 3 rfl) ?_
        refine lv_aload hx hb d_TR_joinPartner_81 (lv_at hl 1 rfl) ?_
        refine lv_iload hx hb d_TR_joinPartner_83 (lv_at hl 0 rfl) ?_
        refine lv_aload hx hb d_TR_joinPartner_85 (lv_at hl 1 rfl) ?_
        refine gf_TR_41 hx hb hts hown hK hP kj29 d_TR_joinPartner_87 ?_
        obtain ⟨M35, c36, h⟩ := bv_e h
        refine cl_TR_125 (rest := []) (R := r_TR_joinPartner) (c_IN_appendPart l x hJ j21 k22 j29 kj29 r32 (M33 j29 1) c36) k22 hx hb hml hts hown hK hZ hP hS hl.1 (Nat.le_of_ble_eq_true rfl) (Nat.le_of_ble_eq_true rfl) (Nat.le_of_ble_eq_true rfl) ⟨rfl, rfl, Nat.zero_le _, Nat.zero_le _⟩ d_TR_joinPartner_90 (fun H locs hP hS => ?_)
        obtain rfl := Option.some.inj h
        exact hret d_TR_joinPartner_93 g hP hS
      · have h := if_p hc h
        obtain rfl := Option.some.inj h
        exact hret d_TR_joinPartner_41 g hP hS
    refine lv_aload_n hx hb d_TR_joinPartner_0 rfl (lv_at hl 3 rfl) ?_
    refine lv_aload_n hx hb d_TR_joinPartner_1 rfl (lv_at hl 2 rfl) ?_
    refine gf_TR_79 hx hb hts hown hK hP d_TR_joinPartner_2 ?_
    refine lv_iconst (v := (1 : Int32)) hx hb d_TR_joinPartner_5 (by decide) ?_
    refine lv_isub hx hb d_TR_joinPartner_6 ?_
    obtain ⟨r39, M37, c38, h⟩ := bi_e h
    refine cl_TR_103 (rest := []) (R := r_TR_joinPartner) (c_GE_draw l x hJ ((M 5 3) - (1 : Int32)) c38) hx hb hml hts hown hK hZ hP hS hl.1 (Nat.le_of_ble_eq_true rfl) (Nat.le_of_ble_eq_true rfl) (Nat.le_of_ble_eq_true rfl) ⟨rfl, rfl, Nat.zero_le _, Nat.zero_le _⟩ d_TR_joinPartner_7 (fun H locs hP hS => ?_)
    refine lv_istore hx hb d_TR_joinPartner_10 hl (by decide) rfl (fun ls hl => ?_)
    have hl : lv_has ls 8 [(4, .int r39), (0, .ref (x.2.1 13)), (1, .ref (x.2.1 j1)), (2, .ref (x.2.1 5)), (3, .ref (x.2.1 12))] := hl
    refine lv_iload hx hb d_TR_joinPartner_12 (lv_at hl 0 rfl) ?_
    refine lv_aload_n hx hb d_TR_joinPartner_14 rfl (lv_at hl 1 rfl) ?_
    refine gf_TR_9 hx hb hts hown hK hP d_TR_joinPartner_15 ?_
    refine lv_icmp_ge (tgt := 26) hx hb d_TR_joinPartner_18 rfl (fun hc => ?_) (fun hc => ?_)
    · have h := if_p hc h
      refine lv_iload hx hb d_TR_joinPartner_26 (lv_at hl 0 rfl) ?_
      refine lv_iconst (v := (1 : Int32)) hx hb d_TR_joinPartner_28 (by decide) ?_
      refine lv_iadd hx hb d_TR_joinPartner_29 ?_
      exact J30 j1 (r39 + (1 : Int32)) M37 k1 _ h g H locs ls hP hS (lv_sub hl [2, 3, 4] rfl)
    · have h := if_m hc h
      refine lv_iload hx hb d_TR_joinPartner_21 (lv_at hl 0 rfl) ?_
      refine lv_goto (tgt := 30) hx hb d_TR_joinPartner_23 rfl ?_
      exact J30 j1 r39 M37 k1 _ h g H locs ls hP hS (lv_sub hl [2, 3, 4] rfl)
  rw [eH] at key
  exact key
theorem d_TR_change_0 : decode b_TR_change 0 = .ok (.aload_n 2, 1) := by decide +kernel
theorem d_TR_change_1 : decode b_TR_change 1 = .ok (.aload_n 0, 1) := by decide +kernel
theorem d_TR_change_2 : decode b_TR_change 2 = .ok (.getfield 9, 3) := by decide +kernel
theorem d_TR_change_5 : decode b_TR_change 5 = .ok (.invokevirtual 15, 3) := by decide +kernel
theorem d_TR_change_8 : decode b_TR_change 8 = .ok (.ifCond .ne 4, 3) := by decide +kernel
theorem d_TR_change_11 : decode b_TR_change 11 = .ok (.return_, 1) := by decide +kernel
theorem d_TR_change_12 : decode b_TR_change 12 = .ok (.aload_n 2, 1) := by decide +kernel
theorem d_TR_change_13 : decode b_TR_change 13 = .ok (.getfield 25, 3) := by decide +kernel
theorem d_TR_change_16 : decode b_TR_change 16 = .ok (.aload_n 0, 1) := by decide +kernel
theorem d_TR_change_17 : decode b_TR_change 17 = .ok (.getfield 9, 3) := by decide +kernel
theorem d_TR_change_20 : decode b_TR_change 20 = .ok (.aaload, 1) := by decide +kernel
theorem d_TR_change_21 : decode b_TR_change 21 = .ok (.getfield 29, 3) := by decide +kernel
theorem d_TR_change_24 : decode b_TR_change 24 = .ok (.astore 4, 2) := by decide +kernel
theorem d_TR_change_26 : decode b_TR_change 26 = .ok (.aload_n 1, 1) := by decide +kernel
theorem d_TR_change_27 : decode b_TR_change 27 = .ok (.aload 4, 2) := by decide +kernel
theorem d_TR_change_29 : decode b_TR_change 29 = .ok (.invokevirtual 35, 3) := by decide +kernel
theorem d_TR_change_32 : decode b_TR_change 32 = .ok (.aload 4, 2) := by decide +kernel
theorem d_TR_change_34 : decode b_TR_change 34 = .ok (.getfield 41, 3) := by decide +kernel
theorem d_TR_change_37 : decode b_TR_change 37 = .ok (.istore 5, 2) := by decide +kernel
theorem d_TR_change_39 : decode b_TR_change 39 = .ok (.aload 4, 2) := by decide +kernel
theorem d_TR_change_41 : decode b_TR_change 41 = .ok (.invokestatic 44, 3) := by decide +kernel
theorem d_TR_change_44 : decode b_TR_change 44 = .ok (.istore 6, 2) := by decide +kernel
theorem d_TR_change_46 : decode b_TR_change 46 = .ok (.aload_n 0, 1) := by decide +kernel
theorem d_TR_change_47 : decode b_TR_change 47 = .ok (.getfield 48, 3) := by decide +kernel
theorem d_TR_change_50 : decode b_TR_change 50 = .ok (.bipush 8, 2) := by decide +kernel
theorem d_TR_change_52 : decode b_TR_change 52 = .ok (.iload 5, 2) := by decide +kernel
theorem d_TR_change_54 : decode b_TR_change 54 = .ok (.imul, 1) := by decide +kernel
theorem d_TR_change_55 : decode b_TR_change 55 = .ok (.if_icmp .ge 23, 3) := by decide +kernel
theorem d_TR_change_58 : decode b_TR_change 58 = .ok (.aload_n 1, 1) := by decide +kernel
theorem d_TR_change_59 : decode b_TR_change 59 = .ok (.aload_n 0, 1) := by decide +kernel
theorem d_TR_change_60 : decode b_TR_change 60 = .ok (.getfield 48, 3) := by decide +kernel
theorem d_TR_change_63 : decode b_TR_change 63 = .ok (.iconst 3, 1) := by decide +kernel
theorem d_TR_change_64 : decode b_TR_change 64 = .ok (.ishr, 1) := by decide +kernel
theorem d_TR_change_65 : decode b_TR_change 65 = .ok (.aload_n 0, 1) := by decide +kernel
theorem d_TR_change_66 : decode b_TR_change 66 = .ok (.getfield 48, 3) := by decide +kernel
theorem d_TR_change_69 : decode b_TR_change 69 = .ok (.bipush 7, 2) := by decide +kernel
theorem d_TR_change_71 : decode b_TR_change 71 = .ok (.iand, 1) := by decide +kernel
theorem d_TR_change_72 : decode b_TR_change 72 = .ok (.invokevirtual 51, 3) := by decide +kernel
theorem d_TR_change_75 : decode b_TR_change 75 = .ok (.goto 115, 3) := by decide +kernel
theorem d_TR_change_78 : decode b_TR_change 78 = .ok (.aload_n 0, 1) := by decide +kernel
theorem d_TR_change_79 : decode b_TR_change 79 = .ok (.getfield 48, 3) := by decide +kernel
theorem d_TR_change_82 : decode b_TR_change 82 = .ok (.bipush 12, 2) := by decide +kernel
theorem d_TR_change_84 : decode b_TR_change 84 = .ok (.iload 5, 2) := by decide +kernel
theorem d_TR_change_86 : decode b_TR_change 86 = .ok (.imul, 1) := by decide +kernel
theorem d_TR_change_87 : decode b_TR_change 87 = .ok (.if_icmp .ge 34, 3) := by decide +kernel
theorem d_TR_change_90 : decode b_TR_change 90 = .ok (.aload_n 0, 1) := by decide +kernel
theorem d_TR_change_91 : decode b_TR_change 91 = .ok (.getfield 48, 3) := by decide +kernel
theorem d_TR_change_94 : decode b_TR_change 94 = .ok (.bipush 8, 2) := by decide +kernel
theorem d_TR_change_96 : decode b_TR_change 96 = .ok (.iload 5, 2) := by decide +kernel
theorem d_TR_change_98 : decode b_TR_change 98 = .ok (.imul, 1) := by decide +kernel
theorem d_TR_change_99 : decode b_TR_change 99 = .ok (.isub, 1) := by decide +kernel
theorem d_TR_change_100 : decode b_TR_change 100 = .ok (.istore 7, 2) := by decide +kernel
theorem d_TR_change_102 : decode b_TR_change 102 = .ok (.aload_n 1, 1) := by decide +kernel
theorem d_TR_change_103 : decode b_TR_change 103 = .ok (.iload 7, 2) := by decide +kernel
theorem d_TR_change_105 : decode b_TR_change 105 = .ok (.iconst 2, 1) := by decide +kernel
theorem d_TR_change_106 : decode b_TR_change 106 = .ok (.ishr, 1) := by decide +kernel
theorem d_TR_change_107 : decode b_TR_change 107 = .ok (.getstatic 55, 3) := by decide +kernel
theorem d_TR_change_110 : decode b_TR_change 110 = .ok (.iload 7, 2) := by decide +kernel
theorem d_TR_change_112 : decode b_TR_change 112 = .ok (.iconst 3, 1) := by decide +kernel
theorem d_TR_change_113 : decode b_TR_change 113 = .ok (.iand, 1) := by decide +kernel
theorem d_TR_change_114 : decode b_TR_change 114 = .ok (.iaload, 1) := by decide +kernel
theorem d_TR_change_115 : decode b_TR_change 115 = .ok (.invokevirtual 59, 3) := by decide +kernel
theorem d_TR_change_118 : decode b_TR_change 118 = .ok (.goto 72, 3) := by decide +kernel
theorem d_TR_change_121 : decode b_TR_change 121 = .ok (.aload_n 0, 1) := by decide +kernel
theorem d_TR_change_122 : decode b_TR_change 122 = .ok (.getfield 48, 3) := by decide +kernel
theorem d_TR_change_125 : decode b_TR_change 125 = .ok (.iload 6, 2) := by decide +kernel
theorem d_TR_change_127 : decode b_TR_change 127 = .ok (.if_icmp .ge 34, 3) := by decide +kernel
theorem d_TR_change_130 : decode b_TR_change 130 = .ok (.aload_n 0, 1) := by decide +kernel
theorem d_TR_change_131 : decode b_TR_change 131 = .ok (.getfield 48, 3) := by decide +kernel
theorem d_TR_change_134 : decode b_TR_change 134 = .ok (.bipush 12, 2) := by decide +kernel
theorem d_TR_change_136 : decode b_TR_change 136 = .ok (.iload 5, 2) := by decide +kernel
theorem d_TR_change_138 : decode b_TR_change 138 = .ok (.imul, 1) := by decide +kernel
theorem d_TR_change_139 : decode b_TR_change 139 = .ok (.isub, 1) := by decide +kernel
theorem d_TR_change_140 : decode b_TR_change 140 = .ok (.istore 7, 2) := by decide +kernel
theorem d_TR_change_142 : decode b_TR_change 142 = .ok (.aload_n 1, 1) := by decide +kernel
theorem d_TR_change_143 : decode b_TR_change 143 = .ok (.iload 7, 2) := by decide +kernel
theorem d_TR_change_145 : decode b_TR_change 145 = .ok (.iconst 2, 1) := by decide +kernel
theorem d_TR_change_146 : decode b_TR_change 146 = .ok (.ishr, 1) := by decide +kernel
theorem d_TR_change_147 : decode b_TR_change 147 = .ok (.getstatic 62, 3) := by decide +kernel
theorem d_TR_change_150 : decode b_TR_change 150 = .ok (.iload 7, 2) := by decide +kernel
theorem d_TR_change_152 : decode b_TR_change 152 = .ok (.iconst 3, 1) := by decide +kernel
theorem d_TR_change_153 : decode b_TR_change 153 = .ok (.iand, 1) := by decide +kernel
theorem d_TR_change_154 : decode b_TR_change 154 = .ok (.iaload, 1) := by decide +kernel
theorem d_TR_change_155 : decode b_TR_change 155 = .ok (.invokevirtual 65, 3) := by decide +kernel
theorem d_TR_change_158 : decode b_TR_change 158 = .ok (.goto 32, 3) := by decide +kernel
theorem d_TR_change_161 : decode b_TR_change 161 = .ok (.aload_n 0, 1) := by decide +kernel
theorem d_TR_change_162 : decode b_TR_change 162 = .ok (.getfield 48, 3) := by decide +kernel
theorem d_TR_change_165 : decode b_TR_change 165 = .ok (.iload 6, 2) := by decide +kernel
theorem d_TR_change_167 : decode b_TR_change 167 = .ok (.aload_n 0, 1) := by decide +kernel
theorem d_TR_change_168 : decode b_TR_change 168 = .ok (.getfield 68, 3) := by decide +kernel
theorem d_TR_change_171 : decode b_TR_change 171 = .ok (.iadd, 1) := by decide +kernel
theorem d_TR_change_172 : decode b_TR_change 172 = .ok (.if_icmp .ge 11, 3) := by decide +kernel
theorem d_TR_change_175 : decode b_TR_change 175 = .ok (.aload_n 1, 1) := by decide +kernel
theorem d_TR_change_176 : decode b_TR_change 176 = .ok (.aload_n 3, 1) := by decide +kernel
theorem d_TR_change_177 : decode b_TR_change 177 = .ok (.invokestatic 71, 3) := by decide +kernel
theorem d_TR_change_180 : decode b_TR_change 180 = .ok (.goto 10, 3) := by decide +kernel
theorem d_TR_change_183 : decode b_TR_change 183 = .ok (.aload_n 0, 1) := by decide +kernel
theorem d_TR_change_184 : decode b_TR_change 184 = .ok (.aload_n 1, 1) := by decide +kernel
theorem d_TR_change_185 : decode b_TR_change 185 = .ok (.aload_n 2, 1) := by decide +kernel
theorem d_TR_change_186 : decode b_TR_change 186 = .ok (.aload_n 3, 1) := by decide +kernel
theorem d_TR_change_187 : decode b_TR_change 187 = .ok (.invokevirtual 75, 3) := by decide +kernel
theorem d_TR_change_190 : decode b_TR_change 190 = .ok (.return_, 1) := by decide +kernel
noncomputable def s_TR_change (j1 : Nat) (M : Mem) : Option (Mem) :=
  bi (s_ST_has (M 13 0) M) (fun r23 M21 => if r23 = 0 then (some M21) else (ck (M21 13 0) 16 (nx (2 * (122 + (M21 13 0).toNatClampNeg) - 186) (fun j25 => bv (s_IN_copy j1 j25 M21) (fun M26 => nx (M26 j25 1) (fun v28 => bi (s_TR_firstDrawing j25 M26) (fun r31 M29 => if ((8 : Int32) * v28) ≤ (M29 13 1) then (if ((12 : Int32) * v28) ≤ (M29 13 1) then (if r31 ≤ (M29 13 1) then (if (r31 + (M29 13 2)) ≤ (M29 13 1) then (bv (s_TR_joinPartner j1 M29) (fun M32 => some M32)) else (bv (s_TR_changeByDraws j1 M29) (fun M34 => some M34))) else (nx ((M29 13 1) - ((12 : Int32) * v28)) (fun v36 => ck (v36 &&& (3 : Int32)) 4 (bv (s_IN_put j1 (v36 >>> ((2 : Int32) &&& 31)) (sPUT (v36 &&& (3 : Int32)).toNatClampNeg) M29) (fun M38 => some M38))))) else (nx ((M29 13 1) - ((8 : Int32) * v28)) (fun v40 => ck (v40 &&& (3 : Int32)) 4 (bv (s_IN_addTo j1 (v40 >>> ((2 : Int32) &&& 31)) (sADD (v40 &&& (3 : Int32)).toNatClampNeg) M29) (fun M42 => some M42))))) else (bv (s_IN_turnBit j1 ((M29 13 1) >>> ((3 : Int32) &&& 31)) ((M29 13 1) &&& (7 : Int32)) M29) (fun M44 => some M44)))))))))
set_option maxHeartbeats 4000000 in
set_option maxRecDepth 100000 in
theorem c_TR_change (l : Launch) (x : Cx) (hJ : Inj x) (j1 : Nat) (k1 : kd_in j1) {M : Mem} {out : Mem} (h : s_TR_change j1 M = some out) : Cv l x y_TR_change (Cond.code y_TR_change b_TR_change 8 none :: tb) r_TR_change [.ref (x.2.1 13), .ref (x.2.1 j1), .ref (x.2.1 5), .ref (x.2.1 12)] M out := by
  refine ofCv (cc := b_TR_change) (maxL := 8) (by decide) rfl (rfl) (Nat.le_of_ble_eq_true rfl) ?_
  intro p e s m args below meth c Q G0 ls g hx hb hml hown hts hK hZ hP hS hl hret
  have hown : s.vm.findClass R_TR = some m.cls := hown
  have hl : lv_has ls 8 [(0, .ref (x.2.1 13)), (1, .ref (x.2.1 j1)), (2, .ref (x.2.1 5)), (3, .ref (x.2.1 12))] := hl
  obtain ⟨H, eH⟩ : ∃ z, z = s.heap := ⟨_, rfl⟩
  obtain ⟨locs, eL⟩ : ∃ z, z = ([] : List Loc) := ⟨_, rfl⟩
  rw [← eH] at hP
  have hS : va_S (A0 x) s.heap H locs := by rw [eH, eL]; exact hS
  rw [← eL]
  have key : W p l e r_TR_change s m args below meth c H locs 0 0 Q (F0 m 0 ls []) := by
    clear eH eL
    unfold s_TR_change at h
    refine lv_aload_n hx hb d_TR_change_0 rfl (lv_at hl 2 rfl) ?_
    refine lv_aload_n hx hb d_TR_change_1 rfl (lv_at hl 0 rfl) ?_
    refine gf_TR_9 hx hb hts hown hK hP d_TR_change_2 ?_
    obtain ⟨r23, M21, c22, h⟩ := bi_e h
    refine cl_TR_15 (rest := []) (R := r_TR_change) (c_ST_has l x hJ (M 13 0) c22) hx hb hml hts hown hK hZ hP hS hl.1 (Nat.le_of_ble_eq_true rfl) (Nat.le_of_ble_eq_true rfl) (Nat.le_of_ble_eq_true rfl) ⟨rfl, rfl, Nat.zero_le _, Nat.zero_le _⟩ d_TR_change_5 (fun H locs hP hS => ?_)
    refine lv_if_ne (tgt := 12) hx hb d_TR_change_8 rfl (fun hc => ?_) (fun hc => ?_)
    · have h := if_m hc h
      refine lv_aload_n hx hb d_TR_change_12 rfl (lv_at hl 2 rfl) ?_
      refine gf_TR_25 hx hb hts hown hK hP d_TR_change_13 ?_
      refine lv_aload_n hx hb d_TR_change_16 rfl (lv_at hl 0 rfl) ?_
      refine gf_TR_9 hx hb hts hown hK hP d_TR_change_17 ?_
      obtain ⟨b24, h⟩ := ck_e h
      refine m_aaE hx hb hK hP b24 d_TR_change_20 ?_
      refine gf_TR_29 hx hb hts hown hK hP (kd_en_at b24) d_TR_change_21 ?_
      obtain ⟨j25, ej25, h⟩ := nx_e h
      have kj25 : kd_in j25 := by rw [ej25]; exact kd_EN_input (kd_en_at b24)
      refine tp_r ej25 ?_
      refine lv_astore hx hb d_TR_change_24 hl (by decide) rfl (fun ls hl => ?_)
      have hl : lv_has ls 8 [(4, .ref (x.2.1 j25)), (0, .ref (x.2.1 13)), (1, .ref (x.2.1 j1)), (2, .ref (x.2.1 5)), (3, .ref (x.2.1 12))] := hl
      refine lv_aload_n hx hb d_TR_change_26 rfl (lv_at hl 2 rfl) ?_
      refine lv_aload hx hb d_TR_change_27 (lv_at hl 0 rfl) ?_
      obtain ⟨M26, c27, h⟩ := bv_e h
      refine cl_TR_35 (rest := []) (R := r_TR_change) (c_IN_copy l x hJ j1 k1 j25 kj25 c27) k1 hx hb hml hts hown hK hZ hP hS hl.1 (Nat.le_of_ble_eq_true rfl) (Nat.le_of_ble_eq_true rfl) (Nat.le_of_ble_eq_true rfl) ⟨rfl, rfl, Nat.zero_le _, Nat.zero_le _⟩ d_TR_change_29 (fun H locs hP hS => ?_)
      refine lv_aload hx hb d_TR_change_32 (lv_at hl 0 rfl) ?_
      refine gf_TR_41 hx hb hts hown hK hP kj25 d_TR_change_34 ?_
      obtain ⟨v28, ev28, h⟩ := nx_e h
      refine tp_i ev28 ?_
      refine lv_istore hx hb d_TR_change_37 hl (by decide) rfl (fun ls hl => ?_)
      have hl : lv_has ls 8 [(5, .int v28), (4, .ref (x.2.1 j25)), (0, .ref (x.2.1 13)), (1, .ref (x.2.1 j1)), (2, .ref (x.2.1 5)), (3, .ref (x.2.1 12))] := hl
      refine lv_aload hx hb d_TR_change_39 (lv_at hl 1 rfl) ?_
      obtain ⟨r31, M29, c30, h⟩ := bi_e h
      refine cl_TR_44 (rest := []) (R := r_TR_change) (c_TR_firstDrawing l x hJ j25 kj25 c30) hx hb hml hts hown hK hZ hP hS hl.1 (Nat.le_of_ble_eq_true rfl) (Nat.le_of_ble_eq_true rfl) (Nat.le_of_ble_eq_true rfl) ⟨rfl, rfl, Nat.zero_le _, Nat.zero_le _⟩ d_TR_change_41 (fun H locs hP hS => ?_)
      refine lv_istore hx hb d_TR_change_44 hl (by decide) rfl (fun ls hl => ?_)
      have hl : lv_has ls 8 [(6, .int r31), (5, .int v28), (4, .ref (x.2.1 j25)), (0, .ref (x.2.1 13)), (1, .ref (x.2.1 j1)), (2, .ref (x.2.1 5)), (3, .ref (x.2.1 12))] := hl
      refine lv_aload_n hx hb d_TR_change_46 rfl (lv_at hl 3 rfl) ?_
      refine gf_TR_48 hx hb hts hown hK hP d_TR_change_47 ?_
      refine lv_bipush (v := (8 : Int32)) hx hb d_TR_change_50 (by decide) ?_
      refine lv_iload hx hb d_TR_change_52 (lv_at hl 1 rfl) ?_
      refine lv_imul hx hb d_TR_change_54 ?_
      refine lv_icmp_ge (tgt := 78) hx hb d_TR_change_55 rfl (fun hc => ?_) (fun hc => ?_)
      · have h := if_p hc h
        refine lv_aload_n hx hb d_TR_change_78 rfl (lv_at hl 3 rfl) ?_
        refine gf_TR_48 hx hb hts hown hK hP d_TR_change_79 ?_
        refine lv_bipush (v := (12 : Int32)) hx hb d_TR_change_82 (by decide) ?_
        refine lv_iload hx hb d_TR_change_84 (lv_at hl 1 rfl) ?_
        refine lv_imul hx hb d_TR_change_86 ?_
        refine lv_icmp_ge (tgt := 121) hx hb d_TR_change_87 rfl (fun hc => ?_) (fun hc => ?_)
        · have h := if_p hc h
          refine lv_aload_n hx hb d_TR_change_121 rfl (lv_at hl 3 rfl) ?_
          refine gf_TR_48 hx hb hts hown hK hP d_TR_change_122 ?_
          refine lv_iload hx hb d_TR_change_125 (lv_at hl 0 rfl) ?_
          refine lv_icmp_ge (tgt := 161) hx hb d_TR_change_127 rfl (fun hc => ?_) (fun hc => ?_)
          · have h := if_p hc h
            refine lv_aload_n hx hb d_TR_change_161 rfl (lv_at hl 3 rfl) ?_
            refine gf_TR_48 hx hb hts hown hK hP d_TR_change_162 ?_
            refine lv_iload hx hb d_TR_change_165 (lv_at hl 0 rfl) ?_
            refine lv_aload_n hx hb d_TR_change_167 rfl (lv_at hl 3 rfl) ?_
            refine gf_TR_68 hx hb hts hown hK hP d_TR_change_168 ?_
            refine lv_iadd hx hb d_TR_change_171 ?_
            refine lv_icmp_ge (tgt := 183) hx hb d_TR_change_172 rfl (fun hc => ?_) (fun hc => ?_)
            · have h := if_p hc h
              refine lv_aload_n hx hb d_TR_change_183 rfl (lv_at hl 3 rfl) ?_
              refine lv_aload_n hx hb d_TR_change_184 rfl (lv_at hl 4 rfl) ?_
              refine lv_aload_n hx hb d_TR_change_185 rfl (lv_at hl 5 rfl) ?_
              refine lv_aload_n hx hb d_TR_change_186 rfl (lv_at hl 6 rfl) ?_
              obtain ⟨M32, c33, h⟩ := bv_e h
              refine cl_TR_75 (rest := []) (R := r_TR_change) (c_TR_joinPartner l x hJ j1 k1 c33) hx hb hml hts hown hK hZ hP hS hl.1 (Nat.le_of_ble_eq_true rfl) (Nat.le_of_ble_eq_true rfl) (Nat.le_of_ble_eq_true rfl) ⟨rfl, rfl, Nat.zero_le _, Nat.zero_le _⟩ d_TR_change_187 (fun H locs hP hS => ?_)
              obtain rfl := Option.some.inj h
              exact hret d_TR_change_190 g hP hS
            · have h := if_m hc h
              refine lv_aload_n hx hb d_TR_change_175 rfl (lv_at hl 4 rfl) ?_
              refine lv_aload_n hx hb d_TR_change_176 rfl (lv_at hl 6 rfl) ?_
              obtain ⟨M34, c35, h⟩ := bv_e h
              refine cl_TR_71 (rest := []) (R := r_TR_change) (c_TR_changeByDraws l x hJ j1 k1 c35) hx hb hml hts hown hK hZ hP hS hl.1 (Nat.le_of_ble_eq_true rfl) (Nat.le_of_ble_eq_true rfl) (Nat.le_of_ble_eq_true rfl) ⟨rfl, rfl, Nat.zero_le _, Nat.zero_le _⟩ d_TR_change_177 (fun H locs hP hS => ?_)
              refine lv_goto (tgt := 190) hx hb d_TR_change_180 rfl ?_
              obtain rfl := Option.some.inj h
              exact hret d_TR_change_190 g hP hS
          · have h := if_m hc h
            refine lv_aload_n hx hb d_TR_change_130 rfl (lv_at hl 3 rfl) ?_
            refine gf_TR_48 hx hb hts hown hK hP d_TR_change_131 ?_
            refine lv_bipush (v := (12 : Int32)) hx hb d_TR_change_134 (by decide) ?_
            refine lv_iload hx hb d_TR_change_136 (lv_at hl 1 rfl) ?_
            refine lv_imul hx hb d_TR_change_138 ?_
            refine lv_isub hx hb d_TR_change_139 ?_
            obtain ⟨v36, ev36, h⟩ := nx_e h
            refine tp_i ev36 ?_
            refine lv_istore hx hb d_TR_change_140 hl (by decide) rfl (fun ls hl => ?_)
            have hl : lv_has ls 8 [(7, .int v36), (6, .int r31), (5, .int v28), (4, .ref (x.2.1 j25)), (0, .ref (x.2.1 13)), (1, .ref (x.2.1 j1)), (2, .ref (x.2.1 5)), (3, .ref (x.2.1 12))] := hl
            refine lv_aload_n hx hb d_TR_change_142 rfl (lv_at hl 5 rfl) ?_
            refine lv_iload hx hb d_TR_change_143 (lv_at hl 0 rfl) ?_
            refine lv_iconst (v := (2 : Int32)) hx hb d_TR_change_145 (by decide) ?_
            refine lv_ishr hx hb d_TR_change_146 ?_
            refine va_gets (C := "EdgeCampaign$Trials") (ref := "EdgeCampaign$Trials") hx hb hZ.2.1 hS hown (hts.1 _ q_293) (fun z h => h) d_TR_change_147 ?_
            refine lv_iload hx hb d_TR_change_150 (lv_at hl 0 rfl) ?_
            refine lv_iconst (v := (3 : Int32)) hx hb d_TR_change_152 (by decide) ?_
            refine lv_iand hx hb d_TR_change_153 ?_
            obtain ⟨b37, h⟩ := ck_e h
            refine va_ti hx hb hZ.2.2 hS b37 (v := .int (sPUT (v36 &&& (3 : Int32)).toNatClampNeg)) rfl d_TR_change_154 ?_
            obtain ⟨M38, c39, h⟩ := bv_e h
            refine cl_TR_65 (rest := []) (R := r_TR_change) (c_IN_put l x hJ j1 k1 (v36 >>> ((2 : Int32) &&& 31)) (sPUT (v36 &&& (3 : Int32)).toNatClampNeg) c39) k1 hx hb hml hts hown hK hZ hP hS hl.1 (Nat.le_of_ble_eq_true rfl) (Nat.le_of_ble_eq_true rfl) (Nat.le_of_ble_eq_true rfl) ⟨rfl, rfl, Nat.zero_le _, Nat.zero_le _⟩ d_TR_change_155 (fun H locs hP hS => ?_)
            refine lv_goto (tgt := 190) hx hb d_TR_change_158 rfl ?_
            obtain rfl := Option.some.inj h
            exact hret d_TR_change_190 g hP hS
        · have h := if_m hc h
          refine lv_aload_n hx hb d_TR_change_90 rfl (lv_at hl 3 rfl) ?_
          refine gf_TR_48 hx hb hts hown hK hP d_TR_change_91 ?_
          refine lv_bipush (v := (8 : Int32)) hx hb d_TR_change_94 (by decide) ?_
          refine lv_iload hx hb d_TR_change_96 (lv_at hl 1 rfl) ?_
          refine lv_imul hx hb d_TR_change_98 ?_
          refine lv_isub hx hb d_TR_change_99 ?_
          obtain ⟨v40, ev40, h⟩ := nx_e h
          refine tp_i ev40 ?_
          refine lv_istore hx hb d_TR_change_100 hl (by decide) rfl (fun ls hl => ?_)
          have hl : lv_has ls 8 [(7, .int v40), (6, .int r31), (5, .int v28), (4, .ref (x.2.1 j25)), (0, .ref (x.2.1 13)), (1, .ref (x.2.1 j1)), (2, .ref (x.2.1 5)), (3, .ref (x.2.1 12))] := hl
          refine lv_aload_n hx hb d_TR_change_102 rfl (lv_at hl 5 rfl) ?_
          refine lv_iload hx hb d_TR_change_103 (lv_at hl 0 rfl) ?_
          refine lv_iconst (v := (2 : Int32)) hx hb d_TR_change_105 (by decide) ?_
          refine lv_ishr hx hb d_TR_change_106 ?_
          refine va_gets (C := "EdgeCampaign$Trials") (ref := "EdgeCampaign$Trials") hx hb hZ.1.1 hS hown (hts.1 _ q_294) (fun z h => h) d_TR_change_107 ?_
          refine lv_iload hx hb d_TR_change_110 (lv_at hl 0 rfl) ?_
          refine lv_iconst (v := (3 : Int32)) hx hb d_TR_change_112 (by decide) ?_
          refine lv_iand hx hb d_TR_change_113 ?_
          obtain ⟨b41, h⟩ := ck_e h
          refine va_ti hx hb hZ.1.2 hS b41 (v := .int (sADD (v40 &&& (3 : Int32)).toNatClampNeg)) rfl d_TR_change_114 ?_
          obtain ⟨M42, c43, h⟩ := bv_e h
          refine cl_TR_59 (rest := []) (R := r_TR_change) (c_IN_addTo l x hJ j1 k1 (v40 >>> ((2 : Int32) &&& 31)) (sADD (v40 &&& (3 : Int32)).toNatClampNeg) c43) k1 hx hb hml hts hown hK hZ hP hS hl.1 (Nat.le_of_ble_eq_true rfl) (Nat.le_of_ble_eq_true rfl) (Nat.le_of_ble_eq_true rfl) ⟨rfl, rfl, Nat.zero_le _, Nat.zero_le _⟩ d_TR_change_115 (fun H locs hP hS => ?_)
          refine lv_goto (tgt := 190) hx hb d_TR_change_118 rfl ?_
          obtain rfl := Option.some.inj h
          exact hret d_TR_change_190 g hP hS
      · have h := if_m hc h
        refine lv_aload_n hx hb d_TR_change_58 rfl (lv_at hl 4 rfl) ?_
        refine lv_aload_n hx hb d_TR_change_59 rfl (lv_at hl 3 rfl) ?_
        refine gf_TR_48 hx hb hts hown hK hP d_TR_change_60 ?_
        refine lv_iconst (v := (3 : Int32)) hx hb d_TR_change_63 (by decide) ?_
        refine lv_ishr hx hb d_TR_change_64 ?_
        refine lv_aload_n hx hb d_TR_change_65 rfl (lv_at hl 3 rfl) ?_
        refine gf_TR_48 hx hb hts hown hK hP d_TR_change_66 ?_
        refine lv_bipush (v := (7 : Int32)) hx hb d_TR_change_69 (by decide) ?_
        refine lv_iand hx hb d_TR_change_71 ?_
        obtain ⟨M44, c45, h⟩ := bv_e h
        refine cl_TR_51 (rest := []) (R := r_TR_change) (c_IN_turnBit l x hJ j1 k1 ((M29 13 1) >>> ((3 : Int32) &&& 31)) ((M29 13 1) &&& (7 : Int32)) c45) k1 hx hb hml hts hown hK hZ hP hS hl.1 (Nat.le_of_ble_eq_true rfl) (Nat.le_of_ble_eq_true rfl) (Nat.le_of_ble_eq_true rfl) ⟨rfl, rfl, Nat.zero_le _, Nat.zero_le _⟩ d_TR_change_72 (fun H locs hP hS => ?_)
        refine lv_goto (tgt := 190) hx hb d_TR_change_75 rfl ?_
        obtain rfl := Option.some.inj h
        exact hret d_TR_change_190 g hP hS
    · have h := if_p hc h
      obtain rfl := Option.some.inj h
      exact hret d_TR_change_11 g hP hS
  rw [eH] at key
  exact key
theorem d_TR_next_0 : decode b_TR_next 0 = .ok (.aload_n 0, 1) := by decide +kernel
theorem d_TR_next_1 : decode b_TR_next 1 = .ok (.getfield 9, 3) := by decide +kernel
theorem d_TR_next_4 : decode b_TR_next 4 = .ok (.istore_n 2, 1) := by decide +kernel
theorem d_TR_next_5 : decode b_TR_next 5 = .ok (.iconst 0, 1) := by decide +kernel
theorem d_TR_next_6 : decode b_TR_next 6 = .ok (.istore_n 3, 1) := by decide +kernel
theorem d_TR_next_7 : decode b_TR_next 7 = .ok (.iload_n 3, 1) := by decide +kernel
theorem d_TR_next_8 : decode b_TR_next 8 = .ok (.aload_n 1, 1) := by decide +kernel
theorem d_TR_next_9 : decode b_TR_next 9 = .ok (.getfield 79, 3) := by decide +kernel
theorem d_TR_next_12 : decode b_TR_next 12 = .ok (.if_icmp .ge 37, 3) := by decide +kernel
theorem d_TR_next_15 : decode b_TR_next 15 = .ok (.aload_n 1, 1) := by decide +kernel
theorem d_TR_next_16 : decode b_TR_next 16 = .ok (.iload_n 2, 1) := by decide +kernel
theorem d_TR_next_17 : decode b_TR_next 17 = .ok (.invokevirtual 99, 3) := by decide +kernel
theorem d_TR_next_20 : decode b_TR_next 20 = .ok (.istore_n 2, 1) := by decide +kernel
theorem d_TR_next_21 : decode b_TR_next 21 = .ok (.aload_n 1, 1) := by decide +kernel
theorem d_TR_next_22 : decode b_TR_next 22 = .ok (.iload_n 2, 1) := by decide +kernel
theorem d_TR_next_23 : decode b_TR_next 23 = .ok (.invokevirtual 96, 3) := by decide +kernel
theorem d_TR_next_26 : decode b_TR_next 26 = .ok (.ifCond .ne 15, 3) := by decide +kernel
theorem d_TR_next_29 : decode b_TR_next 29 = .ok (.aload_n 1, 1) := by decide +kernel
theorem d_TR_next_30 : decode b_TR_next 30 = .ok (.getfield 25, 3) := by decide +kernel
theorem d_TR_next_33 : decode b_TR_next 33 = .ok (.iload_n 2, 1) := by decide +kernel
theorem d_TR_next_34 : decode b_TR_next 34 = .ok (.aaload, 1) := by decide +kernel
theorem d_TR_next_35 : decode b_TR_next 35 = .ok (.getfield 80, 3) := by decide +kernel
theorem d_TR_next_38 : decode b_TR_next 38 = .ok (.ifCond .ne 5, 3) := by decide +kernel
theorem d_TR_next_41 : decode b_TR_next 41 = .ok (.iload_n 2, 1) := by decide +kernel
theorem d_TR_next_42 : decode b_TR_next 42 = .ok (.ireturn, 1) := by decide +kernel
theorem d_TR_next_43 : decode b_TR_next 43 = .ok (.iinc 3 1, 3) := by decide +kernel
theorem d_TR_next_46 : decode b_TR_next 46 = .ok (.goto (-39), 3) := by decide +kernel
theorem d_TR_next_49 : decode b_TR_next 49 = .ok (.aload_n 1, 1) := by decide +kernel
theorem d_TR_next_50 : decode b_TR_next 50 = .ok (.aload_n 0, 1) := by decide +kernel
theorem d_TR_next_51 : decode b_TR_next 51 = .ok (.getfield 9, 3) := by decide +kernel
theorem d_TR_next_54 : decode b_TR_next 54 = .ok (.invokevirtual 99, 3) := by decide +kernel
theorem d_TR_next_57 : decode b_TR_next 57 = .ok (.ireturn, 1) := by decide +kernel
noncomputable def j_TR_next_49  (M21 : Mem) : Option (Int32 × Mem) :=
  bi (s_ST_behind (M21 13 0) M21) (fun r24 M22 => some (r24, M22))
noncomputable def l_TR_next_7  (v27 : Int32) (v28 : Int32) (M29 : Mem) : Option ((Int32 × Int32 × Mem) ⊕ (Int32 × Mem)) :=
  if (M29 5 3) ≤ v28 then (jw1 (j_TR_next_49 M29)) else (bi (s_ST_behind v27 M29) (fun r32 M30 => bi (s_ST_isFavoured r32 M30) (fun r35 M33 => if r35 = 0 then (ck r32 16 (if (M33 (122 + r32.toNatClampNeg) 3) = 0 then (some (.inr (r32, M33))) else (nx (v28 + (1 : Int32)) (fun v37 => some (.inl (r32, v37, M33)))))) else (some (.inr (r32, M33))))))
noncomputable def s_TR_next  (M : Mem) : Option (Int32 × Mem) :=
  nx (M 13 0) (fun v25 => nx ((0 : Int32)) (fun v26 => lp (fun q : Int32 × Int32 × Mem => l_TR_next_7 q.1 q.2.1 q.2.2) (v25, v26, M)))
set_option maxHeartbeats 4000000 in
set_option maxRecDepth 100000 in
theorem c_TR_next (l : Launch) (x : Cx) (hJ : Inj x)  {M : Mem} {out : Int32 × Mem} (h : s_TR_next M = some out) : Ci l x y_TR_next (Cond.code y_TR_next b_TR_next 4 (some .int) :: tb) r_TR_next [.ref (x.2.1 13), .ref (x.2.1 5)] M out := by
  refine ofCi (cc := b_TR_next) (maxL := 4) (by decide) rfl (rfl) (Nat.le_of_ble_eq_true rfl) ?_
  intro p e s m args below meth c Q G0 ls g hx hb hml hown hts hK hZ hP hS hl hret
  have hown : s.vm.findClass R_TR = some m.cls := hown
  have hl : lv_has ls 4 [(0, .ref (x.2.1 13)), (1, .ref (x.2.1 5))] := hl
  obtain ⟨H, eH⟩ : ∃ z, z = s.heap := ⟨_, rfl⟩
  obtain ⟨locs, eL⟩ : ∃ z, z = ([] : List Loc) := ⟨_, rfl⟩
  rw [← eH] at hP
  have hS : va_S (A0 x) s.heap H locs := by rw [eH, eL]; exact hS
  rw [← eL]
  have key : W p l e r_TR_next s m args below meth c H locs 0 0 Q (F0 m 0 ls []) := by
    clear eH eL
    unfold s_TR_next at h
    have J49 : ∀  (M21 : Mem)  (res : Int32 × Mem) (h : j_TR_next_49 M21 = some res) (g : G0 res) (H : Heap) (locs : List Loc) (ls : Array Slot) (hP : va_P x.1 vwCl (wld x M21) H) (hS : va_S (A0 x) s.heap H locs) (hl : lv_has ls 4 [(0, .ref (x.2.1 13)), (1, .ref (x.2.1 5))]), W p l e r_TR_next s m args below meth c H locs 0 0 Q (F0 m 49 ls []) := by
      intro M21 res h g H locs ls hP hS hl
      unfold j_TR_next_49 at h
      refine lv_aload_n hx hb d_TR_next_49 rfl (lv_at hl 1 rfl) ?_
      refine lv_aload_n hx hb d_TR_next_50 rfl (lv_at hl 0 rfl) ?_
      refine gf_TR_9 hx hb hts hown hK hP d_TR_next_51 ?_
      obtain ⟨r24, M22, c23, h⟩ := bi_e h
      refine cl_TR_99 (rest := []) (R := r_TR_next) (c_ST_behind l x hJ (M21 13 0) c23) hx hb hml hts hown hK hZ hP hS hl.1 (Nat.le_of_ble_eq_true rfl) (Nat.le_of_ble_eq_true rfl) (Nat.le_of_ble_eq_true rfl) ⟨rfl, rfl, Nat.zero_le _, Nat.zero_le _⟩ d_TR_next_54 (fun H locs hP hS => ?_)
      obtain rfl := Option.some.inj h
      exact hret d_TR_next_57 g hP hS
    refine lv_aload_n hx hb d_TR_next_0 rfl (lv_at hl 0 rfl) ?_
    refine gf_TR_9 hx hb hts hown hK hP d_TR_next_1 ?_
    obtain ⟨v25, ev25, h⟩ := nx_e h
    refine tp_i ev25 ?_
    refine lv_istore_n hx hb d_TR_next_4 rfl hl (by decide) rfl (fun ls hl => ?_)
    have hl : lv_has ls 4 [(2, .int v25), (0, .ref (x.2.1 13)), (1, .ref (x.2.1 5))] := hl
    refine lv_iconst (v := (0 : Int32)) hx hb d_TR_next_5 (by decide) ?_
    obtain ⟨v26, ev26, h⟩ := nx_e h
    refine tp_i ev26 ?_
    refine lv_istore_n hx hb d_TR_next_6 rfl hl (by decide) rfl (fun ls hl => ?_)
    have hl : lv_has ls 4 [(3, .int v26), (2, .int v25), (0, .ref (x.2.1 13)), (1, .ref (x.2.1 5))] := hl
    obtain ⟨P7, eP7⟩ : ∃ P : (Int32 × Int32 × Mem) → Prop, P = (fun q => ∀ (H : Heap) (locs : List Loc) (ls : Array Slot), va_P x.1 vwCl (wld x (q.2.2)) H → va_S (A0 x) s.heap H locs → lv_has ls 4 [(0, .ref (x.2.1 13)), (1, .ref (x.2.1 5)), (2, .int (q.1)), (3, .int (q.2.1))] → W p l e r_TR_next s m args below meth c H locs 0 0 Q (F0 m 7 ls [])) := ⟨_, rfl⟩
    have L7 : P7 (v25, v26, M) := by
      refine lp_walk (G := G0) ?_ h g
      intro q res h g
      obtain ⟨v27, v28, M29⟩ := q
      rw [eP7]
      intro H locs ls hP hS hl
      have hP : va_P x.1 vwCl (wld x M29) H := hP
      have hl : lv_has ls 4 [(0, .ref (x.2.1 13)), (1, .ref (x.2.1 5)), (2, .int v27), (3, .int v28)] := hl
      have h : l_TR_next_7 v27 v28 M29 = some res := h
      unfold l_TR_next_7 at h
      refine lv_iload_n hx hb d_TR_next_7 rfl (lv_at hl 3 rfl) ?_
      refine lv_aload_n hx hb d_TR_next_8 rfl (lv_at hl 1 rfl) ?_
      refine gf_TR_79 hx hb hts hown hK hP d_TR_next_9 ?_
      refine lv_icmp_ge (tgt := 49) hx hb d_TR_next_12 rfl (fun hc => ?_) (fun hc => ?_)
      · have h := if_p hc h
        obtain ⟨res2, hres, h2⟩ := jw1_e h
        clear h
        subst hres
        have h := h2
        exact J49 M29 _ h g H locs ls hP hS (lv_sub hl [0, 1] rfl)
      · have h := if_m hc h
        refine lv_aload_n hx hb d_TR_next_15 rfl (lv_at hl 1 rfl) ?_
        refine lv_iload_n hx hb d_TR_next_16 rfl (lv_at hl 2 rfl) ?_
        obtain ⟨r32, M30, c31, h⟩ := bi_e h
        refine cl_TR_99 (rest := []) (R := r_TR_next) (c_ST_behind l x hJ v27 c31) hx hb hml hts hown hK hZ hP hS hl.1 (Nat.le_of_ble_eq_true rfl) (Nat.le_of_ble_eq_true rfl) (Nat.le_of_ble_eq_true rfl) ⟨rfl, rfl, Nat.zero_le _, Nat.zero_le _⟩ d_TR_next_17 (fun H locs hP hS => ?_)
        refine lv_istore_n hx hb d_TR_next_20 rfl hl (by decide) rfl (fun ls hl => ?_)
        have hl : lv_has ls 4 [(2, .int r32), (0, .ref (x.2.1 13)), (1, .ref (x.2.1 5)), (3, .int v28)] := hl
        refine lv_aload_n hx hb d_TR_next_21 rfl (lv_at hl 2 rfl) ?_
        refine lv_iload_n hx hb d_TR_next_22 rfl (lv_at hl 0 rfl) ?_
        obtain ⟨r35, M33, c34, h⟩ := bi_e h
        refine cl_TR_96 (rest := []) (R := r_TR_next) (c_ST_isFavoured l x hJ r32 c34) hx hb hml hts hown hK hZ hP hS hl.1 (Nat.le_of_ble_eq_true rfl) (Nat.le_of_ble_eq_true rfl) (Nat.le_of_ble_eq_true rfl) ⟨rfl, rfl, Nat.zero_le _, Nat.zero_le _⟩ d_TR_next_23 (fun H locs hP hS => ?_)
        refine lv_if_ne (tgt := 41) hx hb d_TR_next_26 rfl (fun hc => ?_) (fun hc => ?_)
        · have h := if_m hc h
          refine lv_iload_n hx hb d_TR_next_41 rfl (lv_at hl 0 rfl) ?_
          obtain rfl := Option.some.inj h
          exact hret d_TR_next_42 g hP hS
        · have h := if_p hc h
          refine lv_aload_n hx hb d_TR_next_29 rfl (lv_at hl 2 rfl) ?_
          refine gf_TR_25 hx hb hts hown hK hP d_TR_next_30 ?_
          refine lv_iload_n hx hb d_TR_next_33 rfl (lv_at hl 0 rfl) ?_
          obtain ⟨b36, h⟩ := ck_e h
          refine m_aaE hx hb hK hP b36 d_TR_next_34 ?_
          refine gf_TR_80 hx hb hts hown hK hP (kd_en_at b36) d_TR_next_35 ?_
          refine lv_if_ne (tgt := 43) hx hb d_TR_next_38 rfl (fun hc => ?_) (fun hc => ?_)
          · have h := if_m hc h
            obtain ⟨v37, ev37, h⟩ := nx_e h
            refine lv_iinc (k := 3) hx hb d_TR_next_43 hl rfl (iinc_v (k := (1 : Int32)) (by decide) ev37) (by decide) rfl (fun ls hl => ?_)
            have hl : lv_has ls 4 [(3, .int v37), (2, .int r32), (0, .ref (x.2.1 13)), (1, .ref (x.2.1 5))] := hl
            refine lv_goto (tgt := 7) hx hb d_TR_next_46 rfl ?_
            obtain rfl := Option.some.inj h
            have g : P7 (r32, v37, M33) := g
            rw [eP7] at g
            exact g H locs ls hP hS (lv_sub hl [2, 3, 1, 0] rfl)
          · have h := if_p hc h
            refine lv_iload_n hx hb d_TR_next_41 rfl (lv_at hl 0 rfl) ?_
            obtain rfl := Option.some.inj h
            exact hret d_TR_next_42 g hP hS
    rw [eP7] at L7
    exact L7 H locs ls hP hS (lv_sub hl [2, 3, 1, 0] rfl)
  rw [eH] at key
  exact key
theorem d_TR_advance_0 : decode b_TR_advance 0 = .ok (.aload_n 1, 1) := by decide +kernel
theorem d_TR_advance_1 : decode b_TR_advance 1 = .ok (.aload_n 0, 1) := by decide +kernel
theorem d_TR_advance_2 : decode b_TR_advance 2 = .ok (.getfield 9, 3) := by decide +kernel
theorem d_TR_advance_5 : decode b_TR_advance 5 = .ok (.invokevirtual 15, 3) := by decide +kernel
theorem d_TR_advance_8 : decode b_TR_advance 8 = .ok (.ifCond .ne 4, 3) := by decide +kernel
theorem d_TR_advance_11 : decode b_TR_advance 11 = .ok (.return_, 1) := by decide +kernel
theorem d_TR_advance_12 : decode b_TR_advance 12 = .ok (.aload_n 0, 1) := by decide +kernel
theorem d_TR_advance_13 : decode b_TR_advance 13 = .ok (.dup, 1) := by decide +kernel
theorem d_TR_advance_14 : decode b_TR_advance 14 = .ok (.getfield 48, 3) := by decide +kernel
theorem d_TR_advance_17 : decode b_TR_advance 17 = .ok (.iconst 1, 1) := by decide +kernel
theorem d_TR_advance_18 : decode b_TR_advance 18 = .ok (.iadd, 1) := by decide +kernel
theorem d_TR_advance_19 : decode b_TR_advance 19 = .ok (.putfield 48, 3) := by decide +kernel
theorem d_TR_advance_22 : decode b_TR_advance 22 = .ok (.aload_n 1, 1) := by decide +kernel
theorem d_TR_advance_23 : decode b_TR_advance 23 = .ok (.getfield 25, 3) := by decide +kernel
theorem d_TR_advance_26 : decode b_TR_advance 26 = .ok (.aload_n 0, 1) := by decide +kernel
theorem d_TR_advance_27 : decode b_TR_advance 27 = .ok (.getfield 9, 3) := by decide +kernel
theorem d_TR_advance_30 : decode b_TR_advance 30 = .ok (.aaload, 1) := by decide +kernel
theorem d_TR_advance_31 : decode b_TR_advance 31 = .ok (.getfield 29, 3) := by decide +kernel
theorem d_TR_advance_34 : decode b_TR_advance 34 = .ok (.invokestatic 44, 3) := by decide +kernel
theorem d_TR_advance_37 : decode b_TR_advance 37 = .ok (.aload_n 0, 1) := by decide +kernel
theorem d_TR_advance_38 : decode b_TR_advance 38 = .ok (.getfield 68, 3) := by decide +kernel
theorem d_TR_advance_41 : decode b_TR_advance 41 = .ok (.iadd, 1) := by decide +kernel
theorem d_TR_advance_42 : decode b_TR_advance 42 = .ok (.istore_n 2, 1) := by decide +kernel
theorem d_TR_advance_43 : decode b_TR_advance 43 = .ok (.aload_n 0, 1) := by decide +kernel
theorem d_TR_advance_44 : decode b_TR_advance 44 = .ok (.getfield 48, 3) := by decide +kernel
theorem d_TR_advance_47 : decode b_TR_advance 47 = .ok (.iload_n 2, 1) := by decide +kernel
theorem d_TR_advance_48 : decode b_TR_advance 48 = .ok (.if_icmp .lt 19, 3) := by decide +kernel
theorem d_TR_advance_51 : decode b_TR_advance 51 = .ok (.aload_n 0, 1) := by decide +kernel
theorem d_TR_advance_52 : decode b_TR_advance 52 = .ok (.getfield 48, 3) := by decide +kernel
theorem d_TR_advance_55 : decode b_TR_advance 55 = .ok (.iload_n 2, 1) := by decide +kernel
theorem d_TR_advance_56 : decode b_TR_advance 56 = .ok (.if_icmp .ne 12, 3) := by decide +kernel
theorem d_TR_advance_59 : decode b_TR_advance 59 = .ok (.aload_n 1, 1) := by decide +kernel
theorem d_TR_advance_60 : decode b_TR_advance 60 = .ok (.getfield 79, 3) := by decide +kernel
theorem d_TR_advance_63 : decode b_TR_advance 63 = .ok (.iconst 2, 1) := by decide +kernel
theorem d_TR_advance_64 : decode b_TR_advance 64 = .ok (.if_icmp .lt 4, 3) := by decide +kernel
theorem d_TR_advance_67 : decode b_TR_advance 67 = .ok (.return_, 1) := by decide +kernel
theorem d_TR_advance_68 : decode b_TR_advance 68 = .ok (.aload_n 1, 1) := by decide +kernel
theorem d_TR_advance_69 : decode b_TR_advance 69 = .ok (.getfield 25, 3) := by decide +kernel
theorem d_TR_advance_72 : decode b_TR_advance 72 = .ok (.aload_n 0, 1) := by decide +kernel
theorem d_TR_advance_73 : decode b_TR_advance 73 = .ok (.getfield 9, 3) := by decide +kernel
theorem d_TR_advance_76 : decode b_TR_advance 76 = .ok (.aaload, 1) := by decide +kernel
theorem d_TR_advance_77 : decode b_TR_advance 77 = .ok (.dup, 1) := by decide +kernel
theorem d_TR_advance_78 : decode b_TR_advance 78 = .ok (.getfield 80, 3) := by decide +kernel
theorem d_TR_advance_81 : decode b_TR_advance 81 = .ok (.iconst 1, 1) := by decide +kernel
theorem d_TR_advance_82 : decode b_TR_advance 82 = .ok (.iadd, 1) := by decide +kernel
theorem d_TR_advance_83 : decode b_TR_advance 83 = .ok (.putfield 80, 3) := by decide +kernel
theorem d_TR_advance_86 : decode b_TR_advance 86 = .ok (.aload_n 0, 1) := by decide +kernel
theorem d_TR_advance_87 : decode b_TR_advance 87 = .ok (.aload_n 1, 1) := by decide +kernel
theorem d_TR_advance_88 : decode b_TR_advance 88 = .ok (.aload_n 0, 1) := by decide +kernel
theorem d_TR_advance_89 : decode b_TR_advance 89 = .ok (.aload_n 1, 1) := by decide +kernel
theorem d_TR_advance_90 : decode b_TR_advance 90 = .ok (.invokevirtual 83, 3) := by decide +kernel
theorem d_TR_advance_93 : decode b_TR_advance 93 = .ok (.invokevirtual 21, 3) := by decide +kernel
theorem d_TR_advance_96 : decode b_TR_advance 96 = .ok (.return_, 1) := by decide +kernel
noncomputable def j_TR_advance_68  (M21 : Mem) : Option (Mem) :=
  ck (M21 13 0) 16 (nx (st M21 (122 + (M21 13 0).toNatClampNeg) 3 ((M21 (122 + (M21 13 0).toNatClampNeg) 3) + (1 : Int32))) (fun M23 => bi (s_TR_next M23) (fun r26 M24 => bv (s_TR_takeUp r26 M24) (fun M27 => some M27))))
noncomputable def s_TR_advance  (M : Mem) : Option (Mem) :=
  bi (s_ST_has (M 13 0) M) (fun r31 M29 => if r31 = 0 then (some M29) else (nx (st M29 13 1 ((M29 13 1) + (1 : Int32))) (fun M32 => ck (M32 13 0) 16 (bi (s_TR_firstDrawing (2 * (122 + (M32 13 0).toNatClampNeg) - 186) M32) (fun r36 M34 => nx (r36 + (M34 13 2)) (fun v37 => if (M34 13 1) < v37 then (some M34) else (if (M34 13 1) = v37 then (if (M34 5 3) < (2 : Int32) then (j_TR_advance_68 M34) else (some M34)) else (j_TR_advance_68 M34))))))))
set_option maxHeartbeats 4000000 in
set_option maxRecDepth 100000 in
theorem c_TR_advance (l : Launch) (x : Cx) (hJ : Inj x)  {M : Mem} {out : Mem} (h : s_TR_advance M = some out) : Cv l x y_TR_advance (Cond.code y_TR_advance b_TR_advance 3 none :: tb) r_TR_advance [.ref (x.2.1 13), .ref (x.2.1 5)] M out := by
  refine ofCv (cc := b_TR_advance) (maxL := 3) (by decide) rfl (rfl) (Nat.le_of_ble_eq_true rfl) ?_
  intro p e s m args below meth c Q G0 ls g hx hb hml hown hts hK hZ hP hS hl hret
  have hown : s.vm.findClass R_TR = some m.cls := hown
  have hl : lv_has ls 3 [(0, .ref (x.2.1 13)), (1, .ref (x.2.1 5))] := hl
  obtain ⟨H, eH⟩ : ∃ z, z = s.heap := ⟨_, rfl⟩
  obtain ⟨locs, eL⟩ : ∃ z, z = ([] : List Loc) := ⟨_, rfl⟩
  rw [← eH] at hP
  have hS : va_S (A0 x) s.heap H locs := by rw [eH, eL]; exact hS
  rw [← eL]
  have key : W p l e r_TR_advance s m args below meth c H locs 0 0 Q (F0 m 0 ls []) := by
    clear eH eL
    unfold s_TR_advance at h
    have J68 : ∀  (M21 : Mem)  (res : Mem) (h : j_TR_advance_68 M21 = some res) (g : G0 res) (H : Heap) (locs : List Loc) (ls : Array Slot) (hP : va_P x.1 vwCl (wld x M21) H) (hS : va_S (A0 x) s.heap H locs) (hl : lv_has ls 3 [(0, .ref (x.2.1 13)), (1, .ref (x.2.1 5))]), W p l e r_TR_advance s m args below meth c H locs 0 0 Q (F0 m 68 ls []) := by
      intro M21 res h g H locs ls hP hS hl
      unfold j_TR_advance_68 at h
      refine lv_aload_n hx hb d_TR_advance_68 rfl (lv_at hl 1 rfl) ?_
      refine gf_TR_25 hx hb hts hown hK hP d_TR_advance_69 ?_
      refine lv_aload_n hx hb d_TR_advance_72 rfl (lv_at hl 0 rfl) ?_
      refine gf_TR_9 hx hb hts hown hK hP d_TR_advance_73 ?_
      obtain ⟨b22, h⟩ := ck_e h
      refine m_aaE hx hb hK hP b22 d_TR_advance_76 ?_
      refine lv_dup hx hb d_TR_advance_77 rfl ?_
      refine gf_TR_80 hx hb hts hown hK hP (kd_en_at b22) d_TR_advance_78 ?_
      refine lv_iconst (v := (1 : Int32)) hx hb d_TR_advance_81 (by decide) ?_
      refine lv_iadd hx hb d_TR_advance_82 ?_
      obtain ⟨M23, eM23, h⟩ := nx_e h
      refine pf_TR_80 hx hb hts hown hK hJ hP hS (kd_en_at b22) eM23 d_TR_advance_83 (fun H locs hP hS => ?_)
      refine lv_aload_n hx hb d_TR_advance_86 rfl (lv_at hl 0 rfl) ?_
      refine lv_aload_n hx hb d_TR_advance_87 rfl (lv_at hl 1 rfl) ?_
      refine lv_aload_n hx hb d_TR_advance_88 rfl (lv_at hl 0 rfl) ?_
      refine lv_aload_n hx hb d_TR_advance_89 rfl (lv_at hl 1 rfl) ?_
      obtain ⟨r26, M24, c25, h⟩ := bi_e h
      refine cl_TR_83 (rest := [.ref (x.2.1 5), .ref (x.2.1 13)]) (R := r_TR_advance) (c_TR_next l x hJ c25) hx hb hml hts hown hK hZ hP hS hl.1 (Nat.le_of_ble_eq_true rfl) (Nat.le_of_ble_eq_true rfl) (Nat.le_of_ble_eq_true rfl) ⟨rfl, rfl, Nat.zero_le _, Nat.zero_le _⟩ d_TR_advance_90 (fun H locs hP hS => ?_)
      obtain ⟨M27, c28, h⟩ := bv_e h
      refine cl_TR_21 (rest := []) (R := r_TR_advance) (c_TR_takeUp l x hJ r26 c28) hx hb hml hts hown hK hZ hP hS hl.1 (Nat.le_of_ble_eq_true rfl) (Nat.le_of_ble_eq_true rfl) (Nat.le_of_ble_eq_true rfl) ⟨rfl, rfl, Nat.zero_le _, Nat.zero_le _⟩ d_TR_advance_93 (fun H locs hP hS => ?_)
      obtain rfl := Option.some.inj h
      exact hret d_TR_advance_96 g hP hS
    refine lv_aload_n hx hb d_TR_advance_0 rfl (lv_at hl 1 rfl) ?_
    refine lv_aload_n hx hb d_TR_advance_1 rfl (lv_at hl 0 rfl) ?_
    refine gf_TR_9 hx hb hts hown hK hP d_TR_advance_2 ?_
    obtain ⟨r31, M29, c30, h⟩ := bi_e h
    refine cl_TR_15 (rest := []) (R := r_TR_advance) (c_ST_has l x hJ (M 13 0) c30) hx hb hml hts hown hK hZ hP hS hl.1 (Nat.le_of_ble_eq_true rfl) (Nat.le_of_ble_eq_true rfl) (Nat.le_of_ble_eq_true rfl) ⟨rfl, rfl, Nat.zero_le _, Nat.zero_le _⟩ d_TR_advance_5 (fun H locs hP hS => ?_)
    refine lv_if_ne (tgt := 12) hx hb d_TR_advance_8 rfl (fun hc => ?_) (fun hc => ?_)
    · have h := if_m hc h
      refine lv_aload_n hx hb d_TR_advance_12 rfl (lv_at hl 0 rfl) ?_
      refine lv_dup hx hb d_TR_advance_13 rfl ?_
      refine gf_TR_48 hx hb hts hown hK hP d_TR_advance_14 ?_
      refine lv_iconst (v := (1 : Int32)) hx hb d_TR_advance_17 (by decide) ?_
      refine lv_iadd hx hb d_TR_advance_18 ?_
      obtain ⟨M32, eM32, h⟩ := nx_e h
      refine pf_TR_48 hx hb hts hown hK hJ hP hS eM32 d_TR_advance_19 (fun H locs hP hS => ?_)
      refine lv_aload_n hx hb d_TR_advance_22 rfl (lv_at hl 1 rfl) ?_
      refine gf_TR_25 hx hb hts hown hK hP d_TR_advance_23 ?_
      refine lv_aload_n hx hb d_TR_advance_26 rfl (lv_at hl 0 rfl) ?_
      refine gf_TR_9 hx hb hts hown hK hP d_TR_advance_27 ?_
      obtain ⟨b33, h⟩ := ck_e h
      refine m_aaE hx hb hK hP b33 d_TR_advance_30 ?_
      refine gf_TR_29 hx hb hts hown hK hP (kd_en_at b33) d_TR_advance_31 ?_
      obtain ⟨r36, M34, c35, h⟩ := bi_e h
      refine cl_TR_44 (rest := []) (R := r_TR_advance) (c_TR_firstDrawing l x hJ (2 * (122 + (M32 13 0).toNatClampNeg) - 186) (kd_EN_input (kd_en_at b33)) c35) hx hb hml hts hown hK hZ hP hS hl.1 (Nat.le_of_ble_eq_true rfl) (Nat.le_of_ble_eq_true rfl) (Nat.le_of_ble_eq_true rfl) ⟨rfl, rfl, Nat.zero_le _, Nat.zero_le _⟩ d_TR_advance_34 (fun H locs hP hS => ?_)
      refine lv_aload_n hx hb d_TR_advance_37 rfl (lv_at hl 0 rfl) ?_
      refine gf_TR_68 hx hb hts hown hK hP d_TR_advance_38 ?_
      refine lv_iadd hx hb d_TR_advance_41 ?_
      obtain ⟨v37, ev37, h⟩ := nx_e h
      refine tp_i ev37 ?_
      refine lv_istore_n hx hb d_TR_advance_42 rfl hl (by decide) rfl (fun ls hl => ?_)
      have hl : lv_has ls 3 [(2, .int v37), (0, .ref (x.2.1 13)), (1, .ref (x.2.1 5))] := hl
      refine lv_aload_n hx hb d_TR_advance_43 rfl (lv_at hl 1 rfl) ?_
      refine gf_TR_48 hx hb hts hown hK hP d_TR_advance_44 ?_
      refine lv_iload_n hx hb d_TR_advance_47 rfl (lv_at hl 0 rfl) ?_
      refine lv_icmp_lt (tgt := 67) hx hb d_TR_advance_48 rfl (fun hc => ?_) (fun hc => ?_)
      · have h := if_p hc h
        obtain rfl := Option.some.inj h
        exact hret d_TR_advance_67 g hP hS
      · have h := if_m hc h
        refine lv_aload_n hx hb d_TR_advance_51 rfl (lv_at hl 1 rfl) ?_
        refine gf_TR_48 hx hb hts hown hK hP d_TR_advance_52 ?_
        refine lv_iload_n hx hb d_TR_advance_55 rfl (lv_at hl 0 rfl) ?_
        refine lv_icmp_ne (tgt := 68) hx hb d_TR_advance_56 rfl (fun hc => ?_) (fun hc => ?_)
        · have h := if_m hc h
          exact J68 M34 _ h g H locs ls hP hS (lv_sub hl [1, 2] rfl)
        · have h := if_p hc h
          refine lv_aload_n hx hb d_TR_advance_59 rfl (lv_at hl 2 rfl) ?_
          refine gf_TR_79 hx hb hts hown hK hP d_TR_advance_60 ?_
          refine lv_iconst (v := (2 : Int32)) hx hb d_TR_advance_63 (by decide) ?_
          refine lv_icmp_lt (tgt := 68) hx hb d_TR_advance_64 rfl (fun hc => ?_) (fun hc => ?_)
          · have h := if_p hc h
            exact J68 M34 _ h g H locs ls hP hS (lv_sub hl [1, 2] rfl)
          · have h := if_m hc h
            obtain rfl := Option.some.inj h
            exact hret d_TR_advance_67 g hP hS
    · have h := if_p hc h
      obtain rfl := Option.some.inj h
      exact hret d_TR_advance_11 g hP hS
  rw [eH] at key
  exact key
