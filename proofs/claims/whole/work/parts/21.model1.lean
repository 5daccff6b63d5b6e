theorem d_MO_step_0 : decode b_MO_step 0 = .ok (.aload_n 0, 1) := by decide +kernel
theorem d_MO_step_1 : decode b_MO_step 1 = .ok (.aload_n 0, 1) := by decide +kernel
theorem d_MO_step_2 : decode b_MO_step 2 = .ok (.getfield 108, 3) := by decide +kernel
theorem d_MO_step_5 : decode b_MO_step 5 = .ok (.putfield 120, 3) := by decide +kernel
theorem d_MO_step_8 : decode b_MO_step 8 = .ok (.aload_n 0, 1) := by decide +kernel
theorem d_MO_step_9 : decode b_MO_step 9 = .ok (.aload_n 0, 1) := by decide +kernel
theorem d_MO_step_10 : decode b_MO_step 10 = .ok (.getfield 120, 3) := by decide +kernel
theorem d_MO_step_13 : decode b_MO_step 13 = .ok (.iconst 1, 1) := by decide +kernel
theorem d_MO_step_14 : decode b_MO_step 14 = .ok (.iadd, 1) := by decide +kernel
theorem d_MO_step_15 : decode b_MO_step 15 = .ok (.putfield 108, 3) := by decide +kernel
theorem d_MO_step_18 : decode b_MO_step 18 = .ok (.aload_n 0, 1) := by decide +kernel
theorem d_MO_step_19 : decode b_MO_step 19 = .ok (.dup, 1) := by decide +kernel
theorem d_MO_step_20 : decode b_MO_step 20 = .ok (.getfield 111, 3) := by decide +kernel
theorem d_MO_step_23 : decode b_MO_step 23 = .ok (.iconst 1, 1) := by decide +kernel
theorem d_MO_step_24 : decode b_MO_step 24 = .ok (.iadd, 1) := by decide +kernel
theorem d_MO_step_25 : decode b_MO_step 25 = .ok (.putfield 111, 3) := by decide +kernel
theorem d_MO_step_28 : decode b_MO_step 28 = .ok (.aload_n 0, 1) := by decide +kernel
theorem d_MO_step_29 : decode b_MO_step 29 = .ok (.getfield 7, 3) := by decide +kernel
theorem d_MO_step_32 : decode b_MO_step 32 = .ok (.aload_n 0, 1) := by decide +kernel
theorem d_MO_step_33 : decode b_MO_step 33 = .ok (.getfield 120, 3) := by decide +kernel
theorem d_MO_step_36 : decode b_MO_step 36 = .ok (.iaload, 1) := by decide +kernel
theorem d_MO_step_37 : decode b_MO_step 37 = .ok (.istore_n 1, 1) := by decide +kernel
theorem d_MO_step_38 : decode b_MO_step 38 = .ok (.aload_n 0, 1) := by decide +kernel
theorem d_MO_step_39 : decode b_MO_step 39 = .ok (.getfield 13, 3) := by decide +kernel
theorem d_MO_step_42 : decode b_MO_step 42 = .ok (.aload_n 0, 1) := by decide +kernel
theorem d_MO_step_43 : decode b_MO_step 43 = .ok (.getfield 120, 3) := by decide +kernel
theorem d_MO_step_46 : decode b_MO_step 46 = .ok (.iaload, 1) := by decide +kernel
theorem d_MO_step_47 : decode b_MO_step 47 = .ok (.istore_n 2, 1) := by decide +kernel
theorem d_MO_step_48 : decode b_MO_step 48 = .ok (.aload_n 0, 1) := by decide +kernel
theorem d_MO_step_49 : decode b_MO_step 49 = .ok (.getfield 16, 3) := by decide +kernel
theorem d_MO_step_52 : decode b_MO_step 52 = .ok (.aload_n 0, 1) := by decide +kernel
theorem d_MO_step_53 : decode b_MO_step 53 = .ok (.getfield 120, 3) := by decide +kernel
theorem d_MO_step_56 : decode b_MO_step 56 = .ok (.iaload, 1) := by decide +kernel
theorem d_MO_step_57 : decode b_MO_step 57 = .ok (.istore_n 3, 1) := by decide +kernel
theorem d_MO_step_58 : decode b_MO_step 58 = .ok (.iload_n 1, 1) := by decide +kernel
theorem d_MO_step_59 : decode b_MO_step 59 = .ok (.bipush 6, 2) := by decide +kernel
theorem d_MO_step_61 : decode b_MO_step 61 = .ok (.if_icmp .lt 58, 3) := by decide +kernel
theorem d_MO_step_64 : decode b_MO_step 64 = .ok (.iload_n 1, 1) := by decide +kernel
theorem d_MO_step_65 : decode b_MO_step 65 = .ok (.bipush 10, 2) := by decide +kernel
theorem d_MO_step_67 : decode b_MO_step 67 = .ok (.if_icmp .gt 52, 3) := by decide +kernel
theorem d_MO_step_70 : decode b_MO_step 70 = .ok (.aload_n 0, 1) := by decide +kernel
theorem d_MO_step_71 : decode b_MO_step 71 = .ok (.iload_n 1, 1) := by decide +kernel
theorem d_MO_step_72 : decode b_MO_step 72 = .ok (.iload_n 2, 1) := by decide +kernel
theorem d_MO_step_73 : decode b_MO_step 73 = .ok (.iload_n 3, 1) := by decide +kernel
theorem d_MO_step_74 : decode b_MO_step 74 = .ok (.invokevirtual 123, 3) := by decide +kernel
theorem d_MO_step_77 : decode b_MO_step 77 = .ok (.aload_n 0, 1) := by decide +kernel
theorem d_MO_step_78 : decode b_MO_step 78 = .ok (.getfield 114, 3) := by decide +kernel
theorem d_MO_step_81 : decode b_MO_step 81 = .ok (.ifCond .ge 45, 3) := by decide +kernel
theorem d_MO_step_84 : decode b_MO_step 84 = .ok (.aload_n 0, 1) := by decide +kernel
theorem d_MO_step_85 : decode b_MO_step 85 = .ok (.getfield 108, 3) := by decide +kernel
theorem d_MO_step_88 : decode b_MO_step 88 = .ok (.aload_n 0, 1) := by decide +kernel
theorem d_MO_step_89 : decode b_MO_step 89 = .ok (.getfield 96, 3) := by decide +kernel
theorem d_MO_step_92 : decode b_MO_step 92 = .ok (.if_icmp .ge 34, 3) := by decide +kernel
theorem d_MO_step_95 : decode b_MO_step 95 = .ok (.aload_n 0, 1) := by decide +kernel
theorem d_MO_step_96 : decode b_MO_step 96 = .ok (.getfield 34, 3) := by decide +kernel
theorem d_MO_step_99 : decode b_MO_step 99 = .ok (.bipush 24, 2) := by decide +kernel
theorem d_MO_step_101 : decode b_MO_step 101 = .ok (.aload_n 0, 1) := by decide +kernel
theorem d_MO_step_102 : decode b_MO_step 102 = .ok (.getfield 120, 3) := by decide +kernel
theorem d_MO_step_105 : decode b_MO_step 105 = .ok (.imul, 1) := by decide +kernel
theorem d_MO_step_106 : decode b_MO_step 106 = .ok (.aload_n 0, 1) := by decide +kernel
theorem d_MO_step_107 : decode b_MO_step 107 = .ok (.getfield 108, 3) := by decide +kernel
theorem d_MO_step_110 : decode b_MO_step 110 = .ok (.iadd, 1) := by decide +kernel
theorem d_MO_step_111 : decode b_MO_step 111 = .ok (.dup2, 1) := by decide +kernel
theorem d_MO_step_112 : decode b_MO_step 112 = .ok (.iaload, 1) := by decide +kernel
theorem d_MO_step_113 : decode b_MO_step 113 = .ok (.iconst 1, 1) := by decide +kernel
theorem d_MO_step_114 : decode b_MO_step 114 = .ok (.iadd, 1) := by decide +kernel
theorem d_MO_step_115 : decode b_MO_step 115 = .ok (.iastore, 1) := by decide +kernel
theorem d_MO_step_116 : decode b_MO_step 116 = .ok (.goto 10, 3) := by decide +kernel
theorem d_MO_step_119 : decode b_MO_step 119 = .ok (.aload_n 0, 1) := by decide +kernel
theorem d_MO_step_120 : decode b_MO_step 120 = .ok (.iload_n 1, 1) := by decide +kernel
theorem d_MO_step_121 : decode b_MO_step 121 = .ok (.iload_n 2, 1) := by decide +kernel
theorem d_MO_step_122 : decode b_MO_step 122 = .ok (.iload_n 3, 1) := by decide +kernel
theorem d_MO_step_123 : decode b_MO_step 123 = .ok (.invokevirtual 127, 3) := by decide +kernel
theorem d_MO_step_126 : decode b_MO_step 126 = .ok (.return_, 1) := by decide +kernel
noncomputable def j_MO_step_119 (a21 : Int32) (a22 : Int32) (a23 : Int32) (M24 : Mem) : Option (Mem) :=
  bv (s_MO_work a21 a22 a23 M24) (fun M25 => some M25)
noncomputable def s_MO_step  (M : Mem) : Option (Mem) :=
  nx (st M 26 14 (M 26 13)) (fun M27 => nx (st M27 26 13 ((M27 26 14) + (1 : Int32))) (fun M28 => nx (st M28 26 15 ((M28 26 15) + (1 : Int32))) (fun M29 => ck (M29 26 14) 24 (nx (M29 27 (M29 26 14).toNatClampNeg) (fun v31 => ck (M29 26 14) 24 (nx (M29 28 (M29 26 14).toNatClampNeg) (fun v33 => ck (M29 26 14) 24 (nx (M29 29 (M29 26 14).toNatClampNeg) (fun v35 => if v31 < (6 : Int32) then (j_MO_step_119 v31 v33 v35 M29) else (if (10 : Int32) < v31 then (j_MO_step_119 v31 v33 v35 M29) else (bv (s_MO_jump v31 v33 v35 M29) (fun M36 => if 0 ≤ (M36 26 16) then (some M36) else (if (M36 26 0) ≤ (M36 26 13) then (some M36) else (ck (((24 : Int32) * (M36 26 14)) + (M36 26 13)) 576 (ck (((24 : Int32) * (M36 26 14)) + (M36 26 13)) 576 (nx (st M36 35 (((24 : Int32) * (M36 26 14)) + (M36 26 13)).toNatClampNeg ((M36 35 (((24 : Int32) * (M36 26 14)) + (M36 26 13)).toNatClampNeg) + (1 : Int32))) (fun M40 => some M40)))))))))))))))))
set_option maxHeartbeats 4000000 in
set_option maxRecDepth 100000 in
theorem c_MO_step (l : Launch) (x : Cx) (hJ : Inj x)  {M : Mem} {out : Mem} (h : s_MO_step M = some out) : Cv l x y_MO_step (Cond.code y_MO_step b_MO_step 4 none :: tb) r_MO_step [.ref (x.2.1 26)] M out := by
  refine ofCv (cc := b_MO_step) (maxL := 4) (by decide) rfl (rfl) (Nat.le_of_ble_eq_true rfl) ?_
  intro p e s m args below meth c Q G0 ls g hx hb hml hown hts hK hZ hP hS hl hret
  have hown : s.vm.findClass R_MO = some m.cls := hown
  have hl : lv_has ls 4 [(0, .ref (x.2.1 26))] := hl
  obtain ⟨H, eH⟩ : ∃ z, z = s.heap := ⟨_, rfl⟩
  obtain ⟨locs, eL⟩ : ∃ z, z = ([] : List Loc) := ⟨_, rfl⟩
  rw [← eH] at hP
  have hS : va_S (A0 x) s.heap H locs := by rw [eH, eL]; exact hS
  rw [← eL]
  have key : W p l e r_MO_step s m args below meth c H locs 0 0 Q (F0 m 0 ls []) := by
    clear eH eL
    unfold s_MO_step at h
    have J119 : ∀ (a21 : Int32) (a22 : Int32) (a23 : Int32) (M24 : Mem)  (res : Mem) (h : j_MO_step_119 a21 a22 a23 M24 = some res) (g : G0 res) (H : Heap) (locs : List Loc) (ls : Array Slot) (hP : va_P x.1 vwCl (wld x M24) H) (hS : va_S (A0 x) s.heap H locs) (hl : lv_has ls 4 [(0, .ref (x.2.1 26)), (1, .int a21), (2, .int a22), (3, .int a23)]), W p l e r_MO_step s m args below meth c H locs 0 0 Q (F0 m 119 ls []) := by
      intro a21 a22 a23 M24 res h g H locs ls hP hS hl
      unfold j_MO_step_119 at h
      refine lv_aload_n hx hb d_MO_step_119 rfl (lv_at hl 0 rfl) ?_
      refine lv_iload_n hx hb d_MO_step_120 rfl (lv_at hl 1 rfl) ?_
      refine lv_iload_n hx hb d_MO_step_121 rfl (lv_at hl 2 rfl) ?_
      refine lv_iload_n hx hb d_MO_step_122 rfl (lv_at hl 3 rfl) ?_
      obtain ⟨M25, c26, h⟩ := bv_e h
      refine cl_MO_127 (rest := []) (R := r_MO_step) (c_MO_work l x hJ a21 a22 a23 c26) hx hb hml hts hown hK hZ hP hS hl.1 (Nat.le_of_ble_eq_true rfl) (Nat.le_of_ble_eq_true rfl) (Nat.le_of_ble_eq_true rfl) ⟨rfl, rfl, Nat.zero_le _, Nat.zero_le _⟩ d_MO_step_123 (fun H locs hP hS => ?_)
      obtain rfl := Option.some.inj h
      exact hret d_MO_step_126 g hP hS
    refine lv_aload_n hx hb d_MO_step_0 rfl (lv_at hl 0 rfl) ?_
    refine lv_aload_n hx hb d_MO_step_1 rfl (lv_at hl 0 rfl) ?_
    refine gf_MO_108 hx hb hts hown hK hP d_MO_step_2 ?_
    obtain ⟨M27, eM27, h⟩ := nx_e h
    refine pf_MO_120 hx hb hts hown hK hJ hP hS eM27 d_MO_step_5 (fun H locs hP hS => ?_)
    refine lv_aload_n hx hb d_MO_step_8 rfl (lv_at hl 0 rfl) ?_
    refine lv_aload_n hx hb d_MO_step_9 rfl (lv_at hl 0 rfl) ?_
    refine gf_MO_120 hx hb hts hown hK hP d_MO_step_10 ?_
    refine lv_iconst (v := (1 : Int32)) hx hb d_MO_step_13 (by decide) ?_
    refine lv_iadd hx hb d_MO_step_14 ?_
    obtain ⟨M28, eM28, h⟩ := nx_e h
    refine pf_MO_108 hx hb hts hown hK hJ hP hS eM28 d_MO_step_15 (fun H locs hP hS => ?_)
    refine lv_aload_n hx hb d_MO_step_18 rfl (lv_at hl 0 rfl) ?_
    refine lv_dup hx hb d_MO_step_19 rfl ?_
    refine gf_MO_111 hx hb hts hown hK hP d_MO_step_20 ?_
    refine lv_iconst (v := (1 : Int32)) hx hb d_MO_step_23 (by decide) ?_
    refine lv_iadd hx hb d_MO_step_24 ?_
    obtain ⟨M29, eM29, h⟩ := nx_e h
    refine pf_MO_111 hx hb hts hown hK hJ hP hS eM29 d_MO_step_25 (fun H locs hP hS => ?_)
    refine lv_aload_n hx hb d_MO_step_28 rfl (lv_at hl 0 rfl) ?_
    refine gf_MO_7 hx hb hts hown hK hP d_MO_step_29 ?_
    refine lv_aload_n hx hb d_MO_step_32 rfl (lv_at hl 0 rfl) ?_
    refine gf_MO_120 hx hb hts hown hK hP d_MO_step_33 ?_
    obtain ⟨b30, h⟩ := ck_e h
    refine m_ald hx hb hK hP ar_MO_ops b30 d_MO_step_36 ?_
    obtain ⟨v31, ev31, h⟩ := nx_e h
    refine tp_i ev31 ?_
    refine lv_istore_n hx hb d_MO_step_37 rfl hl (by decide) rfl (fun ls hl => ?_)
    have hl : lv_has ls 4 [(1, .int v31), (0, .ref (x.2.1 26))] := hl
    refine lv_aload_n hx hb d_MO_step_38 rfl (lv_at hl 1 rfl) ?_
    refine gf_MO_13 hx hb hts hown hK hP d_MO_step_39 ?_
    refine lv_aload_n hx hb d_MO_step_42 rfl (lv_at hl 1 rfl) ?_
    refine gf_MO_120 hx hb hts hown hK hP d_MO_step_43 ?_
    obtain ⟨b32, h⟩ := ck_e h
    refine m_ald hx hb hK hP ar_MO_as b32 d_MO_step_46 ?_
    obtain ⟨v33, ev33, h⟩ := nx_e h
    refine tp_i ev33 ?_
    refine lv_istore_n hx hb d_MO_step_47 rfl hl (by decide) rfl (fun ls hl => ?_)
    have hl : lv_has ls 4 [(2, .int v33), (1, .int v31), (0, .ref (x.2.1 26))] := hl
    refine lv_aload_n hx hb d_MO_step_48 rfl (lv_at hl 2 rfl) ?_
    refine gf_MO_16 hx hb hts hown hK hP d_MO_step_49 ?_
    refine lv_aload_n hx hb d_MO_step_52 rfl (lv_at hl 2 rfl) ?_
    refine gf_MO_120 hx hb hts hown hK hP d_MO_step_53 ?_
    obtain ⟨b34, h⟩ := ck_e h
    refine m_ald hx hb hK hP ar_MO_bs b34 d_MO_step_56 ?_
    obtain ⟨v35, ev35, h⟩ := nx_e h
    refine tp_i ev35 ?_
    refine lv_istore_n hx hb d_MO_step_57 rfl hl (by decide) rfl (fun ls hl => ?_)
    have hl : lv_has ls 4 [(3, .int v35), (2, .int v33), (1, .int v31), (0, .ref (x.2.1 26))] := hl
    refine lv_iload_n hx hb d_MO_step_58 rfl (lv_at hl 2 rfl) ?_
    refine lv_bipush (v := (6 : Int32)) hx hb d_MO_step_59 (by decide) ?_
    refine lv_icmp_lt (tgt := 119) hx hb d_MO_step_61 rfl (fun hc => ?_) (fun hc => ?_)
    · have h := if_p hc h
      exact J119 v31 v33 v35 M29 _ h g H locs ls hP hS (lv_sub hl [3, 2, 1, 0] rfl)
    · have h := if_m hc h
      refine lv_iload_n hx hb d_MO_step_64 rfl (lv_at hl 2 rfl) ?_
      refine lv_bipush (v := (10 : Int32)) hx hb d_MO_step_65 (by decide) ?_
      refine lv_icmp_gt (tgt := 119) hx hb d_MO_step_67 rfl (fun hc => ?_) (fun hc => ?_)
      · have h := if_p hc h
        exact J119 v31 v33 v35 M29 _ h g H locs ls hP hS (lv_sub hl [3, 2, 1, 0] rfl)
      · have h := if_m hc h
        refine lv_aload_n hx hb d_MO_step_70 rfl (lv_at hl 3 rfl) ?_
        refine lv_iload_n hx hb d_MO_step_71 rfl (lv_at hl 2 rfl) ?_
        refine lv_iload_n hx hb d_MO_step_72 rfl (lv_at hl 1 rfl) ?_
        refine lv_iload_n hx hb d_MO_step_73 rfl (lv_at hl 0 rfl) ?_
        obtain ⟨M36, c37, h⟩ := bv_e h
        refine cl_MO_123 (rest := []) (R := r_MO_step) (c_MO_jump l x hJ v31 v33 v35 c37) hx hb hml hts hown hK hZ hP hS hl.1 (Nat.le_of_ble_eq_true rfl) (Nat.le_of_ble_eq_true rfl) (Nat.le_of_ble_eq_true rfl) ⟨rfl, rfl, Nat.zero_le _, Nat.zero_le _⟩ d_MO_step_74 (fun H locs hP hS => ?_)
        refine lv_aload_n hx hb d_MO_step_77 rfl (lv_at hl 3 rfl) ?_
        refine gf_MO_114 hx hb hts hown hK hP d_MO_step_78 ?_
        refine lv_if_ge (tgt := 126) hx hb d_MO_step_81 rfl (fun hc => ?_) (fun hc => ?_)
        · have h := if_p hc h
          obtain rfl := Option.some.inj h
          exact hret d_MO_step_126 g hP hS
        · have h := if_m hc h
          refine lv_aload_n hx hb d_MO_step_84 rfl (lv_at hl 3 rfl) ?_
          refine gf_MO_108 hx hb hts hown hK hP d_MO_step_85 ?_
          refine lv_aload_n hx hb d_MO_step_88 rfl (lv_at hl 3 rfl) ?_
          refine gf_MO_96 hx hb hts hown hK hP d_MO_step_89 ?_
          refine lv_icmp_ge (tgt := 126) hx hb d_MO_step_92 rfl (fun hc => ?_) (fun hc => ?_)
          · have h := if_p hc h
            obtain rfl := Option.some.inj h
            exact hret d_MO_step_126 g hP hS
          · have h := if_m hc h
            refine lv_aload_n hx hb d_MO_step_95 rfl (lv_at hl 3 rfl) ?_
            refine gf_MO_34 hx hb hts hown hK hP d_MO_step_96 ?_
            refine lv_bipush (v := (24 : Int32)) hx hb d_MO_step_99 (by decide) ?_
            refine lv_aload_n hx hb d_MO_step_101 rfl (lv_at hl 3 rfl) ?_
            refine gf_MO_120 hx hb hts hown hK hP d_MO_step_102 ?_
            refine lv_imul hx hb d_MO_step_105 ?_
            refine lv_aload_n hx hb d_MO_step_106 rfl (lv_at hl 3 rfl) ?_
            refine gf_MO_108 hx hb hts hown hK hP d_MO_step_107 ?_
            refine lv_iadd hx hb d_MO_step_110 ?_
            refine lv_dup2_11 hx hb d_MO_step_111 rfl rfl ?_
            obtain ⟨b38, h⟩ := ck_e h
            refine m_ald hx hb hK hP ar_MO_times b38 d_MO_step_112 ?_
            refine lv_iconst (v := (1 : Int32)) hx hb d_MO_step_113 (by decide) ?_
            refine lv_iadd hx hb d_MO_step_114 ?_
            obtain ⟨b39, h⟩ := ck_e h
            obtain ⟨M40, eM40, h⟩ := nx_e h
            refine m_ast hx hb hK hJ hP hS ar_MO_times b39 eM40 d_MO_step_115 (fun H locs hP hS => ?_)
            refine lv_goto (tgt := 126) hx hb d_MO_step_116 rfl ?_
            obtain rfl := Option.some.inj h
            exact hret d_MO_step_126 g hP hS
  rw [eH] at key
  exact key
theorem d_MO_run_0 : decode b_MO_run 0 = .ok (.iconst 0, 1) := by decide +kernel
theorem d_MO_run_1 : decode b_MO_run 1 = .ok (.istore_n 1, 1) := by decide +kernel
theorem d_MO_run_2 : decode b_MO_run 2 = .ok (.iload_n 1, 1) := by decide +kernel
theorem d_MO_run_3 : decode b_MO_run 3 = .ok (.sipush 576, 3) := by decide +kernel
theorem d_MO_run_6 : decode b_MO_run 6 = .ok (.if_icmp .ge 16, 3) := by decide +kernel
theorem d_MO_run_9 : decode b_MO_run 9 = .ok (.aload_n 0, 1) := by decide +kernel
theorem d_MO_run_10 : decode b_MO_run 10 = .ok (.getfield 34, 3) := by decide +kernel
theorem d_MO_run_13 : decode b_MO_run 13 = .ok (.iload_n 1, 1) := by decide +kernel
theorem d_MO_run_14 : decode b_MO_run 14 = .ok (.iconst 0, 1) := by decide +kernel
theorem d_MO_run_15 : decode b_MO_run 15 = .ok (.iastore, 1) := by decide +kernel
theorem d_MO_run_16 : decode b_MO_run 16 = .ok (.iinc 1 1, 3) := by decide +kernel
theorem d_MO_run_19 : decode b_MO_run 19 = .ok (.goto (-17), 3) := by decide +kernel
theorem d_MO_run_22 : decode b_MO_run 22 = .ok (.iconst 0, 1) := by decide +kernel
theorem d_MO_run_23 : decode b_MO_run 23 = .ok (.istore_n 1, 1) := by decide +kernel
theorem d_MO_run_24 : decode b_MO_run 24 = .ok (.iload_n 1, 1) := by decide +kernel
theorem d_MO_run_25 : decode b_MO_run 25 = .ok (.iconst 4, 1) := by decide +kernel
theorem d_MO_run_26 : decode b_MO_run 26 = .ok (.if_icmp .ge 23, 3) := by decide +kernel
theorem d_MO_run_29 : decode b_MO_run 29 = .ok (.aload_n 0, 1) := by decide +kernel
theorem d_MO_run_30 : decode b_MO_run 30 = .ok (.getfield 25, 3) := by decide +kernel
theorem d_MO_run_33 : decode b_MO_run 33 = .ok (.iload_n 1, 1) := by decide +kernel
theorem d_MO_run_34 : decode b_MO_run 34 = .ok (.iconst 0, 1) := by decide +kernel
theorem d_MO_run_35 : decode b_MO_run 35 = .ok (.iastore, 1) := by decide +kernel
theorem d_MO_run_36 : decode b_MO_run 36 = .ok (.aload_n 0, 1) := by decide +kernel
theorem d_MO_run_37 : decode b_MO_run 37 = .ok (.getfield 28, 3) := by decide +kernel
theorem d_MO_run_40 : decode b_MO_run 40 = .ok (.iload_n 1, 1) := by decide +kernel
theorem d_MO_run_41 : decode b_MO_run 41 = .ok (.iconst 0, 1) := by decide +kernel
theorem d_MO_run_42 : decode b_MO_run 42 = .ok (.iastore, 1) := by decide +kernel
theorem d_MO_run_43 : decode b_MO_run 43 = .ok (.iinc 1 1, 3) := by decide +kernel
theorem d_MO_run_46 : decode b_MO_run 46 = .ok (.goto (-22), 3) := by decide +kernel
theorem d_MO_run_49 : decode b_MO_run 49 = .ok (.aload_n 0, 1) := by decide +kernel
theorem d_MO_run_50 : decode b_MO_run 50 = .ok (.iconst 0, 1) := by decide +kernel
theorem d_MO_run_51 : decode b_MO_run 51 = .ok (.putfield 105, 3) := by decide +kernel
theorem d_MO_run_54 : decode b_MO_run 54 = .ok (.aload_n 0, 1) := by decide +kernel
theorem d_MO_run_55 : decode b_MO_run 55 = .ok (.iconst 0, 1) := by decide +kernel
theorem d_MO_run_56 : decode b_MO_run 56 = .ok (.putfield 108, 3) := by decide +kernel
theorem d_MO_run_59 : decode b_MO_run 59 = .ok (.aload_n 0, 1) := by decide +kernel
theorem d_MO_run_60 : decode b_MO_run 60 = .ok (.iconst 0, 1) := by decide +kernel
theorem d_MO_run_61 : decode b_MO_run 61 = .ok (.putfield 111, 3) := by decide +kernel
theorem d_MO_run_64 : decode b_MO_run 64 = .ok (.aload_n 0, 1) := by decide +kernel
theorem d_MO_run_65 : decode b_MO_run 65 = .ok (.iconst (-1), 1) := by decide +kernel
theorem d_MO_run_66 : decode b_MO_run 66 = .ok (.putfield 114, 3) := by decide +kernel
theorem d_MO_run_69 : decode b_MO_run 69 = .ok (.aload_n 0, 1) := by decide +kernel
theorem d_MO_run_70 : decode b_MO_run 70 = .ok (.getfield 114, 3) := by decide +kernel
theorem d_MO_run_73 : decode b_MO_run 73 = .ok (.ifCond .ge 46, 3) := by decide +kernel
theorem d_MO_run_76 : decode b_MO_run 76 = .ok (.aload_n 0, 1) := by decide +kernel
theorem d_MO_run_77 : decode b_MO_run 77 = .ok (.getfield 108, 3) := by decide +kernel
theorem d_MO_run_80 : decode b_MO_run 80 = .ok (.aload_n 0, 1) := by decide +kernel
theorem d_MO_run_81 : decode b_MO_run 81 = .ok (.getfield 96, 3) := by decide +kernel
theorem d_MO_run_84 : decode b_MO_run 84 = .ok (.if_icmp .lt 11, 3) := by decide +kernel
theorem d_MO_run_87 : decode b_MO_run 87 = .ok (.aload_n 0, 1) := by decide +kernel
theorem d_MO_run_88 : decode b_MO_run 88 = .ok (.iconst 0, 1) := by decide +kernel
theorem d_MO_run_89 : decode b_MO_run 89 = .ok (.putfield 114, 3) := by decide +kernel
theorem d_MO_run_92 : decode b_MO_run 92 = .ok (.goto (-23), 3) := by decide +kernel
theorem d_MO_run_95 : decode b_MO_run 95 = .ok (.aload_n 0, 1) := by decide +kernel
theorem d_MO_run_96 : decode b_MO_run 96 = .ok (.getfield 111, 3) := by decide +kernel
theorem d_MO_run_99 : decode b_MO_run 99 = .ok (.bipush 64, 2) := by decide +kernel
theorem d_MO_run_101 : decode b_MO_run 101 = .ok (.if_icmp .ne 11, 3) := by decide +kernel
theorem d_MO_run_104 : decode b_MO_run 104 = .ok (.aload_n 0, 1) := by decide +kernel
theorem d_MO_run_105 : decode b_MO_run 105 = .ok (.iconst 5, 1) := by decide +kernel
theorem d_MO_run_106 : decode b_MO_run 106 = .ok (.putfield 114, 3) := by decide +kernel
theorem d_MO_run_109 : decode b_MO_run 109 = .ok (.goto (-40), 3) := by decide +kernel
theorem d_MO_run_112 : decode b_MO_run 112 = .ok (.aload_n 0, 1) := by decide +kernel
theorem d_MO_run_113 : decode b_MO_run 113 = .ok (.invokevirtual 117, 3) := by decide +kernel
theorem d_MO_run_116 : decode b_MO_run 116 = .ok (.goto (-47), 3) := by decide +kernel
theorem d_MO_run_119 : decode b_MO_run 119 = .ok (.return_, 1) := by decide +kernel
noncomputable def l_MO_run_69   (M26 : Mem) : Option ((Mem) ⊕ (Mem)) :=
  if 0 ≤ (M26 26 16) then (some (.inr M26)) else (if (M26 26 13) < (M26 26 0) then (if (M26 26 15) = (64 : Int32) then (nx (st M26 26 16 (5 : Int32)) (fun M29 => some (.inl M29))) else (bv (s_MO_step M26) (fun M27 => some (.inl M27)))) else (nx (st M26 26 16 (0 : Int32)) (fun M30 => some (.inl M30))))
noncomputable def j_MO_run_49  (M21 : Mem) : Option (Mem) :=
  nx (st M21 26 12 (0 : Int32)) (fun M22 => nx (st M22 26 13 (0 : Int32)) (fun M23 => nx (st M23 26 15 (0 : Int32)) (fun M24 => nx (st M24 26 16 (-1 : Int32)) (fun M25 => lp (fun q : Mem => l_MO_run_69 q) M25))))
noncomputable def l_MO_run_24  (v33 : Int32) (M34 : Mem) : Option ((Int32 × Mem) ⊕ (Mem)) :=
  if (4 : Int32) ≤ v33 then (jw1 (j_MO_run_49 M34)) else (ck v33 4 (nx (st M34 32 v33.toNatClampNeg (0 : Int32)) (fun M36 => ck v33 4 (nx (st M36 33 v33.toNatClampNeg (0 : Int32)) (fun M38 => nx (v33 + (1 : Int32)) (fun v39 => some (.inl (v39, M38))))))))
noncomputable def j_MO_run_22  (M31 : Mem) : Option (Mem) :=
  nx ((0 : Int32)) (fun v32 => lp (fun q : Int32 × Mem => l_MO_run_24 q.1 q.2) (v32, M31))
noncomputable def l_MO_run_2  (v41 : Int32) (M42 : Mem) : Option ((Int32 × Mem) ⊕ (Mem)) :=
  if (576 : Int32) ≤ v41 then (jw1 (j_MO_run_22 M42)) else (ck v41 576 (nx (st M42 35 v41.toNatClampNeg (0 : Int32)) (fun M44 => nx (v41 + (1 : Int32)) (fun v45 => some (.inl (v45, M44))))))
noncomputable def s_MO_run  (M : Mem) : Option (Mem) :=
  nx ((0 : Int32)) (fun v40 => lp (fun q : Int32 × Mem => l_MO_run_2 q.1 q.2) (v40, M))
set_option maxHeartbeats 4000000 in
set_option maxRecDepth 100000 in
theorem c_MO_run (l : Launch) (x : Cx) (hJ : Inj x)  {M : Mem} {out : Mem} (h : s_MO_run M = some out) : Cv l x y_MO_run (Cond.code y_MO_run b_MO_run 2 none :: tb) r_MO_run [.ref (x.2.1 26)] M out := by
  refine ofCv (cc := b_MO_run) (maxL := 2) (by decide) rfl (rfl) (Nat.le_of_ble_eq_true rfl) ?_
  intro p e s m args below meth c Q G0 ls g hx hb hml hown hts hK hZ hP hS hl hret
  have hown : s.vm.findClass R_MO = some m.cls := hown
  have hl : lv_has ls 2 [(0, .ref (x.2.1 26))] := hl
  obtain ⟨H, eH⟩ : ∃ z, z = s.heap := ⟨_, rfl⟩
  obtain ⟨locs, eL⟩ : ∃ z, z = ([] : List Loc) := ⟨_, rfl⟩
  rw [← eH] at hP
  have hS : va_S (A0 x) s.heap H locs := by rw [eH, eL]; exact hS
  rw [← eL]
  have key : W p l e r_MO_run s m args below meth c H locs 0 0 Q (F0 m 0 ls []) := by
    clear eH eL
    unfold s_MO_run at h
    have J49 : ∀  (M21 : Mem)  (res : Mem) (h : j_MO_run_49 M21 = some res) (g : G0 res) (H : Heap) (locs : List Loc) (ls : Array Slot) (hP : va_P x.1 vwCl (wld x M21) H) (hS : va_S (A0 x) s.heap H locs) (hl : lv_has ls 2 [(0, .ref (x.2.1 26))]), W p l e r_MO_run s m args below meth c H locs 0 0 Q (F0 m 49 ls []) := by
      intro M21 res h g H locs ls hP hS hl
      unfold j_MO_run_49 at h
      refine lv_aload_n hx hb d_MO_run_49 rfl (lv_at hl 0 rfl) ?_
      refine lv_iconst (v := (0 : Int32)) hx hb d_MO_run_50 (by decide) ?_
      obtain ⟨M22, eM22, h⟩ := nx_e h
      refine pf_MO_105 hx hb hts hown hK hJ hP hS eM22 d_MO_run_51 (fun H locs hP hS => ?_)
      refine lv_aload_n hx hb d_MO_run_54 rfl (lv_at hl 0 rfl) ?_
      refine lv_iconst (v := (0 : Int32)) hx hb d_MO_run_55 (by decide) ?_
      obtain ⟨M23, eM23, h⟩ := nx_e h
      refine pf_MO_108 hx hb hts hown hK hJ hP hS eM23 d_MO_run_56 (fun H locs hP hS => ?_)
      refine lv_aload_n hx hb d_MO_run_59 rfl (lv_at hl 0 rfl) ?_
      refine lv_iconst (v := (0 : Int32)) hx hb d_MO_run_60 (by decide) ?_
      obtain ⟨M24, eM24, h⟩ := nx_e h
      refine pf_MO_111 hx hb hts hown hK hJ hP hS eM24 d_MO_run_61 (fun H locs hP hS => ?_)
      refine lv_aload_n hx hb d_MO_run_64 rfl (lv_at hl 0 rfl) ?_
      refine lv_iconst (v := (-1 : Int32)) hx hb d_MO_run_65 (by decide) ?_
      obtain ⟨M25, eM25, h⟩ := nx_e h
      refine pf_MO_114 hx hb hts hown hK hJ hP hS eM25 d_MO_run_66 (fun H locs hP hS => ?_)
      obtain ⟨P69, eP69⟩ : ∃ P : (Mem) → Prop, P = (fun q => ∀ (H : Heap) (locs : List Loc) (ls : Array Slot), va_P x.1 vwCl (wld x q) H → va_S (A0 x) s.heap H locs → lv_has ls 2 [(0, .ref (x.2.1 26))] → W p l e r_MO_run s m args below meth c H locs 0 0 Q (F0 m 69 ls [])) := ⟨_, rfl⟩
      have L69 : P69 M25 := by
        refine lp_walk (G := G0) ?_ h g
        intro q res h g
        obtain ⟨M26, eM26⟩ : ∃ z, z = q := ⟨q, rfl⟩
        subst eM26
        rw [eP69]
        intro H locs ls hP hS hl
        have hP : va_P x.1 vwCl (wld x M26) H := hP
        have hl : lv_has ls 2 [(0, .ref (x.2.1 26))] := hl
        have h : l_MO_run_69 M26 = some res := h
        unfold l_MO_run_69 at h
        refine lv_aload_n hx hb d_MO_run_69 rfl (lv_at hl 0 rfl) ?_
        refine gf_MO_114 hx hb hts hown hK hP d_MO_run_70 ?_
        refine lv_if_ge (tgt := 119) hx hb d_MO_run_73 rfl (fun hc => ?_) (fun hc => ?_)
        · have h := if_p hc h
          obtain rfl := Option.some.inj h
          exact hret d_MO_run_119 g hP hS
        · have h := if_m hc h
          refine lv_aload_n hx hb d_MO_run_76 rfl (lv_at hl 0 rfl) ?_
          refine gf_MO_108 hx hb hts hown hK hP d_MO_run_77 ?_
          refine lv_aload_n hx hb d_MO_run_80 rfl (lv_at hl 0 rfl) ?_
          refine gf_MO_96 hx hb hts hown hK hP d_MO_run_81 ?_
          refine lv_icmp_lt (tgt := 95) hx hb d_MO_run_84 rfl (fun hc => ?_) (fun hc => ?_)
          · have h := if_p hc h
            refine lv_aload_n hx hb d_MO_run_95 rfl (lv_at hl 0 rfl) ?_
            refine gf_MO_111 hx hb hts hown hK hP d_MO_run_96 ?_
            refine lv_bipush (v := (64 : Int32)) hx hb d_MO_run_99 (by decide) ?_
            refine lv_icmp_ne (tgt := 112) hx hb d_MO_run_101 rfl (fun hc => ?_) (fun hc => ?_)
            · have h := if_m hc h
              refine lv_aload_n hx hb d_MO_run_112 rfl (lv_at hl 0 rfl) ?_
              obtain ⟨M27, c28, h⟩ := bv_e h
              refine cl_MO_117 (rest := []) (R := r_MO_run) (c_MO_step l x hJ c28) hx hb hml hts hown hK hZ hP hS hl.1 (Nat.le_of_ble_eq_true rfl) (Nat.le_of_ble_eq_true rfl) (Nat.le_of_ble_eq_true rfl) ⟨rfl, rfl, Nat.zero_le _, Nat.zero_le _⟩ d_MO_run_113 (fun H locs hP hS => ?_)
              refine lv_goto (tgt := 69) hx hb d_MO_run_116 rfl ?_
              obtain rfl := Option.some.inj h
              have g : P69 M27 := g
              rw [eP69] at g
              exact g H locs ls hP hS (lv_sub hl [0] rfl)
            · have h := if_p hc h
              refine lv_aload_n hx hb d_MO_run_104 rfl (lv_at hl 0 rfl) ?_
              refine lv_iconst (v := (5 : Int32)) hx hb d_MO_run_105 (by decide) ?_
              obtain ⟨M29, eM29, h⟩ := nx_e h
              refine pf_MO_114 hx hb hts hown hK hJ hP hS eM29 d_MO_run_106 (fun H locs hP hS => ?_)
              refine lv_goto (tgt := 69) hx hb d_MO_run_109 rfl ?_
              obtain rfl := Option.some.inj h
              have g : P69 M29 := g
              rw [eP69] at g
              exact g H locs ls hP hS (lv_sub hl [0] rfl)
          · have h := if_m hc h
            refine lv_aload_n hx hb d_MO_run_87 rfl (lv_at hl 0 rfl) ?_
            refine lv_iconst (v := (0 : Int32)) hx hb d_MO_run_88 (by decide) ?_
            obtain ⟨M30, eM30, h⟩ := nx_e h
            refine pf_MO_114 hx hb hts hown hK hJ hP hS eM30 d_MO_run_89 (fun H locs hP hS => ?_)
            refine lv_goto (tgt := 69) hx hb d_MO_run_92 rfl ?_
            obtain rfl := Option.some.inj h
            have g : P69 M30 := g
            rw [eP69] at g
            exact g H locs ls hP hS (lv_sub hl [0] rfl)
      rw [eP69] at L69
      exact L69 H locs ls hP hS (lv_sub hl [0] rfl)
    have J22 : ∀  (M31 : Mem)  (res : Mem) (h : j_MO_run_22 M31 = some res) (g : G0 res) (H : Heap) (locs : List Loc) (ls : Array Slot) (hP : va_P x.1 vwCl (wld x M31) H) (hS : va_S (A0 x) s.heap H locs) (hl : lv_has ls 2 [(0, .ref (x.2.1 26))]), W p l e r_MO_run s m args below meth c H locs 0 0 Q (F0 m 22 ls []) := by
      intro M31 res h g H locs ls hP hS hl
      unfold j_MO_run_22 at h
      refine lv_iconst (v := (0 : Int32)) hx hb d_MO_run_22 (by decide) ?_
      obtain ⟨v32, ev32, h⟩ := nx_e h
      refine tp_i ev32 ?_
      refine lv_istore_n hx hb d_MO_run_23 rfl hl (by decide) rfl (fun ls hl => ?_)
      have hl : lv_has ls 2 [(1, .int v32), (0, .ref (x.2.1 26))] := hl
      obtain ⟨P24, eP24⟩ : ∃ P : (Int32 × Mem) → Prop, P = (fun q => ∀ (H : Heap) (locs : List Loc) (ls : Array Slot), va_P x.1 vwCl (wld x (q.2)) H → va_S (A0 x) s.heap H locs → lv_has ls 2 [(0, .ref (x.2.1 26)), (1, .int (q.1))] → W p l e r_MO_run s m args below meth c H locs 0 0 Q (F0 m 24 ls [])) := ⟨_, rfl⟩
      have L24 : P24 (v32, M31) := by
        refine lp_walk (G := G0) ?_ h g
        intro q res h g
        obtain ⟨v33, M34⟩ := q
        rw [eP24]
        intro H locs ls hP hS hl
        have hP : va_P x.1 vwCl (wld x M34) H := hP
        have hl : lv_has ls 2 [(0, .ref (x.2.1 26)), (1, .int v33)] := hl
        have h : l_MO_run_24 v33 M34 = some res := h
        unfold l_MO_run_24 at h
        refine lv_iload_n hx hb d_MO_run_24 rfl (lv_at hl 1 rfl) ?_
        refine lv_iconst (v := (4 : Int32)) hx hb d_MO_run_25 (by decide) ?_
        refine lv_icmp_ge (tgt := 49) hx hb d_MO_run_26 rfl (fun hc => ?_) (fun hc => ?_)
        · have h := if_p hc h
          obtain ⟨res2, hres, h2⟩ := jw1_e h
          clear h
          subst hres
          have h := h2
          exact J49 M34 _ h g H locs ls hP hS (lv_sub hl [0] rfl)
        · have h := if_m hc h
          refine lv_aload_n hx hb d_MO_run_29 rfl (lv_at hl 0 rfl) ?_
          refine gf_MO_25 hx hb hts hown hK hP d_MO_run_30 ?_
          refine lv_iload_n hx hb d_MO_run_33 rfl (lv_at hl 1 rfl) ?_
          refine lv_iconst (v := (0 : Int32)) hx hb d_MO_run_34 (by decide) ?_
          obtain ⟨b35, h⟩ := ck_e h
          obtain ⟨M36, eM36, h⟩ := nx_e h
          refine m_ast hx hb hK hJ hP hS ar_MO_r b35 eM36 d_MO_run_35 (fun H locs hP hS => ?_)
          refine lv_aload_n hx hb d_MO_run_36 rfl (lv_at hl 0 rfl) ?_
          refine gf_MO_28 hx hb hts hown hK hP d_MO_run_37 ?_
          refine lv_iload_n hx hb d_MO_run_40 rfl (lv_at hl 1 rfl) ?_
          refine lv_iconst (v := (0 : Int32)) hx hb d_MO_run_41 (by decide) ?_
          obtain ⟨b37, h⟩ := ck_e h
          obtain ⟨M38, eM38, h⟩ := nx_e h
          refine m_ast hx hb hK hJ hP hS ar_MO_memory b37 eM38 d_MO_run_42 (fun H locs hP hS => ?_)
          obtain ⟨v39, ev39, h⟩ := nx_e h
          refine lv_iinc (k := 1) hx hb d_MO_run_43 hl rfl (iinc_v (k := (1 : Int32)) (by decide) ev39) (by decide) rfl (fun ls hl => ?_)
          have hl : lv_has ls 2 [(1, .int v39), (0, .ref (x.2.1 26))] := hl
          refine lv_goto (tgt := 24) hx hb d_MO_run_46 rfl ?_
          obtain rfl := Option.some.inj h
          have g : P24 (v39, M38) := g
          rw [eP24] at g
          exact g H locs ls hP hS (lv_sub hl [1, 0] rfl)
      rw [eP24] at L24
      exact L24 H locs ls hP hS (lv_sub hl [1, 0] rfl)
    refine lv_iconst (v := (0 : Int32)) hx hb d_MO_run_0 (by decide) ?_
    obtain ⟨v40, ev40, h⟩ := nx_e h
    refine tp_i ev40 ?_
    refine lv_istore_n hx hb d_MO_run_1 rfl hl (by decide) rfl (fun ls hl => ?_)
    have hl : lv_has ls 2 [(1, .int v40), (0, .ref (x.2.1 26))] := hl
    obtain ⟨P2, eP2⟩ : ∃ P : (Int32 × Mem) → Prop, P = (fun q => ∀ (H : Heap) (locs : List Loc) (ls : Array Slot), va_P x.1 vwCl (wld x (q.2)) H → va_S (A0 x) s.heap H locs → lv_has ls 2 [(0, .ref (x.2.1 26)), (1, .int (q.1))] → W p l e r_MO_run s m args below meth c H locs 0 0 Q (F0 m 2 ls [])) := ⟨_, rfl⟩
    have L2 : P2 (v40, M) := by
      refine lp_walk (G := G0) ?_ h g
      intro q res h g
      obtain ⟨v41, M42⟩ := q
      rw [eP2]
      intro H locs ls hP hS hl
      have hP : va_P x.1 vwCl (wld x M42) H := hP
      have hl : lv_has ls 2 [(0, .ref (x.2.1 26)), (1, .int v41)] := hl
      have h : l_MO_run_2 v41 M42 = some res := h
      unfold l_MO_run_2 at h
      refine lv_iload_n hx hb d_MO_run_2 rfl (lv_at hl 1 rfl) ?_
      refine lv_sipush (v := (576 : Int32)) hx hb d_MO_run_3 (by decide) ?_
      refine lv_icmp_ge (tgt := 22) hx hb d_MO_run_6 rfl (fun hc => ?_) (fun hc => ?_)
      · have h := if_p hc h
        obtain ⟨res2, hres, h2⟩ := jw1_e h
        clear h
        subst hres
        have h := h2
        exact J22 M42 _ h g H locs ls hP hS (lv_sub hl [0] rfl)
      · have h := if_m hc h
        refine lv_aload_n hx hb d_MO_run_9 rfl (lv_at hl 0 rfl) ?_
        refine gf_MO_34 hx hb hts hown hK hP d_MO_run_10 ?_
        refine lv_iload_n hx hb d_MO_run_13 rfl (lv_at hl 1 rfl) ?_
        refine lv_iconst (v := (0 : Int32)) hx hb d_MO_run_14 (by decide) ?_
        obtain ⟨b43, h⟩ := ck_e h
        obtain ⟨M44, eM44, h⟩ := nx_e h
        refine m_ast hx hb hK hJ hP hS ar_MO_times b43 eM44 d_MO_run_15 (fun H locs hP hS => ?_)
        obtain ⟨v45, ev45, h⟩ := nx_e h
        refine lv_iinc (k := 1) hx hb d_MO_run_16 hl rfl (iinc_v (k := (1 : Int32)) (by decide) ev45) (by decide) rfl (fun ls hl => ?_)
        have hl : lv_has ls 2 [(1, .int v45), (0, .ref (x.2.1 26))] := hl
        refine lv_goto (tgt := 2) hx hb d_MO_run_19 rfl ?_
        obtain rfl := Option.some.inj h
        have g : P2 (v45, M44) := g
        rw [eP2] at g
        exact g H locs ls hP hS (lv_sub hl [1, 0] rfl)
    rw [eP2] at L2
    exact L2 H locs ls hP hS (lv_sub hl [1, 0] rfl)
  rw [eH] at key
  exact key
theorem d_MO_bucket_0 : decode b_MO_bucket 0 = .ok (.iload_n 0, 1) := by decide +kernel
theorem d_MO_bucket_1 : decode b_MO_bucket 1 = .ok (.iconst 3, 1) := by decide +kernel
theorem d_MO_bucket_2 : decode b_MO_bucket 2 = .ok (.if_icmp .gt 9, 3) := by decide +kernel
theorem d_MO_bucket_5 : decode b_MO_bucket 5 = .ok (.iload_n 0, 1) := by decide +kernel
theorem d_MO_bucket_6 : decode b_MO_bucket 6 = .ok (.iconst 1, 1) := by decide +kernel
theorem d_MO_bucket_7 : decode b_MO_bucket 7 = .ok (.isub, 1) := by decide +kernel
theorem d_MO_bucket_8 : decode b_MO_bucket 8 = .ok (.goto 24, 3) := by decide +kernel
theorem d_MO_bucket_11 : decode b_MO_bucket 11 = .ok (.iload_n 0, 1) := by decide +kernel
theorem d_MO_bucket_12 : decode b_MO_bucket 12 = .ok (.bipush 7, 2) := by decide +kernel
theorem d_MO_bucket_14 : decode b_MO_bucket 14 = .ok (.if_icmp .gt 7, 3) := by decide +kernel
theorem d_MO_bucket_17 : decode b_MO_bucket 17 = .ok (.iconst 3, 1) := by decide +kernel
theorem d_MO_bucket_18 : decode b_MO_bucket 18 = .ok (.goto 14, 3) := by decide +kernel
theorem d_MO_bucket_21 : decode b_MO_bucket 21 = .ok (.iload_n 0, 1) := by decide +kernel
theorem d_MO_bucket_22 : decode b_MO_bucket 22 = .ok (.bipush 15, 2) := by decide +kernel
theorem d_MO_bucket_24 : decode b_MO_bucket 24 = .ok (.if_icmp .gt 7, 3) := by decide +kernel
theorem d_MO_bucket_27 : decode b_MO_bucket 27 = .ok (.iconst 4, 1) := by decide +kernel
theorem d_MO_bucket_28 : decode b_MO_bucket 28 = .ok (.goto 4, 3) := by decide +kernel
theorem d_MO_bucket_31 : decode b_MO_bucket 31 = .ok (.iconst 5, 1) := by decide +kernel
theorem d_MO_bucket_32 : decode b_MO_bucket 32 = .ok (.ireturn, 1) := by decide +kernel
noncomputable def s_MO_bucket (a0 : Int32) (M : Mem) : Option (Int32 × Mem) :=
  if (3 : Int32) < a0 then (if (7 : Int32) < a0 then (if (15 : Int32) < a0 then (some ((5 : Int32), M)) else (some ((4 : Int32), M))) else (some ((3 : Int32), M))) else (some (a0 - (1 : Int32), M))
set_option maxHeartbeats 4000000 in
set_option maxRecDepth 100000 in
theorem c_MO_bucket (l : Launch) (x : Cx) (hJ : Inj x) (a0 : Int32) {M : Mem} {out : Int32 × Mem} (h : s_MO_bucket a0 M = some out) : Ci l x y_MO_bucket (Cond.code y_MO_bucket b_MO_bucket 1 (some .int) :: tb) r_MO_bucket [.int a0] M out := by
  refine ofCi (cc := b_MO_bucket) (maxL := 1) (by decide) rfl (rfl) (Nat.le_of_ble_eq_true rfl) ?_
  intro p e s m args below meth c Q G0 ls g hx hb hml hown hts hK hZ hP hS hl hret
  have hown : s.vm.findClass R_MO = some m.cls := hown
  have hl : lv_has ls 1 [(0, .int a0)] := hl
  obtain ⟨H, eH⟩ : ∃ z, z = s.heap := ⟨_, rfl⟩
  obtain ⟨locs, eL⟩ : ∃ z, z = ([] : List Loc) := ⟨_, rfl⟩
  rw [← eH] at hP
  have hS : va_S (A0 x) s.heap H locs := by rw [eH, eL]; exact hS
  rw [← eL]
  have key : W p l e r_MO_bucket s m args below meth c H locs 0 0 Q (F0 m 0 ls []) := by
    clear eH eL
    unfold s_MO_bucket at h
    refine lv_iload_n hx hb d_MO_bucket_0 rfl (lv_at hl 0 rfl) ?_
    refine lv_iconst (v := (3 : Int32)) hx hb d_MO_bucket_1 (by decide) ?_
    refine lv_icmp_gt (tgt := 11) hx hb d_MO_bucket_2 rfl (fun hc => ?_) (fun hc => ?_)
    · have h := if_p hc h
      refine lv_iload_n hx hb d_MO_bucket_11 rfl (lv_at hl 0 rfl) ?_
      refine lv_bipush (v := (7 : Int32)) hx hb d_MO_bucket_12 (by decide) ?_
      refine lv_icmp_gt (tgt := 21) hx hb d_MO_bucket_14 rfl (fun hc => ?_) (fun hc => ?_)
      · have h := if_p hc h
        refine lv_iload_n hx hb d_MO_bucket_21 rfl (lv_at hl 0 rfl) ?_
        refine lv_bipush (v := (15 : Int32)) hx hb d_MO_bucket_22 (by decide) ?_
        refine lv_icmp_gt (tgt := 31) hx hb d_MO_bucket_24 rfl (fun hc => ?_) (fun hc => ?_)
        · have h := if_p hc h
          refine lv_iconst (v := (5 : Int32)) hx hb d_MO_bucket_31 (by decide) ?_
          obtain rfl := Option.some.inj h
          exact hret d_MO_bucket_32 g hP hS
        · have h := if_m hc h
          refine lv_iconst (v := (4 : Int32)) hx hb d_MO_bucket_27 (by decide) ?_
          refine lv_goto (tgt := 32) hx hb d_MO_bucket_28 rfl ?_
          obtain rfl := Option.some.inj h
          exact hret d_MO_bucket_32 g hP hS
      · have h := if_m hc h
        refine lv_iconst (v := (3 : Int32)) hx hb d_MO_bucket_17 (by decide) ?_
        refine lv_goto (tgt := 32) hx hb d_MO_bucket_18 rfl ?_
        obtain rfl := Option.some.inj h
        exact hret d_MO_bucket_32 g hP hS
    · have h := if_m hc h
      refine lv_iload_n hx hb d_MO_bucket_5 rfl (lv_at hl 0 rfl) ?_
      refine lv_iconst (v := (1 : Int32)) hx hb d_MO_bucket_6 (by decide) ?_
      refine lv_isub hx hb d_MO_bucket_7 ?_
      refine lv_goto (tgt := 32) hx hb d_MO_bucket_8 rfl ?_
      obtain rfl := Option.some.inj h
      exact hret d_MO_bucket_32 g hP hS
  rw [eH] at key
  exact key
theorem d_MO_runEntry_0 : decode b_MO_runEntry 0 = .ok (.aload_n 0, 1) := by decide +kernel
theorem d_MO_runEntry_1 : decode b_MO_runEntry 1 = .ok (.aload_n 0, 1) := by decide +kernel
theorem d_MO_runEntry_2 : decode b_MO_runEntry 2 = .ok (.getfield 40, 3) := by decide +kernel
theorem d_MO_runEntry_5 : decode b_MO_runEntry 5 = .ok (.iload_n 1, 1) := by decide +kernel
theorem d_MO_runEntry_6 : decode b_MO_runEntry 6 = .ok (.iaload, 1) := by decide +kernel
theorem d_MO_runEntry_7 : decode b_MO_runEntry 7 = .ok (.putfield 130, 3) := by decide +kernel
theorem d_MO_runEntry_10 : decode b_MO_runEntry 10 = .ok (.iconst 0, 1) := by decide +kernel
theorem d_MO_runEntry_11 : decode b_MO_runEntry 11 = .ok (.istore_n 2, 1) := by decide +kernel
theorem d_MO_runEntry_12 : decode b_MO_runEntry 12 = .ok (.iload_n 2, 1) := by decide +kernel
theorem d_MO_runEntry_13 : decode b_MO_runEntry 13 = .ok (.aload_n 0, 1) := by decide +kernel
theorem d_MO_runEntry_14 : decode b_MO_runEntry 14 = .ok (.getfield 130, 3) := by decide +kernel
theorem d_MO_runEntry_17 : decode b_MO_runEntry 17 = .ok (.if_icmp .ge 26, 3) := by decide +kernel
theorem d_MO_runEntry_20 : decode b_MO_runEntry 20 = .ok (.aload_n 0, 1) := by decide +kernel
theorem d_MO_runEntry_21 : decode b_MO_runEntry 21 = .ok (.getfield 22, 3) := by decide +kernel
theorem d_MO_runEntry_24 : decode b_MO_runEntry 24 = .ok (.iload_n 2, 1) := by decide +kernel
theorem d_MO_runEntry_25 : decode b_MO_runEntry 25 = .ok (.aload_n 0, 1) := by decide +kernel
theorem d_MO_runEntry_26 : decode b_MO_runEntry 26 = .ok (.getfield 37, 3) := by decide +kernel
theorem d_MO_runEntry_29 : decode b_MO_runEntry 29 = .ok (.bipush 6, 2) := by decide +kernel
theorem d_MO_runEntry_31 : decode b_MO_runEntry 31 = .ok (.iload_n 1, 1) := by decide +kernel
theorem d_MO_runEntry_32 : decode b_MO_runEntry 32 = .ok (.imul, 1) := by decide +kernel
theorem d_MO_runEntry_33 : decode b_MO_runEntry 33 = .ok (.iload_n 2, 1) := by decide +kernel
theorem d_MO_runEntry_34 : decode b_MO_runEntry 34 = .ok (.iadd, 1) := by decide +kernel
theorem d_MO_runEntry_35 : decode b_MO_runEntry 35 = .ok (.iaload, 1) := by decide +kernel
theorem d_MO_runEntry_36 : decode b_MO_runEntry 36 = .ok (.iastore, 1) := by decide +kernel
theorem d_MO_runEntry_37 : decode b_MO_runEntry 37 = .ok (.iinc 2 1, 3) := by decide +kernel
theorem d_MO_runEntry_40 : decode b_MO_runEntry 40 = .ok (.goto (-28), 3) := by decide +kernel
theorem d_MO_runEntry_43 : decode b_MO_runEntry 43 = .ok (.aload_n 0, 1) := by decide +kernel
theorem d_MO_runEntry_44 : decode b_MO_runEntry 44 = .ok (.invokevirtual 136, 3) := by decide +kernel
theorem d_MO_runEntry_47 : decode b_MO_runEntry 47 = .ok (.return_, 1) := by decide +kernel
noncomputable def j_MO_runEntry_43  (M21 : Mem) : Option (Mem) :=
  bv (s_MO_run M21) (fun M22 => some M22)
noncomputable def l_MO_runEntry_12 (a1 : Int32) (v27 : Int32) (M28 : Mem) : Option ((Int32 × Mem) ⊕ (Mem)) :=
  if (M28 26 8) ≤ v27 then (jw1 (j_MO_runEntry_43 M28)) else (ck (((6 : Int32) * a1) + v27) 96 (ck v27 6 (nx (st M28 31 v27.toNatClampNeg (M28 36 (((6 : Int32) * a1) + v27).toNatClampNeg)) (fun M31 => nx (v27 + (1 : Int32)) (fun v32 => some (.inl (v32, M31)))))))
noncomputable def s_MO_runEntry (a1 : Int32) (M : Mem) : Option (Mem) :=
  ck a1 16 (nx (st M 26 8 (M 37 a1.toNatClampNeg)) (fun M25 => nx ((0 : Int32)) (fun v26 => lp (fun q : Int32 × Mem => l_MO_runEntry_12 a1 q.1 q.2) (v26, M25))))
set_option maxHeartbeats 4000000 in
set_option maxRecDepth 100000 in
theorem c_MO_runEntry (l : Launch) (x : Cx) (hJ : Inj x) (a1 : Int32) {M : Mem} {out : Mem} (h : s_MO_runEntry a1 M = some out) : Cv l x y_MO_runEntry (Cond.code y_MO_runEntry b_MO_runEntry 3 none :: tb) r_MO_runEntry [.ref (x.2.1 26), .int a1] M out := by
  refine ofCv (cc := b_MO_runEntry) (maxL := 3) (by decide) rfl (rfl) (Nat.le_of_ble_eq_true rfl) ?_
  intro p e s m args below meth c Q G0 ls g hx hb hml hown hts hK hZ hP hS hl hret
  have hown : s.vm.findClass R_MO = some m.cls := hown
  have hl : lv_has ls 3 [(0, .ref (x.2.1 26)), (1, .int a1)] := hl
  obtain ⟨H, eH⟩ : ∃ z, z = s.heap := ⟨_, rfl⟩
  obtain ⟨locs, eL⟩ : ∃ z, z = ([] : List Loc) := ⟨_, rfl⟩
  rw [← eH] at hP
  have hS : va_S (A0 x) s.heap H locs := by rw [eH, eL]; exact hS
  rw [← eL]
  have key : W p l e r_MO_runEntry s m args below meth c H locs 0 0 Q (F0 m 0 ls []) := by
    clear eH eL
    unfold s_MO_runEntry at h
    have J43 : ∀  (M21 : Mem)  (res : Mem) (h : j_MO_runEntry_43 M21 = some res) (g : G0 res) (H : Heap) (locs : List Loc) (ls : Array Slot) (hP : va_P x.1 vwCl (wld x M21) H) (hS : va_S (A0 x) s.heap H locs) (hl : lv_has ls 3 [(0, .ref (x.2.1 26))]), W p l e r_MO_runEntry s m args below meth c H locs 0 0 Q (F0 m 43 ls []) := by
      intro M21 res h g H locs ls hP hS hl
      unfold j_MO_runEntry_43 at h
      refine lv_aload_n hx hb d_MO_runEntry_43 rfl (lv_at hl 0 rfl) ?_
      obtain ⟨M22, c23, h⟩ := bv_e h
      refine cl_MO_136 (rest := []) (R := r_MO_runEntry) (c_MO_run l x hJ c23) hx hb hml hts hown hK hZ hP hS hl.1 (Nat.le_of_ble_eq_true rfl) (Nat.le_of_ble_eq_true rfl) (Nat.le_of_ble_eq_true rfl) ⟨rfl, rfl, Nat.zero_le _, Nat.zero_le _⟩ d_MO_runEntry_44 (fun H locs hP hS => ?_)
      obtain rfl := Option.some.inj h
      exact hret d_MO_runEntry_47 g hP hS
    refine lv_aload_n hx hb d_MO_runEntry_0 rfl (lv_at hl 0 rfl) ?_
    refine lv_aload_n hx hb d_MO_runEntry_1 rfl (lv_at hl 0 rfl) ?_
    refine gf_MO_40 hx hb hts hown hK hP d_MO_runEntry_2 ?_
    refine lv_iload_n hx hb d_MO_runEntry_5 rfl (lv_at hl 1 rfl) ?_
    obtain ⟨b24, h⟩ := ck_e h
    refine m_ald hx hb hK hP ar_MO_lengths b24 d_MO_runEntry_6 ?_
    obtain ⟨M25, eM25, h⟩ := nx_e h
    refine pf_MO_130 hx hb hts hown hK hJ hP hS eM25 d_MO_runEntry_7 (fun H locs hP hS => ?_)
    refine lv_iconst (v := (0 : Int32)) hx hb d_MO_runEntry_10 (by decide) ?_
    obtain ⟨v26, ev26, h⟩ := nx_e h
    refine tp_i ev26 ?_
    refine lv_istore_n hx hb d_MO_runEntry_11 rfl hl (by decide) rfl (fun ls hl => ?_)
    have hl : lv_has ls 3 [(2, .int v26), (0, .ref (x.2.1 26)), (1, .int a1)] := hl
    obtain ⟨P12, eP12⟩ : ∃ P : (Int32 × Mem) → Prop, P = (fun q => ∀ (H : Heap) (locs : List Loc) (ls : Array Slot), va_P x.1 vwCl (wld x (q.2)) H → va_S (A0 x) s.heap H locs → lv_has ls 3 [(0, .ref (x.2.1 26)), (1, .int a1), (2, .int (q.1))] → W p l e r_MO_runEntry s m args below meth c H locs 0 0 Q (F0 m 12 ls [])) := ⟨_, rfl⟩
    have L12 : P12 (v26, M25) := by
      refine lp_walk (G := G0) ?_ h g
      intro q res h g
      obtain ⟨v27, M28⟩ := q
      rw [eP12]
      intro H locs ls hP hS hl
      have hP : va_P x.1 vwCl (wld x M28) H := hP
      have hl : lv_has ls 3 [(0, .ref (x.2.1 26)), (1, .int a1), (2, .int v27)] := hl
      have h : l_MO_runEntry_12 a1 v27 M28 = some res := h
      unfold l_MO_runEntry_12 at h
      refine lv_iload_n hx hb d_MO_runEntry_12 rfl (lv_at hl 2 rfl) ?_
      refine lv_aload_n hx hb d_MO_runEntry_13 rfl (lv_at hl 0 rfl) ?_
      refine gf_MO_130 hx hb hts hown hK hP d_MO_runEntry_14 ?_
      refine lv_icmp_ge (tgt := 43) hx hb d_MO_runEntry_17 rfl (fun hc => ?_) (fun hc => ?_)
      · have h := if_p hc h
        obtain ⟨res2, hres, h2⟩ := jw1_e h
        clear h
        subst hres
        have h := h2
        exact J43 M28 _ h g H locs ls hP hS (lv_sub hl [0] rfl)
      · have h := if_m hc h
        refine lv_aload_n hx hb d_MO_runEntry_20 rfl (lv_at hl 0 rfl) ?_
        refine gf_MO_22 hx hb hts hown hK hP d_MO_runEntry_21 ?_
        refine lv_iload_n hx hb d_MO_runEntry_24 rfl (lv_at hl 2 rfl) ?_
        refine lv_aload_n hx hb d_MO_runEntry_25 rfl (lv_at hl 0 rfl) ?_
        refine gf_MO_37 hx hb hts hown hK hP d_MO_runEntry_26 ?_
        refine lv_bipush (v := (6 : Int32)) hx hb d_MO_runEntry_29 (by decide) ?_
        refine lv_iload_n hx hb d_MO_runEntry_31 rfl (lv_at hl 1 rfl) ?_
        refine lv_imul hx hb d_MO_runEntry_32 ?_
        refine lv_iload_n hx hb d_MO_runEntry_33 rfl (lv_at hl 2 rfl) ?_
        refine lv_iadd hx hb d_MO_runEntry_34 ?_
        obtain ⟨b29, h⟩ := ck_e h
        refine m_ald hx hb hK hP ar_MO_inputs b29 d_MO_runEntry_35 ?_
        obtain ⟨b30, h⟩ := ck_e h
        obtain ⟨M31, eM31, h⟩ := nx_e h
        refine m_ast hx hb hK hJ hP hS ar_MO_tape b30 eM31 d_MO_runEntry_36 (fun H locs hP hS => ?_)
        obtain ⟨v32, ev32, h⟩ := nx_e h
        refine lv_iinc (k := 2) hx hb d_MO_runEntry_37 hl rfl (iinc_v (k := (1 : Int32)) (by decide) ev32) (by decide) rfl (fun ls hl => ?_)
        have hl : lv_has ls 3 [(2, .int v32), (0, .ref (x.2.1 26)), (1, .int a1)] := hl
        refine lv_goto (tgt := 12) hx hb d_MO_runEntry_40 rfl ?_
        obtain rfl := Option.some.inj h
        have g : P12 (v32, M31) := g
        rw [eP12] at g
        exact g H locs ls hP hS (lv_sub hl [1, 2, 0] rfl)
    rw [eP12] at L12
    exact L12 H locs ls hP hS (lv_sub hl [1, 2, 0] rfl)
  rw [eH] at key
  exact key
theorem d_MO_runCurrent_0 : decode b_MO_runCurrent 0 = .ok (.aload_n 0, 1) := by decide +kernel
theorem d_MO_runCurrent_1 : decode b_MO_runCurrent 1 = .ok (.aload_n 0, 1) := by decide +kernel
theorem d_MO_runCurrent_2 : decode b_MO_runCurrent 2 = .ok (.getfield 139, 3) := by decide +kernel
theorem d_MO_runCurrent_5 : decode b_MO_runCurrent 5 = .ok (.putfield 130, 3) := by decide +kernel
theorem d_MO_runCurrent_8 : decode b_MO_runCurrent 8 = .ok (.iconst 0, 1) := by decide +kernel
theorem d_MO_runCurrent_9 : decode b_MO_runCurrent 9 = .ok (.istore_n 1, 1) := by decide +kernel
theorem d_MO_runCurrent_10 : decode b_MO_runCurrent 10 = .ok (.iload_n 1, 1) := by decide +kernel
theorem d_MO_runCurrent_11 : decode b_MO_runCurrent 11 = .ok (.aload_n 0, 1) := by decide +kernel
theorem d_MO_runCurrent_12 : decode b_MO_runCurrent 12 = .ok (.getfield 139, 3) := by decide +kernel
theorem d_MO_runCurrent_15 : decode b_MO_runCurrent 15 = .ok (.if_icmp .ge 21, 3) := by decide +kernel
theorem d_MO_runCurrent_18 : decode b_MO_runCurrent 18 = .ok (.aload_n 0, 1) := by decide +kernel
theorem d_MO_runCurrent_19 : decode b_MO_runCurrent 19 = .ok (.getfield 22, 3) := by decide +kernel
theorem d_MO_runCurrent_22 : decode b_MO_runCurrent 22 = .ok (.iload_n 1, 1) := by decide +kernel
theorem d_MO_runCurrent_23 : decode b_MO_runCurrent 23 = .ok (.aload_n 0, 1) := by decide +kernel
theorem d_MO_runCurrent_24 : decode b_MO_runCurrent 24 = .ok (.getfield 82, 3) := by decide +kernel
theorem d_MO_runCurrent_27 : decode b_MO_runCurrent 27 = .ok (.iload_n 1, 1) := by decide +kernel
theorem d_MO_runCurrent_28 : decode b_MO_runCurrent 28 = .ok (.iaload, 1) := by decide +kernel
theorem d_MO_runCurrent_29 : decode b_MO_runCurrent 29 = .ok (.iastore, 1) := by decide +kernel
theorem d_MO_runCurrent_30 : decode b_MO_runCurrent 30 = .ok (.iinc 1 1, 3) := by decide +kernel
theorem d_MO_runCurrent_33 : decode b_MO_runCurrent 33 = .ok (.goto (-23), 3) := by decide +kernel
theorem d_MO_runCurrent_36 : decode b_MO_runCurrent 36 = .ok (.aload_n 0, 1) := by decide +kernel
theorem d_MO_runCurrent_37 : decode b_MO_runCurrent 37 = .ok (.invokevirtual 136, 3) := by decide +kernel
theorem d_MO_runCurrent_40 : decode b_MO_runCurrent 40 = .ok (.return_, 1) := by decide +kernel
noncomputable def j_MO_runCurrent_36  (M21 : Mem) : Option (Mem) :=
  bv (s_MO_run M21) (fun M22 => some M22)
noncomputable def l_MO_runCurrent_10  (v26 : Int32) (M27 : Mem) : Option ((Int32 × Mem) ⊕ (Mem)) :=
  if (M27 26 44) ≤ v26 then (jw1 (j_MO_runCurrent_36 M27)) else (ck v26 6 (ck v26 6 (nx (st M27 31 v26.toNatClampNeg (M27 51 v26.toNatClampNeg)) (fun M30 => nx (v26 + (1 : Int32)) (fun v31 => some (.inl (v31, M30)))))))
noncomputable def s_MO_runCurrent  (M : Mem) : Option (Mem) :=
  nx (st M 26 8 (M 26 44)) (fun M24 => nx ((0 : Int32)) (fun v25 => lp (fun q : Int32 × Mem => l_MO_runCurrent_10 q.1 q.2) (v25, M24)))
set_option maxHeartbeats 4000000 in
set_option maxRecDepth 100000 in
theorem c_MO_runCurrent (l : Launch) (x : Cx) (hJ : Inj x)  {M : Mem} {out : Mem} (h : s_MO_runCurrent M = some out) : Cv l x y_MO_runCurrent (Cond.code y_MO_runCurrent b_MO_runCurrent 2 none :: tb) r_MO_runCurrent [.ref (x.2.1 26)] M out := by
  refine ofCv (cc := b_MO_runCurrent) (maxL := 2) (by decide) rfl (rfl) (Nat.le_of_ble_eq_true rfl) ?_
  intro p e s m args below meth c Q G0 ls g hx hb hml hown hts hK hZ hP hS hl hret
  have hown : s.vm.findClass R_MO = some m.cls := hown
  have hl : lv_has ls 2 [(0, .ref (x.2.1 26))] := hl
  obtain ⟨H, eH⟩ : ∃ z, z = s.heap := ⟨_, rfl⟩
  obtain ⟨locs, eL⟩ : ∃ z, z = ([] : List Loc) := ⟨_, rfl⟩
  rw [← eH] at hP
  have hS : va_S (A0 x) s.heap H locs := by rw [eH, eL]; exact hS
  rw [← eL]
  have key : W p l e r_MO_runCurrent s m args below meth c H locs 0 0 Q (F0 m 0 ls []) := by
    clear eH eL
    unfold s_MO_runCurrent at h
    have J36 : ∀  (M21 : Mem)  (res : Mem) (h : j_MO_runCurrent_36 M21 = some res) (g : G0 res) (H : Heap) (locs : List Loc) (ls : Array Slot) (hP : va_P x.1 vwCl (wld x M21) H) (hS : va_S (A0 x) s.heap H locs) (hl : lv_has ls 2 [(0, .ref (x.2.1 26))]), W p l e r_MO_runCurrent s m args below meth c H locs 0 0 Q (F0 m 36 ls []) := by
      intro M21 res h g H locs ls hP hS hl
      unfold j_MO_runCurrent_36 at h
      refine lv_aload_n hx hb d_MO_runCurrent_36 rfl (lv_at hl 0 rfl) ?_
      obtain ⟨M22, c23, h⟩ := bv_e h
      refine cl_MO_136 (rest := []) (R := r_MO_runCurrent) (c_MO_run l x hJ c23) hx hb hml hts hown hK hZ hP hS hl.1 (Nat.le_of_ble_eq_true rfl) (Nat.le_of_ble_eq_true rfl) (Nat.le_of_ble_eq_true rfl) ⟨rfl, rfl, Nat.zero_le _, Nat.zero_le _⟩ d_MO_runCurrent_37 (fun H locs hP hS => ?_)
      obtain rfl := Option.some.inj h
      exact hret d_MO_runCurrent_40 g hP hS
    refine lv_aload_n hx hb d_MO_runCurrent_0 rfl (lv_at hl 0 rfl) ?_
    refine lv_aload_n hx hb d_MO_runCurrent_1 rfl (lv_at hl 0 rfl) ?_
    refine gf_MO_139 hx hb hts hown hK hP d_MO_runCurrent_2 ?_
    obtain ⟨M24, eM24, h⟩ := nx_e h
    refine pf_MO_130 hx hb hts hown hK hJ hP hS eM24 d_MO_runCurrent_5 (fun H locs hP hS => ?_)
    refine lv_iconst (v := (0 : Int32)) hx hb d_MO_runCurrent_8 (by decide) ?_
    obtain ⟨v25, ev25, h⟩ := nx_e h
    refine tp_i ev25 ?_
    refine lv_istore_n hx hb d_MO_runCurrent_9 rfl hl (by decide) rfl (fun ls hl => ?_)
    have hl : lv_has ls 2 [(1, .int v25), (0, .ref (x.2.1 26))] := hl
    obtain ⟨P10, eP10⟩ : ∃ P : (Int32 × Mem) → Prop, P = (fun q => ∀ (H : Heap) (locs : List Loc) (ls : Array Slot), va_P x.1 vwCl (wld x (q.2)) H → va_S (A0 x) s.heap H locs → lv_has ls 2 [(0, .ref (x.2.1 26)), (1, .int (q.1))] → W p l e r_MO_runCurrent s m args below meth c H locs 0 0 Q (F0 m 10 ls [])) := ⟨_, rfl⟩
    have L10 : P10 (v25, M24) := by
      refine lp_walk (G := G0) ?_ h g
      intro q res h g
      obtain ⟨v26, M27⟩ := q
      rw [eP10]
      intro H locs ls hP hS hl
      have hP : va_P x.1 vwCl (wld x M27) H := hP
      have hl : lv_has ls 2 [(0, .ref (x.2.1 26)), (1, .int v26)] := hl
      have h : l_MO_runCurrent_10 v26 M27 = some res := h
      unfold l_MO_runCurrent_10 at h
      refine lv_iload_n hx hb d_MO_runCurrent_10 rfl (lv_at hl 1 rfl) ?_
      refine lv_aload_n hx hb d_MO_runCurrent_11 rfl (lv_at hl 0 rfl) ?_
      refine gf_MO_139 hx hb hts hown hK hP d_MO_runCurrent_12 ?_
      refine lv_icmp_ge (tgt := 36) hx hb d_MO_runCurrent_15 rfl (fun hc => ?_) (fun hc => ?_)
      · have h := if_p hc h
        obtain ⟨res2, hres, h2⟩ := jw1_e h
        clear h
        subst hres
        have h := h2
        exact J36 M27 _ h g H locs ls hP hS (lv_sub hl [0] rfl)
      · have h := if_m hc h
        refine lv_aload_n hx hb d_MO_runCurrent_18 rfl (lv_at hl 0 rfl) ?_
        refine gf_MO_22 hx hb hts hown hK hP d_MO_runCurrent_19 ?_
        refine lv_iload_n hx hb d_MO_runCurrent_22 rfl (lv_at hl 1 rfl) ?_
        refine lv_aload_n hx hb d_MO_runCurrent_23 rfl (lv_at hl 0 rfl) ?_
        refine gf_MO_82 hx hb hts hown hK hP d_MO_runCurrent_24 ?_
        refine lv_iload_n hx hb d_MO_runCurrent_27 rfl (lv_at hl 1 rfl) ?_
        obtain ⟨b28, h⟩ := ck_e h
        refine m_ald hx hb hK hP ar_MO_cur b28 d_MO_runCurrent_28 ?_
        obtain ⟨b29, h⟩ := ck_e h
        obtain ⟨M30, eM30, h⟩ := nx_e h
        refine m_ast hx hb hK hJ hP hS ar_MO_tape b29 eM30 d_MO_runCurrent_29 (fun H locs hP hS => ?_)
        obtain ⟨v31, ev31, h⟩ := nx_e h
        refine lv_iinc (k := 1) hx hb d_MO_runCurrent_30 hl rfl (iinc_v (k := (1 : Int32)) (by decide) ev31) (by decide) rfl (fun ls hl => ?_)
        have hl : lv_has ls 2 [(1, .int v31), (0, .ref (x.2.1 26))] := hl
        refine lv_goto (tgt := 10) hx hb d_MO_runCurrent_33 rfl ?_
        obtain rfl := Option.some.inj h
        have g : P10 (v31, M30) := g
        rw [eP10] at g
        exact g H locs ls hP hS (lv_sub hl [1, 0] rfl)
    rw [eP10] at L10
    exact L10 H locs ls hP hS (lv_sub hl [1, 0] rfl)
  rw [eH] at key
  exact key
theorem d_MO_top_0 : decode b_MO_top 0 = .ok (.iconst (-1), 1) := by decide +kernel
theorem d_MO_top_1 : decode b_MO_top 1 = .ok (.istore_n 2, 1) := by decide +kernel
theorem d_MO_top_2 : decode b_MO_top 2 = .ok (.iconst 0, 1) := by decide +kernel
theorem d_MO_top_3 : decode b_MO_top 3 = .ok (.istore_n 3, 1) := by decide +kernel
theorem d_MO_top_4 : decode b_MO_top 4 = .ok (.iconst 0, 1) := by decide +kernel
theorem d_MO_top_5 : decode b_MO_top 5 = .ok (.istore 4, 2) := by decide +kernel
theorem d_MO_top_7 : decode b_MO_top 7 = .ok (.iload 4, 2) := by decide +kernel
theorem d_MO_top_9 : decode b_MO_top 9 = .ok (.aload_n 0, 1) := by decide +kernel
theorem d_MO_top_10 : decode b_MO_top 10 = .ok (.getfield 145, 3) := by decide +kernel
theorem d_MO_top_13 : decode b_MO_top 13 = .ok (.if_icmp .ge 54, 3) := by decide +kernel
theorem d_MO_top_16 : decode b_MO_top 16 = .ok (.aload_n 0, 1) := by decide +kernel
theorem d_MO_top_17 : decode b_MO_top 17 = .ok (.getfield 79, 3) := by decide +kernel
theorem d_MO_top_20 : decode b_MO_top 20 = .ok (.iload 4, 2) := by decide +kernel
theorem d_MO_top_22 : decode b_MO_top 22 = .ok (.iaload, 1) := by decide +kernel
theorem d_MO_top_23 : decode b_MO_top 23 = .ok (.iconst 1, 1) := by decide +kernel
theorem d_MO_top_24 : decode b_MO_top 24 = .ok (.aload_n 0, 1) := by decide +kernel
theorem d_MO_top_25 : decode b_MO_top 25 = .ok (.getfield 40, 3) := by decide +kernel
theorem d_MO_top_28 : decode b_MO_top 28 = .ok (.iload 4, 2) := by decide +kernel
theorem d_MO_top_30 : decode b_MO_top 30 = .ok (.iaload, 1) := by decide +kernel
theorem d_MO_top_31 : decode b_MO_top 31 = .ok (.iadd, 1) := by decide +kernel
theorem d_MO_top_32 : decode b_MO_top 32 = .ok (.imul, 1) := by decide +kernel
theorem d_MO_top_33 : decode b_MO_top 33 = .ok (.istore 5, 2) := by decide +kernel
theorem d_MO_top_35 : decode b_MO_top 35 = .ok (.iload_n 1, 1) := by decide +kernel
theorem d_MO_top_36 : decode b_MO_top 36 = .ok (.iload 4, 2) := by decide +kernel
theorem d_MO_top_38 : decode b_MO_top 38 = .ok (.ishr, 1) := by decide +kernel
theorem d_MO_top_39 : decode b_MO_top 39 = .ok (.iconst 1, 1) := by decide +kernel
theorem d_MO_top_40 : decode b_MO_top 40 = .ok (.iand, 1) := by decide +kernel
theorem d_MO_top_41 : decode b_MO_top 41 = .ok (.iconst 1, 1) := by decide +kernel
theorem d_MO_top_42 : decode b_MO_top 42 = .ok (.if_icmp .ne 19, 3) := by decide +kernel
theorem d_MO_top_45 : decode b_MO_top 45 = .ok (.iload_n 2, 1) := by decide +kernel
theorem d_MO_top_46 : decode b_MO_top 46 = .ok (.ifCond .lt 9, 3) := by decide +kernel
theorem d_MO_top_49 : decode b_MO_top 49 = .ok (.iload 5, 2) := by decide +kernel
theorem d_MO_top_51 : decode b_MO_top 51 = .ok (.iload_n 3, 1) := by decide +kernel
theorem d_MO_top_52 : decode b_MO_top 52 = .ok (.if_icmp .ge 9, 3) := by decide +kernel
theorem d_MO_top_55 : decode b_MO_top 55 = .ok (.iload 4, 2) := by decide +kernel
theorem d_MO_top_57 : decode b_MO_top 57 = .ok (.istore_n 2, 1) := by decide +kernel
theorem d_MO_top_58 : decode b_MO_top 58 = .ok (.iload 5, 2) := by decide +kernel
theorem d_MO_top_60 : decode b_MO_top 60 = .ok (.istore_n 3, 1) := by decide +kernel
theorem d_MO_top_61 : decode b_MO_top 61 = .ok (.iinc 4 1, 3) := by decide +kernel
theorem d_MO_top_64 : decode b_MO_top 64 = .ok (.goto (-57), 3) := by decide +kernel
theorem d_MO_top_67 : decode b_MO_top 67 = .ok (.iload_n 2, 1) := by decide +kernel
theorem d_MO_top_68 : decode b_MO_top 68 = .ok (.ireturn, 1) := by decide +kernel
noncomputable def j_MO_top_61 (a1 : Int32) (a28 : Int32) (a29 : Int32) (a30 : Int32) (M31 : Mem) : Option ((Int32 × Int32 × Int32 × Mem) ⊕ (Int32 × Mem)) :=
  nx (a30 + (1 : Int32)) (fun v32 => some (.inl (a28, a29, v32, M31)))
noncomputable def j_MO_top_55 (a1 : Int32) (a33 : Int32) (a34 : Int32) (M35 : Mem) : Option ((Int32 × Int32 × Int32 × Mem) ⊕ (Int32 × Mem)) :=
  j_MO_top_61 a1 a33 a34 a33 M35
noncomputable def l_MO_top_7 (a1 : Int32) (v24 : Int32) (v25 : Int32) (v26 : Int32) (M27 : Mem) : Option ((Int32 × Int32 × Int32 × Mem) ⊕ (Int32 × Mem)) :=
  if (M27 26 18) ≤ v26 then (some (.inr (v24, M27))) else (ck v26 16 (ck v26 16 (nx ((M27 50 v26.toNatClampNeg) * ((1 : Int32) + (M27 37 v26.toNatClampNeg))) (fun v38 => if ((a1 >>> (v26 &&& 31)) &&& (1 : Int32)) = (1 : Int32) then (if v24 < 0 then (j_MO_top_55 a1 v26 v38 M27) else (if v25 ≤ v38 then (j_MO_top_61 a1 v24 v25 v26 M27) else (j_MO_top_55 a1 v26 v38 M27))) else (j_MO_top_61 a1 v24 v25 v26 M27)))))
noncomputable def s_MO_top (a1 : Int32) (M : Mem) : Option (Int32 × Mem) :=
  nx ((-1 : Int32)) (fun v21 => nx ((0 : Int32)) (fun v22 => nx ((0 : Int32)) (fun v23 => lp (fun q : Int32 × Int32 × Int32 × Mem => l_MO_top_7 a1 q.1 q.2.1 q.2.2.1 q.2.2.2) (v21, v22, v23, M))))
set_option maxHeartbeats 4000000 in
set_option maxRecDepth 100000 in
theorem c_MO_top (l : Launch) (x : Cx) (hJ : Inj x) (a1 : Int32) {M : Mem} {out : Int32 × Mem} (h : s_MO_top a1 M = some out) : Ci l x y_MO_top (Cond.code y_MO_top b_MO_top 6 (some .int) :: tb) r_MO_top [.ref (x.2.1 26), .int a1] M out := by
  refine ofCi (cc := b_MO_top) (maxL := 6) (by decide) rfl (rfl) (Nat.le_of_ble_eq_true rfl) ?_
  intro p e s m args below meth c Q G0 ls g hx hb hml hown hts hK hZ hP hS hl hret
  have hown : s.vm.findClass R_MO = some m.cls := hown
  have hl : lv_has ls 6 [(0, .ref (x.2.1 26)), (1, .int a1)] := hl
  obtain ⟨H, eH⟩ : ∃ z, z = s.heap := ⟨_, rfl⟩
  obtain ⟨locs, eL⟩ : ∃ z, z = ([] : List Loc) := ⟨_, rfl⟩
  rw [← eH] at hP
  have hS : va_S (A0 x) s.heap H locs := by rw [eH, eL]; exact hS
  rw [← eL]
  have key : W p l e r_MO_top s m args below meth c H locs 0 0 Q (F0 m 0 ls []) := by
    clear eH eL
    unfold s_MO_top at h
    refine lv_iconst (v := (-1 : Int32)) hx hb d_MO_top_0 (by decide) ?_
    obtain ⟨v21, ev21, h⟩ := nx_e h
    refine tp_i ev21 ?_
    refine lv_istore_n hx hb d_MO_top_1 rfl hl (by decide) rfl (fun ls hl => ?_)
    have hl : lv_has ls 6 [(2, .int v21), (0, .ref (x.2.1 26)), (1, .int a1)] := hl
    refine lv_iconst (v := (0 : Int32)) hx hb d_MO_top_2 (by decide) ?_
    obtain ⟨v22, ev22, h⟩ := nx_e h
    refine tp_i ev22 ?_
    refine lv_istore_n hx hb d_MO_top_3 rfl hl (by decide) rfl (fun ls hl => ?_)
    have hl : lv_has ls 6 [(3, .int v22), (2, .int v21), (0, .ref (x.2.1 26)), (1, .int a1)] := hl
    refine lv_iconst (v := (0 : Int32)) hx hb d_MO_top_4 (by decide) ?_
    obtain ⟨v23, ev23, h⟩ := nx_e h
    refine tp_i ev23 ?_
    refine lv_istore hx hb d_MO_top_5 hl (by decide) rfl (fun ls hl => ?_)
    have hl : lv_has ls 6 [(4, .int v23), (3, .int v22), (2, .int v21), (0, .ref (x.2.1 26)), (1, .int a1)] := hl
    obtain ⟨P7, eP7⟩ : ∃ P : (Int32 × Int32 × Int32 × Mem) → Prop, P = (fun q => ∀ (H : Heap) (locs : List Loc) (ls : Array Slot), va_P x.1 vwCl (wld x (q.2.2.2)) H → va_S (A0 x) s.heap H locs → lv_has ls 6 [(0, .ref (x.2.1 26)), (1, .int a1), (2, .int (q.1)), (3, .int (q.2.1)), (4, .int (q.2.2.1))] → W p l e r_MO_top s m args below meth c H locs 0 0 Q (F0 m 7 ls [])) := ⟨_, rfl⟩
    have L7 : P7 (v21, v22, v23, M) := by
      refine lp_walk (G := G0) ?_ h g
      intro q res h g
      obtain ⟨v24, v25, v26, M27⟩ := q
      rw [eP7]
      intro H locs ls hP hS hl
      have hP : va_P x.1 vwCl (wld x M27) H := hP
      have hl : lv_has ls 6 [(0, .ref (x.2.1 26)), (1, .int a1), (2, .int v24), (3, .int v25), (4, .int v26)] := hl
      have h : l_MO_top_7 a1 v24 v25 v26 M27 = some res := h
      unfold l_MO_top_7 at h
      have J61 : ∀ (a28 : Int32) (a29 : Int32) (a30 : Int32) (M31 : Mem)  (res : (Int32 × Int32 × Int32 × Mem) ⊕ (Int32 × Mem)) (h : j_MO_top_61 a1 a28 a29 a30 M31 = some res) (g : (lpG P7 G0) res) (H : Heap) (locs : List Loc) (ls : Array Slot) (hP : va_P x.1 vwCl (wld x M31) H) (hS : va_S (A0 x) s.heap H locs) (hl : lv_has ls 6 [(0, .ref (x.2.1 26)), (1, .int a1), (2, .int a28), (3, .int a29), (4, .int a30)]), W p l e r_MO_top s m args below meth c H locs 0 0 Q (F0 m 61 ls []) := by
        intro a28 a29 a30 M31 res h g H locs ls hP hS hl
        unfold j_MO_top_61 at h
        obtain ⟨v32, ev32, h⟩ := nx_e h
        refine lv_iinc (k := 4) hx hb d_MO_top_61 hl rfl (iinc_v (k := (1 : Int32)) (by decide) ev32) (by decide) rfl (fun ls hl => ?_)
        have hl : lv_has ls 6 [(4, .int v32), (0, .ref (x.2.1 26)), (1, .int a1), (2, .int a28), (3, .int a29)] := hl
        refine lv_goto (tgt := 7) hx hb d_MO_top_64 rfl ?_
        obtain rfl := Option.some.inj h
        have g : P7 (a28, a29, v32, M31) := g
        rw [eP7] at g
        exact g H locs ls hP hS (lv_sub hl [1, 2, 3, 4, 0] rfl)
      have J55 : ∀ (a33 : Int32) (a34 : Int32) (M35 : Mem)  (res : (Int32 × Int32 × Int32 × Mem) ⊕ (Int32 × Mem)) (h : j_MO_top_55 a1 a33 a34 M35 = some res) (g : (lpG P7 G0) res) (H : Heap) (locs : List Loc) (ls : Array Slot) (hP : va_P x.1 vwCl (wld x M35) H) (hS : va_S (A0 x) s.heap H locs) (hl : lv_has ls 6 [(0, .ref (x.2.1 26)), (1, .int a1), (4, .int a33), (5, .int a34)]), W p l e r_MO_top s m args below meth c H locs 0 0 Q (F0 m 55 ls []) := by
        intro a33 a34 M35 res h g H locs ls hP hS hl
        unfold j_MO_top_55 at h
        refine lv_iload hx hb d_MO_top_55 (lv_at hl 2 rfl) ?_
        refine lv_istore_n hx hb d_MO_top_57 rfl hl (by decide) rfl (fun ls hl => ?_)
        have hl : lv_has ls 6 [(2, .int a33), (0, .ref (x.2.1 26)), (1, .int a1), (4, .int a33), (5, .int a34)] := hl
        refine lv_iload hx hb d_MO_top_58 (lv_at hl 4 rfl) ?_
        refine lv_istore_n hx hb d_MO_top_60 rfl hl (by decide) rfl (fun ls hl => ?_)
        have hl : lv_has ls 6 [(3, .int a34), (2, .int a33), (0, .ref (x.2.1 26)), (1, .int a1), (4, .int a33), (5, .int a34)] := hl
        exact J61 a33 a34 a33 M35 _ h g H locs ls hP hS (lv_sub hl [2, 3, 1, 0, 4] rfl)
      refine lv_iload hx hb d_MO_top_7 (lv_at hl 4 rfl) ?_
      refine lv_aload_n hx hb d_MO_top_9 rfl (lv_at hl 0 rfl) ?_
      refine gf_MO_145 hx hb hts hown hK hP d_MO_top_10 ?_
      refine lv_icmp_ge (tgt := 67) hx hb d_MO_top_13 rfl (fun hc => ?_) (fun hc => ?_)
      · have h := if_p hc h
        refine lv_iload_n hx hb d_MO_top_67 rfl (lv_at hl 2 rfl) ?_
        obtain rfl := Option.some.inj h
        exact hret d_MO_top_68 g hP hS
      · have h := if_m hc h
        refine lv_aload_n hx hb d_MO_top_16 rfl (lv_at hl 0 rfl) ?_
        refine gf_MO_79 hx hb hts hown hK hP d_MO_top_17 ?_
        refine lv_iload hx hb d_MO_top_20 (lv_at hl 4 rfl) ?_
        obtain ⟨b36, h⟩ := ck_e h
        refine m_ald hx hb hK hP ar_MO_stepsOf b36 d_MO_top_22 ?_
        refine lv_iconst (v := (1 : Int32)) hx hb d_MO_top_23 (by decide) ?_
        refine lv_aload_n hx hb d_MO_top_24 rfl (lv_at hl 0 rfl) ?_
        refine gf_MO_40 hx hb hts hown hK hP d_MO_top_25 ?_
        refine lv_iload hx hb d_MO_top_28 (lv_at hl 4 rfl) ?_
        obtain ⟨b37, h⟩ := ck_e h
        refine m_ald hx hb hK hP ar_MO_lengths b37 d_MO_top_30 ?_
        refine lv_iadd hx hb d_MO_top_31 ?_
        refine lv_imul hx hb d_MO_top_32 ?_
        obtain ⟨v38, ev38, h⟩ := nx_e h
        refine tp_i ev38 ?_
        refine lv_istore hx hb d_MO_top_33 hl (by decide) rfl (fun ls hl => ?_)
        have hl : lv_has ls 6 [(5, .int v38), (0, .ref (x.2.1 26)), (1, .int a1), (2, .int v24), (3, .int v25), (4, .int v26)] := hl
        refine lv_iload_n hx hb d_MO_top_35 rfl (lv_at hl 2 rfl) ?_
        refine lv_iload hx hb d_MO_top_36 (lv_at hl 5 rfl) ?_
        refine lv_ishr hx hb d_MO_top_38 ?_
        refine lv_iconst (v := (1 : Int32)) hx hb d_MO_top_39 (by decide) ?_
        refine lv_iand hx hb d_MO_top_40 ?_
        refine lv_iconst (v := (1 : Int32)) hx hb d_MO_top_41 (by decide) ?_
        refine lv_icmp_ne (tgt := 61) hx hb d_MO_top_42 rfl (fun hc => ?_) (fun hc => ?_)
        · have h := if_m hc h
          exact J61 v24 v25 v26 M27 _ h g H locs ls hP hS (lv_sub hl [1, 2, 3, 4, 5] rfl)
        · have h := if_p hc h
          refine lv_iload_n hx hb d_MO_top_45 rfl (lv_at hl 3 rfl) ?_
          refine lv_if_lt (tgt := 55) hx hb d_MO_top_46 rfl (fun hc => ?_) (fun hc => ?_)
          · have h := if_p hc h
            exact J55 v26 v38 M27 _ h g H locs ls hP hS (lv_sub hl [1, 2, 5, 0] rfl)
          · have h := if_m hc h
            refine lv_iload hx hb d_MO_top_49 (lv_at hl 0 rfl) ?_
            refine lv_iload_n hx hb d_MO_top_51 rfl (lv_at hl 4 rfl) ?_
            refine lv_icmp_ge (tgt := 61) hx hb d_MO_top_52 rfl (fun hc => ?_) (fun hc => ?_)
            · have h := if_p hc h
              exact J61 v24 v25 v26 M27 _ h g H locs ls hP hS (lv_sub hl [1, 2, 3, 4, 5] rfl)
            · have h := if_m hc h
              exact J55 v26 v38 M27 _ h g H locs ls hP hS (lv_sub hl [1, 2, 5, 0] rfl)
    rw [eP7] at L7
    exact L7 H locs ls hP hS (lv_sub hl [3, 4, 2, 1, 0] rfl)
  rw [eH] at key
  exact key
theorem d_MO_survey_0 : decode b_MO_survey 0 = .ok (.aload_n 0, 1) := by decide +kernel
theorem d_MO_survey_1 : decode b_MO_survey 1 = .ok (.getfield 142, 3) := by decide +kernel
theorem d_MO_survey_4 : decode b_MO_survey 4 = .ok (.aload_n 0, 1) := by decide +kernel
theorem d_MO_survey_5 : decode b_MO_survey 5 = .ok (.getfield 145, 3) := by decide +kernel
theorem d_MO_survey_8 : decode b_MO_survey 8 = .ok (.if_icmp .ne 4, 3) := by decide +kernel
theorem d_MO_survey_11 : decode b_MO_survey 11 = .ok (.return_, 1) := by decide +kernel
theorem d_MO_survey_12 : decode b_MO_survey 12 = .ok (.aload_n 0, 1) := by decide +kernel
theorem d_MO_survey_13 : decode b_MO_survey 13 = .ok (.aload_n 0, 1) := by decide +kernel
theorem d_MO_survey_14 : decode b_MO_survey 14 = .ok (.getfield 145, 3) := by decide +kernel
theorem d_MO_survey_17 : decode b_MO_survey 17 = .ok (.putfield 142, 3) := by decide +kernel
theorem d_MO_survey_20 : decode b_MO_survey 20 = .ok (.iconst 0, 1) := by decide +kernel
theorem d_MO_survey_21 : decode b_MO_survey 21 = .ok (.istore_n 1, 1) := by decide +kernel
theorem d_MO_survey_22 : decode b_MO_survey 22 = .ok (.iload_n 1, 1) := by decide +kernel
theorem d_MO_survey_23 : decode b_MO_survey 23 = .ok (.sipush 576, 3) := by decide +kernel
theorem d_MO_survey_26 : decode b_MO_survey 26 = .ok (.if_icmp .ge 23, 3) := by decide +kernel
theorem d_MO_survey_29 : decode b_MO_survey 29 = .ok (.aload_n 0, 1) := by decide +kernel
theorem d_MO_survey_30 : decode b_MO_survey 30 = .ok (.getfield 73, 3) := by decide +kernel
theorem d_MO_survey_33 : decode b_MO_survey 33 = .ok (.iload_n 1, 1) := by decide +kernel
theorem d_MO_survey_34 : decode b_MO_survey 34 = .ok (.iconst 0, 1) := by decide +kernel
theorem d_MO_survey_35 : decode b_MO_survey 35 = .ok (.iastore, 1) := by decide +kernel
theorem d_MO_survey_36 : decode b_MO_survey 36 = .ok (.aload_n 0, 1) := by decide +kernel
theorem d_MO_survey_37 : decode b_MO_survey 37 = .ok (.getfield 76, 3) := by decide +kernel
theorem d_MO_survey_40 : decode b_MO_survey 40 = .ok (.iload_n 1, 1) := by decide +kernel
theorem d_MO_survey_41 : decode b_MO_survey 41 = .ok (.iconst 0, 1) := by decide +kernel
theorem d_MO_survey_42 : decode b_MO_survey 42 = .ok (.iastore, 1) := by decide +kernel
theorem d_MO_survey_43 : decode b_MO_survey 43 = .ok (.iinc 1 1, 3) := by decide +kernel
theorem d_MO_survey_46 : decode b_MO_survey 46 = .ok (.goto (-24), 3) := by decide +kernel
theorem d_MO_survey_49 : decode b_MO_survey 49 = .ok (.iconst 0, 1) := by decide +kernel
theorem d_MO_survey_50 : decode b_MO_survey 50 = .ok (.istore_n 1, 1) := by decide +kernel
theorem d_MO_survey_51 : decode b_MO_survey 51 = .ok (.iload_n 1, 1) := by decide +kernel
theorem d_MO_survey_52 : decode b_MO_survey 52 = .ok (.aload_n 0, 1) := by decide +kernel
theorem d_MO_survey_53 : decode b_MO_survey 53 = .ok (.getfield 145, 3) := by decide +kernel
theorem d_MO_survey_56 : decode b_MO_survey 56 = .ok (.if_icmp .ge 88, 3) := by decide +kernel
theorem d_MO_survey_59 : decode b_MO_survey 59 = .ok (.aload_n 0, 1) := by decide +kernel
theorem d_MO_survey_60 : decode b_MO_survey 60 = .ok (.iload_n 1, 1) := by decide +kernel
theorem d_MO_survey_61 : decode b_MO_survey 61 = .ok (.invokevirtual 148, 3) := by decide +kernel
theorem d_MO_survey_64 : decode b_MO_survey 64 = .ok (.aload_n 0, 1) := by decide +kernel
theorem d_MO_survey_65 : decode b_MO_survey 65 = .ok (.getfield 79, 3) := by decide +kernel
theorem d_MO_survey_68 : decode b_MO_survey 68 = .ok (.iload_n 1, 1) := by decide +kernel
theorem d_MO_survey_69 : decode b_MO_survey 69 = .ok (.aload_n 0, 1) := by decide +kernel
theorem d_MO_survey_70 : decode b_MO_survey 70 = .ok (.getfield 111, 3) := by decide +kernel
theorem d_MO_survey_73 : decode b_MO_survey 73 = .ok (.iastore, 1) := by decide +kernel
theorem d_MO_survey_74 : decode b_MO_survey 74 = .ok (.iconst 0, 1) := by decide +kernel
theorem d_MO_survey_75 : decode b_MO_survey 75 = .ok (.istore_n 2, 1) := by decide +kernel
theorem d_MO_survey_76 : decode b_MO_survey 76 = .ok (.iload_n 2, 1) := by decide +kernel
theorem d_MO_survey_77 : decode b_MO_survey 77 = .ok (.sipush 576, 3) := by decide +kernel
theorem d_MO_survey_80 : decode b_MO_survey 80 = .ok (.if_icmp .ge 58, 3) := by decide +kernel
theorem d_MO_survey_83 : decode b_MO_survey 83 = .ok (.aload_n 0, 1) := by decide +kernel
theorem d_MO_survey_84 : decode b_MO_survey 84 = .ok (.getfield 34, 3) := by decide +kernel
theorem d_MO_survey_87 : decode b_MO_survey 87 = .ok (.iload_n 2, 1) := by decide +kernel
theorem d_MO_survey_88 : decode b_MO_survey 88 = .ok (.iaload, 1) := by decide +kernel
theorem d_MO_survey_89 : decode b_MO_survey 89 = .ok (.ifCond .le 43, 3) := by decide +kernel
theorem d_MO_survey_92 : decode b_MO_survey 92 = .ok (.aload_n 0, 1) := by decide +kernel
theorem d_MO_survey_93 : decode b_MO_survey 93 = .ok (.getfield 73, 3) := by decide +kernel
theorem d_MO_survey_96 : decode b_MO_survey 96 = .ok (.iload_n 2, 1) := by decide +kernel
theorem d_MO_survey_97 : decode b_MO_survey 97 = .ok (.aload_n 0, 1) := by decide +kernel
theorem d_MO_survey_98 : decode b_MO_survey 98 = .ok (.getfield 73, 3) := by decide +kernel
theorem d_MO_survey_101 : decode b_MO_survey 101 = .ok (.iload_n 2, 1) := by decide +kernel
theorem d_MO_survey_102 : decode b_MO_survey 102 = .ok (.iaload, 1) := by decide +kernel
theorem d_MO_survey_103 : decode b_MO_survey 103 = .ok (.iconst 1, 1) := by decide +kernel
theorem d_MO_survey_104 : decode b_MO_survey 104 = .ok (.aload_n 0, 1) := by decide +kernel
theorem d_MO_survey_105 : decode b_MO_survey 105 = .ok (.getfield 34, 3) := by decide +kernel
theorem d_MO_survey_108 : decode b_MO_survey 108 = .ok (.iload_n 2, 1) := by decide +kernel
theorem d_MO_survey_109 : decode b_MO_survey 109 = .ok (.iaload, 1) := by decide +kernel
theorem d_MO_survey_110 : decode b_MO_survey 110 = .ok (.invokestatic 152, 3) := by decide +kernel
theorem d_MO_survey_113 : decode b_MO_survey 113 = .ok (.ishl, 1) := by decide +kernel
theorem d_MO_survey_114 : decode b_MO_survey 114 = .ok (.ior, 1) := by decide +kernel
theorem d_MO_survey_115 : decode b_MO_survey 115 = .ok (.iastore, 1) := by decide +kernel
theorem d_MO_survey_116 : decode b_MO_survey 116 = .ok (.aload_n 0, 1) := by decide +kernel
theorem d_MO_survey_117 : decode b_MO_survey 117 = .ok (.getfield 76, 3) := by decide +kernel
theorem d_MO_survey_120 : decode b_MO_survey 120 = .ok (.iload_n 2, 1) := by decide +kernel
theorem d_MO_survey_121 : decode b_MO_survey 121 = .ok (.aload_n 0, 1) := by decide +kernel
theorem d_MO_survey_122 : decode b_MO_survey 122 = .ok (.getfield 76, 3) := by decide +kernel
theorem d_MO_survey_125 : decode b_MO_survey 125 = .ok (.iload_n 2, 1) := by decide +kernel
theorem d_MO_survey_126 : decode b_MO_survey 126 = .ok (.iaload, 1) := by decide +kernel
theorem d_MO_survey_127 : decode b_MO_survey 127 = .ok (.iconst 1, 1) := by decide +kernel
theorem d_MO_survey_128 : decode b_MO_survey 128 = .ok (.iload_n 1, 1) := by decide +kernel
theorem d_MO_survey_129 : decode b_MO_survey 129 = .ok (.ishl, 1) := by decide +kernel
theorem d_MO_survey_130 : decode b_MO_survey 130 = .ok (.ior, 1) := by decide +kernel
theorem d_MO_survey_131 : decode b_MO_survey 131 = .ok (.iastore, 1) := by decide +kernel
theorem d_MO_survey_132 : decode b_MO_survey 132 = .ok (.iinc 2 1, 3) := by decide +kernel
theorem d_MO_survey_135 : decode b_MO_survey 135 = .ok (.goto (-59), 3) := by decide +kernel
theorem d_MO_survey_138 : decode b_MO_survey 138 = .ok (.iinc 1 1, 3) := by decide +kernel
theorem d_MO_survey_141 : decode b_MO_survey 141 = .ok (.goto (-90), 3) := by decide +kernel
theorem d_MO_survey_144 : decode b_MO_survey 144 = .ok (.aload_n 0, 1) := by decide +kernel
theorem d_MO_survey_145 : decode b_MO_survey 145 = .ok (.iconst 0, 1) := by decide +kernel
theorem d_MO_survey_146 : decode b_MO_survey 146 = .ok (.putfield 156, 3) := by decide +kernel
theorem d_MO_survey_149 : decode b_MO_survey 149 = .ok (.iconst 0, 1) := by decide +kernel
theorem d_MO_survey_150 : decode b_MO_survey 150 = .ok (.istore_n 1, 1) := by decide +kernel
theorem d_MO_survey_151 : decode b_MO_survey 151 = .ok (.iload_n 1, 1) := by decide +kernel
theorem d_MO_survey_152 : decode b_MO_survey 152 = .ok (.sipush 576, 3) := by decide +kernel
theorem d_MO_survey_155 : decode b_MO_survey 155 = .ok (.if_icmp .ge 53, 3) := by decide +kernel
theorem d_MO_survey_158 : decode b_MO_survey 158 = .ok (.aload_n 0, 1) := by decide +kernel
theorem d_MO_survey_159 : decode b_MO_survey 159 = .ok (.getfield 76, 3) := by decide +kernel
theorem d_MO_survey_162 : decode b_MO_survey 162 = .ok (.iload_n 1, 1) := by decide +kernel
theorem d_MO_survey_163 : decode b_MO_survey 163 = .ok (.iaload, 1) := by decide +kernel
theorem d_MO_survey_164 : decode b_MO_survey 164 = .ok (.ifCond .eq 38, 3) := by decide +kernel
theorem d_MO_survey_167 : decode b_MO_survey 167 = .ok (.aload_n 0, 1) := by decide +kernel
theorem d_MO_survey_168 : decode b_MO_survey 168 = .ok (.getfield 76, 3) := by decide +kernel
theorem d_MO_survey_171 : decode b_MO_survey 171 = .ok (.iload_n 1, 1) := by decide +kernel
theorem d_MO_survey_172 : decode b_MO_survey 172 = .ok (.iaload, 1) := by decide +kernel
theorem d_MO_survey_173 : decode b_MO_survey 173 = .ok (.aload_n 0, 1) := by decide +kernel
theorem d_MO_survey_174 : decode b_MO_survey 174 = .ok (.getfield 156, 3) := by decide +kernel
theorem d_MO_survey_177 : decode b_MO_survey 177 = .ok (.iand, 1) := by decide +kernel
theorem d_MO_survey_178 : decode b_MO_survey 178 = .ok (.ifCond .ne 24, 3) := by decide +kernel
theorem d_MO_survey_181 : decode b_MO_survey 181 = .ok (.aload_n 0, 1) := by decide +kernel
theorem d_MO_survey_182 : decode b_MO_survey 182 = .ok (.aload_n 0, 1) := by decide +kernel
theorem d_MO_survey_183 : decode b_MO_survey 183 = .ok (.getfield 156, 3) := by decide +kernel
theorem d_MO_survey_186 : decode b_MO_survey 186 = .ok (.iconst 1, 1) := by decide +kernel
theorem d_MO_survey_187 : decode b_MO_survey 187 = .ok (.aload_n 0, 1) := by decide +kernel
theorem d_MO_survey_188 : decode b_MO_survey 188 = .ok (.aload_n 0, 1) := by decide +kernel
theorem d_MO_survey_189 : decode b_MO_survey 189 = .ok (.getfield 76, 3) := by decide +kernel
theorem d_MO_survey_192 : decode b_MO_survey 192 = .ok (.iload_n 1, 1) := by decide +kernel
theorem d_MO_survey_193 : decode b_MO_survey 193 = .ok (.iaload, 1) := by decide +kernel
theorem d_MO_survey_194 : decode b_MO_survey 194 = .ok (.invokevirtual 159, 3) := by decide +kernel
theorem d_MO_survey_197 : decode b_MO_survey 197 = .ok (.ishl, 1) := by decide +kernel
theorem d_MO_survey_198 : decode b_MO_survey 198 = .ok (.ior, 1) := by decide +kernel
theorem d_MO_survey_199 : decode b_MO_survey 199 = .ok (.putfield 156, 3) := by decide +kernel
theorem d_MO_survey_202 : decode b_MO_survey 202 = .ok (.iinc 1 1, 3) := by decide +kernel
theorem d_MO_survey_205 : decode b_MO_survey 205 = .ok (.goto (-54), 3) := by decide +kernel
theorem d_MO_survey_208 : decode b_MO_survey 208 = .ok (.return_, 1) := by decide +kernel
noncomputable def j_MO_survey_202 (a26 : Int32) (M27 : Mem) : Option ((Int32 × Mem) ⊕ Mem) :=
  nx (a26 + (1 : Int32)) (fun v28 => some (.inl (v28, M27)))
noncomputable def l_MO_survey_151  (v24 : Int32) (M25 : Mem) : Option ((Int32 × Mem) ⊕ (Mem)) :=
  if (576 : Int32) ≤ v24 then (some (.inr M25)) else (ck v24 576 (if (M25 49 v24.toNatClampNeg) = 0 then (j_MO_survey_202 v24 M25) else (ck v24 576 (if ((M25 49 v24.toNatClampNeg) &&& (M25 26 39)) = 0 then (ck v24 576 (bi (s_MO_top (M25 49 v24.toNatClampNeg) M25) (fun r34 M32 => nx (st M32 26 39 ((M25 26 39) ||| ((1 : Int32) <<< (r34 &&& 31)))) (fun M35 => j_MO_survey_202 v24 M35)))) else (j_MO_survey_202 v24 M25)))))
noncomputable def j_MO_survey_144  (M21 : Mem) : Option (Mem) :=
  nx (st M21 26 39 (0 : Int32)) (fun M22 => nx ((0 : Int32)) (fun v23 => lp (fun q : Int32 × Mem => l_MO_survey_151 q.1 q.2) (v23, M22)))
noncomputable def j_MO_survey_138 (a40 : Int32) (M41 : Mem) : Option ((Int32 × Mem) ⊕ Mem) :=
  nx (a40 + (1 : Int32)) (fun v42 => some (.inl (v42, M41)))
noncomputable def j_MO_survey_132 (v38 : Int32) (a50 : Int32) (M51 : Mem) : Option ((Int32 × Mem) ⊕ ((Int32 × Mem) ⊕ Mem)) :=
  nx (a50 + (1 : Int32)) (fun v52 => some (.inl (v52, M51)))
noncomputable def l_MO_survey_76 (v38 : Int32) (v48 : Int32) (M49 : Mem) : Option ((Int32 × Mem) ⊕ ((Int32 × Mem) ⊕ Mem)) :=
  if (576 : Int32) ≤ v48 then (jw1 (j_MO_survey_138 v38 M49)) else (ck v48 576 (if (M49 35 v48.toNatClampNeg) ≤ 0 then (j_MO_survey_132 v38 v48 M49) else (ck v48 576 (ck v48 576 (bi (s_MO_bucket (M49 35 v48.toNatClampNeg) M49) (fun r58 M56 => ck v48 576 (nx (st M56 48 v48.toNatClampNeg ((M49 48 v48.toNatClampNeg) ||| ((1 : Int32) <<< (r58 &&& 31)))) (fun M60 => ck v48 576 (ck v48 576 (nx (st M60 49 v48.toNatClampNeg ((M60 49 v48.toNatClampNeg) ||| ((1 : Int32) <<< (v38 &&& 31)))) (fun M63 => j_MO_survey_132 v38 v48 M63)))))))))))
noncomputable def l_MO_survey_51  (v38 : Int32) (M39 : Mem) : Option ((Int32 × Mem) ⊕ (Mem)) :=
  if (M39 26 18) ≤ v38 then (jw1 (j_MO_survey_144 M39)) else (bv (s_MO_runEntry v38 M39) (fun M43 => ck v38 16 (nx (st M43 50 v38.toNatClampNeg (M43 26 15)) (fun M46 => nx ((0 : Int32)) (fun v47 => lp (fun q : Int32 × Mem => l_MO_survey_76 v38 q.1 q.2) (v47, M46))))))
noncomputable def j_MO_survey_49  (M36 : Mem) : Option (Mem) :=
  nx ((0 : Int32)) (fun v37 => lp (fun q : Int32 × Mem => l_MO_survey_51 q.1 q.2) (v37, M36))
noncomputable def l_MO_survey_22  (v66 : Int32) (M67 : Mem) : Option ((Int32 × Mem) ⊕ (Mem)) :=
  if (576 : Int32) ≤ v66 then (jw1 (j_MO_survey_49 M67)) else (ck v66 576 (nx (st M67 48 v66.toNatClampNeg (0 : Int32)) (fun M69 => ck v66 576 (nx (st M69 49 v66.toNatClampNeg (0 : Int32)) (fun M71 => nx (v66 + (1 : Int32)) (fun v72 => some (.inl (v72, M71))))))))
noncomputable def s_MO_survey  (M : Mem) : Option (Mem) :=
  if (M 26 35) = (M 26 18) then (some M) else (nx (st M 26 35 (M 26 18)) (fun M64 => nx ((0 : Int32)) (fun v65 => lp (fun q : Int32 × Mem => l_MO_survey_22 q.1 q.2) (v65, M64))))
set_option maxHeartbeats 4000000 in
set_option maxRecDepth 100000 in
theorem c_MO_survey (l : Launch) (x : Cx) (hJ : Inj x)  {M : Mem} {out : Mem} (h : s_MO_survey M = some out) : Cv l x y_MO_survey (Cond.code y_MO_survey b_MO_survey 3 none :: tb) r_MO_survey [.ref (x.2.1 26)] M out := by
  refine ofCv (cc := b_MO_survey) (maxL := 3) (by decide) rfl (rfl) (Nat.le_of_ble_eq_true rfl) ?_
  intro p e s m args below meth c Q G0 ls g hx hb hml hown hts hK hZ hP hS hl hret
  have hown : s.vm.findClass R_MO = some m.cls := hown
  have hl : lv_has ls 3 [(0, .ref (x.2.1 26))] := hl
  obtain ⟨H, eH⟩ : ∃ z, z = s.heap := ⟨_, rfl⟩
  obtain ⟨locs, eL⟩ : ∃ z, z = ([] : List Loc) := ⟨_, rfl⟩
  rw [← eH] at hP
  have hS : va_S (A0 x) s.heap H locs := by rw [eH, eL]; exact hS
  rw [← eL]
  have key : W p l e r_MO_survey s m args below meth c H locs 0 0 Q (F0 m 0 ls []) := by
    clear eH eL
    unfold s_MO_survey at h
    have J144 : ∀  (M21 : Mem)  (res : Mem) (h : j_MO_survey_144 M21 = some res) (g : G0 res) (H : Heap) (locs : List Loc) (ls : Array Slot) (hP : va_P x.1 vwCl (wld x M21) H) (hS : va_S (A0 x) s.heap H locs) (hl : lv_has ls 3 [(0, .ref (x.2.1 26))]), W p l e r_MO_survey s m args below meth c H locs 0 0 Q (F0 m 144 ls []) := by
      intro M21 res h g H locs ls hP hS hl
      unfold j_MO_survey_144 at h
      refine lv_aload_n hx hb d_MO_survey_144 rfl (lv_at hl 0 rfl) ?_
      refine lv_iconst (v := (0 : Int32)) hx hb d_MO_survey_145 (by decide) ?_
      obtain ⟨M22, eM22, h⟩ := nx_e h
      refine pf_MO_156 hx hb hts hown hK hJ hP hS eM22 d_MO_survey_146 (fun H locs hP hS => ?_)
      refine lv_iconst (v := (0 : Int32)) hx hb d_MO_survey_149 (by decide) ?_
      obtain ⟨v23, ev23, h⟩ := nx_e h
      refine tp_i ev23 ?_
      refine lv_istore_n hx hb d_MO_survey_150 rfl hl (by decide) rfl (fun ls hl => ?_)
      have hl : lv_has ls 3 [(1, .int v23), (0, .ref (x.2.1 26))] := hl
      obtain ⟨P151, eP151⟩ : ∃ P : (Int32 × Mem) → Prop, P = (fun q => ∀ (H : Heap) (locs : List Loc) (ls : Array Slot), va_P x.1 vwCl (wld x (q.2)) H → va_S (A0 x) s.heap H locs → lv_has ls 3 [(0, .ref (x.2.1 26)), (1, .int (q.1))] → W p l e r_MO_survey s m args below meth c H locs 0 0 Q (F0 m 151 ls [])) := ⟨_, rfl⟩
      have L151 : P151 (v23, M22) := by
        refine lp_walk (G := G0) ?_ h g
        intro q res h g
        obtain ⟨v24, M25⟩ := q
        rw [eP151]
        intro H locs ls hP hS hl
        have hP : va_P x.1 vwCl (wld x M25) H := hP
        have hl : lv_has ls 3 [(0, .ref (x.2.1 26)), (1, .int v24)] := hl
        have h : l_MO_survey_151 v24 M25 = some res := h
        unfold l_MO_survey_151 at h
        have J202 : ∀ (a26 : Int32) (M27 : Mem)  (res : (Int32 × Mem) ⊕ Mem) (h : j_MO_survey_202 a26 M27 = some res) (g : (lpG P151 G0) res) (H : Heap) (locs : List Loc) (ls : Array Slot) (hP : va_P x.1 vwCl (wld x M27) H) (hS : va_S (A0 x) s.heap H locs) (hl : lv_has ls 3 [(0, .ref (x.2.1 26)), (1, .int a26)]), W p l e r_MO_survey s m args below meth c H locs 0 0 Q (F0 m 202 ls []) := by
          intro a26 M27 res h g H locs ls hP hS hl
          unfold j_MO_survey_202 at h
          obtain ⟨v28, ev28, h⟩ := nx_e h
          refine lv_iinc (k := 1) hx hb d_MO_survey_202 hl rfl (iinc_v (k := (1 : Int32)) (by decide) ev28) (by decide) rfl (fun ls hl => ?_)
          have hl : lv_has ls 3 [(1, .int v28), (0, .ref (x.2.1 26))] := hl
          refine lv_goto (tgt := 151) hx hb d_MO_survey_205 rfl ?_
          obtain rfl := Option.some.inj h
          have g : P151 (v28, M27) := g
          rw [eP151] at g
          exact g H locs ls hP hS (lv_sub hl [1, 0] rfl)
        refine lv_iload_n hx hb d_MO_survey_151 rfl (lv_at hl 1 rfl) ?_
        refine lv_sipush (v := (576 : Int32)) hx hb d_MO_survey_152 (by decide) ?_
        refine lv_icmp_ge (tgt := 208) hx hb d_MO_survey_155 rfl (fun hc => ?_) (fun hc => ?_)
        · have h := if_p hc h
          obtain rfl := Option.some.inj h
          exact hret d_MO_survey_208 g hP hS
        · have h := if_m hc h
          refine lv_aload_n hx hb d_MO_survey_158 rfl (lv_at hl 0 rfl) ?_
          refine gf_MO_76 hx hb hts hown hK hP d_MO_survey_159 ?_
          refine lv_iload_n hx hb d_MO_survey_162 rfl (lv_at hl 1 rfl) ?_
          obtain ⟨b29, h⟩ := ck_e h
          refine m_ald hx hb hK hP ar_MO_went b29 d_MO_survey_163 ?_
          refine lv_if_eq (tgt := 202) hx hb d_MO_survey_164 rfl (fun hc => ?_) (fun hc => ?_)
          · have h := if_p hc h
            exact J202 v24 M25 _ h g H locs ls hP hS (lv_sub hl [0, 1] rfl)
          · have h := if_m hc h
            refine lv_aload_n hx hb d_MO_survey_167 rfl (lv_at hl 0 rfl) ?_
            refine gf_MO_76 hx hb hts hown hK hP d_MO_survey_168 ?_
            refine lv_iload_n hx hb d_MO_survey_171 rfl (lv_at hl 1 rfl) ?_
            obtain ⟨b30, h⟩ := ck_e h
            refine m_ald hx hb hK hP ar_MO_went b30 d_MO_survey_172 ?_
            refine lv_aload_n hx hb d_MO_survey_173 rfl (lv_at hl 0 rfl) ?_
            refine gf_MO_156 hx hb hts hown hK hP d_MO_survey_174 ?_
            refine lv_iand hx hb d_MO_survey_177 ?_
            refine lv_if_ne (tgt := 202) hx hb d_MO_survey_178 rfl (fun hc => ?_) (fun hc => ?_)
            · have h := if_m hc h
              exact J202 v24 M25 _ h g H locs ls hP hS (lv_sub hl [0, 1] rfl)
            · have h := if_p hc h
              refine lv_aload_n hx hb d_MO_survey_181 rfl (lv_at hl 0 rfl) ?_
              refine lv_aload_n hx hb d_MO_survey_182 rfl (lv_at hl 0 rfl) ?_
              refine gf_MO_156 hx hb hts hown hK hP d_MO_survey_183 ?_
              refine lv_iconst (v := (1 : Int32)) hx hb d_MO_survey_186 (by decide) ?_
              refine lv_aload_n hx hb d_MO_survey_187 rfl (lv_at hl 0 rfl) ?_
              refine lv_aload_n hx hb d_MO_survey_188 rfl (lv_at hl 0 rfl) ?_
              refine gf_MO_76 hx hb hts hown hK hP d_MO_survey_189 ?_
              refine lv_iload_n hx hb d_MO_survey_192 rfl (lv_at hl 1 rfl) ?_
              obtain ⟨b31, h⟩ := ck_e h
              refine m_ald hx hb hK hP ar_MO_went b31 d_MO_survey_193 ?_
              obtain ⟨r34, M32, c33, h⟩ := bi_e h
              refine cl_MO_159 (rest := [.int (1 : Int32), .int (M25 26 39), .ref (x.2.1 26)]) (R := r_MO_survey) (c_MO_top l x hJ (M25 49 v24.toNatClampNeg) c33) hx hb hml hts hown hK hZ hP hS hl.1 (Nat.le_of_ble_eq_true rfl) (Nat.le_of_ble_eq_true rfl) (Nat.le_of_ble_eq_true rfl) ⟨rfl, rfl, Nat.zero_le _, Nat.zero_le _⟩ d_MO_survey_194 (fun H locs hP hS => ?_)
              refine lv_ishl hx hb d_MO_survey_197 ?_
              refine lv_ior hx hb d_MO_survey_198 ?_
              obtain ⟨M35, eM35, h⟩ := nx_e h
              refine pf_MO_156 hx hb hts hown hK hJ hP hS eM35 d_MO_survey_199 (fun H locs hP hS => ?_)
              exact J202 v24 M35 _ h g H locs ls hP hS (lv_sub hl [0, 1] rfl)
      rw [eP151] at L151
      exact L151 H locs ls hP hS (lv_sub hl [1, 0] rfl)
    have J49 : ∀  (M36 : Mem)  (res : Mem) (h : j_MO_survey_49 M36 = some res) (g : G0 res) (H : Heap) (locs : List Loc) (ls : Array Slot) (hP : va_P x.1 vwCl (wld x M36) H) (hS : va_S (A0 x) s.heap H locs) (hl : lv_has ls 3 [(0, .ref (x.2.1 26))]), W p l e r_MO_survey s m args below meth c H locs 0 0 Q (F0 m 49 ls []) := by
      intro M36 res h g H locs ls hP hS hl
      unfold j_MO_survey_49 at h
      refine lv_iconst (v := (0 : Int32)) hx hb d_MO_survey_49 (by decide) ?_
      obtain ⟨v37, ev37, h⟩ := nx_e h
      refine tp_i ev37 ?_
      refine lv_istore_n hx hb d_MO_survey_50 rfl hl (by decide) rfl (fun ls hl => ?_)
      have hl : lv_has ls 3 [(1, .int v37), (0, .ref (x.2.1 26))] := hl
      obtain ⟨P51, eP51⟩ : ∃ P : (Int32 × Mem) → Prop, P = (fun q => ∀ (H : Heap) (locs : List Loc) (ls : Array Slot), va_P x.1 vwCl (wld x (q.2)) H → va_S (A0 x) s.heap H locs → lv_has ls 3 [(0, .ref (x.2.1 26)), (1, .int (q.1))] → W p l e r_MO_survey s m args below meth c H locs 0 0 Q (F0 m 51 ls [])) := ⟨_, rfl⟩
      have L51 : P51 (v37, M36) := by
        refine lp_walk (G := G0) ?_ h g
        intro q res h g
        obtain ⟨v38, M39⟩ := q
        rw [eP51]
        intro H locs ls hP hS hl
        have hP : va_P x.1 vwCl (wld x M39) H := hP
        have hl : lv_has ls 3 [(0, .ref (x.2.1 26)), (1, .int v38)] := hl
        have h : l_MO_survey_51 v38 M39 = some res := h
        unfold l_MO_survey_51 at h
        have J138 : ∀ (a40 : Int32) (M41 : Mem)  (res : (Int32 × Mem) ⊕ Mem) (h : j_MO_survey_138 a40 M41 = some res) (g : (lpG P51 G0) res) (H : Heap) (locs : List Loc) (ls : Array Slot) (hP : va_P x.1 vwCl (wld x M41) H) (hS : va_S (A0 x) s.heap H locs) (hl : lv_has ls 3 [(0, .ref (x.2.1 26)), (1, .int a40)]), W p l e r_MO_survey s m args below meth c H locs 0 0 Q (F0 m 138 ls []) := by
          intro a40 M41 res h g H locs ls hP hS hl
          unfold j_MO_survey_138 at h
          obtain ⟨v42, ev42, h⟩ := nx_e h
          refine lv_iinc (k := 1) hx hb d_MO_survey_138 hl rfl (iinc_v (k := (1 : Int32)) (by decide) ev42) (by decide) rfl (fun ls hl => ?_)
          have hl : lv_has ls 3 [(1, .int v42), (0, .ref (x.2.1 26))] := hl
          refine lv_goto (tgt := 51) hx hb d_MO_survey_141 rfl ?_
          obtain rfl := Option.some.inj h
          have g : P51 (v42, M41) := g
          rw [eP51] at g
          exact g H locs ls hP hS (lv_sub hl [1, 0] rfl)
        refine lv_iload_n hx hb d_MO_survey_51 rfl (lv_at hl 1 rfl) ?_
        refine lv_aload_n hx hb d_MO_survey_52 rfl (lv_at hl 0 rfl) ?_
        refine gf_MO_145 hx hb hts hown hK hP d_MO_survey_53 ?_
        refine lv_icmp_ge (tgt := 144) hx hb d_MO_survey_56 rfl (fun hc => ?_) (fun hc => ?_)
        · have h := if_p hc h
          obtain ⟨res2, hres, h2⟩ := jw1_e h
          clear h
          subst hres
          have h := h2
          exact J144 M39 _ h g H locs ls hP hS (lv_sub hl [0] rfl)
        · have h := if_m hc h
          refine lv_aload_n hx hb d_MO_survey_59 rfl (lv_at hl 0 rfl) ?_
          refine lv_iload_n hx hb d_MO_survey_60 rfl (lv_at hl 1 rfl) ?_
          obtain ⟨M43, c44, h⟩ := bv_e h
          refine cl_MO_148 (rest := []) (R := r_MO_survey) (c_MO_runEntry l x hJ v38 c44) hx hb hml hts hown hK hZ hP hS hl.1 (Nat.le_of_ble_eq_true rfl) (Nat.le_of_ble_eq_true rfl) (Nat.le_of_ble_eq_true rfl) ⟨rfl, rfl, Nat.zero_le _, Nat.zero_le _⟩ d_MO_survey_61 (fun H locs hP hS => ?_)
          refine lv_aload_n hx hb d_MO_survey_64 rfl (lv_at hl 0 rfl) ?_
          refine gf_MO_79 hx hb hts hown hK hP d_MO_survey_65 ?_
          refine lv_iload_n hx hb d_MO_survey_68 rfl (lv_at hl 1 rfl) ?_
          refine lv_aload_n hx hb d_MO_survey_69 rfl (lv_at hl 0 rfl) ?_
          refine gf_MO_111 hx hb hts hown hK hP d_MO_survey_70 ?_
          obtain ⟨b45, h⟩ := ck_e h
          obtain ⟨M46, eM46, h⟩ := nx_e h
          refine m_ast hx hb hK hJ hP hS ar_MO_stepsOf b45 eM46 d_MO_survey_73 (fun H locs hP hS => ?_)
          refine lv_iconst (v := (0 : Int32)) hx hb d_MO_survey_74 (by decide) ?_
          obtain ⟨v47, ev47, h⟩ := nx_e h
          refine tp_i ev47 ?_
          refine lv_istore_n hx hb d_MO_survey_75 rfl hl (by decide) rfl (fun ls hl => ?_)
          have hl : lv_has ls 3 [(2, .int v47), (0, .ref (x.2.1 26)), (1, .int v38)] := hl
          obtain ⟨P76, eP76⟩ : ∃ P : (Int32 × Mem) → Prop, P = (fun q => ∀ (H : Heap) (locs : List Loc) (ls : Array Slot), va_P x.1 vwCl (wld x (q.2)) H → va_S (A0 x) s.heap H locs → lv_has ls 3 [(0, .ref (x.2.1 26)), (1, .int v38), (2, .int (q.1))] → W p l e r_MO_survey s m args below meth c H locs 0 0 Q (F0 m 76 ls [])) := ⟨_, rfl⟩
          have L76 : P76 (v47, M46) := by
            refine lp_walk (G := (lpG P51 G0)) ?_ h g
            intro q res h g
            obtain ⟨v48, M49⟩ := q
            rw [eP76]
            intro H locs ls hP hS hl
            have hP : va_P x.1 vwCl (wld x M49) H := hP
            have hl : lv_has ls 3 [(0, .ref (x.2.1 26)), (1, .int v38), (2, .int v48)] := hl
            have h : l_MO_survey_76 v38 v48 M49 = some res := h
            unfold l_MO_survey_76 at h
            have J132 : ∀ (a50 : Int32) (M51 : Mem)  (res : (Int32 × Mem) ⊕ ((Int32 × Mem) ⊕ Mem)) (h : j_MO_survey_132 v38 a50 M51 = some res) (g : (lpG P76 (lpG P51 G0)) res) (H : Heap) (locs : List Loc) (ls : Array Slot) (hP : va_P x.1 vwCl (wld x M51) H) (hS : va_S (A0 x) s.heap H locs) (hl : lv_has ls 3 [(0, .ref (x.2.1 26)), (1, .int v38), (2, .int a50)]), W p l e r_MO_survey s m args below meth c H locs 0 0 Q (F0 m 132 ls []) := by
              intro a50 M51 res h g H locs ls hP hS hl
              unfold j_MO_survey_132 at h
              obtain ⟨v52, ev52, h⟩ := nx_e h
              refine lv_iinc (k := 2) hx hb d_MO_survey_132 hl rfl (iinc_v (k := (1 : Int32)) (by decide) ev52) (by decide) rfl (fun ls hl => ?_)
              have hl : lv_has ls 3 [(2, .int v52), (0, .ref (x.2.1 26)), (1, .int v38)] := hl
              refine lv_goto (tgt := 76) hx hb d_MO_survey_135 rfl ?_
              obtain rfl := Option.some.inj h
              have g : P76 (v52, M51) := g
              rw [eP76] at g
              exact g H locs ls hP hS (lv_sub hl [1, 2, 0] rfl)
            refine lv_iload_n hx hb d_MO_survey_76 rfl (lv_at hl 2 rfl) ?_
            refine lv_sipush (v := (576 : Int32)) hx hb d_MO_survey_77 (by decide) ?_
            refine lv_icmp_ge (tgt := 138) hx hb d_MO_survey_80 rfl (fun hc => ?_) (fun hc => ?_)
            · have h := if_p hc h
              obtain ⟨res2, hres, h2⟩ := jw1_e h
              clear h
              subst hres
              have h := h2
              exact J138 v38 M49 _ h g H locs ls hP hS (lv_sub hl [0, 1] rfl)
            · have h := if_m hc h
              refine lv_aload_n hx hb d_MO_survey_83 rfl (lv_at hl 0 rfl) ?_
              refine gf_MO_34 hx hb hts hown hK hP d_MO_survey_84 ?_
              refine lv_iload_n hx hb d_MO_survey_87 rfl (lv_at hl 2 rfl) ?_
              obtain ⟨b53, h⟩ := ck_e h
              refine m_ald hx hb hK hP ar_MO_times b53 d_MO_survey_88 ?_
              refine lv_if_le (tgt := 132) hx hb d_MO_survey_89 rfl (fun hc => ?_) (fun hc => ?_)
              · have h := if_p hc h
                exact J132 v48 M49 _ h g H locs ls hP hS (lv_sub hl [0, 1, 2] rfl)
              · have h := if_m hc h
                refine lv_aload_n hx hb d_MO_survey_92 rfl (lv_at hl 0 rfl) ?_
                refine gf_MO_73 hx hb hts hown hK hP d_MO_survey_93 ?_
                refine lv_iload_n hx hb d_MO_survey_96 rfl (lv_at hl 2 rfl) ?_
                refine lv_aload_n hx hb d_MO_survey_97 rfl (lv_at hl 0 rfl) ?_
                refine gf_MO_73 hx hb hts hown hK hP d_MO_survey_98 ?_
                refine lv_iload_n hx hb d_MO_survey_101 rfl (lv_at hl 2 rfl) ?_
                obtain ⟨b54, h⟩ := ck_e h
                refine m_ald hx hb hK hP ar_MO_buckets b54 d_MO_survey_102 ?_
                refine lv_iconst (v := (1 : Int32)) hx hb d_MO_survey_103 (by decide) ?_
                refine lv_aload_n hx hb d_MO_survey_104 rfl (lv_at hl 0 rfl) ?_
                refine gf_MO_34 hx hb hts hown hK hP d_MO_survey_105 ?_
                refine lv_iload_n hx hb d_MO_survey_108 rfl (lv_at hl 2 rfl) ?_
                obtain ⟨b55, h⟩ := ck_e h
                refine m_ald hx hb hK hP ar_MO_times b55 d_MO_survey_109 ?_
                obtain ⟨r58, M56, c57, h⟩ := bi_e h
                refine cl_MO_152 (rest := [.int (1 : Int32), .int (M49 48 v48.toNatClampNeg), .int v48, .ref (x.2.1 48)]) (R := r_MO_survey) (c_MO_bucket l x hJ (M49 35 v48.toNatClampNeg) c57) hx hb hml hts hown hK hZ hP hS hl.1 (Nat.le_of_ble_eq_true rfl) (Nat.le_of_ble_eq_true rfl) (Nat.le_of_ble_eq_true rfl) ⟨rfl, rfl, Nat.zero_le _, Nat.zero_le _⟩ d_MO_survey_110 (fun H locs hP hS => ?_)
                refine lv_ishl hx hb d_MO_survey_113 ?_
                refine lv_ior hx hb d_MO_survey_114 ?_
                obtain ⟨b59, h⟩ := ck_e h
                obtain ⟨M60, eM60, h⟩ := nx_e h
                refine m_ast hx hb hK hJ hP hS ar_MO_buckets b59 eM60 d_MO_survey_115 (fun H locs hP hS => ?_)
                refine lv_aload_n hx hb d_MO_survey_116 rfl (lv_at hl 0 rfl) ?_
                refine gf_MO_76 hx hb hts hown hK hP d_MO_survey_117 ?_
                refine lv_iload_n hx hb d_MO_survey_120 rfl (lv_at hl 2 rfl) ?_
                refine lv_aload_n hx hb d_MO_survey_121 rfl (lv_at hl 0 rfl) ?_
                refine gf_MO_76 hx hb hts hown hK hP d_MO_survey_122 ?_
                refine lv_iload_n hx hb d_MO_survey_125 rfl (lv_at hl 2 rfl) ?_
                obtain ⟨b61, h⟩ := ck_e h
                refine m_ald hx hb hK hP ar_MO_went b61 d_MO_survey_126 ?_
                refine lv_iconst (v := (1 : Int32)) hx hb d_MO_survey_127 (by decide) ?_
                refine lv_iload_n hx hb d_MO_survey_128 rfl (lv_at hl 1 rfl) ?_
                refine lv_ishl hx hb d_MO_survey_129 ?_
                refine lv_ior hx hb d_MO_survey_130 ?_
                obtain ⟨b62, h⟩ := ck_e h
                obtain ⟨M63, eM63, h⟩ := nx_e h
                refine m_ast hx hb hK hJ hP hS ar_MO_went b62 eM63 d_MO_survey_131 (fun H locs hP hS => ?_)
                exact J132 v48 M63 _ h g H locs ls hP hS (lv_sub hl [0, 1, 2] rfl)
          rw [eP76] at L76
          exact L76 H locs ls hP hS (lv_sub hl [1, 2, 0] rfl)
      rw [eP51] at L51
      exact L51 H locs ls hP hS (lv_sub hl [1, 0] rfl)
    refine lv_aload_n hx hb d_MO_survey_0 rfl (lv_at hl 0 rfl) ?_
    refine gf_MO_142 hx hb hts hown hK hP d_MO_survey_1 ?_
    refine lv_aload_n hx hb d_MO_survey_4 rfl (lv_at hl 0 rfl) ?_
    refine gf_MO_145 hx hb hts hown hK hP d_MO_survey_5 ?_
    refine lv_icmp_ne (tgt := 12) hx hb d_MO_survey_8 rfl (fun hc => ?_) (fun hc => ?_)
    · have h := if_m hc h
      refine lv_aload_n hx hb d_MO_survey_12 rfl (lv_at hl 0 rfl) ?_
      refine lv_aload_n hx hb d_MO_survey_13 rfl (lv_at hl 0 rfl) ?_
      refine gf_MO_145 hx hb hts hown hK hP d_MO_survey_14 ?_
      obtain ⟨M64, eM64, h⟩ := nx_e h
      refine pf_MO_142 hx hb hts hown hK hJ hP hS eM64 d_MO_survey_17 (fun H locs hP hS => ?_)
      refine lv_iconst (v := (0 : Int32)) hx hb d_MO_survey_20 (by decide) ?_
      obtain ⟨v65, ev65, h⟩ := nx_e h
      refine tp_i ev65 ?_
      refine lv_istore_n hx hb d_MO_survey_21 rfl hl (by decide) rfl (fun ls hl => ?_)
      have hl : lv_has ls 3 [(1, .int v65), (0, .ref (x.2.1 26))] := hl
      obtain ⟨P22, eP22⟩ : ∃ P : (Int32 × Mem) → Prop, P = (fun q => ∀ (H : Heap) (locs : List Loc) (ls : Array Slot), va_P x.1 vwCl (wld x (q.2)) H → va_S (A0 x) s.heap H locs → lv_has ls 3 [(0, .ref (x.2.1 26)), (1, .int (q.1))] → W p l e r_MO_survey s m args below meth c H locs 0 0 Q (F0 m 22 ls [])) := ⟨_, rfl⟩
      have L22 : P22 (v65, M64) := by
        refine lp_walk (G := G0) ?_ h g
        intro q res h g
        obtain ⟨v66, M67⟩ := q
        rw [eP22]
        intro H locs ls hP hS hl
        have hP : va_P x.1 vwCl (wld x M67) H := hP
        have hl : lv_has ls 3 [(0, .ref (x.2.1 26)), (1, .int v66)] := hl
        have h : l_MO_survey_22 v66 M67 = some res := h
        unfold l_MO_survey_22 at h
        refine lv_iload_n hx hb d_MO_survey_22 rfl (lv_at hl 1 rfl) ?_
        refine lv_sipush (v := (576 : Int32)) hx hb d_MO_survey_23 (by decide) ?_
        refine lv_icmp_ge (tgt := 49) hx hb d_MO_survey_26 rfl (fun hc => ?_) (fun hc => ?_)
        · have h := if_p hc h
          obtain ⟨res2, hres, h2⟩ := jw1_e h
          clear h
          subst hres
          have h := h2
          exact J49 M67 _ h g H locs ls hP hS (lv_sub hl [0] rfl)
        · have h := if_m hc h
          refine lv_aload_n hx hb d_MO_survey_29 rfl (lv_at hl 0 rfl) ?_
          refine gf_MO_73 hx hb hts hown hK hP d_MO_survey_30 ?_
          refine lv_iload_n hx hb d_MO_survey_33 rfl (lv_at hl 1 rfl) ?_
          refine lv_iconst (v := (0 : Int32)) hx hb d_MO_survey_34 (by decide) ?_
          obtain ⟨b68, h⟩ := ck_e h
          obtain ⟨M69, eM69, h⟩ := nx_e h
          refine m_ast hx hb hK hJ hP hS ar_MO_buckets b68 eM69 d_MO_survey_35 (fun H locs hP hS => ?_)
          refine lv_aload_n hx hb d_MO_survey_36 rfl (lv_at hl 0 rfl) ?_
          refine gf_MO_76 hx hb hts hown hK hP d_MO_survey_37 ?_
          refine lv_iload_n hx hb d_MO_survey_40 rfl (lv_at hl 1 rfl) ?_
          refine lv_iconst (v := (0 : Int32)) hx hb d_MO_survey_41 (by decide) ?_
          obtain ⟨b70, h⟩ := ck_e h
          obtain ⟨M71, eM71, h⟩ := nx_e h
          refine m_ast hx hb hK hJ hP hS ar_MO_went b70 eM71 d_MO_survey_42 (fun H locs hP hS => ?_)
          obtain ⟨v72, ev72, h⟩ := nx_e h
          refine lv_iinc (k := 1) hx hb d_MO_survey_43 hl rfl (iinc_v (k := (1 : Int32)) (by decide) ev72) (by decide) rfl (fun ls hl => ?_)
          have hl : lv_has ls 3 [(1, .int v72), (0, .ref (x.2.1 26))] := hl
          refine lv_goto (tgt := 22) hx hb d_MO_survey_46 rfl ?_
          obtain rfl := Option.some.inj h
          have g : P22 (v72, M71) := g
          rw [eP22] at g
          exact g H locs ls hP hS (lv_sub hl [1, 0] rfl)
      rw [eP22] at L22
      exact L22 H locs ls hP hS (lv_sub hl [1, 0] rfl)
    · have h := if_p hc h
      obtain rfl := Option.some.inj h
      exact hret d_MO_survey_11 g hP hS
  rw [eH] at key
  exact key
