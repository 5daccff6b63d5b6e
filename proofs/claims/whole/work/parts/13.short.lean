theorem d_SH_makePart_0 : decode b_SH_makePart 0 = .ok (.aload_n 0, 1) := by decide +kernel
theorem d_SH_makePart_1 : decode b_SH_makePart 1 = .ok (.getfield 19, 3) := by decide +kernel
theorem d_SH_makePart_4 : decode b_SH_makePart 4 = .ok (.iconst 0, 1) := by decide +kernel
theorem d_SH_makePart_5 : decode b_SH_makePart 5 = .ok (.invokevirtual 64, 3) := by decide +kernel
theorem d_SH_makePart_8 : decode b_SH_makePart 8 = .ok (.aload_n 0, 1) := by decide +kernel
theorem d_SH_makePart_9 : decode b_SH_makePart 9 = .ok (.getfield 19, 3) := by decide +kernel
theorem d_SH_makePart_12 : decode b_SH_makePart 12 = .ok (.aload_n 1, 1) := by decide +kernel
theorem d_SH_makePart_13 : decode b_SH_makePart 13 = .ok (.iload_n 2, 1) := by decide +kernel
theorem d_SH_makePart_14 : decode b_SH_makePart 14 = .ok (.iload_n 3, 1) := by decide +kernel
theorem d_SH_makePart_15 : decode b_SH_makePart 15 = .ok (.invokevirtual 68, 3) := by decide +kernel
theorem d_SH_makePart_18 : decode b_SH_makePart 18 = .ok (.return_, 1) := by decide +kernel
noncomputable def s_SH_makePart (j1 : Nat) (a2 : Int32) (a3 : Int32) (M : Mem) : Option (Mem) :=
  bv (s_IN_cutTo 56 (0 : Int32) M) (fun M21 => bv (s_IN_appendPart 56 j1 a2 a3 M21) (fun M23 => some M23))
set_option maxHeartbeats 4000000 in
set_option maxRecDepth 100000 in
theorem c_SH_makePart (l : Launch) (x : Cx) (hJ : Inj x) (j1 : Nat) (k1 : kd_in j1) (a2 : Int32) (a3 : Int32) {M : Mem} {out : Mem} (h : s_SH_makePart j1 a2 a3 M = some out) : Cv l x y_SH_makePart (Cond.code y_SH_makePart b_SH_makePart 4 none :: tb) r_SH_makePart [.ref (x.2.1 11), .ref (x.2.1 j1), .int a2, .int a3] M out := by
  refine ofCv (cc := b_SH_makePart) (maxL := 4) (by decide) rfl (rfl) (Nat.le_of_ble_eq_true rfl) ?_
  intro p e s m args below meth c Q G0 ls g hx hb hml hown hts hK hZ hP hS hl hret
  have hown : s.vm.findClass R_SH = some m.cls := hown
  have hl : lv_has ls 4 [(0, .ref (x.2.1 11)), (1, .ref (x.2.1 j1)), (2, .int a2), (3, .int a3)] := hl
  obtain ⟨H, eH⟩ : ∃ z, z = s.heap := ⟨_, rfl⟩
  obtain ⟨locs, eL⟩ : ∃ z, z = ([] : List Loc) := ⟨_, rfl⟩
  rw [← eH] at hP
  have hS : va_S (A0 x) s.heap H locs := by rw [eH, eL]; exact hS
  rw [← eL]
  have key : W p l e r_SH_makePart s m args below meth c H locs 0 0 Q (F0 m 0 ls []) := by
    clear eH eL
    unfold s_SH_makePart at h
    refine lv_aload_n hx hb d_SH_makePart_0 rfl (lv_at hl 0 rfl) ?_
    refine gf_SH_19 hx hb hts hown hK hP d_SH_makePart_1 ?_
    refine lv_iconst (v := (0 : Int32)) hx hb d_SH_makePart_4 (by decide) ?_
    obtain ⟨M21, c22, h⟩ := bv_e h
    refine cl_SH_64 (rest := []) (R := r_SH_makePart) (c_IN_cutTo l x hJ 56 kd_SH_candidate (0 : Int32) c22) kd_SH_candidate hx hb hml hts hown hK hZ hP hS hl.1 (Nat.le_of_ble_eq_true rfl) (Nat.le_of_ble_eq_true rfl) (Nat.le_of_ble_eq_true rfl) ⟨rfl, rfl, Nat.zero_le _, Nat.zero_le _⟩ d_SH_makePart_5 (fun H locs hP hS => ?_)
    refine lv_aload_n hx hb d_SH_makePart_8 rfl (lv_at hl 0 rfl) ?_
    refine gf_SH_19 hx hb hts hown hK hP d_SH_makePart_9 ?_
    refine lv_aload_n hx hb d_SH_makePart_12 rfl (lv_at hl 1 rfl) ?_
    refine lv_iload_n hx hb d_SH_makePart_13 rfl (lv_at hl 2 rfl) ?_
    refine lv_iload_n hx hb d_SH_makePart_14 rfl (lv_at hl 3 rfl) ?_
    obtain ⟨M23, c24, h⟩ := bv_e h
    refine cl_SH_68 (rest := []) (R := r_SH_makePart) (c_IN_appendPart l x hJ 56 kd_SH_candidate j1 k1 a2 a3 c24) kd_SH_candidate hx hb hml hts hown hK hZ hP hS hl.1 (Nat.le_of_ble_eq_true rfl) (Nat.le_of_ble_eq_true rfl) (Nat.le_of_ble_eq_true rfl) ⟨rfl, rfl, Nat.zero_le _, Nat.zero_le _⟩ d_SH_makePart_15 (fun H locs hP hS => ?_)
    obtain rfl := Option.some.inj h
    exact hret d_SH_makePart_18 g hP hS
  rw [eH] at key
  exact key
theorem d_SH_makeRest_0 : decode b_SH_makeRest 0 = .ok (.aload_n 0, 1) := by decide +kernel
theorem d_SH_makeRest_1 : decode b_SH_makeRest 1 = .ok (.getfield 19, 3) := by decide +kernel
theorem d_SH_makeRest_4 : decode b_SH_makeRest 4 = .ok (.iconst 0, 1) := by decide +kernel
theorem d_SH_makeRest_5 : decode b_SH_makeRest 5 = .ok (.invokevirtual 64, 3) := by decide +kernel
theorem d_SH_makeRest_8 : decode b_SH_makeRest 8 = .ok (.aload_n 0, 1) := by decide +kernel
theorem d_SH_makeRest_9 : decode b_SH_makeRest 9 = .ok (.getfield 19, 3) := by decide +kernel
theorem d_SH_makeRest_12 : decode b_SH_makeRest 12 = .ok (.aload_n 1, 1) := by decide +kernel
theorem d_SH_makeRest_13 : decode b_SH_makeRest 13 = .ok (.iconst 0, 1) := by decide +kernel
theorem d_SH_makeRest_14 : decode b_SH_makeRest 14 = .ok (.iload_n 2, 1) := by decide +kernel
theorem d_SH_makeRest_15 : decode b_SH_makeRest 15 = .ok (.invokevirtual 68, 3) := by decide +kernel
theorem d_SH_makeRest_18 : decode b_SH_makeRest 18 = .ok (.aload_n 0, 1) := by decide +kernel
theorem d_SH_makeRest_19 : decode b_SH_makeRest 19 = .ok (.getfield 19, 3) := by decide +kernel
theorem d_SH_makeRest_22 : decode b_SH_makeRest 22 = .ok (.aload_n 1, 1) := by decide +kernel
theorem d_SH_makeRest_23 : decode b_SH_makeRest 23 = .ok (.iload_n 3, 1) := by decide +kernel
theorem d_SH_makeRest_24 : decode b_SH_makeRest 24 = .ok (.aload_n 1, 1) := by decide +kernel
theorem d_SH_makeRest_25 : decode b_SH_makeRest 25 = .ok (.getfield 28, 3) := by decide +kernel
theorem d_SH_makeRest_28 : decode b_SH_makeRest 28 = .ok (.invokevirtual 68, 3) := by decide +kernel
theorem d_SH_makeRest_31 : decode b_SH_makeRest 31 = .ok (.return_, 1) := by decide +kernel
noncomputable def s_SH_makeRest (j1 : Nat) (a2 : Int32) (a3 : Int32) (M : Mem) : Option (Mem) :=
  bv (s_IN_cutTo 56 (0 : Int32) M) (fun M21 => bv (s_IN_appendPart 56 j1 (0 : Int32) a2 M21) (fun M23 => bv (s_IN_appendPart 56 j1 a3 (M23 j1 1) M23) (fun M25 => some M25)))
set_option maxHeartbeats 4000000 in
set_option maxRecDepth 100000 in
theorem c_SH_makeRest (l : Launch) (x : Cx) (hJ : Inj x) (j1 : Nat) (k1 : kd_in j1) (a2 : Int32) (a3 : Int32) {M : Mem} {out : Mem} (h : s_SH_makeRest j1 a2 a3 M = some out) : Cv l x y_SH_makeRest (Cond.code y_SH_makeRest b_SH_makeRest 4 none :: tb) r_SH_makeRest [.ref (x.2.1 11), .ref (x.2.1 j1), .int a2, .int a3] M out := by
  refine ofCv (cc := b_SH_makeRest) (maxL := 4) (by decide) rfl (rfl) (Nat.le_of_ble_eq_true rfl) ?_
  intro p e s m args below meth c Q G0 ls g hx hb hml hown hts hK hZ hP hS hl hret
  have hown : s.vm.findClass R_SH = some m.cls := hown
  have hl : lv_has ls 4 [(0, .ref (x.2.1 11)), (1, .ref (x.2.1 j1)), (2, .int a2), (3, .int a3)] := hl
  obtain ⟨H, eH⟩ : ∃ z, z = s.heap := ⟨_, rfl⟩
  obtain ⟨locs, eL⟩ : ∃ z, z = ([] : List Loc) := ⟨_, rfl⟩
  rw [← eH] at hP
  have hS : va_S (A0 x) s.heap H locs := by rw [eH, eL]; exact hS
  rw [← eL]
  have key : W p l e r_SH_makeRest s m args below meth c H locs 0 0 Q (F0 m 0 ls []) := by
    clear eH eL
    unfold s_SH_makeRest at h
    refine lv_aload_n hx hb d_SH_makeRest_0 rfl (lv_at hl 0 rfl) ?_
    refine gf_SH_19 hx hb hts hown hK hP d_SH_makeRest_1 ?_
    refine lv_iconst (v := (0 : Int32)) hx hb d_SH_makeRest_4 (by decide) ?_
    obtain ⟨M21, c22, h⟩ := bv_e h
    refine cl_SH_64 (rest := []) (R := r_SH_makeRest) (c_IN_cutTo l x hJ 56 kd_SH_candidate (0 : Int32) c22) kd_SH_candidate hx hb hml hts hown hK hZ hP hS hl.1 (Nat.le_of_ble_eq_true rfl) (Nat.le_of_ble_eq_true rfl) (Nat.le_of_ble_eq_true rfl) ⟨rfl, rfl, Nat.zero_le _, Nat.zero_le _⟩ d_SH_makeRest_5 (fun H locs hP hS => ?_)
    refine lv_aload_n hx hb d_SH_makeRest_8 rfl (lv_at hl 0 rfl) ?_
    refine gf_SH_19 hx hb hts hown hK hP d_SH_makeRest_9 ?_
    refine lv_aload_n hx hb d_SH_makeRest_12 rfl (lv_at hl 1 rfl) ?_
    refine lv_iconst (v := (0 : Int32)) hx hb d_SH_makeRest_13 (by decide) ?_
    refine lv_iload_n hx hb d_SH_makeRest_14 rfl (lv_at hl 2 rfl) ?_
    obtain ⟨M23, c24, h⟩ := bv_e h
    refine cl_SH_68 (rest := []) (R := r_SH_makeRest) (c_IN_appendPart l x hJ 56 kd_SH_candidate j1 k1 (0 : Int32) a2 c24) kd_SH_candidate hx hb hml hts hown hK hZ hP hS hl.1 (Nat.le_of_ble_eq_true rfl) (Nat.le_of_ble_eq_true rfl) (Nat.le_of_ble_eq_true rfl) ⟨rfl, rfl, Nat.zero_le _, Nat.zero_le _⟩ d_SH_makeRest_15 (fun H locs hP hS => ?_)
    refine lv_aload_n hx hb d_SH_makeRest_18 rfl (lv_at hl 0 rfl) ?_
    refine gf_SH_19 hx hb hts hown hK hP d_SH_makeRest_19 ?_
    refine lv_aload_n hx hb d_SH_makeRest_22 rfl (lv_at hl 1 rfl) ?_
    refine lv_iload_n hx hb d_SH_makeRest_23 rfl (lv_at hl 3 rfl) ?_
    refine lv_aload_n hx hb d_SH_makeRest_24 rfl (lv_at hl 1 rfl) ?_
    refine gf_SH_28 hx hb hts hown hK hP k1 d_SH_makeRest_25 ?_
    obtain ⟨M25, c26, h⟩ := bv_e h
    refine cl_SH_68 (rest := []) (R := r_SH_makeRest) (c_IN_appendPart l x hJ 56 kd_SH_candidate j1 k1 a3 (M23 j1 1) c26) kd_SH_candidate hx hb hml hts hown hK hZ hP hS hl.1 (Nat.le_of_ble_eq_true rfl) (Nat.le_of_ble_eq_true rfl) (Nat.le_of_ble_eq_true rfl) ⟨rfl, rfl, Nat.zero_le _, Nat.zero_le _⟩ d_SH_makeRest_28 (fun H locs hP hS => ?_)
    obtain rfl := Option.some.inj h
    exact hret d_SH_makeRest_31 g hP hS
  rw [eH] at key
  exact key
theorem d_SH_keepFirst_0 : decode b_SH_keepFirst 0 = .ok (.aload_n 1, 1) := by decide +kernel
theorem d_SH_keepFirst_1 : decode b_SH_keepFirst 1 = .ok (.getfield 23, 3) := by decide +kernel
theorem d_SH_keepFirst_4 : decode b_SH_keepFirst 4 = .ok (.astore 5, 2) := by decide +kernel
theorem d_SH_keepFirst_6 : decode b_SH_keepFirst 6 = .ok (.iconst 0, 1) := by decide +kernel
theorem d_SH_keepFirst_7 : decode b_SH_keepFirst 7 = .ok (.istore 6, 2) := by decide +kernel
theorem d_SH_keepFirst_9 : decode b_SH_keepFirst 9 = .ok (.iload 6, 2) := by decide +kernel
theorem d_SH_keepFirst_11 : decode b_SH_keepFirst 11 = .ok (.iload_n 3, 1) := by decide +kernel
theorem d_SH_keepFirst_12 : decode b_SH_keepFirst 12 = .ok (.if_icmp .ge 97, 3) := by decide +kernel
theorem d_SH_keepFirst_15 : decode b_SH_keepFirst 15 = .ok (.iload 6, 2) := by decide +kernel
theorem d_SH_keepFirst_17 : decode b_SH_keepFirst 17 = .ok (.aload 5, 2) := by decide +kernel
theorem d_SH_keepFirst_19 : decode b_SH_keepFirst 19 = .ok (.getfield 28, 3) := by decide +kernel
theorem d_SH_keepFirst_22 : decode b_SH_keepFirst 22 = .ok (.imul, 1) := by decide +kernel
theorem d_SH_keepFirst_23 : decode b_SH_keepFirst 23 = .ok (.iload_n 3, 1) := by decide +kernel
theorem d_SH_keepFirst_24 : decode b_SH_keepFirst 24 = .ok (.idiv, 1) := by decide +kernel
theorem d_SH_keepFirst_25 : decode b_SH_keepFirst 25 = .ok (.istore 7, 2) := by decide +kernel
theorem d_SH_keepFirst_27 : decode b_SH_keepFirst 27 = .ok (.iload 6, 2) := by decide +kernel
theorem d_SH_keepFirst_29 : decode b_SH_keepFirst 29 = .ok (.iconst 1, 1) := by decide +kernel
theorem d_SH_keepFirst_30 : decode b_SH_keepFirst 30 = .ok (.iadd, 1) := by decide +kernel
theorem d_SH_keepFirst_31 : decode b_SH_keepFirst 31 = .ok (.aload 5, 2) := by decide +kernel
theorem d_SH_keepFirst_33 : decode b_SH_keepFirst 33 = .ok (.getfield 28, 3) := by decide +kernel
theorem d_SH_keepFirst_36 : decode b_SH_keepFirst 36 = .ok (.imul, 1) := by decide +kernel
theorem d_SH_keepFirst_37 : decode b_SH_keepFirst 37 = .ok (.iload_n 3, 1) := by decide +kernel
theorem d_SH_keepFirst_38 : decode b_SH_keepFirst 38 = .ok (.idiv, 1) := by decide +kernel
theorem d_SH_keepFirst_39 : decode b_SH_keepFirst 39 = .ok (.istore 8, 2) := by decide +kernel
theorem d_SH_keepFirst_41 : decode b_SH_keepFirst 41 = .ok (.iload 4, 2) := by decide +kernel
theorem d_SH_keepFirst_43 : decode b_SH_keepFirst 43 = .ok (.ifCond .eq 16, 3) := by decide +kernel
theorem d_SH_keepFirst_46 : decode b_SH_keepFirst 46 = .ok (.aload_n 0, 1) := by decide +kernel
theorem d_SH_keepFirst_47 : decode b_SH_keepFirst 47 = .ok (.aload 5, 2) := by decide +kernel
theorem d_SH_keepFirst_49 : decode b_SH_keepFirst 49 = .ok (.iload 7, 2) := by decide +kernel
theorem d_SH_keepFirst_51 : decode b_SH_keepFirst 51 = .ok (.iload 8, 2) := by decide +kernel
theorem d_SH_keepFirst_53 : decode b_SH_keepFirst 53 = .ok (.invokevirtual 45, 3) := by decide +kernel
theorem d_SH_keepFirst_56 : decode b_SH_keepFirst 56 = .ok (.goto 13, 3) := by decide +kernel
theorem d_SH_keepFirst_59 : decode b_SH_keepFirst 59 = .ok (.aload_n 0, 1) := by decide +kernel
theorem d_SH_keepFirst_60 : decode b_SH_keepFirst 60 = .ok (.aload 5, 2) := by decide +kernel
theorem d_SH_keepFirst_62 : decode b_SH_keepFirst 62 = .ok (.iload 7, 2) := by decide +kernel
theorem d_SH_keepFirst_64 : decode b_SH_keepFirst 64 = .ok (.iload 8, 2) := by decide +kernel
theorem d_SH_keepFirst_66 : decode b_SH_keepFirst 66 = .ok (.invokevirtual 49, 3) := by decide +kernel
theorem d_SH_keepFirst_69 : decode b_SH_keepFirst 69 = .ok (.aload_n 0, 1) := by decide +kernel
theorem d_SH_keepFirst_70 : decode b_SH_keepFirst 70 = .ok (.getfield 10, 3) := by decide +kernel
theorem d_SH_keepFirst_73 : decode b_SH_keepFirst 73 = .ok (.aload_n 2, 1) := by decide +kernel
theorem d_SH_keepFirst_74 : decode b_SH_keepFirst 74 = .ok (.aload_n 0, 1) := by decide +kernel
theorem d_SH_keepFirst_75 : decode b_SH_keepFirst 75 = .ok (.getfield 19, 3) := by decide +kernel
theorem d_SH_keepFirst_78 : decode b_SH_keepFirst 78 = .ok (.invokevirtual 52, 3) := by decide +kernel
theorem d_SH_keepFirst_81 : decode b_SH_keepFirst 81 = .ok (.aload_n 1, 1) := by decide +kernel
theorem d_SH_keepFirst_82 : decode b_SH_keepFirst 82 = .ok (.aload_n 0, 1) := by decide +kernel
theorem d_SH_keepFirst_83 : decode b_SH_keepFirst 83 = .ok (.getfield 10, 3) := by decide +kernel
theorem d_SH_keepFirst_86 : decode b_SH_keepFirst 86 = .ok (.invokevirtual 56, 3) := by decide +kernel
theorem d_SH_keepFirst_89 : decode b_SH_keepFirst 89 = .ok (.ifCond .eq 14, 3) := by decide +kernel
theorem d_SH_keepFirst_92 : decode b_SH_keepFirst 92 = .ok (.aload 5, 2) := by decide +kernel
theorem d_SH_keepFirst_94 : decode b_SH_keepFirst 94 = .ok (.aload_n 0, 1) := by decide +kernel
theorem d_SH_keepFirst_95 : decode b_SH_keepFirst 95 = .ok (.getfield 19, 3) := by decide +kernel
theorem d_SH_keepFirst_98 : decode b_SH_keepFirst 98 = .ok (.invokevirtual 60, 3) := by decide +kernel
theorem d_SH_keepFirst_101 : decode b_SH_keepFirst 101 = .ok (.iconst 1, 1) := by decide +kernel
theorem d_SH_keepFirst_102 : decode b_SH_keepFirst 102 = .ok (.ireturn, 1) := by decide +kernel
theorem d_SH_keepFirst_103 : decode b_SH_keepFirst 103 = .ok (.iinc 6 1, 3) := by decide +kernel
theorem d_SH_keepFirst_106 : decode b_SH_keepFirst 106 = .ok (.goto (-97), 3) := by decide +kernel
theorem d_SH_keepFirst_109 : decode b_SH_keepFirst 109 = .ok (.iconst 0, 1) := by decide +kernel
theorem d_SH_keepFirst_110 : decode b_SH_keepFirst 110 = .ok (.ireturn, 1) := by decide +kernel
noncomputable def j_SH_keepFirst_92 (j21 : Nat) (M23 : Mem) : Option (Int32 × Mem) :=
  bv (s_IN_copy j21 56 M23) (fun M24 => some ((1 : Int32), M24))
noncomputable def j_SH_keepFirst_69 (j1 : Nat) (a3 : Int32) (a4 : Int32) (j26 : Nat) (a30 : Int32) (M31 : Mem) : Option ((Int32 × Mem) ⊕ (Int32 × Mem)) :=
  bv (s_RU_perform 20 56 M31) (fun M32 => bi (s_FI_hasSignOf j1 20 M32) (fun r36 M34 => if r36 = 0 then (nx (a30 + (1 : Int32)) (fun v37 => some (.inl (v37, M34)))) else (jw1 (j_SH_keepFirst_92 j26 M34))))
noncomputable def l_SH_keepFirst_9 (j1 : Nat) (a3 : Int32) (a4 : Int32) (j26 : Nat) (v28 : Int32) (M29 : Mem) : Option ((Int32 × Mem) ⊕ (Int32 × Mem)) :=
  if a3 ≤ v28 then (some (.inr ((0 : Int32), M29))) else (cz a3 (nx ((v28 * (M29 j26 1)) / a3) (fun v39 => cz a3 (nx (((v28 + (1 : Int32)) * (M29 j26 1)) / a3) (fun v41 => if a4 = 0 then (bv (s_SH_makeRest j26 v39 v41 M29) (fun M42 => j_SH_keepFirst_69 j1 a3 a4 j26 v28 M42)) else (bv (s_SH_makePart j26 v39 v41 M29) (fun M44 => j_SH_keepFirst_69 j1 a3 a4 j26 v28 M44)))))))
noncomputable def s_SH_keepFirst (j1 : Nat) (a3 : Int32) (a4 : Int32) (M : Mem) : Option (Int32 × Mem) :=
  nx (2 * j1 - 184) (fun j26 => nx ((0 : Int32)) (fun v27 => lp (fun q : Int32 × Mem => l_SH_keepFirst_9 j1 a3 a4 j26 q.1 q.2) (v27, M)))
set_option maxHeartbeats 4000000 in
set_option maxRecDepth 100000 in
theorem c_SH_keepFirst (l : Launch) (x : Cx) (hJ : Inj x) (j1 : Nat) (k1 : kd_fi j1) (a3 : Int32) (a4 : Int32) {M : Mem} {out : Int32 × Mem} (h : s_SH_keepFirst j1 a3 a4 M = some out) : Ci l x y_SH_keepFirst (Cond.code y_SH_keepFirst b_SH_keepFirst 9 (some .boolean) :: tb) r_SH_keepFirst [.ref (x.2.1 11), .ref (x.2.1 j1), .ref (x.2.1 1), .int a3, .int a4] M out := by
  refine ofCz (cc := b_SH_keepFirst) (maxL := 9) (by decide) rfl (rfl) (Nat.le_of_ble_eq_true rfl) ?_
  intro p e s m args below meth c Q G0 ls g hx hb hml hown hts hK hZ hP hS hl hret
  have hown : s.vm.findClass R_SH = some m.cls := hown
  have hl : lv_has ls 9 [(0, .ref (x.2.1 11)), (1, .ref (x.2.1 j1)), (2, .ref (x.2.1 1)), (3, .int a3), (4, .int a4)] := hl
  obtain ⟨H, eH⟩ : ∃ z, z = s.heap := ⟨_, rfl⟩
  obtain ⟨locs, eL⟩ : ∃ z, z = ([] : List Loc) := ⟨_, rfl⟩
  rw [← eH] at hP
  have hS : va_S (A0 x) s.heap H locs := by rw [eH, eL]; exact hS
  rw [← eL]
  have key : W p l e r_SH_keepFirst s m args below meth c H locs 0 0 Q (F0 m 0 ls []) := by
    clear eH eL
    unfold s_SH_keepFirst at h
    have J92 : ∀ (j21 : Nat) (M23 : Mem) (k22 : kd_in j21) (res : Int32 × Mem) (h : j_SH_keepFirst_92 j21 M23 = some res) (g : G0 res) (H : Heap) (locs : List Loc) (ls : Array Slot) (hP : va_P x.1 vwCl (wld x M23) H) (hS : va_S (A0 x) s.heap H locs) (hl : lv_has ls 9 [(0, .ref (x.2.1 11)), (5, .ref (x.2.1 j21))]), W p l e r_SH_keepFirst s m args below meth c H locs 0 0 Q (F0 m 92 ls []) := by
      intro j21 M23 k22 res h g H locs ls hP hS hl
      unfold j_SH_keepFirst_92 at h
      refine lv_aload hx hb d_SH_keepFirst_92 (lv_at hl 1 rfl) ?_
      refine lv_aload_n hx hb d_SH_keepFirst_94 rfl (lv_at hl 0 rfl) ?_
      refine gf_SH_19 hx hb hts hown hK hP d_SH_keepFirst_95 ?_
      obtain ⟨M24, c25, h⟩ := bv_e h
      refine cl_SH_60 (rest := []) (R := r_SH_keepFirst) (c_IN_copy l x hJ j21 k22 56 kd_SH_candidate c25) k22 hx hb hml hts hown hK hZ hP hS hl.1 (Nat.le_of_ble_eq_true rfl) (Nat.le_of_ble_eq_true rfl) (Nat.le_of_ble_eq_true rfl) ⟨rfl, rfl, Nat.zero_le _, Nat.zero_le _⟩ d_SH_keepFirst_98 (fun H locs hP hS => ?_)
      refine lv_iconst (v := (1 : Int32)) hx hb d_SH_keepFirst_101 (by decide) ?_
      obtain rfl := Option.some.inj h
      exact hret (by decide) d_SH_keepFirst_102 g hP hS
    refine lv_aload_n hx hb d_SH_keepFirst_0 rfl (lv_at hl 1 rfl) ?_
    refine gf_SH_23 hx hb hts hown hK hP k1 d_SH_keepFirst_1 ?_
    obtain ⟨j26, ej26, h⟩ := nx_e h
    have kj26 : kd_in j26 := by rw [ej26]; exact kd_FI_shortest k1
    refine tp_r ej26 ?_
    refine lv_astore hx hb d_SH_keepFirst_4 hl (by decide) rfl (fun ls hl => ?_)
    have hl : lv_has ls 9 [(5, .ref (x.2.1 j26)), (0, .ref (x.2.1 11)), (1, .ref (x.2.1 j1)), (2, .ref (x.2.1 1)), (3, .int a3), (4, .int a4)] := hl
    refine lv_iconst (v := (0 : Int32)) hx hb d_SH_keepFirst_6 (by decide) ?_
    obtain ⟨v27, ev27, h⟩ := nx_e h
    refine tp_i ev27 ?_
    refine lv_istore hx hb d_SH_keepFirst_7 hl (by decide) rfl (fun ls hl => ?_)
    have hl : lv_has ls 9 [(6, .int v27), (5, .ref (x.2.1 j26)), (0, .ref (x.2.1 11)), (1, .ref (x.2.1 j1)), (2, .ref (x.2.1 1)), (3, .int a3), (4, .int a4)] := hl
    obtain ⟨P9, eP9⟩ : ∃ P : (Int32 × Mem) → Prop, P = (fun q => ∀ (H : Heap) (locs : List Loc) (ls : Array Slot), va_P x.1 vwCl (wld x (q.2)) H → va_S (A0 x) s.heap H locs → lv_has ls 9 [(0, .ref (x.2.1 11)), (1, .ref (x.2.1 j1)), (2, .ref (x.2.1 1)), (3, .int a3), (4, .int a4), (5, .ref (x.2.1 j26)), (6, .int (q.1))] → W p l e r_SH_keepFirst s m args below meth c H locs 0 0 Q (F0 m 9 ls [])) := ⟨_, rfl⟩
    have L9 : P9 (v27, M) := by
      refine lp_walk (G := G0) ?_ h g
      intro q res h g
      obtain ⟨v28, M29⟩ := q
      rw [eP9]
      intro H locs ls hP hS hl
      have hP : va_P x.1 vwCl (wld x M29) H := hP
      have hl : lv_has ls 9 [(0, .ref (x.2.1 11)), (1, .ref (x.2.1 j1)), (2, .ref (x.2.1 1)), (3, .int a3), (4, .int a4), (5, .ref (x.2.1 j26)), (6, .int v28)] := hl
      have h : l_SH_keepFirst_9 j1 a3 a4 j26 v28 M29 = some res := h
      unfold l_SH_keepFirst_9 at h
      have J69 : ∀ (a30 : Int32) (M31 : Mem)  (res : (Int32 × Mem) ⊕ (Int32 × Mem)) (h : j_SH_keepFirst_69 j1 a3 a4 j26 a30 M31 = some res) (g : (lpG P9 G0) res) (H : Heap) (locs : List Loc) (ls : Array Slot) (hP : va_P x.1 vwCl (wld x M31) H) (hS : va_S (A0 x) s.heap H locs) (hl : lv_has ls 9 [(0, .ref (x.2.1 11)), (1, .ref (x.2.1 j1)), (2, .ref (x.2.1 1)), (3, .int a3), (4, .int a4), (5, .ref (x.2.1 j26)), (6, .int a30)]), W p l e r_SH_keepFirst s m args below meth c H locs 0 0 Q (F0 m 69 ls []) := by
        intro a30 M31 res h g H locs ls hP hS hl
        unfold j_SH_keepFirst_69 at h
        refine lv_aload_n hx hb d_SH_keepFirst_69 rfl (lv_at hl 0 rfl) ?_
        refine gf_SH_10 hx hb hts hown hK hP d_SH_keepFirst_70 ?_
        refine lv_aload_n hx hb d_SH_keepFirst_73 rfl (lv_at hl 2 rfl) ?_
        refine lv_aload_n hx hb d_SH_keepFirst_74 rfl (lv_at hl 0 rfl) ?_
        refine gf_SH_19 hx hb hts hown hK hP d_SH_keepFirst_75 ?_
        obtain ⟨M32, c33, h⟩ := bv_e h
        refine cl_SH_52 (rest := []) (R := r_SH_keepFirst) (c_RU_perform l x hJ 20 kd_SH_run 56 kd_SH_candidate c33) kd_SH_run hx hb hml hts hown hK hZ hP hS hl.1 (Nat.le_of_ble_eq_true rfl) (Nat.le_of_ble_eq_true rfl) (Nat.le_of_ble_eq_true rfl) ⟨rfl, rfl, Nat.zero_le _, Nat.zero_le _⟩ d_SH_keepFirst_78 (fun H locs hP hS => ?_)
        refine lv_aload_n hx hb d_SH_keepFirst_81 rfl (lv_at hl 1 rfl) ?_
        refine lv_aload_n hx hb d_SH_keepFirst_82 rfl (lv_at hl 0 rfl) ?_
        refine gf_SH_10 hx hb hts hown hK hP d_SH_keepFirst_83 ?_
        obtain ⟨r36, M34, c35, h⟩ := bi_e h
        refine cl_SH_56 (rest := []) (R := r_SH_keepFirst) (c_FI_hasSignOf l x hJ j1 k1 20 kd_SH_run c35) k1 hx hb hml hts hown hK hZ hP hS hl.1 (Nat.le_of_ble_eq_true rfl) (Nat.le_of_ble_eq_true rfl) (Nat.le_of_ble_eq_true rfl) ⟨rfl, rfl, Nat.zero_le _, Nat.zero_le _⟩ d_SH_keepFirst_86 (fun H locs hP hS => ?_)
        refine lv_if_eq (tgt := 103) hx hb d_SH_keepFirst_89 rfl (fun hc => ?_) (fun hc => ?_)
        · have h := if_p hc h
          obtain ⟨v37, ev37, h⟩ := nx_e h
          refine lv_iinc (k := 6) hx hb d_SH_keepFirst_103 hl rfl (iinc_v (k := (1 : Int32)) (by decide) ev37) (by decide) rfl (fun ls hl => ?_)
          have hl : lv_has ls 9 [(6, .int v37), (0, .ref (x.2.1 11)), (1, .ref (x.2.1 j1)), (2, .ref (x.2.1 1)), (3, .int a3), (4, .int a4), (5, .ref (x.2.1 j26))] := hl
          refine lv_goto (tgt := 9) hx hb d_SH_keepFirst_106 rfl ?_
          obtain rfl := Option.some.inj h
          have g : P9 (v37, M34) := g
          rw [eP9] at g
          exact g H locs ls hP hS (lv_sub hl [1, 2, 3, 4, 5, 6, 0] rfl)
        · have h := if_m hc h
          obtain ⟨res2, hres, h2⟩ := jw1_e h
          clear h
          subst hres
          have h := h2
          exact J92 j26 M34 kj26 _ h g H locs ls hP hS (lv_sub hl [0, 5] rfl)
      refine lv_iload hx hb d_SH_keepFirst_9 (lv_at hl 6 rfl) ?_
      refine lv_iload_n hx hb d_SH_keepFirst_11 rfl (lv_at hl 3 rfl) ?_
      refine lv_icmp_ge (tgt := 109) hx hb d_SH_keepFirst_12 rfl (fun hc => ?_) (fun hc => ?_)
      · have h := if_p hc h
        refine lv_iconst (v := (0 : Int32)) hx hb d_SH_keepFirst_109 (by decide) ?_
        obtain rfl := Option.some.inj h
        exact hret (by decide) d_SH_keepFirst_110 g hP hS
      · have h := if_m hc h
        refine lv_iload hx hb d_SH_keepFirst_15 (lv_at hl 6 rfl) ?_
        refine lv_aload hx hb d_SH_keepFirst_17 (lv_at hl 5 rfl) ?_
        refine gf_SH_28 hx hb hts hown hK hP kj26 d_SH_keepFirst_19 ?_
        refine lv_imul hx hb d_SH_keepFirst_22 ?_
        refine lv_iload_n hx hb d_SH_keepFirst_23 rfl (lv_at hl 3 rfl) ?_
        obtain ⟨z38, h⟩ := cz_e h
        refine lv_idiv hx hb d_SH_keepFirst_24 z38 ?_
        obtain ⟨v39, ev39, h⟩ := nx_e h
        refine tp_i ev39 ?_
        refine lv_istore hx hb d_SH_keepFirst_25 hl (by decide) rfl (fun ls hl => ?_)
        have hl : lv_has ls 9 [(7, .int v39), (0, .ref (x.2.1 11)), (1, .ref (x.2.1 j1)), (2, .ref (x.2.1 1)), (3, .int a3), (4, .int a4), (5, .ref (x.2.1 j26)), (6, .int v28)] := hl
        refine lv_iload hx hb d_SH_keepFirst_27 (lv_at hl 7 rfl) ?_
        refine lv_iconst (v := (1 : Int32)) hx hb d_SH_keepFirst_29 (by decide) ?_
        refine lv_iadd hx hb d_SH_keepFirst_30 ?_
        refine lv_aload hx hb d_SH_keepFirst_31 (lv_at hl 6 rfl) ?_
        refine gf_SH_28 hx hb hts hown hK hP kj26 d_SH_keepFirst_33 ?_
        refine lv_imul hx hb d_SH_keepFirst_36 ?_
        refine lv_iload_n hx hb d_SH_keepFirst_37 rfl (lv_at hl 4 rfl) ?_
        obtain ⟨z40, h⟩ := cz_e h
        refine lv_idiv hx hb d_SH_keepFirst_38 z40 ?_
        obtain ⟨v41, ev41, h⟩ := nx_e h
        refine tp_i ev41 ?_
        refine lv_istore hx hb d_SH_keepFirst_39 hl (by decide) rfl (fun ls hl => ?_)
        have hl : lv_has ls 9 [(8, .int v41), (7, .int v39), (0, .ref (x.2.1 11)), (1, .ref (x.2.1 j1)), (2, .ref (x.2.1 1)), (3, .int a3), (4, .int a4), (5, .ref (x.2.1 j26)), (6, .int v28)] := hl
        refine lv_iload hx hb d_SH_keepFirst_41 (lv_at hl 6 rfl) ?_
        refine lv_if_eq (tgt := 59) hx hb d_SH_keepFirst_43 rfl (fun hc => ?_) (fun hc => ?_)
        · have h := if_p hc h
          refine lv_aload_n hx hb d_SH_keepFirst_59 rfl (lv_at hl 2 rfl) ?_
          refine lv_aload hx hb d_SH_keepFirst_60 (lv_at hl 7 rfl) ?_
          refine lv_iload hx hb d_SH_keepFirst_62 (lv_at hl 1 rfl) ?_
          refine lv_iload hx hb d_SH_keepFirst_64 (lv_at hl 0 rfl) ?_
          obtain ⟨M42, c43, h⟩ := bv_e h
          refine cl_SH_49 (rest := []) (R := r_SH_keepFirst) (c_SH_makeRest l x hJ j26 kj26 v39 v41 c43) hx hb hml hts hown hK hZ hP hS hl.1 (Nat.le_of_ble_eq_true rfl) (Nat.le_of_ble_eq_true rfl) (Nat.le_of_ble_eq_true rfl) ⟨rfl, rfl, Nat.zero_le _, Nat.zero_le _⟩ d_SH_keepFirst_66 (fun H locs hP hS => ?_)
          exact J69 v28 M42 _ h g H locs ls hP hS (lv_sub hl [2, 3, 4, 5, 6, 7, 8] rfl)
        · have h := if_m hc h
          refine lv_aload_n hx hb d_SH_keepFirst_46 rfl (lv_at hl 2 rfl) ?_
          refine lv_aload hx hb d_SH_keepFirst_47 (lv_at hl 7 rfl) ?_
          refine lv_iload hx hb d_SH_keepFirst_49 (lv_at hl 1 rfl) ?_
          refine lv_iload hx hb d_SH_keepFirst_51 (lv_at hl 0 rfl) ?_
          obtain ⟨M44, c45, h⟩ := bv_e h
          refine cl_SH_45 (rest := []) (R := r_SH_keepFirst) (c_SH_makePart l x hJ j26 kj26 v39 v41 c45) hx hb hml hts hown hK hZ hP hS hl.1 (Nat.le_of_ble_eq_true rfl) (Nat.le_of_ble_eq_true rfl) (Nat.le_of_ble_eq_true rfl) ⟨rfl, rfl, Nat.zero_le _, Nat.zero_le _⟩ d_SH_keepFirst_53 (fun H locs hP hS => ?_)
          refine lv_goto (tgt := 69) hx hb d_SH_keepFirst_56 rfl ?_
          exact J69 v28 M44 _ h g H locs ls hP hS (lv_sub hl [2, 3, 4, 5, 6, 7, 8] rfl)
    rw [eP9] at L9
    exact L9 H locs ls hP hS (lv_sub hl [2, 3, 4, 5, 6, 1, 0] rfl)
  rw [eH] at key
  exact key
theorem d_SH_shorten_0 : decode b_SH_shorten 0 = .ok (.iconst 2, 1) := by decide +kernel
theorem d_SH_shorten_1 : decode b_SH_shorten 1 = .ok (.istore_n 3, 1) := by decide +kernel
theorem d_SH_shorten_2 : decode b_SH_shorten 2 = .ok (.iconst 0, 1) := by decide +kernel
theorem d_SH_shorten_3 : decode b_SH_shorten 3 = .ok (.istore 4, 2) := by decide +kernel
theorem d_SH_shorten_5 : decode b_SH_shorten 5 = .ok (.iload 4, 2) := by decide +kernel
theorem d_SH_shorten_7 : decode b_SH_shorten 7 = .ok (.bipush 64, 2) := by decide +kernel
theorem d_SH_shorten_9 : decode b_SH_shorten 9 = .ok (.if_icmp .ge 97, 3) := by decide +kernel
theorem d_SH_shorten_12 : decode b_SH_shorten 12 = .ok (.aload_n 1, 1) := by decide +kernel
theorem d_SH_shorten_13 : decode b_SH_shorten 13 = .ok (.getfield 23, 3) := by decide +kernel
theorem d_SH_shorten_16 : decode b_SH_shorten 16 = .ok (.getfield 28, 3) := by decide +kernel
theorem d_SH_shorten_19 : decode b_SH_shorten 19 = .ok (.istore 5, 2) := by decide +kernel
theorem d_SH_shorten_21 : decode b_SH_shorten 21 = .ok (.iload_n 3, 1) := by decide +kernel
theorem d_SH_shorten_22 : decode b_SH_shorten 22 = .ok (.iload 5, 2) := by decide +kernel
theorem d_SH_shorten_24 : decode b_SH_shorten 24 = .ok (.invokestatic 32, 3) := by decide +kernel
theorem d_SH_shorten_27 : decode b_SH_shorten 27 = .ok (.istore 6, 2) := by decide +kernel
theorem d_SH_shorten_29 : decode b_SH_shorten 29 = .ok (.iload 5, 2) := by decide +kernel
theorem d_SH_shorten_31 : decode b_SH_shorten 31 = .ok (.ifCond .ne 4, 3) := by decide +kernel
theorem d_SH_shorten_34 : decode b_SH_shorten 34 = .ok (.return_, 1) := by decide +kernel
theorem d_SH_shorten_35 : decode b_SH_shorten 35 = .ok (.iload 6, 2) := by decide +kernel
theorem d_SH_shorten_37 : decode b_SH_shorten 37 = .ok (.iconst 2, 1) := by decide +kernel
theorem d_SH_shorten_38 : decode b_SH_shorten 38 = .ok (.if_icmp .lt 20, 3) := by decide +kernel
theorem d_SH_shorten_41 : decode b_SH_shorten 41 = .ok (.aload_n 0, 1) := by decide +kernel
theorem d_SH_shorten_42 : decode b_SH_shorten 42 = .ok (.aload_n 1, 1) := by decide +kernel
theorem d_SH_shorten_43 : decode b_SH_shorten 43 = .ok (.aload_n 2, 1) := by decide +kernel
theorem d_SH_shorten_44 : decode b_SH_shorten 44 = .ok (.iload 6, 2) := by decide +kernel
theorem d_SH_shorten_46 : decode b_SH_shorten 46 = .ok (.iconst 1, 1) := by decide +kernel
theorem d_SH_shorten_47 : decode b_SH_shorten 47 = .ok (.invokevirtual 38, 3) := by decide +kernel
theorem d_SH_shorten_50 : decode b_SH_shorten 50 = .ok (.ifCond .eq 8, 3) := by decide +kernel
theorem d_SH_shorten_53 : decode b_SH_shorten 53 = .ok (.iconst 2, 1) := by decide +kernel
theorem d_SH_shorten_54 : decode b_SH_shorten 54 = .ok (.istore_n 3, 1) := by decide +kernel
theorem d_SH_shorten_55 : decode b_SH_shorten 55 = .ok (.goto 45, 3) := by decide +kernel
theorem d_SH_shorten_58 : decode b_SH_shorten 58 = .ok (.aload_n 0, 1) := by decide +kernel
theorem d_SH_shorten_59 : decode b_SH_shorten 59 = .ok (.aload_n 1, 1) := by decide +kernel
theorem d_SH_shorten_60 : decode b_SH_shorten 60 = .ok (.aload_n 2, 1) := by decide +kernel
theorem d_SH_shorten_61 : decode b_SH_shorten 61 = .ok (.iload 6, 2) := by decide +kernel
theorem d_SH_shorten_63 : decode b_SH_shorten 63 = .ok (.iconst 0, 1) := by decide +kernel
theorem d_SH_shorten_64 : decode b_SH_shorten 64 = .ok (.invokevirtual 38, 3) := by decide +kernel
theorem d_SH_shorten_67 : decode b_SH_shorten 67 = .ok (.ifCond .eq 15, 3) := by decide +kernel
theorem d_SH_shorten_70 : decode b_SH_shorten 70 = .ok (.iload 6, 2) := by decide +kernel
theorem d_SH_shorten_72 : decode b_SH_shorten 72 = .ok (.iconst 1, 1) := by decide +kernel
theorem d_SH_shorten_73 : decode b_SH_shorten 73 = .ok (.isub, 1) := by decide +kernel
theorem d_SH_shorten_74 : decode b_SH_shorten 74 = .ok (.iconst 2, 1) := by decide +kernel
theorem d_SH_shorten_75 : decode b_SH_shorten 75 = .ok (.invokestatic 42, 3) := by decide +kernel
theorem d_SH_shorten_78 : decode b_SH_shorten 78 = .ok (.istore_n 3, 1) := by decide +kernel
theorem d_SH_shorten_79 : decode b_SH_shorten 79 = .ok (.goto 21, 3) := by decide +kernel
theorem d_SH_shorten_82 : decode b_SH_shorten 82 = .ok (.iload 6, 2) := by decide +kernel
theorem d_SH_shorten_84 : decode b_SH_shorten 84 = .ok (.iload 5, 2) := by decide +kernel
theorem d_SH_shorten_86 : decode b_SH_shorten 86 = .ok (.if_icmp .ne 4, 3) := by decide +kernel
theorem d_SH_shorten_89 : decode b_SH_shorten 89 = .ok (.return_, 1) := by decide +kernel
theorem d_SH_shorten_90 : decode b_SH_shorten 90 = .ok (.iconst 2, 1) := by decide +kernel
theorem d_SH_shorten_91 : decode b_SH_shorten 91 = .ok (.iload 6, 2) := by decide +kernel
theorem d_SH_shorten_93 : decode b_SH_shorten 93 = .ok (.imul, 1) := by decide +kernel
theorem d_SH_shorten_94 : decode b_SH_shorten 94 = .ok (.iload 5, 2) := by decide +kernel
theorem d_SH_shorten_96 : decode b_SH_shorten 96 = .ok (.invokestatic 32, 3) := by decide +kernel
theorem d_SH_shorten_99 : decode b_SH_shorten 99 = .ok (.istore_n 3, 1) := by decide +kernel
theorem d_SH_shorten_100 : decode b_SH_shorten 100 = .ok (.iinc 4 1, 3) := by decide +kernel
theorem d_SH_shorten_103 : decode b_SH_shorten 103 = .ok (.goto (-98), 3) := by decide +kernel
theorem d_SH_shorten_106 : decode b_SH_shorten 106 = .ok (.return_, 1) := by decide +kernel
noncomputable def j_SH_shorten_100 (j1 : Nat) (a26 : Int32) (a27 : Int32) (M28 : Mem) : Option ((Int32 × Int32 × Mem) ⊕ Mem) :=
  nx (a27 + (1 : Int32)) (fun v29 => some (.inl (a26, v29, M28)))
noncomputable def j_SH_shorten_58 (j1 : Nat) (a30 : Int32) (a31 : Int32) (a32 : Int32) (M33 : Mem) : Option ((Int32 × Int32 × Mem) ⊕ Mem) :=
  bi (s_SH_keepFirst j1 a32 (0 : Int32) M33) (fun r36 M34 => if r36 = 0 then (if a32 = a31 then (some (.inr M34)) else (nx (if a31 < ((2 : Int32) * a32) then a31 else ((2 : Int32) * a32)) (fun v37 => j_SH_shorten_100 j1 v37 a30 M34))) else (nx (if (a32 - (1 : Int32)) < (2 : Int32) then (2 : Int32) else (a32 - (1 : Int32))) (fun v38 => j_SH_shorten_100 j1 v38 a30 M34)))
noncomputable def l_SH_shorten_5 (j1 : Nat) (v23 : Int32) (v24 : Int32) (M25 : Mem) : Option ((Int32 × Int32 × Mem) ⊕ (Mem)) :=
  if (64 : Int32) ≤ v24 then (some (.inr M25)) else (nx (M25 (2 * j1 - 184) 1) (fun v39 => nx (if v39 < v23 then v39 else v23) (fun v40 => if v39 = 0 then (some (.inr M25)) else (if v40 < (2 : Int32) then (j_SH_shorten_58 j1 v24 v39 v40 M25) else (bi (s_SH_keepFirst j1 v40 (1 : Int32) M25) (fun r43 M41 => if r43 = 0 then (j_SH_shorten_58 j1 v24 v39 v40 M41) else (nx ((2 : Int32)) (fun v44 => j_SH_shorten_100 j1 v44 v24 M41))))))))
noncomputable def s_SH_shorten (j1 : Nat) (M : Mem) : Option (Mem) :=
  nx ((2 : Int32)) (fun v21 => nx ((0 : Int32)) (fun v22 => lp (fun q : Int32 × Int32 × Mem => l_SH_shorten_5 j1 q.1 q.2.1 q.2.2) (v21, v22, M)))
set_option maxHeartbeats 4000000 in
set_option maxRecDepth 100000 in
theorem c_SH_shorten (l : Launch) (x : Cx) (hJ : Inj x) (j1 : Nat) (k1 : kd_fi j1) {M : Mem} {out : Mem} (h : s_SH_shorten j1 M = some out) : Cv l x y_SH_shorten (Cond.code y_SH_shorten b_SH_shorten 7 none :: tb) r_SH_shorten [.ref (x.2.1 11), .ref (x.2.1 j1), .ref (x.2.1 1)] M out := by
  refine ofCv (cc := b_SH_shorten) (maxL := 7) (by decide) rfl (rfl) (Nat.le_of_ble_eq_true rfl) ?_
  intro p e s m args below meth c Q G0 ls g hx hb hml hown hts hK hZ hP hS hl hret
  have hown : s.vm.findClass R_SH = some m.cls := hown
  have hl : lv_has ls 7 [(0, .ref (x.2.1 11)), (1, .ref (x.2.1 j1)), (2, .ref (x.2.1 1))] := hl
  obtain ⟨H, eH⟩ : ∃ z, z = s.heap := ⟨_, rfl⟩
  obtain ⟨locs, eL⟩ : ∃ z, z = ([] : List Loc) := ⟨_, rfl⟩
  rw [← eH] at hP
  have hS : va_S (A0 x) s.heap H locs := by rw [eH, eL]; exact hS
  rw [← eL]
  have key : W p l e r_SH_shorten s m args below meth c H locs 0 0 Q (F0 m 0 ls []) := by
    clear eH eL
    unfold s_SH_shorten at h
    refine lv_iconst (v := (2 : Int32)) hx hb d_SH_shorten_0 (by decide) ?_
    obtain ⟨v21, ev21, h⟩ := nx_e h
    refine tp_i ev21 ?_
    refine lv_istore_n hx hb d_SH_shorten_1 rfl hl (by decide) rfl (fun ls hl => ?_)
    have hl : lv_has ls 7 [(3, .int v21), (0, .ref (x.2.1 11)), (1, .ref (x.2.1 j1)), (2, .ref (x.2.1 1))] := hl
    refine lv_iconst (v := (0 : Int32)) hx hb d_SH_shorten_2 (by decide) ?_
    obtain ⟨v22, ev22, h⟩ := nx_e h
    refine tp_i ev22 ?_
    refine lv_istore hx hb d_SH_shorten_3 hl (by decide) rfl (fun ls hl => ?_)
    have hl : lv_has ls 7 [(4, .int v22), (3, .int v21), (0, .ref (x.2.1 11)), (1, .ref (x.2.1 j1)), (2, .ref (x.2.1 1))] := hl
    obtain ⟨P5, eP5⟩ : ∃ P : (Int32 × Int32 × Mem) → Prop, P = (fun q => ∀ (H : Heap) (locs : List Loc) (ls : Array Slot), va_P x.1 vwCl (wld x (q.2.2)) H → va_S (A0 x) s.heap H locs → lv_has ls 7 [(0, .ref (x.2.1 11)), (1, .ref (x.2.1 j1)), (2, .ref (x.2.1 1)), (3, .int (q.1)), (4, .int (q.2.1))] → W p l e r_SH_shorten s m args below meth c H locs 0 0 Q (F0 m 5 ls [])) := ⟨_, rfl⟩
    have L5 : P5 (v21, v22, M) := by
      refine lp_walk (G := G0) ?_ h g
      intro q res h g
      obtain ⟨v23, v24, M25⟩ := q
      rw [eP5]
      intro H locs ls hP hS hl
      have hP : va_P x.1 vwCl (wld x M25) H := hP
      have hl : lv_has ls 7 [(0, .ref (x.2.1 11)), (1, .ref (x.2.1 j1)), (2, .ref (x.2.1 1)), (3, .int v23), (4, .int v24)] := hl
      have h : l_SH_shorten_5 j1 v23 v24 M25 = some res := h
      unfold l_SH_shorten_5 at h
      have J100 : ∀ (a26 : Int32) (a27 : Int32) (M28 : Mem)  (res : (Int32 × Int32 × Mem) ⊕ Mem) (h : j_SH_shorten_100 j1 a26 a27 M28 = some res) (g : (lpG P5 G0) res) (H : Heap) (locs : List Loc) (ls : Array Slot) (hP : va_P x.1 vwCl (wld x M28) H) (hS : va_S (A0 x) s.heap H locs) (hl : lv_has ls 7 [(0, .ref (x.2.1 11)), (1, .ref (x.2.1 j1)), (2, .ref (x.2.1 1)), (3, .int a26), (4, .int a27)]), W p l e r_SH_shorten s m args below meth c H locs 0 0 Q (F0 m 100 ls []) := by
        intro a26 a27 M28 res h g H locs ls hP hS hl
        unfold j_SH_shorten_100 at h
        obtain ⟨v29, ev29, h⟩ := nx_e h
        refine lv_iinc (k := 4) hx hb d_SH_shorten_100 hl rfl (iinc_v (k := (1 : Int32)) (by decide) ev29) (by decide) rfl (fun ls hl => ?_)
        have hl : lv_has ls 7 [(4, .int v29), (0, .ref (x.2.1 11)), (1, .ref (x.2.1 j1)), (2, .ref (x.2.1 1)), (3, .int a26)] := hl
        refine lv_goto (tgt := 5) hx hb d_SH_shorten_103 rfl ?_
        obtain rfl := Option.some.inj h
        have g : P5 (a26, v29, M28) := g
        rw [eP5] at g
        exact g H locs ls hP hS (lv_sub hl [1, 2, 3, 4, 0] rfl)
      have J58 : ∀ (a30 : Int32) (a31 : Int32) (a32 : Int32) (M33 : Mem)  (res : (Int32 × Int32 × Mem) ⊕ Mem) (h : j_SH_shorten_58 j1 a30 a31 a32 M33 = some res) (g : (lpG P5 G0) res) (H : Heap) (locs : List Loc) (ls : Array Slot) (hP : va_P x.1 vwCl (wld x M33) H) (hS : va_S (A0 x) s.heap H locs) (hl : lv_has ls 7 [(0, .ref (x.2.1 11)), (1, .ref (x.2.1 j1)), (2, .ref (x.2.1 1)), (4, .int a30), (5, .int a31), (6, .int a32)]), W p l e r_SH_shorten s m args below meth c H locs 0 0 Q (F0 m 58 ls []) := by
        intro a30 a31 a32 M33 res h g H locs ls hP hS hl
        unfold j_SH_shorten_58 at h
        refine lv_aload_n hx hb d_SH_shorten_58 rfl (lv_at hl 0 rfl) ?_
        refine lv_aload_n hx hb d_SH_shorten_59 rfl (lv_at hl 1 rfl) ?_
        refine lv_aload_n hx hb d_SH_shorten_60 rfl (lv_at hl 2 rfl) ?_
        refine lv_iload hx hb d_SH_shorten_61 (lv_at hl 5 rfl) ?_
        refine lv_iconst (v := (0 : Int32)) hx hb d_SH_shorten_63 (by decide) ?_
        obtain ⟨r36, M34, c35, h⟩ := bi_e h
        refine cl_SH_38 (rest := []) (R := r_SH_shorten) (c_SH_keepFirst l x hJ j1 k1 a32 (0 : Int32) c35) hx hb hml hts hown hK hZ hP hS hl.1 (Nat.le_of_ble_eq_true rfl) (Nat.le_of_ble_eq_true rfl) (Nat.le_of_ble_eq_true rfl) ⟨rfl, rfl, Nat.zero_le _, Nat.zero_le _⟩ d_SH_shorten_64 (fun H locs hP hS => ?_)
        refine lv_if_eq (tgt := 82) hx hb d_SH_shorten_67 rfl (fun hc => ?_) (fun hc => ?_)
        · have h := if_p hc h
          refine lv_iload hx hb d_SH_shorten_82 (lv_at hl 5 rfl) ?_
          refine lv_iload hx hb d_SH_shorten_84 (lv_at hl 4 rfl) ?_
          refine lv_icmp_ne (tgt := 90) hx hb d_SH_shorten_86 rfl (fun hc => ?_) (fun hc => ?_)
          · have h := if_m hc h
            refine lv_iconst (v := (2 : Int32)) hx hb d_SH_shorten_90 (by decide) ?_
            refine lv_iload hx hb d_SH_shorten_91 (lv_at hl 5 rfl) ?_
            refine lv_imul hx hb d_SH_shorten_93 ?_
            refine lv_iload hx hb d_SH_shorten_94 (lv_at hl 4 rfl) ?_
            refine va_mmin hx hb (hml.trans hl.1.symm) hown (hts.1 _ q_184) (hts.1 _ q_93) (hts.1 _ q_94) (hts.1 _ q_95) (Nat.le_of_ble_eq_true rfl) (Nat.le_of_ble_eq_true rfl) (Nat.zero_le _) (Nat.zero_le _) d_SH_shorten_96 ?_
            obtain ⟨v37, ev37, h⟩ := nx_e h
            refine tp_i ev37 ?_
            refine lv_istore_n hx hb d_SH_shorten_99 rfl hl (by decide) rfl (fun ls hl => ?_)
            have hl : lv_has ls 7 [(3, .int v37), (0, .ref (x.2.1 11)), (1, .ref (x.2.1 j1)), (2, .ref (x.2.1 1)), (4, .int a30), (5, .int a31), (6, .int a32)] := hl
            exact J100 v37 a30 M34 _ h g H locs ls hP hS (lv_sub hl [1, 2, 3, 0, 4] rfl)
          · have h := if_p hc h
            obtain rfl := Option.some.inj h
            exact hret d_SH_shorten_89 g hP hS
        · have h := if_m hc h
          refine lv_iload hx hb d_SH_shorten_70 (lv_at hl 5 rfl) ?_
          refine lv_iconst (v := (1 : Int32)) hx hb d_SH_shorten_72 (by decide) ?_
          refine lv_isub hx hb d_SH_shorten_73 ?_
          refine lv_iconst (v := (2 : Int32)) hx hb d_SH_shorten_74 (by decide) ?_
          refine va_mmax hx hb (hml.trans hl.1.symm) hown (hts.1 _ q_185) (hts.1 _ q_156) (hts.1 _ q_94) (hts.1 _ q_157) (Nat.le_of_ble_eq_true rfl) (Nat.le_of_ble_eq_true rfl) (Nat.zero_le _) (Nat.zero_le _) d_SH_shorten_75 ?_
          obtain ⟨v38, ev38, h⟩ := nx_e h
          refine tp_i ev38 ?_
          refine lv_istore_n hx hb d_SH_shorten_78 rfl hl (by decide) rfl (fun ls hl => ?_)
          have hl : lv_has ls 7 [(3, .int v38), (0, .ref (x.2.1 11)), (1, .ref (x.2.1 j1)), (2, .ref (x.2.1 1)), (4, .int a30), (5, .int a31), (6, .int a32)] := hl
          refine lv_goto (tgt := 100) hx hb d_SH_shorten_79 rfl ?_
          exact J100 v38 a30 M34 _ h g H locs ls hP hS (lv_sub hl [1, 2, 3, 0, 4] rfl)
      refine lv_iload hx hb d_SH_shorten_5 (lv_at hl 4 rfl) ?_
      refine lv_bipush (v := (64 : Int32)) hx hb d_SH_shorten_7 (by decide) ?_
      refine lv_icmp_ge (tgt := 106) hx hb d_SH_shorten_9 rfl (fun hc => ?_) (fun hc => ?_)
      · have h := if_p hc h
        obtain rfl := Option.some.inj h
        exact hret d_SH_shorten_106 g hP hS
      · have h := if_m hc h
        refine lv_aload_n hx hb d_SH_shorten_12 rfl (lv_at hl 1 rfl) ?_
        refine gf_SH_23 hx hb hts hown hK hP k1 d_SH_shorten_13 ?_
        refine gf_SH_28 hx hb hts hown hK hP (kd_FI_shortest k1) d_SH_shorten_16 ?_
        obtain ⟨v39, ev39, h⟩ := nx_e h
        refine tp_i ev39 ?_
        refine lv_istore hx hb d_SH_shorten_19 hl (by decide) rfl (fun ls hl => ?_)
        have hl : lv_has ls 7 [(5, .int v39), (0, .ref (x.2.1 11)), (1, .ref (x.2.1 j1)), (2, .ref (x.2.1 1)), (3, .int v23), (4, .int v24)] := hl
        refine lv_iload_n hx hb d_SH_shorten_21 rfl (lv_at hl 4 rfl) ?_
        refine lv_iload hx hb d_SH_shorten_22 (lv_at hl 0 rfl) ?_
        refine va_mmin hx hb (hml.trans hl.1.symm) hown (hts.1 _ q_184) (hts.1 _ q_93) (hts.1 _ q_94) (hts.1 _ q_95) (Nat.le_of_ble_eq_true rfl) (Nat.le_of_ble_eq_true rfl) (Nat.zero_le _) (Nat.zero_le _) d_SH_shorten_24 ?_
        obtain ⟨v40, ev40, h⟩ := nx_e h
        refine tp_i ev40 ?_
        refine lv_istore hx hb d_SH_shorten_27 hl (by decide) rfl (fun ls hl => ?_)
        have hl : lv_has ls 7 [(6, .int v40), (5, .int v39), (0, .ref (x.2.1 11)), (1, .ref (x.2.1 j1)), (2, .ref (x.2.1 1)), (3, .int v23), (4, .int v24)] := hl
        refine lv_iload hx hb d_SH_shorten_29 (lv_at hl 1 rfl) ?_
        refine lv_if_ne (tgt := 35) hx hb d_SH_shorten_31 rfl (fun hc => ?_) (fun hc => ?_)
        · have h := if_m hc h
          refine lv_iload hx hb d_SH_shorten_35 (lv_at hl 0 rfl) ?_
          refine lv_iconst (v := (2 : Int32)) hx hb d_SH_shorten_37 (by decide) ?_
          refine lv_icmp_lt (tgt := 58) hx hb d_SH_shorten_38 rfl (fun hc => ?_) (fun hc => ?_)
          · have h := if_p hc h
            exact J58 v24 v39 v40 M25 _ h g H locs ls hP hS (lv_sub hl [2, 3, 4, 6, 1, 0] rfl)
          · have h := if_m hc h
            refine lv_aload_n hx hb d_SH_shorten_41 rfl (lv_at hl 2 rfl) ?_
            refine lv_aload_n hx hb d_SH_shorten_42 rfl (lv_at hl 3 rfl) ?_
            refine lv_aload_n hx hb d_SH_shorten_43 rfl (lv_at hl 4 rfl) ?_
            refine lv_iload hx hb d_SH_shorten_44 (lv_at hl 0 rfl) ?_
            refine lv_iconst (v := (1 : Int32)) hx hb d_SH_shorten_46 (by decide) ?_
            obtain ⟨r43, M41, c42, h⟩ := bi_e h
            refine cl_SH_38 (rest := []) (R := r_SH_shorten) (c_SH_keepFirst l x hJ j1 k1 v40 (1 : Int32) c42) hx hb hml hts hown hK hZ hP hS hl.1 (Nat.le_of_ble_eq_true rfl) (Nat.le_of_ble_eq_true rfl) (Nat.le_of_ble_eq_true rfl) ⟨rfl, rfl, Nat.zero_le _, Nat.zero_le _⟩ d_SH_shorten_47 (fun H locs hP hS => ?_)
            refine lv_if_eq (tgt := 58) hx hb d_SH_shorten_50 rfl (fun hc => ?_) (fun hc => ?_)
            · have h := if_p hc h
              exact J58 v24 v39 v40 M41 _ h g H locs ls hP hS (lv_sub hl [2, 3, 4, 6, 1, 0] rfl)
            · have h := if_m hc h
              refine lv_iconst (v := (2 : Int32)) hx hb d_SH_shorten_53 (by decide) ?_
              obtain ⟨v44, ev44, h⟩ := nx_e h
              refine tp_i ev44 ?_
              refine lv_istore_n hx hb d_SH_shorten_54 rfl hl (by decide) rfl (fun ls hl => ?_)
              have hl : lv_has ls 7 [(3, .int v44), (6, .int v40), (5, .int v39), (0, .ref (x.2.1 11)), (1, .ref (x.2.1 j1)), (2, .ref (x.2.1 1)), (4, .int v24)] := hl
              refine lv_goto (tgt := 100) hx hb d_SH_shorten_55 rfl ?_
              exact J100 v44 v24 M41 _ h g H locs ls hP hS (lv_sub hl [3, 4, 5, 0, 6] rfl)
        · have h := if_p hc h
          obtain rfl := Option.some.inj h
          exact hret d_SH_shorten_34 g hP hS
    rw [eP5] at L5
    exact L5 H locs ls hP hS (lv_sub hl [2, 3, 4, 1, 0] rfl)
  rw [eH] at key
  exact key
