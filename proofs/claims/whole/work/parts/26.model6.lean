theorem d_MO_count_0 : decode b_MO_count 0 = .ok (.aload_n 0, 1) := by decide +kernel
theorem d_MO_count_1 : decode b_MO_count 1 = .ok (.invokevirtual 162, 3) := by decide +kernel
theorem d_MO_count_4 : decode b_MO_count 4 = .ok (.iload_n 1, 1) := by decide +kernel
theorem d_MO_count_5 : decode b_MO_count 5 = .ok (.tableswitch 78 0 6 #[43, 48, 53, 58, 63, 68, 73], 43) := by decide +kernel
theorem d_MO_count_48 : decode b_MO_count 48 = .ok (.aload_n 0, 1) := by decide +kernel
theorem d_MO_count_49 : decode b_MO_count 49 = .ok (.getfield 99, 3) := by decide +kernel
theorem d_MO_count_52 : decode b_MO_count 52 = .ok (.ireturn, 1) := by decide +kernel
theorem d_MO_count_53 : decode b_MO_count 53 = .ok (.aload_n 0, 1) := by decide +kernel
theorem d_MO_count_54 : decode b_MO_count 54 = .ok (.getfield 168, 3) := by decide +kernel
theorem d_MO_count_57 : decode b_MO_count 57 = .ok (.ireturn, 1) := by decide +kernel
theorem d_MO_count_58 : decode b_MO_count 58 = .ok (.aload_n 0, 1) := by decide +kernel
theorem d_MO_count_59 : decode b_MO_count 59 = .ok (.getfield 178, 3) := by decide +kernel
theorem d_MO_count_62 : decode b_MO_count 62 = .ok (.ireturn, 1) := by decide +kernel
theorem d_MO_count_63 : decode b_MO_count 63 = .ok (.aload_n 0, 1) := by decide +kernel
theorem d_MO_count_64 : decode b_MO_count 64 = .ok (.getfield 145, 3) := by decide +kernel
theorem d_MO_count_67 : decode b_MO_count 67 = .ok (.ireturn, 1) := by decide +kernel
theorem d_MO_count_68 : decode b_MO_count 68 = .ok (.aload_n 0, 1) := by decide +kernel
theorem d_MO_count_69 : decode b_MO_count 69 = .ok (.getfield 184, 3) := by decide +kernel
theorem d_MO_count_72 : decode b_MO_count 72 = .ok (.ireturn, 1) := by decide +kernel
theorem d_MO_count_73 : decode b_MO_count 73 = .ok (.aload_n 0, 1) := by decide +kernel
theorem d_MO_count_74 : decode b_MO_count 74 = .ok (.invokevirtual 247, 3) := by decide +kernel
theorem d_MO_count_77 : decode b_MO_count 77 = .ok (.ireturn, 1) := by decide +kernel
theorem d_MO_count_78 : decode b_MO_count 78 = .ok (.aload_n 0, 1) := by decide +kernel
theorem d_MO_count_79 : decode b_MO_count 79 = .ok (.invokevirtual 250, 3) := by decide +kernel
theorem d_MO_count_82 : decode b_MO_count 82 = .ok (.ireturn, 1) := by decide +kernel
theorem d_MO_count_83 : decode b_MO_count 83 = .ok (.iconst (-1), 1) := by decide +kernel
theorem d_MO_count_84 : decode b_MO_count 84 = .ok (.ireturn, 1) := by decide +kernel
noncomputable def s_MO_count (a1 : Int32) (M : Mem) : Option (Int32 × Mem) :=
  bv (s_MO_survey M) (fun M21 => if a1 = (0 : Int32) then (some (M21 26 32, M21)) else (if a1 = (1 : Int32) then (some (M21 26 33, M21)) else (if a1 = (2 : Int32) then (some (M21 26 34, M21)) else (if a1 = (3 : Int32) then (some (M21 26 18, M21)) else (if a1 = (4 : Int32) then (some (M21 26 22, M21)) else (if a1 = (5 : Int32) then (bi (s_MO_seenEdges M21) (fun r30 M28 => some (r30, M28))) else (if a1 = (6 : Int32) then (bi (s_MO_seenPairs M21) (fun r34 M32 => some (r34, M32))) else (some ((-1 : Int32), M21)))))))))
set_option maxHeartbeats 4000000 in
set_option maxRecDepth 100000 in
theorem c_MO_count (l : Launch) (x : Cx) (hJ : Inj x) (a1 : Int32) {M : Mem} {out : Int32 × Mem} (h : s_MO_count a1 M = some out) : Ci l x y_MO_count (Cond.code y_MO_count b_MO_count 2 (some .int) :: tb) r_MO_count [.ref (x.2.1 26), .int a1] M out := by
  refine ofCi (cc := b_MO_count) (maxL := 2) (by decide) rfl (rfl) (Nat.le_of_ble_eq_true rfl) ?_
  intro p e s m args below meth c Q G0 ls g hx hb hml hown hts hK hZ hP hS hl hret
  have hown : s.vm.findClass R_MO = some m.cls := hown
  have hl : lv_has ls 2 [(0, .ref (x.2.1 26)), (1, .int a1)] := hl
  obtain ⟨H, eH⟩ : ∃ z, z = s.heap := ⟨_, rfl⟩
  obtain ⟨locs, eL⟩ : ∃ z, z = ([] : List Loc) := ⟨_, rfl⟩
  rw [← eH] at hP
  have hS : va_S (A0 x) s.heap H locs := by rw [eH, eL]; exact hS
  rw [← eL]
  have key : W p l e r_MO_count s m args below meth c H locs 0 0 Q (F0 m 0 ls []) := by
    clear eH eL
    unfold s_MO_count at h
    refine lv_aload_n hx hb d_MO_count_0 rfl (lv_at hl 0 rfl) ?_
    obtain ⟨M21, c22, h⟩ := bv_e h
    refine cl_MO_162 (rest := []) (R := r_MO_count) (c_MO_survey l x hJ c22) hx hb hml hts hown hK hZ hP hS hl.1 (Nat.le_of_ble_eq_true rfl) (Nat.le_of_ble_eq_true rfl) (Nat.le_of_ble_eq_true rfl) ⟨rfl, rfl, Nat.zero_le _, Nat.zero_le _⟩ d_MO_count_1 (fun H locs hP hS => ?_)
    refine lv_iload_n hx hb d_MO_count_4 rfl (lv_at hl 1 rfl) ?_
    by_cases n23 : a1 = (0 : Int32)
    · have h := if_p n23 h
      refine sw_in (k := (0 : Int32)) (tgt := 48) hx hb n23 d_MO_count_5 (by decide) (by decide) rfl rfl ?_
      refine lv_aload_n hx hb d_MO_count_48 rfl (lv_at hl 0 rfl) ?_
      refine gf_MO_99 hx hb hts hown hK hP d_MO_count_49 ?_
      obtain rfl := Option.some.inj h
      exact hret d_MO_count_52 g hP hS
    have h := if_m n23 h
    by_cases n24 : a1 = (1 : Int32)
    · have h := if_p n24 h
      refine sw_in (k := (1 : Int32)) (tgt := 53) hx hb n24 d_MO_count_5 (by decide) (by decide) rfl rfl ?_
      refine lv_aload_n hx hb d_MO_count_53 rfl (lv_at hl 0 rfl) ?_
      refine gf_MO_168 hx hb hts hown hK hP d_MO_count_54 ?_
      obtain rfl := Option.some.inj h
      exact hret d_MO_count_57 g hP hS
    have h := if_m n24 h
    by_cases n25 : a1 = (2 : Int32)
    · have h := if_p n25 h
      refine sw_in (k := (2 : Int32)) (tgt := 58) hx hb n25 d_MO_count_5 (by decide) (by decide) rfl rfl ?_
      refine lv_aload_n hx hb d_MO_count_58 rfl (lv_at hl 0 rfl) ?_
      refine gf_MO_178 hx hb hts hown hK hP d_MO_count_59 ?_
      obtain rfl := Option.some.inj h
      exact hret d_MO_count_62 g hP hS
    have h := if_m n25 h
    by_cases n26 : a1 = (3 : Int32)
    · have h := if_p n26 h
      refine sw_in (k := (3 : Int32)) (tgt := 63) hx hb n26 d_MO_count_5 (by decide) (by decide) rfl rfl ?_
      refine lv_aload_n hx hb d_MO_count_63 rfl (lv_at hl 0 rfl) ?_
      refine gf_MO_145 hx hb hts hown hK hP d_MO_count_64 ?_
      obtain rfl := Option.some.inj h
      exact hret d_MO_count_67 g hP hS
    have h := if_m n26 h
    by_cases n27 : a1 = (4 : Int32)
    · have h := if_p n27 h
      refine sw_in (k := (4 : Int32)) (tgt := 68) hx hb n27 d_MO_count_5 (by decide) (by decide) rfl rfl ?_
      refine lv_aload_n hx hb d_MO_count_68 rfl (lv_at hl 0 rfl) ?_
      refine gf_MO_184 hx hb hts hown hK hP d_MO_count_69 ?_
      obtain rfl := Option.some.inj h
      exact hret d_MO_count_72 g hP hS
    have h := if_m n27 h
    by_cases n31 : a1 = (5 : Int32)
    · have h := if_p n31 h
      refine sw_in (k := (5 : Int32)) (tgt := 73) hx hb n31 d_MO_count_5 (by decide) (by decide) rfl rfl ?_
      refine lv_aload_n hx hb d_MO_count_73 rfl (lv_at hl 0 rfl) ?_
      obtain ⟨r30, M28, c29, h⟩ := bi_e h
      refine cl_MO_247 (rest := []) (R := r_MO_count) (c_MO_seenEdges l x hJ c29) hx hb hml hts hown hK hZ hP hS hl.1 (Nat.le_of_ble_eq_true rfl) (Nat.le_of_ble_eq_true rfl) (Nat.le_of_ble_eq_true rfl) ⟨rfl, rfl, Nat.zero_le _, Nat.zero_le _⟩ d_MO_count_74 (fun H locs hP hS => ?_)
      obtain rfl := Option.some.inj h
      exact hret d_MO_count_77 g hP hS
    have h := if_m n31 h
    by_cases n35 : a1 = (6 : Int32)
    · have h := if_p n35 h
      refine sw_in (k := (6 : Int32)) (tgt := 78) hx hb n35 d_MO_count_5 (by decide) (by decide) rfl rfl ?_
      refine lv_aload_n hx hb d_MO_count_78 rfl (lv_at hl 0 rfl) ?_
      obtain ⟨r34, M32, c33, h⟩ := bi_e h
      refine cl_MO_250 (rest := []) (R := r_MO_count) (c_MO_seenPairs l x hJ c33) hx hb hml hts hown hK hZ hP hS hl.1 (Nat.le_of_ble_eq_true rfl) (Nat.le_of_ble_eq_true rfl) (Nat.le_of_ble_eq_true rfl) ⟨rfl, rfl, Nat.zero_le _, Nat.zero_le _⟩ d_MO_count_79 (fun H locs hP hS => ?_)
      obtain rfl := Option.some.inj h
      exact hret d_MO_count_82 g hP hS
    have h := if_m n35 h
    have b0 := sw_ne (k := (0 : Int32)) (z := 0) (by decide) n23
    have b1 := sw_ne (k := (1 : Int32)) (z := 1) (by decide) n24
    have b2 := sw_ne (k := (2 : Int32)) (z := 2) (by decide) n25
    have b3 := sw_ne (k := (3 : Int32)) (z := 3) (by decide) n26
    have b4 := sw_ne (k := (4 : Int32)) (z := 4) (by decide) n27
    have b5 := sw_ne (k := (5 : Int32)) (z := 5) (by decide) n31
    have b6 := sw_ne (k := (6 : Int32)) (z := 6) (by decide) n35
    refine lv_tableOut (tgt := 83) hx hb d_MO_count_5 (by omega) rfl ?_
    refine lv_iconst (v := (-1 : Int32)) hx hb d_MO_count_83 (by decide) ?_
    obtain rfl := Option.some.inj h
    exact hret d_MO_count_84 g hP hS
  rw [eH] at key
  exact key
theorem d_MO_entry_0 : decode b_MO_entry 0 = .ok (.iload_n 1, 1) := by decide +kernel
theorem d_MO_entry_1 : decode b_MO_entry 1 = .ok (.aload_n 0, 1) := by decide +kernel
theorem d_MO_entry_2 : decode b_MO_entry 2 = .ok (.getfield 145, 3) := by decide +kernel
theorem d_MO_entry_5 : decode b_MO_entry 5 = .ok (.invokestatic 89, 3) := by decide +kernel
theorem d_MO_entry_8 : decode b_MO_entry 8 = .ok (.ifCond .ne 5, 3) := by decide +kernel
theorem d_MO_entry_11 : decode b_MO_entry 11 = .ok (.iconst (-1), 1) := by decide +kernel
theorem d_MO_entry_12 : decode b_MO_entry 12 = .ok (.ireturn, 1) := by decide +kernel
theorem d_MO_entry_13 : decode b_MO_entry 13 = .ok (.aload_n 0, 1) := by decide +kernel
theorem d_MO_entry_14 : decode b_MO_entry 14 = .ok (.invokevirtual 162, 3) := by decide +kernel
theorem d_MO_entry_17 : decode b_MO_entry 17 = .ok (.iload_n 2, 1) := by decide +kernel
theorem d_MO_entry_18 : decode b_MO_entry 18 = .ok (.tableswitch 70 0 4 #[34, 41, 48, 54, 61], 34) := by decide +kernel
theorem d_MO_entry_52 : decode b_MO_entry 52 = .ok (.aload_n 0, 1) := by decide +kernel
theorem d_MO_entry_53 : decode b_MO_entry 53 = .ok (.getfield 40, 3) := by decide +kernel
theorem d_MO_entry_56 : decode b_MO_entry 56 = .ok (.iload_n 1, 1) := by decide +kernel
theorem d_MO_entry_57 : decode b_MO_entry 57 = .ok (.iaload, 1) := by decide +kernel
theorem d_MO_entry_58 : decode b_MO_entry 58 = .ok (.ireturn, 1) := by decide +kernel
theorem d_MO_entry_59 : decode b_MO_entry 59 = .ok (.aload_n 0, 1) := by decide +kernel
theorem d_MO_entry_60 : decode b_MO_entry 60 = .ok (.getfield 79, 3) := by decide +kernel
theorem d_MO_entry_63 : decode b_MO_entry 63 = .ok (.iload_n 1, 1) := by decide +kernel
theorem d_MO_entry_64 : decode b_MO_entry 64 = .ok (.iaload, 1) := by decide +kernel
theorem d_MO_entry_65 : decode b_MO_entry 65 = .ok (.ireturn, 1) := by decide +kernel
theorem d_MO_entry_66 : decode b_MO_entry 66 = .ok (.aload_n 0, 1) := by decide +kernel
theorem d_MO_entry_67 : decode b_MO_entry 67 = .ok (.iload_n 1, 1) := by decide +kernel
theorem d_MO_entry_68 : decode b_MO_entry 68 = .ok (.invokevirtual 206, 3) := by decide +kernel
theorem d_MO_entry_71 : decode b_MO_entry 71 = .ok (.ireturn, 1) := by decide +kernel
theorem d_MO_entry_72 : decode b_MO_entry 72 = .ok (.aload_n 0, 1) := by decide +kernel
theorem d_MO_entry_73 : decode b_MO_entry 73 = .ok (.getfield 43, 3) := by decide +kernel
theorem d_MO_entry_76 : decode b_MO_entry 76 = .ok (.iload_n 1, 1) := by decide +kernel
theorem d_MO_entry_77 : decode b_MO_entry 77 = .ok (.iaload, 1) := by decide +kernel
theorem d_MO_entry_78 : decode b_MO_entry 78 = .ok (.ireturn, 1) := by decide +kernel
theorem d_MO_entry_79 : decode b_MO_entry 79 = .ok (.aload_n 0, 1) := by decide +kernel
theorem d_MO_entry_80 : decode b_MO_entry 80 = .ok (.getfield 156, 3) := by decide +kernel
theorem d_MO_entry_83 : decode b_MO_entry 83 = .ok (.iload_n 1, 1) := by decide +kernel
theorem d_MO_entry_84 : decode b_MO_entry 84 = .ok (.ishr, 1) := by decide +kernel
theorem d_MO_entry_85 : decode b_MO_entry 85 = .ok (.iconst 1, 1) := by decide +kernel
theorem d_MO_entry_86 : decode b_MO_entry 86 = .ok (.iand, 1) := by decide +kernel
theorem d_MO_entry_87 : decode b_MO_entry 87 = .ok (.ireturn, 1) := by decide +kernel
theorem d_MO_entry_88 : decode b_MO_entry 88 = .ok (.iconst (-1), 1) := by decide +kernel
theorem d_MO_entry_89 : decode b_MO_entry 89 = .ok (.ireturn, 1) := by decide +kernel
noncomputable def s_MO_entry (a1 : Int32) (a2 : Int32) (M : Mem) : Option (Int32 × Mem) :=
  bi (s_MO_within a1 (M 26 18) M) (fun r23 M21 => if r23 = 0 then (some ((-1 : Int32), M21)) else (bv (s_MO_survey M21) (fun M24 => if a2 = (0 : Int32) then (ck a1 16 (some (M24 37 a1.toNatClampNeg, M24))) else (if a2 = (1 : Int32) then (ck a1 16 (some (M24 50 a1.toNatClampNeg, M24))) else (if a2 = (2 : Int32) then (bi (s_MO_edgesOf a1 M24) (fun r32 M30 => some (r32, M30))) else (if a2 = (3 : Int32) then (ck a1 16 (some (M24 38 a1.toNatClampNeg, M24))) else (if a2 = (4 : Int32) then (some (((M24 26 39) >>> (a1 &&& 31)) &&& (1 : Int32), M24)) else (some ((-1 : Int32), M24)))))))))
set_option maxHeartbeats 4000000 in
set_option maxRecDepth 100000 in
theorem c_MO_entry (l : Launch) (x : Cx) (hJ : Inj x) (a1 : Int32) (a2 : Int32) {M : Mem} {out : Int32 × Mem} (h : s_MO_entry a1 a2 M = some out) : Ci l x y_MO_entry (Cond.code y_MO_entry b_MO_entry 3 (some .int) :: tb) r_MO_entry [.ref (x.2.1 26), .int a1, .int a2] M out := by
  refine ofCi (cc := b_MO_entry) (maxL := 3) (by decide) rfl (rfl) (Nat.le_of_ble_eq_true rfl) ?_
  intro p e s m args below meth c Q G0 ls g hx hb hml hown hts hK hZ hP hS hl hret
  have hown : s.vm.findClass R_MO = some m.cls := hown
  have hl : lv_has ls 3 [(0, .ref (x.2.1 26)), (1, .int a1), (2, .int a2)] := hl
  obtain ⟨H, eH⟩ : ∃ z, z = s.heap := ⟨_, rfl⟩
  obtain ⟨locs, eL⟩ : ∃ z, z = ([] : List Loc) := ⟨_, rfl⟩
  rw [← eH] at hP
  have hS : va_S (A0 x) s.heap H locs := by rw [eH, eL]; exact hS
  rw [← eL]
  have key : W p l e r_MO_entry s m args below meth c H locs 0 0 Q (F0 m 0 ls []) := by
    clear eH eL
    unfold s_MO_entry at h
    refine lv_iload_n hx hb d_MO_entry_0 rfl (lv_at hl 1 rfl) ?_
    refine lv_aload_n hx hb d_MO_entry_1 rfl (lv_at hl 0 rfl) ?_
    refine gf_MO_145 hx hb hts hown hK hP d_MO_entry_2 ?_
    obtain ⟨r23, M21, c22, h⟩ := bi_e h
    refine cl_MO_89 (rest := []) (R := r_MO_entry) (c_MO_within l x hJ a1 (M 26 18) c22) hx hb hml hts hown hK hZ hP hS hl.1 (Nat.le_of_ble_eq_true rfl) (Nat.le_of_ble_eq_true rfl) (Nat.le_of_ble_eq_true rfl) ⟨rfl, rfl, Nat.zero_le _, Nat.zero_le _⟩ d_MO_entry_5 (fun H locs hP hS => ?_)
    refine lv_if_ne (tgt := 13) hx hb d_MO_entry_8 rfl (fun hc => ?_) (fun hc => ?_)
    · have h := if_m hc h
      refine lv_aload_n hx hb d_MO_entry_13 rfl (lv_at hl 0 rfl) ?_
      obtain ⟨M24, c25, h⟩ := bv_e h
      refine cl_MO_162 (rest := []) (R := r_MO_entry) (c_MO_survey l x hJ c25) hx hb hml hts hown hK hZ hP hS hl.1 (Nat.le_of_ble_eq_true rfl) (Nat.le_of_ble_eq_true rfl) (Nat.le_of_ble_eq_true rfl) ⟨rfl, rfl, Nat.zero_le _, Nat.zero_le _⟩ d_MO_entry_14 (fun H locs hP hS => ?_)
      refine lv_iload_n hx hb d_MO_entry_17 rfl (lv_at hl 2 rfl) ?_
      by_cases n27 : a2 = (0 : Int32)
      · have h := if_p n27 h
        refine sw_in (k := (0 : Int32)) (tgt := 52) hx hb n27 d_MO_entry_18 (by decide) (by decide) rfl rfl ?_
        refine lv_aload_n hx hb d_MO_entry_52 rfl (lv_at hl 0 rfl) ?_
        refine gf_MO_40 hx hb hts hown hK hP d_MO_entry_53 ?_
        refine lv_iload_n hx hb d_MO_entry_56 rfl (lv_at hl 1 rfl) ?_
        obtain ⟨b26, h⟩ := ck_e h
        refine m_ald hx hb hK hP ar_MO_lengths b26 d_MO_entry_57 ?_
        obtain rfl := Option.some.inj h
        exact hret d_MO_entry_58 g hP hS
      have h := if_m n27 h
      by_cases n29 : a2 = (1 : Int32)
      · have h := if_p n29 h
        refine sw_in (k := (1 : Int32)) (tgt := 59) hx hb n29 d_MO_entry_18 (by decide) (by decide) rfl rfl ?_
        refine lv_aload_n hx hb d_MO_entry_59 rfl (lv_at hl 0 rfl) ?_
        refine gf_MO_79 hx hb hts hown hK hP d_MO_entry_60 ?_
        refine lv_iload_n hx hb d_MO_entry_63 rfl (lv_at hl 1 rfl) ?_
        obtain ⟨b28, h⟩ := ck_e h
        refine m_ald hx hb hK hP ar_MO_stepsOf b28 d_MO_entry_64 ?_
        obtain rfl := Option.some.inj h
        exact hret d_MO_entry_65 g hP hS
      have h := if_m n29 h
      by_cases n33 : a2 = (2 : Int32)
      · have h := if_p n33 h
        refine sw_in (k := (2 : Int32)) (tgt := 66) hx hb n33 d_MO_entry_18 (by decide) (by decide) rfl rfl ?_
        refine lv_aload_n hx hb d_MO_entry_66 rfl (lv_at hl 0 rfl) ?_
        refine lv_iload_n hx hb d_MO_entry_67 rfl (lv_at hl 1 rfl) ?_
        obtain ⟨r32, M30, c31, h⟩ := bi_e h
        refine cl_MO_206 (rest := []) (R := r_MO_entry) (c_MO_edgesOf l x hJ a1 c31) hx hb hml hts hown hK hZ hP hS hl.1 (Nat.le_of_ble_eq_true rfl) (Nat.le_of_ble_eq_true rfl) (Nat.le_of_ble_eq_true rfl) ⟨rfl, rfl, Nat.zero_le _, Nat.zero_le _⟩ d_MO_entry_68 (fun H locs hP hS => ?_)
        obtain rfl := Option.some.inj h
        exact hret d_MO_entry_71 g hP hS
      have h := if_m n33 h
      by_cases n35 : a2 = (3 : Int32)
      · have h := if_p n35 h
        refine sw_in (k := (3 : Int32)) (tgt := 72) hx hb n35 d_MO_entry_18 (by decide) (by decide) rfl rfl ?_
        refine lv_aload_n hx hb d_MO_entry_72 rfl (lv_at hl 0 rfl) ?_
        refine gf_MO_43 hx hb hts hown hK hP d_MO_entry_73 ?_
        refine lv_iload_n hx hb d_MO_entry_76 rfl (lv_at hl 1 rfl) ?_
        obtain ⟨b34, h⟩ := ck_e h
        refine m_ald hx hb hK hP ar_MO_finished b34 d_MO_entry_77 ?_
        obtain rfl := Option.some.inj h
        exact hret d_MO_entry_78 g hP hS
      have h := if_m n35 h
      by_cases n36 : a2 = (4 : Int32)
      · have h := if_p n36 h
        refine sw_in (k := (4 : Int32)) (tgt := 79) hx hb n36 d_MO_entry_18 (by decide) (by decide) rfl rfl ?_
        refine lv_aload_n hx hb d_MO_entry_79 rfl (lv_at hl 0 rfl) ?_
        refine gf_MO_156 hx hb hts hown hK hP d_MO_entry_80 ?_
        refine lv_iload_n hx hb d_MO_entry_83 rfl (lv_at hl 1 rfl) ?_
        refine lv_ishr hx hb d_MO_entry_84 ?_
        refine lv_iconst (v := (1 : Int32)) hx hb d_MO_entry_85 (by decide) ?_
        refine lv_iand hx hb d_MO_entry_86 ?_
        obtain rfl := Option.some.inj h
        exact hret d_MO_entry_87 g hP hS
      have h := if_m n36 h
      have b0 := sw_ne (k := (0 : Int32)) (z := 0) (by decide) n27
      have b1 := sw_ne (k := (1 : Int32)) (z := 1) (by decide) n29
      have b2 := sw_ne (k := (2 : Int32)) (z := 2) (by decide) n33
      have b3 := sw_ne (k := (3 : Int32)) (z := 3) (by decide) n35
      have b4 := sw_ne (k := (4 : Int32)) (z := 4) (by decide) n36
      refine lv_tableOut (tgt := 88) hx hb d_MO_entry_18 (by omega) rfl ?_
      refine lv_iconst (v := (-1 : Int32)) hx hb d_MO_entry_88 (by decide) ?_
      obtain rfl := Option.some.inj h
      exact hret d_MO_entry_89 g hP hS
    · have h := if_p hc h
      refine lv_iconst (v := (-1 : Int32)) hx hb d_MO_entry_11 (by decide) ?_
      obtain rfl := Option.some.inj h
      exact hret d_MO_entry_12 g hP hS
  rw [eH] at key
  exact key
theorem d_MO_entryByte_0 : decode b_MO_entryByte 0 = .ok (.iload_n 1, 1) := by decide +kernel
theorem d_MO_entryByte_1 : decode b_MO_entryByte 1 = .ok (.aload_n 0, 1) := by decide +kernel
theorem d_MO_entryByte_2 : decode b_MO_entryByte 2 = .ok (.getfield 145, 3) := by decide +kernel
theorem d_MO_entryByte_5 : decode b_MO_entryByte 5 = .ok (.invokestatic 89, 3) := by decide +kernel
theorem d_MO_entryByte_8 : decode b_MO_entryByte 8 = .ok (.ifCond .eq 30, 3) := by decide +kernel
theorem d_MO_entryByte_11 : decode b_MO_entryByte 11 = .ok (.iload_n 2, 1) := by decide +kernel
theorem d_MO_entryByte_12 : decode b_MO_entryByte 12 = .ok (.aload_n 0, 1) := by decide +kernel
theorem d_MO_entryByte_13 : decode b_MO_entryByte 13 = .ok (.getfield 40, 3) := by decide +kernel
theorem d_MO_entryByte_16 : decode b_MO_entryByte 16 = .ok (.iload_n 1, 1) := by decide +kernel
theorem d_MO_entryByte_17 : decode b_MO_entryByte 17 = .ok (.iaload, 1) := by decide +kernel
theorem d_MO_entryByte_18 : decode b_MO_entryByte 18 = .ok (.invokestatic 89, 3) := by decide +kernel
theorem d_MO_entryByte_21 : decode b_MO_entryByte 21 = .ok (.ifCond .eq 17, 3) := by decide +kernel
theorem d_MO_entryByte_24 : decode b_MO_entryByte 24 = .ok (.aload_n 0, 1) := by decide +kernel
theorem d_MO_entryByte_25 : decode b_MO_entryByte 25 = .ok (.getfield 37, 3) := by decide +kernel
theorem d_MO_entryByte_28 : decode b_MO_entryByte 28 = .ok (.bipush 6, 2) := by decide +kernel
theorem d_MO_entryByte_30 : decode b_MO_entryByte 30 = .ok (.iload_n 1, 1) := by decide +kernel
theorem d_MO_entryByte_31 : decode b_MO_entryByte 31 = .ok (.imul, 1) := by decide +kernel
theorem d_MO_entryByte_32 : decode b_MO_entryByte 32 = .ok (.iload_n 2, 1) := by decide +kernel
theorem d_MO_entryByte_33 : decode b_MO_entryByte 33 = .ok (.iadd, 1) := by decide +kernel
theorem d_MO_entryByte_34 : decode b_MO_entryByte 34 = .ok (.iaload, 1) := by decide +kernel
theorem d_MO_entryByte_35 : decode b_MO_entryByte 35 = .ok (.goto 4, 3) := by decide +kernel
theorem d_MO_entryByte_38 : decode b_MO_entryByte 38 = .ok (.iconst (-1), 1) := by decide +kernel
theorem d_MO_entryByte_39 : decode b_MO_entryByte 39 = .ok (.ireturn, 1) := by decide +kernel
noncomputable def s_MO_entryByte (a1 : Int32) (a2 : Int32) (M : Mem) : Option (Int32 × Mem) :=
  bi (s_MO_within a1 (M 26 18) M) (fun r23 M21 => if r23 = 0 then (some ((-1 : Int32), M21)) else (ck a1 16 (bi (s_MO_within a2 (M21 37 a1.toNatClampNeg) M21) (fun r27 M25 => if r27 = 0 then (some ((-1 : Int32), M25)) else (ck (((6 : Int32) * a1) + a2) 96 (some (M25 36 (((6 : Int32) * a1) + a2).toNatClampNeg, M25)))))))
set_option maxHeartbeats 4000000 in
set_option maxRecDepth 100000 in
theorem c_MO_entryByte (l : Launch) (x : Cx) (hJ : Inj x) (a1 : Int32) (a2 : Int32) {M : Mem} {out : Int32 × Mem} (h : s_MO_entryByte a1 a2 M = some out) : Ci l x y_MO_entryByte (Cond.code y_MO_entryByte b_MO_entryByte 3 (some .int) :: tb) r_MO_entryByte [.ref (x.2.1 26), .int a1, .int a2] M out := by
  refine ofCi (cc := b_MO_entryByte) (maxL := 3) (by decide) rfl (rfl) (Nat.le_of_ble_eq_true rfl) ?_
  intro p e s m args below meth c Q G0 ls g hx hb hml hown hts hK hZ hP hS hl hret
  have hown : s.vm.findClass R_MO = some m.cls := hown
  have hl : lv_has ls 3 [(0, .ref (x.2.1 26)), (1, .int a1), (2, .int a2)] := hl
  obtain ⟨H, eH⟩ : ∃ z, z = s.heap := ⟨_, rfl⟩
  obtain ⟨locs, eL⟩ : ∃ z, z = ([] : List Loc) := ⟨_, rfl⟩
  rw [← eH] at hP
  have hS : va_S (A0 x) s.heap H locs := by rw [eH, eL]; exact hS
  rw [← eL]
  have key : W p l e r_MO_entryByte s m args below meth c H locs 0 0 Q (F0 m 0 ls []) := by
    clear eH eL
    unfold s_MO_entryByte at h
    refine lv_iload_n hx hb d_MO_entryByte_0 rfl (lv_at hl 1 rfl) ?_
    refine lv_aload_n hx hb d_MO_entryByte_1 rfl (lv_at hl 0 rfl) ?_
    refine gf_MO_145 hx hb hts hown hK hP d_MO_entryByte_2 ?_
    obtain ⟨r23, M21, c22, h⟩ := bi_e h
    refine cl_MO_89 (rest := []) (R := r_MO_entryByte) (c_MO_within l x hJ a1 (M 26 18) c22) hx hb hml hts hown hK hZ hP hS hl.1 (Nat.le_of_ble_eq_true rfl) (Nat.le_of_ble_eq_true rfl) (Nat.le_of_ble_eq_true rfl) ⟨rfl, rfl, Nat.zero_le _, Nat.zero_le _⟩ d_MO_entryByte_5 (fun H locs hP hS => ?_)
    refine lv_if_eq (tgt := 38) hx hb d_MO_entryByte_8 rfl (fun hc => ?_) (fun hc => ?_)
    · have h := if_p hc h
      refine lv_iconst (v := (-1 : Int32)) hx hb d_MO_entryByte_38 (by decide) ?_
      obtain rfl := Option.some.inj h
      exact hret d_MO_entryByte_39 g hP hS
    · have h := if_m hc h
      refine lv_iload_n hx hb d_MO_entryByte_11 rfl (lv_at hl 2 rfl) ?_
      refine lv_aload_n hx hb d_MO_entryByte_12 rfl (lv_at hl 0 rfl) ?_
      refine gf_MO_40 hx hb hts hown hK hP d_MO_entryByte_13 ?_
      refine lv_iload_n hx hb d_MO_entryByte_16 rfl (lv_at hl 1 rfl) ?_
      obtain ⟨b24, h⟩ := ck_e h
      refine m_ald hx hb hK hP ar_MO_lengths b24 d_MO_entryByte_17 ?_
      obtain ⟨r27, M25, c26, h⟩ := bi_e h
      refine cl_MO_89 (rest := []) (R := r_MO_entryByte) (c_MO_within l x hJ a2 (M21 37 a1.toNatClampNeg) c26) hx hb hml hts hown hK hZ hP hS hl.1 (Nat.le_of_ble_eq_true rfl) (Nat.le_of_ble_eq_true rfl) (Nat.le_of_ble_eq_true rfl) ⟨rfl, rfl, Nat.zero_le _, Nat.zero_le _⟩ d_MO_entryByte_18 (fun H locs hP hS => ?_)
      refine lv_if_eq (tgt := 38) hx hb d_MO_entryByte_21 rfl (fun hc => ?_) (fun hc => ?_)
      · have h := if_p hc h
        refine lv_iconst (v := (-1 : Int32)) hx hb d_MO_entryByte_38 (by decide) ?_
        obtain rfl := Option.some.inj h
        exact hret d_MO_entryByte_39 g hP hS
      · have h := if_m hc h
        refine lv_aload_n hx hb d_MO_entryByte_24 rfl (lv_at hl 0 rfl) ?_
        refine gf_MO_37 hx hb hts hown hK hP d_MO_entryByte_25 ?_
        refine lv_bipush (v := (6 : Int32)) hx hb d_MO_entryByte_28 (by decide) ?_
        refine lv_iload_n hx hb d_MO_entryByte_30 rfl (lv_at hl 1 rfl) ?_
        refine lv_imul hx hb d_MO_entryByte_31 ?_
        refine lv_iload_n hx hb d_MO_entryByte_32 rfl (lv_at hl 2 rfl) ?_
        refine lv_iadd hx hb d_MO_entryByte_33 ?_
        obtain ⟨b28, h⟩ := ck_e h
        refine m_ald hx hb hK hP ar_MO_inputs b28 d_MO_entryByte_34 ?_
        refine lv_goto (tgt := 39) hx hb d_MO_entryByte_35 rfl ?_
        obtain rfl := Option.some.inj h
        exact hret d_MO_entryByte_39 g hP hS
  rw [eH] at key
  exact key
theorem d_MO_seen_0 : decode b_MO_seen 0 = .ok (.iload_n 1, 1) := by decide +kernel
theorem d_MO_seen_1 : decode b_MO_seen 1 = .ok (.bipush 24, 2) := by decide +kernel
theorem d_MO_seen_3 : decode b_MO_seen 3 = .ok (.invokestatic 89, 3) := by decide +kernel
theorem d_MO_seen_6 : decode b_MO_seen 6 = .ok (.ifCond .eq 12, 3) := by decide +kernel
theorem d_MO_seen_9 : decode b_MO_seen 9 = .ok (.iload_n 2, 1) := by decide +kernel
theorem d_MO_seen_10 : decode b_MO_seen 10 = .ok (.bipush 24, 2) := by decide +kernel
theorem d_MO_seen_12 : decode b_MO_seen 12 = .ok (.invokestatic 89, 3) := by decide +kernel
theorem d_MO_seen_15 : decode b_MO_seen 15 = .ok (.ifCond .ne 5, 3) := by decide +kernel
theorem d_MO_seen_18 : decode b_MO_seen 18 = .ok (.iconst 0, 1) := by decide +kernel
theorem d_MO_seen_19 : decode b_MO_seen 19 = .ok (.ireturn, 1) := by decide +kernel
theorem d_MO_seen_20 : decode b_MO_seen 20 = .ok (.aload_n 0, 1) := by decide +kernel
theorem d_MO_seen_21 : decode b_MO_seen 21 = .ok (.invokevirtual 162, 3) := by decide +kernel
theorem d_MO_seen_24 : decode b_MO_seen 24 = .ok (.aload_n 0, 1) := by decide +kernel
theorem d_MO_seen_25 : decode b_MO_seen 25 = .ok (.getfield 73, 3) := by decide +kernel
theorem d_MO_seen_28 : decode b_MO_seen 28 = .ok (.bipush 24, 2) := by decide +kernel
theorem d_MO_seen_30 : decode b_MO_seen 30 = .ok (.iload_n 1, 1) := by decide +kernel
theorem d_MO_seen_31 : decode b_MO_seen 31 = .ok (.imul, 1) := by decide +kernel
theorem d_MO_seen_32 : decode b_MO_seen 32 = .ok (.iload_n 2, 1) := by decide +kernel
theorem d_MO_seen_33 : decode b_MO_seen 33 = .ok (.iadd, 1) := by decide +kernel
theorem d_MO_seen_34 : decode b_MO_seen 34 = .ok (.iaload, 1) := by decide +kernel
theorem d_MO_seen_35 : decode b_MO_seen 35 = .ok (.ireturn, 1) := by decide +kernel
noncomputable def s_MO_seen (a1 : Int32) (a2 : Int32) (M : Mem) : Option (Int32 × Mem) :=
  bi (s_MO_within a1 (24 : Int32) M) (fun r23 M21 => if r23 = 0 then (some ((0 : Int32), M21)) else (bi (s_MO_within a2 (24 : Int32) M21) (fun r26 M24 => if r26 = 0 then (some ((0 : Int32), M24)) else (bv (s_MO_survey M24) (fun M27 => ck (((24 : Int32) * a1) + a2) 576 (some (M27 48 (((24 : Int32) * a1) + a2).toNatClampNeg, M27)))))))
set_option maxHeartbeats 4000000 in
set_option maxRecDepth 100000 in
theorem c_MO_seen (l : Launch) (x : Cx) (hJ : Inj x) (a1 : Int32) (a2 : Int32) {M : Mem} {out : Int32 × Mem} (h : s_MO_seen a1 a2 M = some out) : Ci l x y_MO_seen (Cond.code y_MO_seen b_MO_seen 3 (some .int) :: tb) r_MO_seen [.ref (x.2.1 26), .int a1, .int a2] M out := by
  refine ofCi (cc := b_MO_seen) (maxL := 3) (by decide) rfl (rfl) (Nat.le_of_ble_eq_true rfl) ?_
  intro p e s m args below meth c Q G0 ls g hx hb hml hown hts hK hZ hP hS hl hret
  have hown : s.vm.findClass R_MO = some m.cls := hown
  have hl : lv_has ls 3 [(0, .ref (x.2.1 26)), (1, .int a1), (2, .int a2)] := hl
  obtain ⟨H, eH⟩ : ∃ z, z = s.heap := ⟨_, rfl⟩
  obtain ⟨locs, eL⟩ : ∃ z, z = ([] : List Loc) := ⟨_, rfl⟩
  rw [← eH] at hP
  have hS : va_S (A0 x) s.heap H locs := by rw [eH, eL]; exact hS
  rw [← eL]
  have key : W p l e r_MO_seen s m args below meth c H locs 0 0 Q (F0 m 0 ls []) := by
    clear eH eL
    unfold s_MO_seen at h
    refine lv_iload_n hx hb d_MO_seen_0 rfl (lv_at hl 1 rfl) ?_
    refine lv_bipush (v := (24 : Int32)) hx hb d_MO_seen_1 (by decide) ?_
    obtain ⟨r23, M21, c22, h⟩ := bi_e h
    refine cl_MO_89 (rest := []) (R := r_MO_seen) (c_MO_within l x hJ a1 (24 : Int32) c22) hx hb hml hts hown hK hZ hP hS hl.1 (Nat.le_of_ble_eq_true rfl) (Nat.le_of_ble_eq_true rfl) (Nat.le_of_ble_eq_true rfl) ⟨rfl, rfl, Nat.zero_le _, Nat.zero_le _⟩ d_MO_seen_3 (fun H locs hP hS => ?_)
    refine lv_if_eq (tgt := 18) hx hb d_MO_seen_6 rfl (fun hc => ?_) (fun hc => ?_)
    · have h := if_p hc h
      refine lv_iconst (v := (0 : Int32)) hx hb d_MO_seen_18 (by decide) ?_
      obtain rfl := Option.some.inj h
      exact hret d_MO_seen_19 g hP hS
    · have h := if_m hc h
      refine lv_iload_n hx hb d_MO_seen_9 rfl (lv_at hl 2 rfl) ?_
      refine lv_bipush (v := (24 : Int32)) hx hb d_MO_seen_10 (by decide) ?_
      obtain ⟨r26, M24, c25, h⟩ := bi_e h
      refine cl_MO_89 (rest := []) (R := r_MO_seen) (c_MO_within l x hJ a2 (24 : Int32) c25) hx hb hml hts hown hK hZ hP hS hl.1 (Nat.le_of_ble_eq_true rfl) (Nat.le_of_ble_eq_true rfl) (Nat.le_of_ble_eq_true rfl) ⟨rfl, rfl, Nat.zero_le _, Nat.zero_le _⟩ d_MO_seen_12 (fun H locs hP hS => ?_)
      refine lv_if_ne (tgt := 20) hx hb d_MO_seen_15 rfl (fun hc => ?_) (fun hc => ?_)
      · have h := if_m hc h
        refine lv_aload_n hx hb d_MO_seen_20 rfl (lv_at hl 0 rfl) ?_
        obtain ⟨M27, c28, h⟩ := bv_e h
        refine cl_MO_162 (rest := []) (R := r_MO_seen) (c_MO_survey l x hJ c28) hx hb hml hts hown hK hZ hP hS hl.1 (Nat.le_of_ble_eq_true rfl) (Nat.le_of_ble_eq_true rfl) (Nat.le_of_ble_eq_true rfl) ⟨rfl, rfl, Nat.zero_le _, Nat.zero_le _⟩ d_MO_seen_21 (fun H locs hP hS => ?_)
        refine lv_aload_n hx hb d_MO_seen_24 rfl (lv_at hl 0 rfl) ?_
        refine gf_MO_73 hx hb hts hown hK hP d_MO_seen_25 ?_
        refine lv_bipush (v := (24 : Int32)) hx hb d_MO_seen_28 (by decide) ?_
        refine lv_iload_n hx hb d_MO_seen_30 rfl (lv_at hl 1 rfl) ?_
        refine lv_imul hx hb d_MO_seen_31 ?_
        refine lv_iload_n hx hb d_MO_seen_32 rfl (lv_at hl 2 rfl) ?_
        refine lv_iadd hx hb d_MO_seen_33 ?_
        obtain ⟨b29, h⟩ := ck_e h
        refine m_ald hx hb hK hP ar_MO_buckets b29 d_MO_seen_34 ?_
        obtain rfl := Option.some.inj h
        exact hret d_MO_seen_35 g hP hS
      · have h := if_p hc h
        refine lv_iconst (v := (0 : Int32)) hx hb d_MO_seen_18 (by decide) ?_
        obtain rfl := Option.some.inj h
        exact hret d_MO_seen_19 g hP hS
  rw [eH] at key
  exact key
theorem d_MO_finding_0 : decode b_MO_finding 0 = .ok (.iload_n 1, 1) := by decide +kernel
theorem d_MO_finding_1 : decode b_MO_finding 1 = .ok (.aload_n 0, 1) := by decide +kernel
theorem d_MO_finding_2 : decode b_MO_finding 2 = .ok (.getfield 184, 3) := by decide +kernel
theorem d_MO_finding_5 : decode b_MO_finding 5 = .ok (.invokestatic 89, 3) := by decide +kernel
theorem d_MO_finding_8 : decode b_MO_finding 8 = .ok (.ifCond .eq 12, 3) := by decide +kernel
theorem d_MO_finding_11 : decode b_MO_finding 11 = .ok (.iload_n 2, 1) := by decide +kernel
theorem d_MO_finding_12 : decode b_MO_finding 12 = .ok (.bipush 9, 2) := by decide +kernel
theorem d_MO_finding_14 : decode b_MO_finding 14 = .ok (.invokestatic 89, 3) := by decide +kernel
theorem d_MO_finding_17 : decode b_MO_finding 17 = .ok (.ifCond .ne 5, 3) := by decide +kernel
theorem d_MO_finding_20 : decode b_MO_finding 20 = .ok (.iconst (-1), 1) := by decide +kernel
theorem d_MO_finding_21 : decode b_MO_finding 21 = .ok (.ireturn, 1) := by decide +kernel
theorem d_MO_finding_22 : decode b_MO_finding 22 = .ok (.iload_n 2, 1) := by decide +kernel
theorem d_MO_finding_23 : decode b_MO_finding 23 = .ok (.iconst 3, 1) := by decide +kernel
theorem d_MO_finding_24 : decode b_MO_finding 24 = .ok (.if_icmp .lt 46, 3) := by decide +kernel
theorem d_MO_finding_27 : decode b_MO_finding 27 = .ok (.iload_n 2, 1) := by decide +kernel
theorem d_MO_finding_28 : decode b_MO_finding 28 = .ok (.iconst 5, 1) := by decide +kernel
theorem d_MO_finding_29 : decode b_MO_finding 29 = .ok (.if_icmp .gt 41, 3) := by decide +kernel
theorem d_MO_finding_32 : decode b_MO_finding 32 = .ok (.iload_n 2, 1) := by decide +kernel
theorem d_MO_finding_33 : decode b_MO_finding 33 = .ok (.iconst 3, 1) := by decide +kernel
theorem d_MO_finding_34 : decode b_MO_finding 34 = .ok (.isub, 1) := by decide +kernel
theorem d_MO_finding_35 : decode b_MO_finding 35 = .ok (.istore_n 3, 1) := by decide +kernel
theorem d_MO_finding_36 : decode b_MO_finding 36 = .ok (.iload_n 3, 1) := by decide +kernel
theorem d_MO_finding_37 : decode b_MO_finding 37 = .ok (.aload_n 0, 1) := by decide +kernel
theorem d_MO_finding_38 : decode b_MO_finding 38 = .ok (.getfield 52, 3) := by decide +kernel
theorem d_MO_finding_41 : decode b_MO_finding 41 = .ok (.iload_n 1, 1) := by decide +kernel
theorem d_MO_finding_42 : decode b_MO_finding 42 = .ok (.iaload, 1) := by decide +kernel
theorem d_MO_finding_43 : decode b_MO_finding 43 = .ok (.if_icmp .ge 25, 3) := by decide +kernel
theorem d_MO_finding_46 : decode b_MO_finding 46 = .ok (.aload_n 0, 1) := by decide +kernel
theorem d_MO_finding_47 : decode b_MO_finding 47 = .ok (.getfield 55, 3) := by decide +kernel
theorem d_MO_finding_50 : decode b_MO_finding 50 = .ok (.iconst 3, 1) := by decide +kernel
theorem d_MO_finding_51 : decode b_MO_finding 51 = .ok (.iload_n 1, 1) := by decide +kernel
theorem d_MO_finding_52 : decode b_MO_finding 52 = .ok (.imul, 1) := by decide +kernel
theorem d_MO_finding_53 : decode b_MO_finding 53 = .ok (.aload_n 0, 1) := by decide +kernel
theorem d_MO_finding_54 : decode b_MO_finding 54 = .ok (.getfield 52, 3) := by decide +kernel
theorem d_MO_finding_57 : decode b_MO_finding 57 = .ok (.iload_n 1, 1) := by decide +kernel
theorem d_MO_finding_58 : decode b_MO_finding 58 = .ok (.iaload, 1) := by decide +kernel
theorem d_MO_finding_59 : decode b_MO_finding 59 = .ok (.iadd, 1) := by decide +kernel
theorem d_MO_finding_60 : decode b_MO_finding 60 = .ok (.iconst 1, 1) := by decide +kernel
theorem d_MO_finding_61 : decode b_MO_finding 61 = .ok (.isub, 1) := by decide +kernel
theorem d_MO_finding_62 : decode b_MO_finding 62 = .ok (.iload_n 3, 1) := by decide +kernel
theorem d_MO_finding_63 : decode b_MO_finding 63 = .ok (.isub, 1) := by decide +kernel
theorem d_MO_finding_64 : decode b_MO_finding 64 = .ok (.iaload, 1) := by decide +kernel
theorem d_MO_finding_65 : decode b_MO_finding 65 = .ok (.goto 4, 3) := by decide +kernel
theorem d_MO_finding_68 : decode b_MO_finding 68 = .ok (.iconst 0, 1) := by decide +kernel
theorem d_MO_finding_69 : decode b_MO_finding 69 = .ok (.ireturn, 1) := by decide +kernel
theorem d_MO_finding_70 : decode b_MO_finding 70 = .ok (.iload_n 2, 1) := by decide +kernel
theorem d_MO_finding_71 : decode b_MO_finding 71 = .ok (.ifCond .ne 12, 3) := by decide +kernel
theorem d_MO_finding_74 : decode b_MO_finding 74 = .ok (.aload_n 0, 1) := by decide +kernel
theorem d_MO_finding_75 : decode b_MO_finding 75 = .ok (.getfield 46, 3) := by decide +kernel
theorem d_MO_finding_78 : decode b_MO_finding 78 = .ok (.iload_n 1, 1) := by decide +kernel
theorem d_MO_finding_79 : decode b_MO_finding 79 = .ok (.iaload, 1) := by decide +kernel
theorem d_MO_finding_80 : decode b_MO_finding 80 = .ok (.goto 67, 3) := by decide +kernel
theorem d_MO_finding_83 : decode b_MO_finding 83 = .ok (.iload_n 2, 1) := by decide +kernel
theorem d_MO_finding_84 : decode b_MO_finding 84 = .ok (.iconst 1, 1) := by decide +kernel
theorem d_MO_finding_85 : decode b_MO_finding 85 = .ok (.if_icmp .ne 12, 3) := by decide +kernel
theorem d_MO_finding_88 : decode b_MO_finding 88 = .ok (.aload_n 0, 1) := by decide +kernel
theorem d_MO_finding_89 : decode b_MO_finding 89 = .ok (.getfield 49, 3) := by decide +kernel
theorem d_MO_finding_92 : decode b_MO_finding 92 = .ok (.iload_n 1, 1) := by decide +kernel
theorem d_MO_finding_93 : decode b_MO_finding 93 = .ok (.iaload, 1) := by decide +kernel
theorem d_MO_finding_94 : decode b_MO_finding 94 = .ok (.goto 53, 3) := by decide +kernel
theorem d_MO_finding_97 : decode b_MO_finding 97 = .ok (.iload_n 2, 1) := by decide +kernel
theorem d_MO_finding_98 : decode b_MO_finding 98 = .ok (.iconst 2, 1) := by decide +kernel
theorem d_MO_finding_99 : decode b_MO_finding 99 = .ok (.if_icmp .ne 12, 3) := by decide +kernel
theorem d_MO_finding_102 : decode b_MO_finding 102 = .ok (.aload_n 0, 1) := by decide +kernel
theorem d_MO_finding_103 : decode b_MO_finding 103 = .ok (.getfield 52, 3) := by decide +kernel
theorem d_MO_finding_106 : decode b_MO_finding 106 = .ok (.iload_n 1, 1) := by decide +kernel
theorem d_MO_finding_107 : decode b_MO_finding 107 = .ok (.iaload, 1) := by decide +kernel
theorem d_MO_finding_108 : decode b_MO_finding 108 = .ok (.goto 39, 3) := by decide +kernel
theorem d_MO_finding_111 : decode b_MO_finding 111 = .ok (.iload_n 2, 1) := by decide +kernel
theorem d_MO_finding_112 : decode b_MO_finding 112 = .ok (.bipush 6, 2) := by decide +kernel
theorem d_MO_finding_114 : decode b_MO_finding 114 = .ok (.if_icmp .ne 12, 3) := by decide +kernel
theorem d_MO_finding_117 : decode b_MO_finding 117 = .ok (.aload_n 0, 1) := by decide +kernel
theorem d_MO_finding_118 : decode b_MO_finding 118 = .ok (.getfield 58, 3) := by decide +kernel
theorem d_MO_finding_121 : decode b_MO_finding 121 = .ok (.iload_n 1, 1) := by decide +kernel
theorem d_MO_finding_122 : decode b_MO_finding 122 = .ok (.iaload, 1) := by decide +kernel
theorem d_MO_finding_123 : decode b_MO_finding 123 = .ok (.goto 24, 3) := by decide +kernel
theorem d_MO_finding_126 : decode b_MO_finding 126 = .ok (.iload_n 2, 1) := by decide +kernel
theorem d_MO_finding_127 : decode b_MO_finding 127 = .ok (.bipush 7, 2) := by decide +kernel
theorem d_MO_finding_129 : decode b_MO_finding 129 = .ok (.if_icmp .ne 12, 3) := by decide +kernel
theorem d_MO_finding_132 : decode b_MO_finding 132 = .ok (.aload_n 0, 1) := by decide +kernel
theorem d_MO_finding_133 : decode b_MO_finding 133 = .ok (.getfield 64, 3) := by decide +kernel
theorem d_MO_finding_136 : decode b_MO_finding 136 = .ok (.iload_n 1, 1) := by decide +kernel
theorem d_MO_finding_137 : decode b_MO_finding 137 = .ok (.iaload, 1) := by decide +kernel
theorem d_MO_finding_138 : decode b_MO_finding 138 = .ok (.goto 9, 3) := by decide +kernel
theorem d_MO_finding_141 : decode b_MO_finding 141 = .ok (.aload_n 0, 1) := by decide +kernel
theorem d_MO_finding_142 : decode b_MO_finding 142 = .ok (.getfield 70, 3) := by decide +kernel
theorem d_MO_finding_145 : decode b_MO_finding 145 = .ok (.iload_n 1, 1) := by decide +kernel
theorem d_MO_finding_146 : decode b_MO_finding 146 = .ok (.iaload, 1) := by decide +kernel
theorem d_MO_finding_147 : decode b_MO_finding 147 = .ok (.ireturn, 1) := by decide +kernel
noncomputable def j_MO_finding_70 (a21 : Int32) (a22 : Int32) (M23 : Mem) : Option (Int32 × Mem) :=
  if a22 = 0 then (ck a21 8 (some (M23 39 a21.toNatClampNeg, M23))) else (if a22 = (1 : Int32) then (ck a21 8 (some (M23 40 a21.toNatClampNeg, M23))) else (if a22 = (2 : Int32) then (ck a21 8 (some (M23 41 a21.toNatClampNeg, M23))) else (if a22 = (6 : Int32) then (ck a21 8 (some (M23 43 a21.toNatClampNeg, M23))) else (if a22 = (7 : Int32) then (ck a21 8 (some (M23 45 a21.toNatClampNeg, M23))) else (ck a21 8 (some (M23 47 a21.toNatClampNeg, M23)))))))
noncomputable def s_MO_finding (a1 : Int32) (a2 : Int32) (M : Mem) : Option (Int32 × Mem) :=
  bi (s_MO_within a1 (M 26 22) M) (fun r32 M30 => if r32 = 0 then (some ((-1 : Int32), M30)) else (bi (s_MO_within a2 (9 : Int32) M30) (fun r35 M33 => if r35 = 0 then (some ((-1 : Int32), M33)) else (if a2 < (3 : Int32) then (j_MO_finding_70 a1 a2 M33) else (if (5 : Int32) < a2 then (j_MO_finding_70 a1 a2 M33) else (nx (a2 - (3 : Int32)) (fun v36 => ck a1 8 (if (M33 41 a1.toNatClampNeg) ≤ v36 then (some ((0 : Int32), M33)) else (ck a1 8 (ck (((((3 : Int32) * a1) + (M33 41 a1.toNatClampNeg)) - (1 : Int32)) - v36) 24 (some (M33 42 (((((3 : Int32) * a1) + (M33 41 a1.toNatClampNeg)) - (1 : Int32)) - v36).toNatClampNeg, M33))))))))))))
set_option maxHeartbeats 4000000 in
set_option maxRecDepth 100000 in
theorem c_MO_finding (l : Launch) (x : Cx) (hJ : Inj x) (a1 : Int32) (a2 : Int32) {M : Mem} {out : Int32 × Mem} (h : s_MO_finding a1 a2 M = some out) : Ci l x y_MO_finding (Cond.code y_MO_finding b_MO_finding 4 (some .int) :: tb) r_MO_finding [.ref (x.2.1 26), .int a1, .int a2] M out := by
  refine ofCi (cc := b_MO_finding) (maxL := 4) (by decide) rfl (rfl) (Nat.le_of_ble_eq_true rfl) ?_
  intro p e s m args below meth c Q G0 ls g hx hb hml hown hts hK hZ hP hS hl hret
  have hown : s.vm.findClass R_MO = some m.cls := hown
  have hl : lv_has ls 4 [(0, .ref (x.2.1 26)), (1, .int a1), (2, .int a2)] := hl
  obtain ⟨H, eH⟩ : ∃ z, z = s.heap := ⟨_, rfl⟩
  obtain ⟨locs, eL⟩ : ∃ z, z = ([] : List Loc) := ⟨_, rfl⟩
  rw [← eH] at hP
  have hS : va_S (A0 x) s.heap H locs := by rw [eH, eL]; exact hS
  rw [← eL]
  have key : W p l e r_MO_finding s m args below meth c H locs 0 0 Q (F0 m 0 ls []) := by
    clear eH eL
    unfold s_MO_finding at h
    have J70 : ∀ (a21 : Int32) (a22 : Int32) (M23 : Mem)  (res : Int32 × Mem) (h : j_MO_finding_70 a21 a22 M23 = some res) (g : G0 res) (H : Heap) (locs : List Loc) (ls : Array Slot) (hP : va_P x.1 vwCl (wld x M23) H) (hS : va_S (A0 x) s.heap H locs) (hl : lv_has ls 4 [(0, .ref (x.2.1 26)), (1, .int a21), (2, .int a22)]), W p l e r_MO_finding s m args below meth c H locs 0 0 Q (F0 m 70 ls []) := by
      intro a21 a22 M23 res h g H locs ls hP hS hl
      unfold j_MO_finding_70 at h
      refine lv_iload_n hx hb d_MO_finding_70 rfl (lv_at hl 2 rfl) ?_
      refine lv_if_ne (tgt := 83) hx hb d_MO_finding_71 rfl (fun hc => ?_) (fun hc => ?_)
      · have h := if_m hc h
        refine lv_iload_n hx hb d_MO_finding_83 rfl (lv_at hl 2 rfl) ?_
        refine lv_iconst (v := (1 : Int32)) hx hb d_MO_finding_84 (by decide) ?_
        refine lv_icmp_ne (tgt := 97) hx hb d_MO_finding_85 rfl (fun hc => ?_) (fun hc => ?_)
        · have h := if_m hc h
          refine lv_iload_n hx hb d_MO_finding_97 rfl (lv_at hl 2 rfl) ?_
          refine lv_iconst (v := (2 : Int32)) hx hb d_MO_finding_98 (by decide) ?_
          refine lv_icmp_ne (tgt := 111) hx hb d_MO_finding_99 rfl (fun hc => ?_) (fun hc => ?_)
          · have h := if_m hc h
            refine lv_iload_n hx hb d_MO_finding_111 rfl (lv_at hl 2 rfl) ?_
            refine lv_bipush (v := (6 : Int32)) hx hb d_MO_finding_112 (by decide) ?_
            refine lv_icmp_ne (tgt := 126) hx hb d_MO_finding_114 rfl (fun hc => ?_) (fun hc => ?_)
            · have h := if_m hc h
              refine lv_iload_n hx hb d_MO_finding_126 rfl (lv_at hl 2 rfl) ?_
              refine lv_bipush (v := (7 : Int32)) hx hb d_MO_finding_127 (by decide) ?_
              refine lv_icmp_ne (tgt := 141) hx hb d_MO_finding_129 rfl (fun hc => ?_) (fun hc => ?_)
              · have h := if_m hc h
                refine lv_aload_n hx hb d_MO_finding_141 rfl (lv_at hl 0 rfl) ?_
                refine gf_MO_70 hx hb hts hown hK hP d_MO_finding_142 ?_
                refine lv_iload_n hx hb d_MO_finding_145 rfl (lv_at hl 1 rfl) ?_
                obtain ⟨b24, h⟩ := ck_e h
                refine m_ald hx hb hK hP ar_MO_briefLength b24 d_MO_finding_146 ?_
                obtain rfl := Option.some.inj h
                exact hret d_MO_finding_147 g hP hS
              · have h := if_p hc h
                refine lv_aload_n hx hb d_MO_finding_132 rfl (lv_at hl 0 rfl) ?_
                refine gf_MO_64 hx hb hts hown hK hP d_MO_finding_133 ?_
                refine lv_iload_n hx hb d_MO_finding_136 rfl (lv_at hl 1 rfl) ?_
                obtain ⟨b25, h⟩ := ck_e h
                refine m_ald hx hb hK hP ar_MO_foundLength b25 d_MO_finding_137 ?_
                refine lv_goto (tgt := 147) hx hb d_MO_finding_138 rfl ?_
                obtain rfl := Option.some.inj h
                exact hret d_MO_finding_147 g hP hS
            · have h := if_p hc h
              refine lv_aload_n hx hb d_MO_finding_117 rfl (lv_at hl 0 rfl) ?_
              refine gf_MO_58 hx hb hts hown hK hP d_MO_finding_118 ?_
              refine lv_iload_n hx hb d_MO_finding_121 rfl (lv_at hl 1 rfl) ?_
              obtain ⟨b26, h⟩ := ck_e h
              refine m_ald hx hb hK hP ar_MO_hits b26 d_MO_finding_122 ?_
              refine lv_goto (tgt := 147) hx hb d_MO_finding_123 rfl ?_
              obtain rfl := Option.some.inj h
              exact hret d_MO_finding_147 g hP hS
          · have h := if_p hc h
            refine lv_aload_n hx hb d_MO_finding_102 rfl (lv_at hl 0 rfl) ?_
            refine gf_MO_52 hx hb hts hown hK hP d_MO_finding_103 ?_
            refine lv_iload_n hx hb d_MO_finding_106 rfl (lv_at hl 1 rfl) ?_
            obtain ⟨b27, h⟩ := ck_e h
            refine m_ald hx hb hK hP ar_MO_depths b27 d_MO_finding_107 ?_
            refine lv_goto (tgt := 147) hx hb d_MO_finding_108 rfl ?_
            obtain rfl := Option.some.inj h
            exact hret d_MO_finding_147 g hP hS
        · have h := if_p hc h
          refine lv_aload_n hx hb d_MO_finding_88 rfl (lv_at hl 0 rfl) ?_
          refine gf_MO_49 hx hb hts hown hK hP d_MO_finding_89 ?_
          refine lv_iload_n hx hb d_MO_finding_92 rfl (lv_at hl 1 rfl) ?_
          obtain ⟨b28, h⟩ := ck_e h
          refine m_ald hx hb hK hP ar_MO_places b28 d_MO_finding_93 ?_
          refine lv_goto (tgt := 147) hx hb d_MO_finding_94 rfl ?_
          obtain rfl := Option.some.inj h
          exact hret d_MO_finding_147 g hP hS
      · have h := if_p hc h
        refine lv_aload_n hx hb d_MO_finding_74 rfl (lv_at hl 0 rfl) ?_
        refine gf_MO_46 hx hb hts hown hK hP d_MO_finding_75 ?_
        refine lv_iload_n hx hb d_MO_finding_78 rfl (lv_at hl 1 rfl) ?_
        obtain ⟨b29, h⟩ := ck_e h
        refine m_ald hx hb hK hP ar_MO_traps b29 d_MO_finding_79 ?_
        refine lv_goto (tgt := 147) hx hb d_MO_finding_80 rfl ?_
        obtain rfl := Option.some.inj h
        exact hret d_MO_finding_147 g hP hS
    refine lv_iload_n hx hb d_MO_finding_0 rfl (lv_at hl 1 rfl) ?_
    refine lv_aload_n hx hb d_MO_finding_1 rfl (lv_at hl 0 rfl) ?_
    refine gf_MO_184 hx hb hts hown hK hP d_MO_finding_2 ?_
    obtain ⟨r32, M30, c31, h⟩ := bi_e h
    refine cl_MO_89 (rest := []) (R := r_MO_finding) (c_MO_within l x hJ a1 (M 26 22) c31) hx hb hml hts hown hK hZ hP hS hl.1 (Nat.le_of_ble_eq_true rfl) (Nat.le_of_ble_eq_true rfl) (Nat.le_of_ble_eq_true rfl) ⟨rfl, rfl, Nat.zero_le _, Nat.zero_le _⟩ d_MO_finding_5 (fun H locs hP hS => ?_)
    refine lv_if_eq (tgt := 20) hx hb d_MO_finding_8 rfl (fun hc => ?_) (fun hc => ?_)
    · have h := if_p hc h
      refine lv_iconst (v := (-1 : Int32)) hx hb d_MO_finding_20 (by decide) ?_
      obtain rfl := Option.some.inj h
      exact hret d_MO_finding_21 g hP hS
    · have h := if_m hc h
      refine lv_iload_n hx hb d_MO_finding_11 rfl (lv_at hl 2 rfl) ?_
      refine lv_bipush (v := (9 : Int32)) hx hb d_MO_finding_12 (by decide) ?_
      obtain ⟨r35, M33, c34, h⟩ := bi_e h
      refine cl_MO_89 (rest := []) (R := r_MO_finding) (c_MO_within l x hJ a2 (9 : Int32) c34) hx hb hml hts hown hK hZ hP hS hl.1 (Nat.le_of_ble_eq_true rfl) (Nat.le_of_ble_eq_true rfl) (Nat.le_of_ble_eq_true rfl) ⟨rfl, rfl, Nat.zero_le _, Nat.zero_le _⟩ d_MO_finding_14 (fun H locs hP hS => ?_)
      refine lv_if_ne (tgt := 22) hx hb d_MO_finding_17 rfl (fun hc => ?_) (fun hc => ?_)
      · have h := if_m hc h
        refine lv_iload_n hx hb d_MO_finding_22 rfl (lv_at hl 2 rfl) ?_
        refine lv_iconst (v := (3 : Int32)) hx hb d_MO_finding_23 (by decide) ?_
        refine lv_icmp_lt (tgt := 70) hx hb d_MO_finding_24 rfl (fun hc => ?_) (fun hc => ?_)
        · have h := if_p hc h
          exact J70 a1 a2 M33 _ h g H locs ls hP hS (lv_sub hl [0, 1, 2] rfl)
        · have h := if_m hc h
          refine lv_iload_n hx hb d_MO_finding_27 rfl (lv_at hl 2 rfl) ?_
          refine lv_iconst (v := (5 : Int32)) hx hb d_MO_finding_28 (by decide) ?_
          refine lv_icmp_gt (tgt := 70) hx hb d_MO_finding_29 rfl (fun hc => ?_) (fun hc => ?_)
          · have h := if_p hc h
            exact J70 a1 a2 M33 _ h g H locs ls hP hS (lv_sub hl [0, 1, 2] rfl)
          · have h := if_m hc h
            refine lv_iload_n hx hb d_MO_finding_32 rfl (lv_at hl 2 rfl) ?_
            refine lv_iconst (v := (3 : Int32)) hx hb d_MO_finding_33 (by decide) ?_
            refine lv_isub hx hb d_MO_finding_34 ?_
            obtain ⟨v36, ev36, h⟩ := nx_e h
            refine tp_i ev36 ?_
            refine lv_istore_n hx hb d_MO_finding_35 rfl hl (by decide) rfl (fun ls hl => ?_)
            have hl : lv_has ls 4 [(3, .int v36), (0, .ref (x.2.1 26)), (1, .int a1), (2, .int a2)] := hl
            refine lv_iload_n hx hb d_MO_finding_36 rfl (lv_at hl 0 rfl) ?_
            refine lv_aload_n hx hb d_MO_finding_37 rfl (lv_at hl 1 rfl) ?_
            refine gf_MO_52 hx hb hts hown hK hP d_MO_finding_38 ?_
            refine lv_iload_n hx hb d_MO_finding_41 rfl (lv_at hl 2 rfl) ?_
            obtain ⟨b37, h⟩ := ck_e h
            refine m_ald hx hb hK hP ar_MO_depths b37 d_MO_finding_42 ?_
            refine lv_icmp_ge (tgt := 68) hx hb d_MO_finding_43 rfl (fun hc => ?_) (fun hc => ?_)
            · have h := if_p hc h
              refine lv_iconst (v := (0 : Int32)) hx hb d_MO_finding_68 (by decide) ?_
              obtain rfl := Option.some.inj h
              exact hret d_MO_finding_69 g hP hS
            · have h := if_m hc h
              refine lv_aload_n hx hb d_MO_finding_46 rfl (lv_at hl 1 rfl) ?_
              refine gf_MO_55 hx hb hts hown hK hP d_MO_finding_47 ?_
              refine lv_iconst (v := (3 : Int32)) hx hb d_MO_finding_50 (by decide) ?_
              refine lv_iload_n hx hb d_MO_finding_51 rfl (lv_at hl 2 rfl) ?_
              refine lv_imul hx hb d_MO_finding_52 ?_
              refine lv_aload_n hx hb d_MO_finding_53 rfl (lv_at hl 1 rfl) ?_
              refine gf_MO_52 hx hb hts hown hK hP d_MO_finding_54 ?_
              refine lv_iload_n hx hb d_MO_finding_57 rfl (lv_at hl 2 rfl) ?_
              obtain ⟨b38, h⟩ := ck_e h
              refine m_ald hx hb hK hP ar_MO_depths b38 d_MO_finding_58 ?_
              refine lv_iadd hx hb d_MO_finding_59 ?_
              refine lv_iconst (v := (1 : Int32)) hx hb d_MO_finding_60 (by decide) ?_
              refine lv_isub hx hb d_MO_finding_61 ?_
              refine lv_iload_n hx hb d_MO_finding_62 rfl (lv_at hl 0 rfl) ?_
              refine lv_isub hx hb d_MO_finding_63 ?_
              obtain ⟨b39, h⟩ := ck_e h
              refine m_ald hx hb hK hP ar_MO_stacks b39 d_MO_finding_64 ?_
              refine lv_goto (tgt := 69) hx hb d_MO_finding_65 rfl ?_
              obtain rfl := Option.some.inj h
              exact hret d_MO_finding_69 g hP hS
      · have h := if_p hc h
        refine lv_iconst (v := (-1 : Int32)) hx hb d_MO_finding_20 (by decide) ?_
        obtain rfl := Option.some.inj h
        exact hret d_MO_finding_21 g hP hS
  rw [eH] at key
  exact key
theorem d_MO_findingByte_0 : decode b_MO_findingByte 0 = .ok (.iload_n 1, 1) := by decide +kernel
theorem d_MO_findingByte_1 : decode b_MO_findingByte 1 = .ok (.aload_n 0, 1) := by decide +kernel
theorem d_MO_findingByte_2 : decode b_MO_findingByte 2 = .ok (.getfield 184, 3) := by decide +kernel
theorem d_MO_findingByte_5 : decode b_MO_findingByte 5 = .ok (.invokestatic 89, 3) := by decide +kernel
theorem d_MO_findingByte_8 : decode b_MO_findingByte 8 = .ok (.ifCond .eq 29, 3) := by decide +kernel
theorem d_MO_findingByte_11 : decode b_MO_findingByte 11 = .ok (.iload_n 3, 1) := by decide +kernel
theorem d_MO_findingByte_12 : decode b_MO_findingByte 12 = .ok (.iload_n 2, 1) := by decide +kernel
theorem d_MO_findingByte_13 : decode b_MO_findingByte 13 = .ok (.ifCond .eq 12, 3) := by decide +kernel
theorem d_MO_findingByte_16 : decode b_MO_findingByte 16 = .ok (.aload_n 0, 1) := by decide +kernel
theorem d_MO_findingByte_17 : decode b_MO_findingByte 17 = .ok (.getfield 70, 3) := by decide +kernel
theorem d_MO_findingByte_20 : decode b_MO_findingByte 20 = .ok (.iload_n 1, 1) := by decide +kernel
theorem d_MO_findingByte_21 : decode b_MO_findingByte 21 = .ok (.iaload, 1) := by decide +kernel
theorem d_MO_findingByte_22 : decode b_MO_findingByte 22 = .ok (.goto 9, 3) := by decide +kernel
theorem d_MO_findingByte_25 : decode b_MO_findingByte 25 = .ok (.aload_n 0, 1) := by decide +kernel
theorem d_MO_findingByte_26 : decode b_MO_findingByte 26 = .ok (.getfield 64, 3) := by decide +kernel
theorem d_MO_findingByte_29 : decode b_MO_findingByte 29 = .ok (.iload_n 1, 1) := by decide +kernel
theorem d_MO_findingByte_30 : decode b_MO_findingByte 30 = .ok (.iaload, 1) := by decide +kernel
theorem d_MO_findingByte_31 : decode b_MO_findingByte 31 = .ok (.invokestatic 89, 3) := by decide +kernel
theorem d_MO_findingByte_34 : decode b_MO_findingByte 34 = .ok (.ifCond .ne 5, 3) := by decide +kernel
theorem d_MO_findingByte_37 : decode b_MO_findingByte 37 = .ok (.iconst (-1), 1) := by decide +kernel
theorem d_MO_findingByte_38 : decode b_MO_findingByte 38 = .ok (.ireturn, 1) := by decide +kernel
theorem d_MO_findingByte_39 : decode b_MO_findingByte 39 = .ok (.iload_n 2, 1) := by decide +kernel
theorem d_MO_findingByte_40 : decode b_MO_findingByte 40 = .ok (.ifCond .eq 17, 3) := by decide +kernel
theorem d_MO_findingByte_43 : decode b_MO_findingByte 43 = .ok (.aload_n 0, 1) := by decide +kernel
theorem d_MO_findingByte_44 : decode b_MO_findingByte 44 = .ok (.getfield 67, 3) := by decide +kernel
theorem d_MO_findingByte_47 : decode b_MO_findingByte 47 = .ok (.bipush 6, 2) := by decide +kernel
theorem d_MO_findingByte_49 : decode b_MO_findingByte 49 = .ok (.iload_n 1, 1) := by decide +kernel
theorem d_MO_findingByte_50 : decode b_MO_findingByte 50 = .ok (.imul, 1) := by decide +kernel
theorem d_MO_findingByte_51 : decode b_MO_findingByte 51 = .ok (.iload_n 3, 1) := by decide +kernel
theorem d_MO_findingByte_52 : decode b_MO_findingByte 52 = .ok (.iadd, 1) := by decide +kernel
theorem d_MO_findingByte_53 : decode b_MO_findingByte 53 = .ok (.iaload, 1) := by decide +kernel
theorem d_MO_findingByte_54 : decode b_MO_findingByte 54 = .ok (.goto 14, 3) := by decide +kernel
theorem d_MO_findingByte_57 : decode b_MO_findingByte 57 = .ok (.aload_n 0, 1) := by decide +kernel
theorem d_MO_findingByte_58 : decode b_MO_findingByte 58 = .ok (.getfield 61, 3) := by decide +kernel
theorem d_MO_findingByte_61 : decode b_MO_findingByte 61 = .ok (.bipush 6, 2) := by decide +kernel
theorem d_MO_findingByte_63 : decode b_MO_findingByte 63 = .ok (.iload_n 1, 1) := by decide +kernel
theorem d_MO_findingByte_64 : decode b_MO_findingByte 64 = .ok (.imul, 1) := by decide +kernel
theorem d_MO_findingByte_65 : decode b_MO_findingByte 65 = .ok (.iload_n 3, 1) := by decide +kernel
theorem d_MO_findingByte_66 : decode b_MO_findingByte 66 = .ok (.iadd, 1) := by decide +kernel
theorem d_MO_findingByte_67 : decode b_MO_findingByte 67 = .ok (.iaload, 1) := by decide +kernel
theorem d_MO_findingByte_68 : decode b_MO_findingByte 68 = .ok (.ireturn, 1) := by decide +kernel
noncomputable def j_MO_findingByte_31 (a21 : Int32) (a22 : Int32) (a23 : Int32) (a24 : Int32) (a25 : Int32) (M26 : Mem) : Option (Int32 × Mem) :=
  bi (s_MO_within a25 a24 M26) (fun r29 M27 => if r29 = 0 then (some ((-1 : Int32), M27)) else (if a22 = 0 then (ck (((6 : Int32) * a21) + a23) 48 (some (M27 44 (((6 : Int32) * a21) + a23).toNatClampNeg, M27))) else (ck (((6 : Int32) * a21) + a23) 48 (some (M27 46 (((6 : Int32) * a21) + a23).toNatClampNeg, M27)))))
noncomputable def s_MO_findingByte (a1 : Int32) (a2 : Int32) (a3 : Int32) (M : Mem) : Option (Int32 × Mem) :=
  bi (s_MO_within a1 (M 26 22) M) (fun r34 M32 => if r34 = 0 then (some ((-1 : Int32), M32)) else (if a2 = 0 then (ck a1 8 (j_MO_findingByte_31 a1 a2 a3 (M32 45 a1.toNatClampNeg) a3 M32)) else (ck a1 8 (j_MO_findingByte_31 a1 a2 a3 (M32 47 a1.toNatClampNeg) a3 M32))))
set_option maxHeartbeats 4000000 in
set_option maxRecDepth 100000 in
theorem c_MO_findingByte (l : Launch) (x : Cx) (hJ : Inj x) (a1 : Int32) (a2 : Int32) (a3 : Int32) {M : Mem} {out : Int32 × Mem} (h : s_MO_findingByte a1 a2 a3 M = some out) : Ci l x y_MO_findingByte (Cond.code y_MO_findingByte b_MO_findingByte 4 (some .int) :: tb) r_MO_findingByte [.ref (x.2.1 26), .int a1, .int a2, .int a3] M out := by
  refine ofCi (cc := b_MO_findingByte) (maxL := 4) (by decide) rfl (rfl) (Nat.le_of_ble_eq_true rfl) ?_
  intro p e s m args below meth c Q G0 ls g hx hb hml hown hts hK hZ hP hS hl hret
  have hown : s.vm.findClass R_MO = some m.cls := hown
  have hl : lv_has ls 4 [(0, .ref (x.2.1 26)), (1, .int a1), (2, .int a2), (3, .int a3)] := hl
  obtain ⟨H, eH⟩ : ∃ z, z = s.heap := ⟨_, rfl⟩
  obtain ⟨locs, eL⟩ : ∃ z, z = ([] : List Loc) := ⟨_, rfl⟩
  rw [← eH] at hP
  have hS : va_S (A0 x) s.heap H locs := by rw [eH, eL]; exact hS
  rw [← eL]
  have key : W p l e r_MO_findingByte s m args below meth c H locs 0 0 Q (F0 m 0 ls []) := by
    clear eH eL
    unfold s_MO_findingByte at h
    have J31 : ∀ (a21 : Int32) (a22 : Int32) (a23 : Int32) (a24 : Int32) (a25 : Int32) (M26 : Mem)  (res : Int32 × Mem) (h : j_MO_findingByte_31 a21 a22 a23 a24 a25 M26 = some res) (g : G0 res) (H : Heap) (locs : List Loc) (ls : Array Slot) (hP : va_P x.1 vwCl (wld x M26) H) (hS : va_S (A0 x) s.heap H locs) (hl : lv_has ls 4 [(0, .ref (x.2.1 26)), (1, .int a21), (2, .int a22), (3, .int a23)]), W p l e r_MO_findingByte s m args below meth c H locs 0 0 Q (F0 m 31 ls [.int a24, .int a25]) := by
      intro a21 a22 a23 a24 a25 M26 res h g H locs ls hP hS hl
      unfold j_MO_findingByte_31 at h
      obtain ⟨r29, M27, c28, h⟩ := bi_e h
      refine cl_MO_89 (rest := []) (R := r_MO_findingByte) (c_MO_within l x hJ a25 a24 c28) hx hb hml hts hown hK hZ hP hS hl.1 (Nat.le_of_ble_eq_true rfl) (Nat.le_of_ble_eq_true rfl) (Nat.le_of_ble_eq_true rfl) ⟨rfl, rfl, Nat.zero_le _, Nat.zero_le _⟩ d_MO_findingByte_31 (fun H locs hP hS => ?_)
      refine lv_if_ne (tgt := 39) hx hb d_MO_findingByte_34 rfl (fun hc => ?_) (fun hc => ?_)
      · have h := if_m hc h
        refine lv_iload_n hx hb d_MO_findingByte_39 rfl (lv_at hl 2 rfl) ?_
        refine lv_if_eq (tgt := 57) hx hb d_MO_findingByte_40 rfl (fun hc => ?_) (fun hc => ?_)
        · have h := if_p hc h
          refine lv_aload_n hx hb d_MO_findingByte_57 rfl (lv_at hl 0 rfl) ?_
          refine gf_MO_61 hx hb hts hown hK hP d_MO_findingByte_58 ?_
          refine lv_bipush (v := (6 : Int32)) hx hb d_MO_findingByte_61 (by decide) ?_
          refine lv_iload_n hx hb d_MO_findingByte_63 rfl (lv_at hl 1 rfl) ?_
          refine lv_imul hx hb d_MO_findingByte_64 ?_
          refine lv_iload_n hx hb d_MO_findingByte_65 rfl (lv_at hl 3 rfl) ?_
          refine lv_iadd hx hb d_MO_findingByte_66 ?_
          obtain ⟨b30, h⟩ := ck_e h
          refine m_ald hx hb hK hP ar_MO_found b30 d_MO_findingByte_67 ?_
          obtain rfl := Option.some.inj h
          exact hret d_MO_findingByte_68 g hP hS
        · have h := if_m hc h
          refine lv_aload_n hx hb d_MO_findingByte_43 rfl (lv_at hl 0 rfl) ?_
          refine gf_MO_67 hx hb hts hown hK hP d_MO_findingByte_44 ?_
          refine lv_bipush (v := (6 : Int32)) hx hb d_MO_findingByte_47 (by decide) ?_
          refine lv_iload_n hx hb d_MO_findingByte_49 rfl (lv_at hl 1 rfl) ?_
          refine lv_imul hx hb d_MO_findingByte_50 ?_
          refine lv_iload_n hx hb d_MO_findingByte_51 rfl (lv_at hl 3 rfl) ?_
          refine lv_iadd hx hb d_MO_findingByte_52 ?_
          obtain ⟨b31, h⟩ := ck_e h
          refine m_ald hx hb hK hP ar_MO_brief b31 d_MO_findingByte_53 ?_
          refine lv_goto (tgt := 68) hx hb d_MO_findingByte_54 rfl ?_
          obtain rfl := Option.some.inj h
          exact hret d_MO_findingByte_68 g hP hS
      · have h := if_p hc h
        refine lv_iconst (v := (-1 : Int32)) hx hb d_MO_findingByte_37 (by decide) ?_
        obtain rfl := Option.some.inj h
        exact hret d_MO_findingByte_38 g hP hS
    refine lv_iload_n hx hb d_MO_findingByte_0 rfl (lv_at hl 1 rfl) ?_
    refine lv_aload_n hx hb d_MO_findingByte_1 rfl (lv_at hl 0 rfl) ?_
    refine gf_MO_184 hx hb hts hown hK hP d_MO_findingByte_2 ?_
    obtain ⟨r34, M32, c33, h⟩ := bi_e h
    refine cl_MO_89 (rest := []) (R := r_MO_findingByte) (c_MO_within l x hJ a1 (M 26 22) c33) hx hb hml hts hown hK hZ hP hS hl.1 (Nat.le_of_ble_eq_true rfl) (Nat.le_of_ble_eq_true rfl) (Nat.le_of_ble_eq_true rfl) ⟨rfl, rfl, Nat.zero_le _, Nat.zero_le _⟩ d_MO_findingByte_5 (fun H locs hP hS => ?_)
    refine lv_if_eq (tgt := 37) hx hb d_MO_findingByte_8 rfl (fun hc => ?_) (fun hc => ?_)
    · have h := if_p hc h
      refine lv_iconst (v := (-1 : Int32)) hx hb d_MO_findingByte_37 (by decide) ?_
      obtain rfl := Option.some.inj h
      exact hret d_MO_findingByte_38 g hP hS
    · have h := if_m hc h
      refine lv_iload_n hx hb d_MO_findingByte_11 rfl (lv_at hl 3 rfl) ?_
      refine lv_iload_n hx hb d_MO_findingByte_12 rfl (lv_at hl 2 rfl) ?_
      refine lv_if_eq (tgt := 25) hx hb d_MO_findingByte_13 rfl (fun hc => ?_) (fun hc => ?_)
      · have h := if_p hc h
        refine lv_aload_n hx hb d_MO_findingByte_25 rfl (lv_at hl 0 rfl) ?_
        refine gf_MO_64 hx hb hts hown hK hP d_MO_findingByte_26 ?_
        refine lv_iload_n hx hb d_MO_findingByte_29 rfl (lv_at hl 1 rfl) ?_
        obtain ⟨b35, h⟩ := ck_e h
        refine m_ald hx hb hK hP ar_MO_foundLength b35 d_MO_findingByte_30 ?_
        exact J31 a1 a2 a3 (M32 45 a1.toNatClampNeg) a3 M32 _ h g H locs ls hP hS (lv_sub hl [0, 1, 2, 3] rfl)
      · have h := if_m hc h
        refine lv_aload_n hx hb d_MO_findingByte_16 rfl (lv_at hl 0 rfl) ?_
        refine gf_MO_70 hx hb hts hown hK hP d_MO_findingByte_17 ?_
        refine lv_iload_n hx hb d_MO_findingByte_20 rfl (lv_at hl 1 rfl) ?_
        obtain ⟨b36, h⟩ := ck_e h
        refine m_ald hx hb hK hP ar_MO_briefLength b36 d_MO_findingByte_21 ?_
        refine lv_goto (tgt := 31) hx hb d_MO_findingByte_22 rfl ?_
        exact J31 a1 a2 a3 (M32 47 a1.toNatClampNeg) a3 M32 _ h g H locs ls hP hS (lv_sub hl [0, 1, 2, 3] rfl)
  rw [eH] at key
  exact key
theorem d_MO_current_0 : decode b_MO_current 0 = .ok (.aload_n 0, 1) := by decide +kernel
theorem d_MO_current_1 : decode b_MO_current 1 = .ok (.getfield 145, 3) := by decide +kernel
theorem d_MO_current_4 : decode b_MO_current 4 = .ok (.ifCond .eq 11, 3) := by decide +kernel
theorem d_MO_current_7 : decode b_MO_current 7 = .ok (.iload_n 1, 1) := by decide +kernel
theorem d_MO_current_8 : decode b_MO_current 8 = .ok (.iconst 3, 1) := by decide +kernel
theorem d_MO_current_9 : decode b_MO_current 9 = .ok (.invokestatic 89, 3) := by decide +kernel
theorem d_MO_current_12 : decode b_MO_current 12 = .ok (.ifCond .ne 5, 3) := by decide +kernel
theorem d_MO_current_15 : decode b_MO_current 15 = .ok (.iconst (-1), 1) := by decide +kernel
theorem d_MO_current_16 : decode b_MO_current 16 = .ok (.ireturn, 1) := by decide +kernel
theorem d_MO_current_17 : decode b_MO_current 17 = .ok (.iload_n 1, 1) := by decide +kernel
theorem d_MO_current_18 : decode b_MO_current 18 = .ok (.ifCond .ne 10, 3) := by decide +kernel
theorem d_MO_current_21 : decode b_MO_current 21 = .ok (.aload_n 0, 1) := by decide +kernel
theorem d_MO_current_22 : decode b_MO_current 22 = .ok (.getfield 209, 3) := by decide +kernel
theorem d_MO_current_25 : decode b_MO_current 25 = .ok (.goto 19, 3) := by decide +kernel
theorem d_MO_current_28 : decode b_MO_current 28 = .ok (.iload_n 1, 1) := by decide +kernel
theorem d_MO_current_29 : decode b_MO_current 29 = .ok (.iconst 1, 1) := by decide +kernel
theorem d_MO_current_30 : decode b_MO_current 30 = .ok (.if_icmp .ne 10, 3) := by decide +kernel
theorem d_MO_current_33 : decode b_MO_current 33 = .ok (.aload_n 0, 1) := by decide +kernel
theorem d_MO_current_34 : decode b_MO_current 34 = .ok (.getfield 215, 3) := by decide +kernel
theorem d_MO_current_37 : decode b_MO_current 37 = .ok (.goto 7, 3) := by decide +kernel
theorem d_MO_current_40 : decode b_MO_current 40 = .ok (.aload_n 0, 1) := by decide +kernel
theorem d_MO_current_41 : decode b_MO_current 41 = .ok (.getfield 212, 3) := by decide +kernel
theorem d_MO_current_44 : decode b_MO_current 44 = .ok (.ireturn, 1) := by decide +kernel
noncomputable def s_MO_current (a1 : Int32) (M : Mem) : Option (Int32 × Mem) :=
  if (M 26 18) = 0 then (some ((-1 : Int32), M)) else (bi (s_MO_within a1 (3 : Int32) M) (fun r23 M21 => if r23 = 0 then (some ((-1 : Int32), M21)) else (if a1 = 0 then (some (M21 26 40, M21)) else (if a1 = (1 : Int32) then (some (M21 26 41, M21)) else (some (M21 26 42, M21))))))
set_option maxHeartbeats 4000000 in
set_option maxRecDepth 100000 in
theorem c_MO_current (l : Launch) (x : Cx) (hJ : Inj x) (a1 : Int32) {M : Mem} {out : Int32 × Mem} (h : s_MO_current a1 M = some out) : Ci l x y_MO_current (Cond.code y_MO_current b_MO_current 2 (some .int) :: tb) r_MO_current [.ref (x.2.1 26), .int a1] M out := by
  refine ofCi (cc := b_MO_current) (maxL := 2) (by decide) rfl (rfl) (Nat.le_of_ble_eq_true rfl) ?_
  intro p e s m args below meth c Q G0 ls g hx hb hml hown hts hK hZ hP hS hl hret
  have hown : s.vm.findClass R_MO = some m.cls := hown
  have hl : lv_has ls 2 [(0, .ref (x.2.1 26)), (1, .int a1)] := hl
  obtain ⟨H, eH⟩ : ∃ z, z = s.heap := ⟨_, rfl⟩
  obtain ⟨locs, eL⟩ : ∃ z, z = ([] : List Loc) := ⟨_, rfl⟩
  rw [← eH] at hP
  have hS : va_S (A0 x) s.heap H locs := by rw [eH, eL]; exact hS
  rw [← eL]
  have key : W p l e r_MO_current s m args below meth c H locs 0 0 Q (F0 m 0 ls []) := by
    clear eH eL
    unfold s_MO_current at h
    refine lv_aload_n hx hb d_MO_current_0 rfl (lv_at hl 0 rfl) ?_
    refine gf_MO_145 hx hb hts hown hK hP d_MO_current_1 ?_
    refine lv_if_eq (tgt := 15) hx hb d_MO_current_4 rfl (fun hc => ?_) (fun hc => ?_)
    · have h := if_p hc h
      refine lv_iconst (v := (-1 : Int32)) hx hb d_MO_current_15 (by decide) ?_
      obtain rfl := Option.some.inj h
      exact hret d_MO_current_16 g hP hS
    · have h := if_m hc h
      refine lv_iload_n hx hb d_MO_current_7 rfl (lv_at hl 1 rfl) ?_
      refine lv_iconst (v := (3 : Int32)) hx hb d_MO_current_8 (by decide) ?_
      obtain ⟨r23, M21, c22, h⟩ := bi_e h
      refine cl_MO_89 (rest := []) (R := r_MO_current) (c_MO_within l x hJ a1 (3 : Int32) c22) hx hb hml hts hown hK hZ hP hS hl.1 (Nat.le_of_ble_eq_true rfl) (Nat.le_of_ble_eq_true rfl) (Nat.le_of_ble_eq_true rfl) ⟨rfl, rfl, Nat.zero_le _, Nat.zero_le _⟩ d_MO_current_9 (fun H locs hP hS => ?_)
      refine lv_if_ne (tgt := 17) hx hb d_MO_current_12 rfl (fun hc => ?_) (fun hc => ?_)
      · have h := if_m hc h
        refine lv_iload_n hx hb d_MO_current_17 rfl (lv_at hl 1 rfl) ?_
        refine lv_if_ne (tgt := 28) hx hb d_MO_current_18 rfl (fun hc => ?_) (fun hc => ?_)
        · have h := if_m hc h
          refine lv_iload_n hx hb d_MO_current_28 rfl (lv_at hl 1 rfl) ?_
          refine lv_iconst (v := (1 : Int32)) hx hb d_MO_current_29 (by decide) ?_
          refine lv_icmp_ne (tgt := 40) hx hb d_MO_current_30 rfl (fun hc => ?_) (fun hc => ?_)
          · have h := if_m hc h
            refine lv_aload_n hx hb d_MO_current_40 rfl (lv_at hl 0 rfl) ?_
            refine gf_MO_212 hx hb hts hown hK hP d_MO_current_41 ?_
            obtain rfl := Option.some.inj h
            exact hret d_MO_current_44 g hP hS
          · have h := if_p hc h
            refine lv_aload_n hx hb d_MO_current_33 rfl (lv_at hl 0 rfl) ?_
            refine gf_MO_215 hx hb hts hown hK hP d_MO_current_34 ?_
            refine lv_goto (tgt := 44) hx hb d_MO_current_37 rfl ?_
            obtain rfl := Option.some.inj h
            exact hret d_MO_current_44 g hP hS
        · have h := if_p hc h
          refine lv_aload_n hx hb d_MO_current_21 rfl (lv_at hl 0 rfl) ?_
          refine gf_MO_209 hx hb hts hown hK hP d_MO_current_22 ?_
          refine lv_goto (tgt := 44) hx hb d_MO_current_25 rfl ?_
          obtain rfl := Option.some.inj h
          exact hret d_MO_current_44 g hP hS
      · have h := if_p hc h
        refine lv_iconst (v := (-1 : Int32)) hx hb d_MO_current_15 (by decide) ?_
        obtain rfl := Option.some.inj h
        exact hret d_MO_current_16 g hP hS
  rw [eH] at key
  exact key
