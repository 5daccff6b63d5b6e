theorem d_PR_isRegister_0 : decode b_PR_isRegister 0 = .ok (.iload_n 0, 1) := by decide +kernel
theorem d_PR_isRegister_1 : decode b_PR_isRegister 1 = .ok (.ifCond .lt 12, 3) := by decide +kernel
theorem d_PR_isRegister_4 : decode b_PR_isRegister 4 = .ok (.iload_n 0, 1) := by decide +kernel
theorem d_PR_isRegister_5 : decode b_PR_isRegister 5 = .ok (.iconst 4, 1) := by decide +kernel
theorem d_PR_isRegister_6 : decode b_PR_isRegister 6 = .ok (.if_icmp .ge 7, 3) := by decide +kernel
theorem d_PR_isRegister_9 : decode b_PR_isRegister 9 = .ok (.iconst 1, 1) := by decide +kernel
theorem d_PR_isRegister_10 : decode b_PR_isRegister 10 = .ok (.goto 4, 3) := by decide +kernel
theorem d_PR_isRegister_13 : decode b_PR_isRegister 13 = .ok (.iconst 0, 1) := by decide +kernel
theorem d_PR_isRegister_14 : decode b_PR_isRegister 14 = .ok (.ireturn, 1) := by decide +kernel
noncomputable def s_PR_isRegister (a0 : Int32) (M : Mem) : Option (Int32 × Mem) :=
  if a0 < 0 then (some ((0 : Int32), M)) else (if (4 : Int32) ≤ a0 then (some ((0 : Int32), M)) else (some ((1 : Int32), M)))
set_option maxHeartbeats 4000000 in
set_option maxRecDepth 100000 in
theorem c_PR_isRegister (l : Launch) (x : Cx) (hJ : Inj x) (a0 : Int32) {M : Mem} {out : Int32 × Mem} (h : s_PR_isRegister a0 M = some out) : Ci l x y_PR_isRegister (Cond.code y_PR_isRegister b_PR_isRegister 1 (some .boolean) :: tb) r_PR_isRegister [.int a0] M out := by
  refine ofCz (cc := b_PR_isRegister) (maxL := 1) (by decide) rfl (rfl) (Nat.le_of_ble_eq_true rfl) ?_
  intro p e s m args below meth c Q G0 ls g hx hb hml hown hts hK hZ hP hS hl hret
  have hown : s.vm.findClass R_PR = some m.cls := hown
  have hl : lv_has ls 1 [(0, .int a0)] := hl
  obtain ⟨H, eH⟩ : ∃ z, z = s.heap := ⟨_, rfl⟩
  obtain ⟨locs, eL⟩ : ∃ z, z = ([] : List Loc) := ⟨_, rfl⟩
  rw [← eH] at hP
  have hS : va_S (A0 x) s.heap H locs := by rw [eH, eL]; exact hS
  rw [← eL]
  have key : W p l e r_PR_isRegister s m args below meth c H locs 0 0 Q (F0 m 0 ls []) := by
    clear eH eL
    unfold s_PR_isRegister at h
    refine lv_iload_n hx hb d_PR_isRegister_0 rfl (lv_at hl 0 rfl) ?_
    refine lv_if_lt (tgt := 13) hx hb d_PR_isRegister_1 rfl (fun hc => ?_) (fun hc => ?_)
    · have h := if_p hc h
      refine lv_iconst (v := (0 : Int32)) hx hb d_PR_isRegister_13 (by decide) ?_
      obtain rfl := Option.some.inj h
      exact hret (by decide) d_PR_isRegister_14 g hP hS
    · have h := if_m hc h
      refine lv_iload_n hx hb d_PR_isRegister_4 rfl (lv_at hl 0 rfl) ?_
      refine lv_iconst (v := (4 : Int32)) hx hb d_PR_isRegister_5 (by decide) ?_
      refine lv_icmp_ge (tgt := 13) hx hb d_PR_isRegister_6 rfl (fun hc => ?_) (fun hc => ?_)
      · have h := if_p hc h
        refine lv_iconst (v := (0 : Int32)) hx hb d_PR_isRegister_13 (by decide) ?_
        obtain rfl := Option.some.inj h
        exact hret (by decide) d_PR_isRegister_14 g hP hS
      · have h := if_m hc h
        refine lv_iconst (v := (1 : Int32)) hx hb d_PR_isRegister_9 (by decide) ?_
        refine lv_goto (tgt := 14) hx hb d_PR_isRegister_10 rfl ?_
        obtain rfl := Option.some.inj h
        exact hret (by decide) d_PR_isRegister_14 g hP hS
  rw [eH] at key
  exact key
theorem d_PR_isPlace_0 : decode b_PR_isPlace 0 = .ok (.iload_n 0, 1) := by decide +kernel
theorem d_PR_isPlace_1 : decode b_PR_isPlace 1 = .ok (.ifCond .lt 13, 3) := by decide +kernel
theorem d_PR_isPlace_4 : decode b_PR_isPlace 4 = .ok (.iload_n 0, 1) := by decide +kernel
theorem d_PR_isPlace_5 : decode b_PR_isPlace 5 = .ok (.bipush 24, 2) := by decide +kernel
theorem d_PR_isPlace_7 : decode b_PR_isPlace 7 = .ok (.if_icmp .ge 7, 3) := by decide +kernel
theorem d_PR_isPlace_10 : decode b_PR_isPlace 10 = .ok (.iconst 1, 1) := by decide +kernel
theorem d_PR_isPlace_11 : decode b_PR_isPlace 11 = .ok (.goto 4, 3) := by decide +kernel
theorem d_PR_isPlace_14 : decode b_PR_isPlace 14 = .ok (.iconst 0, 1) := by decide +kernel
theorem d_PR_isPlace_15 : decode b_PR_isPlace 15 = .ok (.ireturn, 1) := by decide +kernel
noncomputable def s_PR_isPlace (a0 : Int32) (M : Mem) : Option (Int32 × Mem) :=
  if a0 < 0 then (some ((0 : Int32), M)) else (if (24 : Int32) ≤ a0 then (some ((0 : Int32), M)) else (some ((1 : Int32), M)))
set_option maxHeartbeats 4000000 in
set_option maxRecDepth 100000 in
theorem c_PR_isPlace (l : Launch) (x : Cx) (hJ : Inj x) (a0 : Int32) {M : Mem} {out : Int32 × Mem} (h : s_PR_isPlace a0 M = some out) : Ci l x y_PR_isPlace (Cond.code y_PR_isPlace b_PR_isPlace 1 (some .boolean) :: tb) r_PR_isPlace [.int a0] M out := by
  refine ofCz (cc := b_PR_isPlace) (maxL := 1) (by decide) rfl (rfl) (Nat.le_of_ble_eq_true rfl) ?_
  intro p e s m args below meth c Q G0 ls g hx hb hml hown hts hK hZ hP hS hl hret
  have hown : s.vm.findClass R_PR = some m.cls := hown
  have hl : lv_has ls 1 [(0, .int a0)] := hl
  obtain ⟨H, eH⟩ : ∃ z, z = s.heap := ⟨_, rfl⟩
  obtain ⟨locs, eL⟩ : ∃ z, z = ([] : List Loc) := ⟨_, rfl⟩
  rw [← eH] at hP
  have hS : va_S (A0 x) s.heap H locs := by rw [eH, eL]; exact hS
  rw [← eL]
  have key : W p l e r_PR_isPlace s m args below meth c H locs 0 0 Q (F0 m 0 ls []) := by
    clear eH eL
    unfold s_PR_isPlace at h
    refine lv_iload_n hx hb d_PR_isPlace_0 rfl (lv_at hl 0 rfl) ?_
    refine lv_if_lt (tgt := 14) hx hb d_PR_isPlace_1 rfl (fun hc => ?_) (fun hc => ?_)
    · have h := if_p hc h
      refine lv_iconst (v := (0 : Int32)) hx hb d_PR_isPlace_14 (by decide) ?_
      obtain rfl := Option.some.inj h
      exact hret (by decide) d_PR_isPlace_15 g hP hS
    · have h := if_m hc h
      refine lv_iload_n hx hb d_PR_isPlace_4 rfl (lv_at hl 0 rfl) ?_
      refine lv_bipush (v := (24 : Int32)) hx hb d_PR_isPlace_5 (by decide) ?_
      refine lv_icmp_ge (tgt := 14) hx hb d_PR_isPlace_7 rfl (fun hc => ?_) (fun hc => ?_)
      · have h := if_p hc h
        refine lv_iconst (v := (0 : Int32)) hx hb d_PR_isPlace_14 (by decide) ?_
        obtain rfl := Option.some.inj h
        exact hret (by decide) d_PR_isPlace_15 g hP hS
      · have h := if_m hc h
        refine lv_iconst (v := (1 : Int32)) hx hb d_PR_isPlace_10 (by decide) ?_
        refine lv_goto (tgt := 15) hx hb d_PR_isPlace_11 rfl ?_
        obtain rfl := Option.some.inj h
        exact hret (by decide) d_PR_isPlace_15 g hP hS
  rw [eH] at key
  exact key
theorem d_PR_fits_0 : decode b_PR_fits 0 = .ok (.iload_n 0, 1) := by decide +kernel
theorem d_PR_fits_1 : decode b_PR_fits 1 = .ok (.tableswitch 109 0 15 #[97, 93, 79, 79, 79, 79, 86, 86, 86, 86, 97, 79, 93, 79, 79, 97], 79) := by decide +kernel
theorem d_PR_fits_80 : decode b_PR_fits 80 = .ok (.iload_n 1, 1) := by decide +kernel
theorem d_PR_fits_81 : decode b_PR_fits 81 = .ok (.invokestatic 23, 3) := by decide +kernel
theorem d_PR_fits_84 : decode b_PR_fits 84 = .ok (.goto 27, 3) := by decide +kernel
theorem d_PR_fits_87 : decode b_PR_fits 87 = .ok (.iload_n 1, 1) := by decide +kernel
theorem d_PR_fits_88 : decode b_PR_fits 88 = .ok (.invokestatic 31, 3) := by decide +kernel
theorem d_PR_fits_91 : decode b_PR_fits 91 = .ok (.goto 20, 3) := by decide +kernel
theorem d_PR_fits_94 : decode b_PR_fits 94 = .ok (.iconst 1, 1) := by decide +kernel
theorem d_PR_fits_95 : decode b_PR_fits 95 = .ok (.goto 16, 3) := by decide +kernel
theorem d_PR_fits_98 : decode b_PR_fits 98 = .ok (.iload_n 1, 1) := by decide +kernel
theorem d_PR_fits_99 : decode b_PR_fits 99 = .ok (.ifCond .ne 7, 3) := by decide +kernel
theorem d_PR_fits_102 : decode b_PR_fits 102 = .ok (.iconst 1, 1) := by decide +kernel
theorem d_PR_fits_103 : decode b_PR_fits 103 = .ok (.goto 8, 3) := by decide +kernel
theorem d_PR_fits_106 : decode b_PR_fits 106 = .ok (.iconst 0, 1) := by decide +kernel
theorem d_PR_fits_107 : decode b_PR_fits 107 = .ok (.goto 4, 3) := by decide +kernel
theorem d_PR_fits_110 : decode b_PR_fits 110 = .ok (.iconst 0, 1) := by decide +kernel
theorem d_PR_fits_111 : decode b_PR_fits 111 = .ok (.ireturn, 1) := by decide +kernel
noncomputable def j_PR_fits_98 (a21 : Int32) (M22 : Mem) : Option (Int32 × Mem) :=
  if a21 = 0 then (some ((1 : Int32), M22)) else (some ((0 : Int32), M22))
noncomputable def j_PR_fits_87 (a23 : Int32) (M24 : Mem) : Option (Int32 × Mem) :=
  bi (s_PR_isPlace a23 M24) (fun r27 M25 => cb r27 (some (r27, M25)))
noncomputable def j_PR_fits_80 (a29 : Int32) (M30 : Mem) : Option (Int32 × Mem) :=
  bi (s_PR_isRegister a29 M30) (fun r33 M31 => cb r33 (some (r33, M31)))
noncomputable def s_PR_fits (a0 : Int32) (a1 : Int32) (M : Mem) : Option (Int32 × Mem) :=
  if a0 = (0 : Int32) then (j_PR_fits_98 a1 M) else (if a0 = (1 : Int32) then (some ((1 : Int32), M)) else (if a0 = (2 : Int32) then (j_PR_fits_80 a1 M) else (if a0 = (3 : Int32) then (j_PR_fits_80 a1 M) else (if a0 = (4 : Int32) then (j_PR_fits_80 a1 M) else (if a0 = (5 : Int32) then (j_PR_fits_80 a1 M) else (if a0 = (6 : Int32) then (j_PR_fits_87 a1 M) else (if a0 = (7 : Int32) then (j_PR_fits_87 a1 M) else (if a0 = (8 : Int32) then (j_PR_fits_87 a1 M) else (if a0 = (9 : Int32) then (j_PR_fits_87 a1 M) else (if a0 = (10 : Int32) then (j_PR_fits_98 a1 M) else (if a0 = (11 : Int32) then (j_PR_fits_80 a1 M) else (if a0 = (12 : Int32) then (some ((1 : Int32), M)) else (if a0 = (13 : Int32) then (j_PR_fits_80 a1 M) else (if a0 = (14 : Int32) then (j_PR_fits_80 a1 M) else (if a0 = (15 : Int32) then (j_PR_fits_98 a1 M) else (some ((0 : Int32), M)))))))))))))))))
set_option maxHeartbeats 4000000 in
set_option maxRecDepth 100000 in
theorem c_PR_fits (l : Launch) (x : Cx) (hJ : Inj x) (a0 : Int32) (a1 : Int32) {M : Mem} {out : Int32 × Mem} (h : s_PR_fits a0 a1 M = some out) : Ci l x y_PR_fits (Cond.code y_PR_fits b_PR_fits 2 (some .boolean) :: tb) r_PR_fits [.int a0, .int a1] M out := by
  refine ofCz (cc := b_PR_fits) (maxL := 2) (by decide) rfl (rfl) (Nat.le_of_ble_eq_true rfl) ?_
  intro p e s m args below meth c Q G0 ls g hx hb hml hown hts hK hZ hP hS hl hret
  have hown : s.vm.findClass R_PR = some m.cls := hown
  have hl : lv_has ls 2 [(0, .int a0), (1, .int a1)] := hl
  obtain ⟨H, eH⟩ : ∃ z, z = s.heap := ⟨_, rfl⟩
  obtain ⟨locs, eL⟩ : ∃ z, z = ([] : List Loc) := ⟨_, rfl⟩
  rw [← eH] at hP
  have hS : va_S (A0 x) s.heap H locs := by rw [eH, eL]; exact hS
  rw [← eL]
  have key : W p l e r_PR_fits s m args below meth c H locs 0 0 Q (F0 m 0 ls []) := by
    clear eH eL
    unfold s_PR_fits at h
    have J98 : ∀ (a21 : Int32) (M22 : Mem)  (res : Int32 × Mem) (h : j_PR_fits_98 a21 M22 = some res) (g : G0 res) (H : Heap) (locs : List Loc) (ls : Array Slot) (hP : va_P x.1 vwCl (wld x M22) H) (hS : va_S (A0 x) s.heap H locs) (hl : lv_has ls 2 [(1, .int a21)]), W p l e r_PR_fits s m args below meth c H locs 0 0 Q (F0 m 98 ls []) := by
      intro a21 M22 res h g H locs ls hP hS hl
      unfold j_PR_fits_98 at h
      refine lv_iload_n hx hb d_PR_fits_98 rfl (lv_at hl 0 rfl) ?_
      refine lv_if_ne (tgt := 106) hx hb d_PR_fits_99 rfl (fun hc => ?_) (fun hc => ?_)
      · have h := if_m hc h
        refine lv_iconst (v := (0 : Int32)) hx hb d_PR_fits_106 (by decide) ?_
        refine lv_goto (tgt := 111) hx hb d_PR_fits_107 rfl ?_
        obtain rfl := Option.some.inj h
        exact hret (by decide) d_PR_fits_111 g hP hS
      · have h := if_p hc h
        refine lv_iconst (v := (1 : Int32)) hx hb d_PR_fits_102 (by decide) ?_
        refine lv_goto (tgt := 111) hx hb d_PR_fits_103 rfl ?_
        obtain rfl := Option.some.inj h
        exact hret (by decide) d_PR_fits_111 g hP hS
    have J87 : ∀ (a23 : Int32) (M24 : Mem)  (res : Int32 × Mem) (h : j_PR_fits_87 a23 M24 = some res) (g : G0 res) (H : Heap) (locs : List Loc) (ls : Array Slot) (hP : va_P x.1 vwCl (wld x M24) H) (hS : va_S (A0 x) s.heap H locs) (hl : lv_has ls 2 [(1, .int a23)]), W p l e r_PR_fits s m args below meth c H locs 0 0 Q (F0 m 87 ls []) := by
      intro a23 M24 res h g H locs ls hP hS hl
      unfold j_PR_fits_87 at h
      refine lv_iload_n hx hb d_PR_fits_87 rfl (lv_at hl 0 rfl) ?_
      obtain ⟨r27, M25, c26, h⟩ := bi_e h
      refine cl_PR_31 (rest := []) (R := r_PR_fits) (c_PR_isPlace l x hJ a23 c26) hx hb hml hts hown hK hZ hP hS hl.1 (Nat.le_of_ble_eq_true rfl) (Nat.le_of_ble_eq_true rfl) (Nat.le_of_ble_eq_true rfl) ⟨rfl, rfl, Nat.zero_le _, Nat.zero_le _⟩ d_PR_fits_88 (fun H locs hP hS => ?_)
      refine lv_goto (tgt := 111) hx hb d_PR_fits_91 rfl ?_
      obtain ⟨b28, h⟩ := cb_e h
      obtain rfl := Option.some.inj h
      exact hret b28 d_PR_fits_111 g hP hS
    have J80 : ∀ (a29 : Int32) (M30 : Mem)  (res : Int32 × Mem) (h : j_PR_fits_80 a29 M30 = some res) (g : G0 res) (H : Heap) (locs : List Loc) (ls : Array Slot) (hP : va_P x.1 vwCl (wld x M30) H) (hS : va_S (A0 x) s.heap H locs) (hl : lv_has ls 2 [(1, .int a29)]), W p l e r_PR_fits s m args below meth c H locs 0 0 Q (F0 m 80 ls []) := by
      intro a29 M30 res h g H locs ls hP hS hl
      unfold j_PR_fits_80 at h
      refine lv_iload_n hx hb d_PR_fits_80 rfl (lv_at hl 0 rfl) ?_
      obtain ⟨r33, M31, c32, h⟩ := bi_e h
      refine cl_PR_23 (rest := []) (R := r_PR_fits) (c_PR_isRegister l x hJ a29 c32) hx hb hml hts hown hK hZ hP hS hl.1 (Nat.le_of_ble_eq_true rfl) (Nat.le_of_ble_eq_true rfl) (Nat.le_of_ble_eq_true rfl) ⟨rfl, rfl, Nat.zero_le _, Nat.zero_le _⟩ d_PR_fits_81 (fun H locs hP hS => ?_)
      refine lv_goto (tgt := 111) hx hb d_PR_fits_84 rfl ?_
      obtain ⟨b34, h⟩ := cb_e h
      obtain rfl := Option.some.inj h
      exact hret b34 d_PR_fits_111 g hP hS
    refine lv_iload_n hx hb d_PR_fits_0 rfl (lv_at hl 0 rfl) ?_
    by_cases n35 : a0 = (0 : Int32)
    · have h := if_p n35 h
      refine sw_in (k := (0 : Int32)) (tgt := 98) hx hb n35 d_PR_fits_1 (by decide) (by decide) rfl rfl ?_
      exact J98 a1 M _ h g H locs ls hP hS (lv_sub hl [1] rfl)
    have h := if_m n35 h
    by_cases n36 : a0 = (1 : Int32)
    · have h := if_p n36 h
      refine sw_in (k := (1 : Int32)) (tgt := 94) hx hb n36 d_PR_fits_1 (by decide) (by decide) rfl rfl ?_
      refine lv_iconst (v := (1 : Int32)) hx hb d_PR_fits_94 (by decide) ?_
      refine lv_goto (tgt := 111) hx hb d_PR_fits_95 rfl ?_
      obtain rfl := Option.some.inj h
      exact hret (by decide) d_PR_fits_111 g hP hS
    have h := if_m n36 h
    by_cases n37 : a0 = (2 : Int32)
    · have h := if_p n37 h
      refine sw_in (k := (2 : Int32)) (tgt := 80) hx hb n37 d_PR_fits_1 (by decide) (by decide) rfl rfl ?_
      exact J80 a1 M _ h g H locs ls hP hS (lv_sub hl [1] rfl)
    have h := if_m n37 h
    by_cases n38 : a0 = (3 : Int32)
    · have h := if_p n38 h
      refine sw_in (k := (3 : Int32)) (tgt := 80) hx hb n38 d_PR_fits_1 (by decide) (by decide) rfl rfl ?_
      exact J80 a1 M _ h g H locs ls hP hS (lv_sub hl [1] rfl)
    have h := if_m n38 h
    by_cases n39 : a0 = (4 : Int32)
    · have h := if_p n39 h
      refine sw_in (k := (4 : Int32)) (tgt := 80) hx hb n39 d_PR_fits_1 (by decide) (by decide) rfl rfl ?_
      exact J80 a1 M _ h g H locs ls hP hS (lv_sub hl [1] rfl)
    have h := if_m n39 h
    by_cases n40 : a0 = (5 : Int32)
    · have h := if_p n40 h
      refine sw_in (k := (5 : Int32)) (tgt := 80) hx hb n40 d_PR_fits_1 (by decide) (by decide) rfl rfl ?_
      exact J80 a1 M _ h g H locs ls hP hS (lv_sub hl [1] rfl)
    have h := if_m n40 h
    by_cases n41 : a0 = (6 : Int32)
    · have h := if_p n41 h
      refine sw_in (k := (6 : Int32)) (tgt := 87) hx hb n41 d_PR_fits_1 (by decide) (by decide) rfl rfl ?_
      exact J87 a1 M _ h g H locs ls hP hS (lv_sub hl [1] rfl)
    have h := if_m n41 h
    by_cases n42 : a0 = (7 : Int32)
    · have h := if_p n42 h
      refine sw_in (k := (7 : Int32)) (tgt := 87) hx hb n42 d_PR_fits_1 (by decide) (by decide) rfl rfl ?_
      exact J87 a1 M _ h g H locs ls hP hS (lv_sub hl [1] rfl)
    have h := if_m n42 h
    by_cases n43 : a0 = (8 : Int32)
    · have h := if_p n43 h
      refine sw_in (k := (8 : Int32)) (tgt := 87) hx hb n43 d_PR_fits_1 (by decide) (by decide) rfl rfl ?_
      exact J87 a1 M _ h g H locs ls hP hS (lv_sub hl [1] rfl)
    have h := if_m n43 h
    by_cases n44 : a0 = (9 : Int32)
    · have h := if_p n44 h
      refine sw_in (k := (9 : Int32)) (tgt := 87) hx hb n44 d_PR_fits_1 (by decide) (by decide) rfl rfl ?_
      exact J87 a1 M _ h g H locs ls hP hS (lv_sub hl [1] rfl)
    have h := if_m n44 h
    by_cases n45 : a0 = (10 : Int32)
    · have h := if_p n45 h
      refine sw_in (k := (10 : Int32)) (tgt := 98) hx hb n45 d_PR_fits_1 (by decide) (by decide) rfl rfl ?_
      exact J98 a1 M _ h g H locs ls hP hS (lv_sub hl [1] rfl)
    have h := if_m n45 h
    by_cases n46 : a0 = (11 : Int32)
    · have h := if_p n46 h
      refine sw_in (k := (11 : Int32)) (tgt := 80) hx hb n46 d_PR_fits_1 (by decide) (by decide) rfl rfl ?_
      exact J80 a1 M _ h g H locs ls hP hS (lv_sub hl [1] rfl)
    have h := if_m n46 h
    by_cases n47 : a0 = (12 : Int32)
    · have h := if_p n47 h
      refine sw_in (k := (12 : Int32)) (tgt := 94) hx hb n47 d_PR_fits_1 (by decide) (by decide) rfl rfl ?_
      refine lv_iconst (v := (1 : Int32)) hx hb d_PR_fits_94 (by decide) ?_
      refine lv_goto (tgt := 111) hx hb d_PR_fits_95 rfl ?_
      obtain rfl := Option.some.inj h
      exact hret (by decide) d_PR_fits_111 g hP hS
    have h := if_m n47 h
    by_cases n48 : a0 = (13 : Int32)
    · have h := if_p n48 h
      refine sw_in (k := (13 : Int32)) (tgt := 80) hx hb n48 d_PR_fits_1 (by decide) (by decide) rfl rfl ?_
      exact J80 a1 M _ h g H locs ls hP hS (lv_sub hl [1] rfl)
    have h := if_m n48 h
    by_cases n49 : a0 = (14 : Int32)
    · have h := if_p n49 h
      refine sw_in (k := (14 : Int32)) (tgt := 80) hx hb n49 d_PR_fits_1 (by decide) (by decide) rfl rfl ?_
      exact J80 a1 M _ h g H locs ls hP hS (lv_sub hl [1] rfl)
    have h := if_m n49 h
    by_cases n50 : a0 = (15 : Int32)
    · have h := if_p n50 h
      refine sw_in (k := (15 : Int32)) (tgt := 98) hx hb n50 d_PR_fits_1 (by decide) (by decide) rfl rfl ?_
      exact J98 a1 M _ h g H locs ls hP hS (lv_sub hl [1] rfl)
    have h := if_m n50 h
    have b0 := sw_ne (k := (0 : Int32)) (z := 0) (by decide) n35
    have b1 := sw_ne (k := (1 : Int32)) (z := 1) (by decide) n36
    have b2 := sw_ne (k := (2 : Int32)) (z := 2) (by decide) n37
    have b3 := sw_ne (k := (3 : Int32)) (z := 3) (by decide) n38
    have b4 := sw_ne (k := (4 : Int32)) (z := 4) (by decide) n39
    have b5 := sw_ne (k := (5 : Int32)) (z := 5) (by decide) n40
    have b6 := sw_ne (k := (6 : Int32)) (z := 6) (by decide) n41
    have b7 := sw_ne (k := (7 : Int32)) (z := 7) (by decide) n42
    have b8 := sw_ne (k := (8 : Int32)) (z := 8) (by decide) n43
    have b9 := sw_ne (k := (9 : Int32)) (z := 9) (by decide) n44
    have b10 := sw_ne (k := (10 : Int32)) (z := 10) (by decide) n45
    have b11 := sw_ne (k := (11 : Int32)) (z := 11) (by decide) n46
    have b12 := sw_ne (k := (12 : Int32)) (z := 12) (by decide) n47
    have b13 := sw_ne (k := (13 : Int32)) (z := 13) (by decide) n48
    have b14 := sw_ne (k := (14 : Int32)) (z := 14) (by decide) n49
    have b15 := sw_ne (k := (15 : Int32)) (z := 15) (by decide) n50
    refine lv_tableOut (tgt := 110) hx hb d_PR_fits_1 (by omega) rfl ?_
    refine lv_iconst (v := (0 : Int32)) hx hb d_PR_fits_110 (by decide) ?_
    obtain rfl := Option.some.inj h
    exact hret (by decide) d_PR_fits_111 g hP hS
  rw [eH] at key
  exact key
theorem d_PR_append_0 : decode b_PR_append 0 = .ok (.aload_n 0, 1) := by decide +kernel
theorem d_PR_append_1 : decode b_PR_append 1 = .ok (.getfield 19, 3) := by decide +kernel
theorem d_PR_append_4 : decode b_PR_append 4 = .ok (.bipush 24, 2) := by decide +kernel
theorem d_PR_append_6 : decode b_PR_append 6 = .ok (.if_icmp .ge 18, 3) := by decide +kernel
theorem d_PR_append_9 : decode b_PR_append 9 = .ok (.iload_n 2, 1) := by decide +kernel
theorem d_PR_append_10 : decode b_PR_append 10 = .ok (.invokestatic 23, 3) := by decide +kernel
theorem d_PR_append_13 : decode b_PR_append 13 = .ok (.ifCond .eq 11, 3) := by decide +kernel
theorem d_PR_append_16 : decode b_PR_append 16 = .ok (.iload_n 1, 1) := by decide +kernel
theorem d_PR_append_17 : decode b_PR_append 17 = .ok (.iload_n 3, 1) := by decide +kernel
theorem d_PR_append_18 : decode b_PR_append 18 = .ok (.invokestatic 27, 3) := by decide +kernel
theorem d_PR_append_21 : decode b_PR_append 21 = .ok (.ifCond .ne 5, 3) := by decide +kernel
theorem d_PR_append_24 : decode b_PR_append 24 = .ok (.iconst 0, 1) := by decide +kernel
theorem d_PR_append_25 : decode b_PR_append 25 = .ok (.ireturn, 1) := by decide +kernel
theorem d_PR_append_26 : decode b_PR_append 26 = .ok (.aload_n 0, 1) := by decide +kernel
theorem d_PR_append_27 : decode b_PR_append 27 = .ok (.getfield 9, 3) := by decide +kernel
theorem d_PR_append_30 : decode b_PR_append 30 = .ok (.aload_n 0, 1) := by decide +kernel
theorem d_PR_append_31 : decode b_PR_append 31 = .ok (.getfield 19, 3) := by decide +kernel
theorem d_PR_append_34 : decode b_PR_append 34 = .ok (.iload_n 1, 1) := by decide +kernel
theorem d_PR_append_35 : decode b_PR_append 35 = .ok (.iastore, 1) := by decide +kernel
theorem d_PR_append_36 : decode b_PR_append 36 = .ok (.aload_n 0, 1) := by decide +kernel
theorem d_PR_append_37 : decode b_PR_append 37 = .ok (.getfield 13, 3) := by decide +kernel
theorem d_PR_append_40 : decode b_PR_append 40 = .ok (.aload_n 0, 1) := by decide +kernel
theorem d_PR_append_41 : decode b_PR_append 41 = .ok (.getfield 19, 3) := by decide +kernel
theorem d_PR_append_44 : decode b_PR_append 44 = .ok (.iload_n 2, 1) := by decide +kernel
theorem d_PR_append_45 : decode b_PR_append 45 = .ok (.iastore, 1) := by decide +kernel
theorem d_PR_append_46 : decode b_PR_append 46 = .ok (.aload_n 0, 1) := by decide +kernel
theorem d_PR_append_47 : decode b_PR_append 47 = .ok (.getfield 16, 3) := by decide +kernel
theorem d_PR_append_50 : decode b_PR_append 50 = .ok (.aload_n 0, 1) := by decide +kernel
theorem d_PR_append_51 : decode b_PR_append 51 = .ok (.getfield 19, 3) := by decide +kernel
theorem d_PR_append_54 : decode b_PR_append 54 = .ok (.iload_n 3, 1) := by decide +kernel
theorem d_PR_append_55 : decode b_PR_append 55 = .ok (.iastore, 1) := by decide +kernel
theorem d_PR_append_56 : decode b_PR_append 56 = .ok (.aload_n 0, 1) := by decide +kernel
theorem d_PR_append_57 : decode b_PR_append 57 = .ok (.dup, 1) := by decide +kernel
theorem d_PR_append_58 : decode b_PR_append 58 = .ok (.getfield 19, 3) := by decide +kernel
theorem d_PR_append_61 : decode b_PR_append 61 = .ok (.iconst 1, 1) := by decide +kernel
theorem d_PR_append_62 : decode b_PR_append 62 = .ok (.iadd, 1) := by decide +kernel
theorem d_PR_append_63 : decode b_PR_append 63 = .ok (.putfield 19, 3) := by decide +kernel
theorem d_PR_append_66 : decode b_PR_append 66 = .ok (.iconst 1, 1) := by decide +kernel
theorem d_PR_append_67 : decode b_PR_append 67 = .ok (.ireturn, 1) := by decide +kernel
noncomputable def s_PR_append (a1 : Int32) (a2 : Int32) (a3 : Int32) (M : Mem) : Option (Int32 × Mem) :=
  if (24 : Int32) ≤ (M 1 3) then (some ((0 : Int32), M)) else (bi (s_PR_isRegister a2 M) (fun r23 M21 => if r23 = 0 then (some ((0 : Int32), M21)) else (bi (s_PR_fits a1 a3 M21) (fun r26 M24 => if r26 = 0 then (some ((0 : Int32), M24)) else (ck (M24 1 3) 24 (nx (st M24 2 (M24 1 3).toNatClampNeg a1) (fun M28 => ck (M28 1 3) 24 (nx (st M28 3 (M28 1 3).toNatClampNeg a2) (fun M30 => ck (M30 1 3) 24 (nx (st M30 4 (M30 1 3).toNatClampNeg a3) (fun M32 => nx (st M32 1 3 ((M32 1 3) + (1 : Int32))) (fun M33 => some ((1 : Int32), M33)))))))))))))
set_option maxHeartbeats 4000000 in
set_option maxRecDepth 100000 in
theorem c_PR_append (l : Launch) (x : Cx) (hJ : Inj x) (a1 : Int32) (a2 : Int32) (a3 : Int32) {M : Mem} {out : Int32 × Mem} (h : s_PR_append a1 a2 a3 M = some out) : Ci l x y_PR_append (Cond.code y_PR_append b_PR_append 4 (some .boolean) :: tb) r_PR_append [.ref (x.2.1 1), .int a1, .int a2, .int a3] M out := by
  refine ofCz (cc := b_PR_append) (maxL := 4) (by decide) rfl (rfl) (Nat.le_of_ble_eq_true rfl) ?_
  intro p e s m args below meth c Q G0 ls g hx hb hml hown hts hK hZ hP hS hl hret
  have hown : s.vm.findClass R_PR = some m.cls := hown
  have hl : lv_has ls 4 [(0, .ref (x.2.1 1)), (1, .int a1), (2, .int a2), (3, .int a3)] := hl
  obtain ⟨H, eH⟩ : ∃ z, z = s.heap := ⟨_, rfl⟩
  obtain ⟨locs, eL⟩ : ∃ z, z = ([] : List Loc) := ⟨_, rfl⟩
  rw [← eH] at hP
  have hS : va_S (A0 x) s.heap H locs := by rw [eH, eL]; exact hS
  rw [← eL]
  have key : W p l e r_PR_append s m args below meth c H locs 0 0 Q (F0 m 0 ls []) := by
    clear eH eL
    unfold s_PR_append at h
    refine lv_aload_n hx hb d_PR_append_0 rfl (lv_at hl 0 rfl) ?_
    refine gf_PR_19 hx hb hts hown hK hP d_PR_append_1 ?_
    refine lv_bipush (v := (24 : Int32)) hx hb d_PR_append_4 (by decide) ?_
    refine lv_icmp_ge (tgt := 24) hx hb d_PR_append_6 rfl (fun hc => ?_) (fun hc => ?_)
    · have h := if_p hc h
      refine lv_iconst (v := (0 : Int32)) hx hb d_PR_append_24 (by decide) ?_
      obtain rfl := Option.some.inj h
      exact hret (by decide) d_PR_append_25 g hP hS
    · have h := if_m hc h
      refine lv_iload_n hx hb d_PR_append_9 rfl (lv_at hl 2 rfl) ?_
      obtain ⟨r23, M21, c22, h⟩ := bi_e h
      refine cl_PR_23 (rest := []) (R := r_PR_append) (c_PR_isRegister l x hJ a2 c22) hx hb hml hts hown hK hZ hP hS hl.1 (Nat.le_of_ble_eq_true rfl) (Nat.le_of_ble_eq_true rfl) (Nat.le_of_ble_eq_true rfl) ⟨rfl, rfl, Nat.zero_le _, Nat.zero_le _⟩ d_PR_append_10 (fun H locs hP hS => ?_)
      refine lv_if_eq (tgt := 24) hx hb d_PR_append_13 rfl (fun hc => ?_) (fun hc => ?_)
      · have h := if_p hc h
        refine lv_iconst (v := (0 : Int32)) hx hb d_PR_append_24 (by decide) ?_
        obtain rfl := Option.some.inj h
        exact hret (by decide) d_PR_append_25 g hP hS
      · have h := if_m hc h
        refine lv_iload_n hx hb d_PR_append_16 rfl (lv_at hl 1 rfl) ?_
        refine lv_iload_n hx hb d_PR_append_17 rfl (lv_at hl 3 rfl) ?_
        obtain ⟨r26, M24, c25, h⟩ := bi_e h
        refine cl_PR_27 (rest := []) (R := r_PR_append) (c_PR_fits l x hJ a1 a3 c25) hx hb hml hts hown hK hZ hP hS hl.1 (Nat.le_of_ble_eq_true rfl) (Nat.le_of_ble_eq_true rfl) (Nat.le_of_ble_eq_true rfl) ⟨rfl, rfl, Nat.zero_le _, Nat.zero_le _⟩ d_PR_append_18 (fun H locs hP hS => ?_)
        refine lv_if_ne (tgt := 26) hx hb d_PR_append_21 rfl (fun hc => ?_) (fun hc => ?_)
        · have h := if_m hc h
          refine lv_aload_n hx hb d_PR_append_26 rfl (lv_at hl 0 rfl) ?_
          refine gf_PR_9 hx hb hts hown hK hP d_PR_append_27 ?_
          refine lv_aload_n hx hb d_PR_append_30 rfl (lv_at hl 0 rfl) ?_
          refine gf_PR_19 hx hb hts hown hK hP d_PR_append_31 ?_
          refine lv_iload_n hx hb d_PR_append_34 rfl (lv_at hl 1 rfl) ?_
          obtain ⟨b27, h⟩ := ck_e h
          obtain ⟨M28, eM28, h⟩ := nx_e h
          refine m_ast hx hb hK hJ hP hS ar_PR_ops b27 eM28 d_PR_append_35 (fun H locs hP hS => ?_)
          refine lv_aload_n hx hb d_PR_append_36 rfl (lv_at hl 0 rfl) ?_
          refine gf_PR_13 hx hb hts hown hK hP d_PR_append_37 ?_
          refine lv_aload_n hx hb d_PR_append_40 rfl (lv_at hl 0 rfl) ?_
          refine gf_PR_19 hx hb hts hown hK hP d_PR_append_41 ?_
          refine lv_iload_n hx hb d_PR_append_44 rfl (lv_at hl 2 rfl) ?_
          obtain ⟨b29, h⟩ := ck_e h
          obtain ⟨M30, eM30, h⟩ := nx_e h
          refine m_ast hx hb hK hJ hP hS ar_PR_as b29 eM30 d_PR_append_45 (fun H locs hP hS => ?_)
          refine lv_aload_n hx hb d_PR_append_46 rfl (lv_at hl 0 rfl) ?_
          refine gf_PR_16 hx hb hts hown hK hP d_PR_append_47 ?_
          refine lv_aload_n hx hb d_PR_append_50 rfl (lv_at hl 0 rfl) ?_
          refine gf_PR_19 hx hb hts hown hK hP d_PR_append_51 ?_
          refine lv_iload_n hx hb d_PR_append_54 rfl (lv_at hl 3 rfl) ?_
          obtain ⟨b31, h⟩ := ck_e h
          obtain ⟨M32, eM32, h⟩ := nx_e h
          refine m_ast hx hb hK hJ hP hS ar_PR_bs b31 eM32 d_PR_append_55 (fun H locs hP hS => ?_)
          refine lv_aload_n hx hb d_PR_append_56 rfl (lv_at hl 0 rfl) ?_
          refine lv_dup hx hb d_PR_append_57 rfl ?_
          refine gf_PR_19 hx hb hts hown hK hP d_PR_append_58 ?_
          refine lv_iconst (v := (1 : Int32)) hx hb d_PR_append_61 (by decide) ?_
          refine lv_iadd hx hb d_PR_append_62 ?_
          obtain ⟨M33, eM33, h⟩ := nx_e h
          refine pf_PR_19 hx hb hts hown hK hJ hP hS eM33 d_PR_append_63 (fun H locs hP hS => ?_)
          refine lv_iconst (v := (1 : Int32)) hx hb d_PR_append_66 (by decide) ?_
          obtain rfl := Option.some.inj h
          exact hret (by decide) d_PR_append_67 g hP hS
        · have h := if_p hc h
          refine lv_iconst (v := (0 : Int32)) hx hb d_PR_append_24 (by decide) ?_
          obtain rfl := Option.some.inj h
          exact hret (by decide) d_PR_append_25 g hP hS
  rw [eH] at key
  exact key
theorem d_PR_has_0 : decode b_PR_has 0 = .ok (.iload_n 1, 1) := by decide +kernel
theorem d_PR_has_1 : decode b_PR_has 1 = .ok (.ifCond .lt 15, 3) := by decide +kernel
theorem d_PR_has_4 : decode b_PR_has 4 = .ok (.iload_n 1, 1) := by decide +kernel
theorem d_PR_has_5 : decode b_PR_has 5 = .ok (.aload_n 0, 1) := by decide +kernel
theorem d_PR_has_6 : decode b_PR_has 6 = .ok (.getfield 19, 3) := by decide +kernel
theorem d_PR_has_9 : decode b_PR_has 9 = .ok (.if_icmp .ge 7, 3) := by decide +kernel
theorem d_PR_has_12 : decode b_PR_has 12 = .ok (.iconst 1, 1) := by decide +kernel
theorem d_PR_has_13 : decode b_PR_has 13 = .ok (.goto 4, 3) := by decide +kernel
theorem d_PR_has_16 : decode b_PR_has 16 = .ok (.iconst 0, 1) := by decide +kernel
theorem d_PR_has_17 : decode b_PR_has 17 = .ok (.ireturn, 1) := by decide +kernel
noncomputable def s_PR_has (a1 : Int32) (M : Mem) : Option (Int32 × Mem) :=
  if a1 < 0 then (some ((0 : Int32), M)) else (if (M 1 3) ≤ a1 then (some ((0 : Int32), M)) else (some ((1 : Int32), M)))
set_option maxHeartbeats 4000000 in
set_option maxRecDepth 100000 in
theorem c_PR_has (l : Launch) (x : Cx) (hJ : Inj x) (a1 : Int32) {M : Mem} {out : Int32 × Mem} (h : s_PR_has a1 M = some out) : Ci l x y_PR_has (Cond.code y_PR_has b_PR_has 2 (some .boolean) :: tb) r_PR_has [.ref (x.2.1 1), .int a1] M out := by
  refine ofCz (cc := b_PR_has) (maxL := 2) (by decide) rfl (rfl) (Nat.le_of_ble_eq_true rfl) ?_
  intro p e s m args below meth c Q G0 ls g hx hb hml hown hts hK hZ hP hS hl hret
  have hown : s.vm.findClass R_PR = some m.cls := hown
  have hl : lv_has ls 2 [(0, .ref (x.2.1 1)), (1, .int a1)] := hl
  obtain ⟨H, eH⟩ : ∃ z, z = s.heap := ⟨_, rfl⟩
  obtain ⟨locs, eL⟩ : ∃ z, z = ([] : List Loc) := ⟨_, rfl⟩
  rw [← eH] at hP
  have hS : va_S (A0 x) s.heap H locs := by rw [eH, eL]; exact hS
  rw [← eL]
  have key : W p l e r_PR_has s m args below meth c H locs 0 0 Q (F0 m 0 ls []) := by
    clear eH eL
    unfold s_PR_has at h
    refine lv_iload_n hx hb d_PR_has_0 rfl (lv_at hl 1 rfl) ?_
    refine lv_if_lt (tgt := 16) hx hb d_PR_has_1 rfl (fun hc => ?_) (fun hc => ?_)
    · have h := if_p hc h
      refine lv_iconst (v := (0 : Int32)) hx hb d_PR_has_16 (by decide) ?_
      obtain rfl := Option.some.inj h
      exact hret (by decide) d_PR_has_17 g hP hS
    · have h := if_m hc h
      refine lv_iload_n hx hb d_PR_has_4 rfl (lv_at hl 1 rfl) ?_
      refine lv_aload_n hx hb d_PR_has_5 rfl (lv_at hl 0 rfl) ?_
      refine gf_PR_19 hx hb hts hown hK hP d_PR_has_6 ?_
      refine lv_icmp_ge (tgt := 16) hx hb d_PR_has_9 rfl (fun hc => ?_) (fun hc => ?_)
      · have h := if_p hc h
        refine lv_iconst (v := (0 : Int32)) hx hb d_PR_has_16 (by decide) ?_
        obtain rfl := Option.some.inj h
        exact hret (by decide) d_PR_has_17 g hP hS
      · have h := if_m hc h
        refine lv_iconst (v := (1 : Int32)) hx hb d_PR_has_12 (by decide) ?_
        refine lv_goto (tgt := 17) hx hb d_PR_has_13 rfl ?_
        obtain rfl := Option.some.inj h
        exact hret (by decide) d_PR_has_17 g hP hS
  rw [eH] at key
  exact key
theorem d_PR_isJump_0 : decode b_PR_isJump 0 = .ok (.iload_n 0, 1) := by decide +kernel
theorem d_PR_isJump_1 : decode b_PR_isJump 1 = .ok (.bipush 6, 2) := by decide +kernel
theorem d_PR_isJump_3 : decode b_PR_isJump 3 = .ok (.if_icmp .lt 13, 3) := by decide +kernel
theorem d_PR_isJump_6 : decode b_PR_isJump 6 = .ok (.iload_n 0, 1) := by decide +kernel
theorem d_PR_isJump_7 : decode b_PR_isJump 7 = .ok (.bipush 10, 2) := by decide +kernel
theorem d_PR_isJump_9 : decode b_PR_isJump 9 = .ok (.if_icmp .gt 7, 3) := by decide +kernel
theorem d_PR_isJump_12 : decode b_PR_isJump 12 = .ok (.iconst 1, 1) := by decide +kernel
theorem d_PR_isJump_13 : decode b_PR_isJump 13 = .ok (.goto 4, 3) := by decide +kernel
theorem d_PR_isJump_16 : decode b_PR_isJump 16 = .ok (.iconst 0, 1) := by decide +kernel
theorem d_PR_isJump_17 : decode b_PR_isJump 17 = .ok (.ireturn, 1) := by decide +kernel
noncomputable def s_PR_isJump (a0 : Int32) (M : Mem) : Option (Int32 × Mem) :=
  if a0 < (6 : Int32) then (some ((0 : Int32), M)) else (if (10 : Int32) < a0 then (some ((0 : Int32), M)) else (some ((1 : Int32), M)))
set_option maxHeartbeats 4000000 in
set_option maxRecDepth 100000 in
theorem c_PR_isJump (l : Launch) (x : Cx) (hJ : Inj x) (a0 : Int32) {M : Mem} {out : Int32 × Mem} (h : s_PR_isJump a0 M = some out) : Ci l x y_PR_isJump (Cond.code y_PR_isJump b_PR_isJump 1 (some .boolean) :: tb) r_PR_isJump [.int a0] M out := by
  refine ofCz (cc := b_PR_isJump) (maxL := 1) (by decide) rfl (rfl) (Nat.le_of_ble_eq_true rfl) ?_
  intro p e s m args below meth c Q G0 ls g hx hb hml hown hts hK hZ hP hS hl hret
  have hown : s.vm.findClass R_PR = some m.cls := hown
  have hl : lv_has ls 1 [(0, .int a0)] := hl
  obtain ⟨H, eH⟩ : ∃ z, z = s.heap := ⟨_, rfl⟩
  obtain ⟨locs, eL⟩ : ∃ z, z = ([] : List Loc) := ⟨_, rfl⟩
  rw [← eH] at hP
  have hS : va_S (A0 x) s.heap H locs := by rw [eH, eL]; exact hS
  rw [← eL]
  have key : W p l e r_PR_isJump s m args below meth c H locs 0 0 Q (F0 m 0 ls []) := by
    clear eH eL
    unfold s_PR_isJump at h
    refine lv_iload_n hx hb d_PR_isJump_0 rfl (lv_at hl 0 rfl) ?_
    refine lv_bipush (v := (6 : Int32)) hx hb d_PR_isJump_1 (by decide) ?_
    refine lv_icmp_lt (tgt := 16) hx hb d_PR_isJump_3 rfl (fun hc => ?_) (fun hc => ?_)
    · have h := if_p hc h
      refine lv_iconst (v := (0 : Int32)) hx hb d_PR_isJump_16 (by decide) ?_
      obtain rfl := Option.some.inj h
      exact hret (by decide) d_PR_isJump_17 g hP hS
    · have h := if_m hc h
      refine lv_iload_n hx hb d_PR_isJump_6 rfl (lv_at hl 0 rfl) ?_
      refine lv_bipush (v := (10 : Int32)) hx hb d_PR_isJump_7 (by decide) ?_
      refine lv_icmp_gt (tgt := 16) hx hb d_PR_isJump_9 rfl (fun hc => ?_) (fun hc => ?_)
      · have h := if_p hc h
        refine lv_iconst (v := (0 : Int32)) hx hb d_PR_isJump_16 (by decide) ?_
        obtain rfl := Option.some.inj h
        exact hret (by decide) d_PR_isJump_17 g hP hS
      · have h := if_m hc h
        refine lv_iconst (v := (1 : Int32)) hx hb d_PR_isJump_12 (by decide) ?_
        refine lv_goto (tgt := 17) hx hb d_PR_isJump_13 rfl ?_
        obtain rfl := Option.some.inj h
        exact hret (by decide) d_PR_isJump_17 g hP hS
  rw [eH] at key
  exact key
theorem d_EN_cost_0 : decode b_EN_cost 0 = .ok (.aload_n 0, 1) := by decide +kernel
theorem d_EN_cost_1 : decode b_EN_cost 1 = .ok (.getfield 16, 3) := by decide +kernel
theorem d_EN_cost_4 : decode b_EN_cost 4 = .ok (.iconst 1, 1) := by decide +kernel
theorem d_EN_cost_5 : decode b_EN_cost 5 = .ok (.aload_n 0, 1) := by decide +kernel
theorem d_EN_cost_6 : decode b_EN_cost 6 = .ok (.getfield 10, 3) := by decide +kernel
theorem d_EN_cost_9 : decode b_EN_cost 9 = .ok (.getfield 20, 3) := by decide +kernel
theorem d_EN_cost_12 : decode b_EN_cost 12 = .ok (.iadd, 1) := by decide +kernel
theorem d_EN_cost_13 : decode b_EN_cost 13 = .ok (.imul, 1) := by decide +kernel
theorem d_EN_cost_14 : decode b_EN_cost 14 = .ok (.ireturn, 1) := by decide +kernel
noncomputable def s_EN_cost (j0 : Nat) (M : Mem) : Option (Int32 × Mem) :=
  some ((M j0 1) * ((1 : Int32) + (M (2 * j0 - 186) 1)), M)
set_option maxHeartbeats 4000000 in
set_option maxRecDepth 100000 in
theorem c_EN_cost (l : Launch) (x : Cx) (hJ : Inj x) (j0 : Nat) (k0 : kd_en j0) {M : Mem} {out : Int32 × Mem} (h : s_EN_cost j0 M = some out) : Ci l x y_EN_cost (Cond.code y_EN_cost b_EN_cost 1 (some .int) :: tb) r_EN_cost [.ref (x.2.1 j0)] M out := by
  refine ofCi (cc := b_EN_cost) (maxL := 1) (by decide) rfl (rfl) (Nat.le_of_ble_eq_true rfl) ?_
  intro p e s m args below meth c Q G0 ls g hx hb hml hown hts hK hZ hP hS hl hret
  have hown : s.vm.findClass R_EN = some m.cls := hown
  have hl : lv_has ls 1 [(0, .ref (x.2.1 j0))] := hl
  obtain ⟨H, eH⟩ : ∃ z, z = s.heap := ⟨_, rfl⟩
  obtain ⟨locs, eL⟩ : ∃ z, z = ([] : List Loc) := ⟨_, rfl⟩
  rw [← eH] at hP
  have hS : va_S (A0 x) s.heap H locs := by rw [eH, eL]; exact hS
  rw [← eL]
  have key : W p l e r_EN_cost s m args below meth c H locs 0 0 Q (F0 m 0 ls []) := by
    clear eH eL
    unfold s_EN_cost at h
    refine lv_aload_n hx hb d_EN_cost_0 rfl (lv_at hl 0 rfl) ?_
    refine gf_EN_16 hx hb hts hown hK hP k0 d_EN_cost_1 ?_
    refine lv_iconst (v := (1 : Int32)) hx hb d_EN_cost_4 (by decide) ?_
    refine lv_aload_n hx hb d_EN_cost_5 rfl (lv_at hl 0 rfl) ?_
    refine gf_EN_10 hx hb hts hown hK hP k0 d_EN_cost_6 ?_
    refine gf_EN_20 hx hb hts hown hK hP (kd_EN_input k0) d_EN_cost_9 ?_
    refine lv_iadd hx hb d_EN_cost_12 ?_
    refine lv_imul hx hb d_EN_cost_13 ?_
    obtain rfl := Option.some.inj h
    exact hret d_EN_cost_14 g hP hS
  rw [eH] at key
  exact key
theorem d_GE_draw_0 : decode b_GE_draw 0 = .ok (.aload_n 0, 1) := by decide +kernel
theorem d_GE_draw_1 : decode b_GE_draw 1 = .ok (.dup, 1) := by decide +kernel
theorem d_GE_draw_2 : decode b_GE_draw 2 = .ok (.getfield 7, 3) := by decide +kernel
theorem d_GE_draw_5 : decode b_GE_draw 5 = .ok (.aload_n 0, 1) := by decide +kernel
theorem d_GE_draw_6 : decode b_GE_draw 6 = .ok (.getfield 7, 3) := by decide +kernel
theorem d_GE_draw_9 : decode b_GE_draw 9 = .ok (.bipush 13, 2) := by decide +kernel
theorem d_GE_draw_11 : decode b_GE_draw 11 = .ok (.ishl, 1) := by decide +kernel
theorem d_GE_draw_12 : decode b_GE_draw 12 = .ok (.ixor, 1) := by decide +kernel
theorem d_GE_draw_13 : decode b_GE_draw 13 = .ok (.putfield 7, 3) := by decide +kernel
theorem d_GE_draw_16 : decode b_GE_draw 16 = .ok (.aload_n 0, 1) := by decide +kernel
theorem d_GE_draw_17 : decode b_GE_draw 17 = .ok (.dup, 1) := by decide +kernel
theorem d_GE_draw_18 : decode b_GE_draw 18 = .ok (.getfield 7, 3) := by decide +kernel
theorem d_GE_draw_21 : decode b_GE_draw 21 = .ok (.aload_n 0, 1) := by decide +kernel
theorem d_GE_draw_22 : decode b_GE_draw 22 = .ok (.getfield 7, 3) := by decide +kernel
theorem d_GE_draw_25 : decode b_GE_draw 25 = .ok (.bipush 17, 2) := by decide +kernel
theorem d_GE_draw_27 : decode b_GE_draw 27 = .ok (.iushr, 1) := by decide +kernel
theorem d_GE_draw_28 : decode b_GE_draw 28 = .ok (.ixor, 1) := by decide +kernel
theorem d_GE_draw_29 : decode b_GE_draw 29 = .ok (.putfield 7, 3) := by decide +kernel
theorem d_GE_draw_32 : decode b_GE_draw 32 = .ok (.aload_n 0, 1) := by decide +kernel
theorem d_GE_draw_33 : decode b_GE_draw 33 = .ok (.dup, 1) := by decide +kernel
theorem d_GE_draw_34 : decode b_GE_draw 34 = .ok (.getfield 7, 3) := by decide +kernel
theorem d_GE_draw_37 : decode b_GE_draw 37 = .ok (.aload_n 0, 1) := by decide +kernel
theorem d_GE_draw_38 : decode b_GE_draw 38 = .ok (.getfield 7, 3) := by decide +kernel
theorem d_GE_draw_41 : decode b_GE_draw 41 = .ok (.iconst 5, 1) := by decide +kernel
theorem d_GE_draw_42 : decode b_GE_draw 42 = .ok (.ishl, 1) := by decide +kernel
theorem d_GE_draw_43 : decode b_GE_draw 43 = .ok (.ixor, 1) := by decide +kernel
theorem d_GE_draw_44 : decode b_GE_draw 44 = .ok (.putfield 7, 3) := by decide +kernel
theorem d_GE_draw_47 : decode b_GE_draw 47 = .ok (.iload_n 1, 1) := by decide +kernel
theorem d_GE_draw_48 : decode b_GE_draw 48 = .ok (.ifCond .le 15, 3) := by decide +kernel
theorem d_GE_draw_51 : decode b_GE_draw 51 = .ok (.aload_n 0, 1) := by decide +kernel
theorem d_GE_draw_52 : decode b_GE_draw 52 = .ok (.getfield 7, 3) := by decide +kernel
theorem d_GE_draw_55 : decode b_GE_draw 55 = .ok (.ldc 13, 2) := by decide +kernel
theorem d_GE_draw_57 : decode b_GE_draw 57 = .ok (.iand, 1) := by decide +kernel
theorem d_GE_draw_58 : decode b_GE_draw 58 = .ok (.iload_n 1, 1) := by decide +kernel
theorem d_GE_draw_59 : decode b_GE_draw 59 = .ok (.irem, 1) := by decide +kernel
theorem d_GE_draw_60 : decode b_GE_draw 60 = .ok (.goto 4, 3) := by decide +kernel
theorem d_GE_draw_63 : decode b_GE_draw 63 = .ok (.iconst 0, 1) := by decide +kernel
theorem d_GE_draw_64 : decode b_GE_draw 64 = .ok (.ireturn, 1) := by decide +kernel
noncomputable def s_GE_draw (a1 : Int32) (M : Mem) : Option (Int32 × Mem) :=
  nx (st M 12 0 ((M 12 0) ^^^ ((M 12 0) <<< ((13 : Int32) &&& 31)))) (fun M21 => nx (st M21 12 0 ((M21 12 0) ^^^ (((M21 12 0).toUInt32 >>> ((17 : Int32).toUInt32 &&& Int32.toUInt32 31)).toInt32))) (fun M22 => nx (st M22 12 0 ((M22 12 0) ^^^ ((M22 12 0) <<< ((5 : Int32) &&& 31)))) (fun M23 => if a1 ≤ 0 then (some ((0 : Int32), M23)) else (cz a1 (some (((M23 12 0) &&& (2147483647 : Int32)) - ((M23 12 0) &&& (2147483647 : Int32)) / a1 * a1, M23))))))
set_option maxHeartbeats 4000000 in
set_option maxRecDepth 100000 in
theorem c_GE_draw (l : Launch) (x : Cx) (hJ : Inj x) (a1 : Int32) {M : Mem} {out : Int32 × Mem} (h : s_GE_draw a1 M = some out) : Ci l x y_GE_draw (Cond.code y_GE_draw b_GE_draw 2 (some .int) :: tb) r_GE_draw [.ref (x.2.1 12), .int a1] M out := by
  refine ofCi (cc := b_GE_draw) (maxL := 2) (by decide) rfl (rfl) (Nat.le_of_ble_eq_true rfl) ?_
  intro p e s m args below meth c Q G0 ls g hx hb hml hown hts hK hZ hP hS hl hret
  have hown : s.vm.findClass R_GE = some m.cls := hown
  have hl : lv_has ls 2 [(0, .ref (x.2.1 12)), (1, .int a1)] := hl
  obtain ⟨H, eH⟩ : ∃ z, z = s.heap := ⟨_, rfl⟩
  obtain ⟨locs, eL⟩ : ∃ z, z = ([] : List Loc) := ⟨_, rfl⟩
  rw [← eH] at hP
  have hS : va_S (A0 x) s.heap H locs := by rw [eH, eL]; exact hS
  rw [← eL]
  have key : W p l e r_GE_draw s m args below meth c H locs 0 0 Q (F0 m 0 ls []) := by
    clear eH eL
    unfold s_GE_draw at h
    refine lv_aload_n hx hb d_GE_draw_0 rfl (lv_at hl 0 rfl) ?_
    refine lv_dup hx hb d_GE_draw_1 rfl ?_
    refine gf_GE_7 hx hb hts hown hK hP d_GE_draw_2 ?_
    refine lv_aload_n hx hb d_GE_draw_5 rfl (lv_at hl 0 rfl) ?_
    refine gf_GE_7 hx hb hts hown hK hP d_GE_draw_6 ?_
    refine lv_bipush (v := (13 : Int32)) hx hb d_GE_draw_9 (by decide) ?_
    refine lv_ishl hx hb d_GE_draw_11 ?_
    refine lv_ixor hx hb d_GE_draw_12 ?_
    obtain ⟨M21, eM21, h⟩ := nx_e h
    refine pf_GE_7 hx hb hts hown hK hJ hP hS eM21 d_GE_draw_13 (fun H locs hP hS => ?_)
    refine lv_aload_n hx hb d_GE_draw_16 rfl (lv_at hl 0 rfl) ?_
    refine lv_dup hx hb d_GE_draw_17 rfl ?_
    refine gf_GE_7 hx hb hts hown hK hP d_GE_draw_18 ?_
    refine lv_aload_n hx hb d_GE_draw_21 rfl (lv_at hl 0 rfl) ?_
    refine gf_GE_7 hx hb hts hown hK hP d_GE_draw_22 ?_
    refine lv_bipush (v := (17 : Int32)) hx hb d_GE_draw_25 (by decide) ?_
    refine lv_iushr hx hb d_GE_draw_27 rfl ?_
    refine lv_ixor hx hb d_GE_draw_28 ?_
    obtain ⟨M22, eM22, h⟩ := nx_e h
    refine pf_GE_7 hx hb hts hown hK hJ hP hS eM22 d_GE_draw_29 (fun H locs hP hS => ?_)
    refine lv_aload_n hx hb d_GE_draw_32 rfl (lv_at hl 0 rfl) ?_
    refine lv_dup hx hb d_GE_draw_33 rfl ?_
    refine gf_GE_7 hx hb hts hown hK hP d_GE_draw_34 ?_
    refine lv_aload_n hx hb d_GE_draw_37 rfl (lv_at hl 0 rfl) ?_
    refine gf_GE_7 hx hb hts hown hK hP d_GE_draw_38 ?_
    refine lv_iconst (v := (5 : Int32)) hx hb d_GE_draw_41 (by decide) ?_
    refine lv_ishl hx hb d_GE_draw_42 ?_
    refine lv_ixor hx hb d_GE_draw_43 ?_
    obtain ⟨M23, eM23, h⟩ := nx_e h
    refine pf_GE_7 hx hb hts hown hK hJ hP hS eM23 d_GE_draw_44 (fun H locs hP hS => ?_)
    refine lv_iload_n hx hb d_GE_draw_47 rfl (lv_at hl 1 rfl) ?_
    refine lv_if_le (tgt := 63) hx hb d_GE_draw_48 rfl (fun hc => ?_) (fun hc => ?_)
    · have h := if_p hc h
      refine lv_iconst (v := (0 : Int32)) hx hb d_GE_draw_63 (by decide) ?_
      obtain rfl := Option.some.inj h
      exact hret d_GE_draw_64 g hP hS
    · have h := if_m hc h
      refine lv_aload_n hx hb d_GE_draw_51 rfl (lv_at hl 0 rfl) ?_
      refine gf_GE_7 hx hb hts hown hK hP d_GE_draw_52 ?_
      refine lv_ldc hx hb hown (hts.1 _ q_254) d_GE_draw_55 ?_
      refine lv_iand hx hb d_GE_draw_57 ?_
      refine lv_iload_n hx hb d_GE_draw_58 rfl (lv_at hl 1 rfl) ?_
      obtain ⟨z24, h⟩ := cz_e h
      refine lv_irem hx hb d_GE_draw_59 z24 ?_
      refine lv_goto (tgt := 64) hx hb d_GE_draw_60 rfl ?_
      obtain rfl := Option.some.inj h
      exact hret d_GE_draw_64 g hP hS
  rw [eH] at key
  exact key
