theorem d_MO_within_0 : decode b_MO_within 0 = .ok (.iload_n 0, 1) := by decide +kernel
theorem d_MO_within_1 : decode b_MO_within 1 = .ok (.ifCond .lt 12, 3) := by decide +kernel
theorem d_MO_within_4 : decode b_MO_within 4 = .ok (.iload_n 0, 1) := by decide +kernel
theorem d_MO_within_5 : decode b_MO_within 5 = .ok (.iload_n 1, 1) := by decide +kernel
theorem d_MO_within_6 : decode b_MO_within 6 = .ok (.if_icmp .ge 7, 3) := by decide +kernel
theorem d_MO_within_9 : decode b_MO_within 9 = .ok (.iconst 1, 1) := by decide +kernel
theorem d_MO_within_10 : decode b_MO_within 10 = .ok (.goto 4, 3) := by decide +kernel
theorem d_MO_within_13 : decode b_MO_within 13 = .ok (.iconst 0, 1) := by decide +kernel
theorem d_MO_within_14 : decode b_MO_within 14 = .ok (.ireturn, 1) := by decide +kernel
noncomputable def s_MO_within (a0 : Int32) (a1 : Int32) (M : Mem) : Option (Int32 × Mem) :=
  if a0 < 0 then (some ((0 : Int32), M)) else (if a1 ≤ a0 then (some ((0 : Int32), M)) else (some ((1 : Int32), M)))
set_option maxHeartbeats 4000000 in
set_option maxRecDepth 100000 in
theorem c_MO_within (l : Launch) (x : Cx) (hJ : Inj x) (a0 : Int32) (a1 : Int32) {M : Mem} {out : Int32 × Mem} (h : s_MO_within a0 a1 M = some out) : Ci l x y_MO_within (Cond.code y_MO_within b_MO_within 2 (some .boolean) :: tb) r_MO_within [.int a0, .int a1] M out := by
  refine ofCz (cc := b_MO_within) (maxL := 2) (by decide) rfl (rfl) (Nat.le_of_ble_eq_true rfl) ?_
  intro p e s m args below meth c Q G0 ls g hx hb hml hown hts hK hZ hP hS hl hret
  have hown : s.vm.findClass R_MO = some m.cls := hown
  have hl : lv_has ls 2 [(0, .int a0), (1, .int a1)] := hl
  obtain ⟨H, eH⟩ : ∃ z, z = s.heap := ⟨_, rfl⟩
  obtain ⟨locs, eL⟩ : ∃ z, z = ([] : List Loc) := ⟨_, rfl⟩
  rw [← eH] at hP
  have hS : va_S (A0 x) s.heap H locs := by rw [eH, eL]; exact hS
  rw [← eL]
  have key : W p l e r_MO_within s m args below meth c H locs 0 0 Q (F0 m 0 ls []) := by
    clear eH eL
    unfold s_MO_within at h
    refine lv_iload_n hx hb d_MO_within_0 rfl (lv_at hl 0 rfl) ?_
    refine lv_if_lt (tgt := 13) hx hb d_MO_within_1 rfl (fun hc => ?_) (fun hc => ?_)
    · have h := if_p hc h
      refine lv_iconst (v := (0 : Int32)) hx hb d_MO_within_13 (by decide) ?_
      obtain rfl := Option.some.inj h
      exact hret (by decide) d_MO_within_14 g hP hS
    · have h := if_m hc h
      refine lv_iload_n hx hb d_MO_within_4 rfl (lv_at hl 0 rfl) ?_
      refine lv_iload_n hx hb d_MO_within_5 rfl (lv_at hl 1 rfl) ?_
      refine lv_icmp_ge (tgt := 13) hx hb d_MO_within_6 rfl (fun hc => ?_) (fun hc => ?_)
      · have h := if_p hc h
        refine lv_iconst (v := (0 : Int32)) hx hb d_MO_within_13 (by decide) ?_
        obtain rfl := Option.some.inj h
        exact hret (by decide) d_MO_within_14 g hP hS
      · have h := if_m hc h
        refine lv_iconst (v := (1 : Int32)) hx hb d_MO_within_9 (by decide) ?_
        refine lv_goto (tgt := 14) hx hb d_MO_within_10 rfl ?_
        obtain rfl := Option.some.inj h
        exact hret (by decide) d_MO_within_14 g hP hS
  rw [eH] at key
  exact key
theorem d_MO_fits_0 : decode b_MO_fits 0 = .ok (.iload_n 0, 1) := by decide +kernel
theorem d_MO_fits_1 : decode b_MO_fits 1 = .ok (.bipush 6, 2) := by decide +kernel
theorem d_MO_fits_3 : decode b_MO_fits 3 = .ok (.if_icmp .lt 16, 3) := by decide +kernel
theorem d_MO_fits_6 : decode b_MO_fits 6 = .ok (.iload_n 0, 1) := by decide +kernel
theorem d_MO_fits_7 : decode b_MO_fits 7 = .ok (.bipush 9, 2) := by decide +kernel
theorem d_MO_fits_9 : decode b_MO_fits 9 = .ok (.if_icmp .gt 10, 3) := by decide +kernel
theorem d_MO_fits_12 : decode b_MO_fits 12 = .ok (.iload_n 1, 1) := by decide +kernel
theorem d_MO_fits_13 : decode b_MO_fits 13 = .ok (.bipush 24, 2) := by decide +kernel
theorem d_MO_fits_15 : decode b_MO_fits 15 = .ok (.invokestatic 89, 3) := by decide +kernel
theorem d_MO_fits_18 : decode b_MO_fits 18 = .ok (.ireturn, 1) := by decide +kernel
theorem d_MO_fits_19 : decode b_MO_fits 19 = .ok (.iload_n 0, 1) := by decide +kernel
theorem d_MO_fits_20 : decode b_MO_fits 20 = .ok (.iconst 1, 1) := by decide +kernel
theorem d_MO_fits_21 : decode b_MO_fits 21 = .ok (.if_icmp .eq 9, 3) := by decide +kernel
theorem d_MO_fits_24 : decode b_MO_fits 24 = .ok (.iload_n 0, 1) := by decide +kernel
theorem d_MO_fits_25 : decode b_MO_fits 25 = .ok (.bipush 12, 2) := by decide +kernel
theorem d_MO_fits_27 : decode b_MO_fits 27 = .ok (.if_icmp .ne 5, 3) := by decide +kernel
theorem d_MO_fits_30 : decode b_MO_fits 30 = .ok (.iconst 1, 1) := by decide +kernel
theorem d_MO_fits_31 : decode b_MO_fits 31 = .ok (.ireturn, 1) := by decide +kernel
theorem d_MO_fits_32 : decode b_MO_fits 32 = .ok (.iload_n 0, 1) := by decide +kernel
theorem d_MO_fits_33 : decode b_MO_fits 33 = .ok (.ifCond .eq 15, 3) := by decide +kernel
theorem d_MO_fits_36 : decode b_MO_fits 36 = .ok (.iload_n 0, 1) := by decide +kernel
theorem d_MO_fits_37 : decode b_MO_fits 37 = .ok (.bipush 10, 2) := by decide +kernel
theorem d_MO_fits_39 : decode b_MO_fits 39 = .ok (.if_icmp .eq 9, 3) := by decide +kernel
theorem d_MO_fits_42 : decode b_MO_fits 42 = .ok (.iload_n 0, 1) := by decide +kernel
theorem d_MO_fits_43 : decode b_MO_fits 43 = .ok (.bipush 15, 2) := by decide +kernel
theorem d_MO_fits_45 : decode b_MO_fits 45 = .ok (.if_icmp .ne 15, 3) := by decide +kernel
theorem d_MO_fits_48 : decode b_MO_fits 48 = .ok (.iload_n 1, 1) := by decide +kernel
theorem d_MO_fits_49 : decode b_MO_fits 49 = .ok (.ifCond .ne 7, 3) := by decide +kernel
theorem d_MO_fits_52 : decode b_MO_fits 52 = .ok (.iconst 1, 1) := by decide +kernel
theorem d_MO_fits_53 : decode b_MO_fits 53 = .ok (.goto 12, 3) := by decide +kernel
theorem d_MO_fits_56 : decode b_MO_fits 56 = .ok (.iconst 0, 1) := by decide +kernel
theorem d_MO_fits_57 : decode b_MO_fits 57 = .ok (.goto 8, 3) := by decide +kernel
theorem d_MO_fits_60 : decode b_MO_fits 60 = .ok (.iload_n 1, 1) := by decide +kernel
theorem d_MO_fits_61 : decode b_MO_fits 61 = .ok (.iconst 4, 1) := by decide +kernel
theorem d_MO_fits_62 : decode b_MO_fits 62 = .ok (.invokestatic 89, 3) := by decide +kernel
theorem d_MO_fits_65 : decode b_MO_fits 65 = .ok (.ireturn, 1) := by decide +kernel
noncomputable def j_MO_fits_48 (a21 : Int32) (M22 : Mem) : Option (Int32 × Mem) :=
  if a21 = 0 then (some ((1 : Int32), M22)) else (some ((0 : Int32), M22))
noncomputable def j_MO_fits_19 (a23 : Int32) (a24 : Int32) (M25 : Mem) : Option (Int32 × Mem) :=
  if a23 = (1 : Int32) then (some ((1 : Int32), M25)) else (if a23 = (12 : Int32) then (some ((1 : Int32), M25)) else (if a23 = 0 then (j_MO_fits_48 a24 M25) else (if a23 = (10 : Int32) then (j_MO_fits_48 a24 M25) else (if a23 = (15 : Int32) then (j_MO_fits_48 a24 M25) else (bi (s_MO_within a24 (4 : Int32) M25) (fun r28 M26 => cb r28 (some (r28, M26))))))))
noncomputable def s_MO_fits (a0 : Int32) (a1 : Int32) (M : Mem) : Option (Int32 × Mem) :=
  if a0 < (6 : Int32) then (j_MO_fits_19 a0 a1 M) else (if (9 : Int32) < a0 then (j_MO_fits_19 a0 a1 M) else (bi (s_MO_within a1 (24 : Int32) M) (fun r32 M30 => cb r32 (some (r32, M30)))))
set_option maxHeartbeats 4000000 in
set_option maxRecDepth 100000 in
theorem c_MO_fits (l : Launch) (x : Cx) (hJ : Inj x) (a0 : Int32) (a1 : Int32) {M : Mem} {out : Int32 × Mem} (h : s_MO_fits a0 a1 M = some out) : Ci l x y_MO_fits (Cond.code y_MO_fits b_MO_fits 2 (some .boolean) :: tb) r_MO_fits [.int a0, .int a1] M out := by
  refine ofCz (cc := b_MO_fits) (maxL := 2) (by decide) rfl (rfl) (Nat.le_of_ble_eq_true rfl) ?_
  intro p e s m args below meth c Q G0 ls g hx hb hml hown hts hK hZ hP hS hl hret
  have hown : s.vm.findClass R_MO = some m.cls := hown
  have hl : lv_has ls 2 [(0, .int a0), (1, .int a1)] := hl
  obtain ⟨H, eH⟩ : ∃ z, z = s.heap := ⟨_, rfl⟩
  obtain ⟨locs, eL⟩ : ∃ z, z = ([] : List Loc) := ⟨_, rfl⟩
  rw [← eH] at hP
  have hS : va_S (A0 x) s.heap H locs := by rw [eH, eL]; exact hS
  rw [← eL]
  have key : W p l e r_MO_fits s m args below meth c H locs 0 0 Q (F0 m 0 ls []) := by
    clear eH eL
    unfold s_MO_fits at h
    have J48 : ∀ (a21 : Int32) (M22 : Mem)  (res : Int32 × Mem) (h : j_MO_fits_48 a21 M22 = some res) (g : G0 res) (H : Heap) (locs : List Loc) (ls : Array Slot) (hP : va_P x.1 vwCl (wld x M22) H) (hS : va_S (A0 x) s.heap H locs) (hl : lv_has ls 2 [(1, .int a21)]), W p l e r_MO_fits s m args below meth c H locs 0 0 Q (F0 m 48 ls []) := by
      intro a21 M22 res h g H locs ls hP hS hl
      unfold j_MO_fits_48 at h
      refine lv_iload_n hx hb d_MO_fits_48 rfl (lv_at hl 0 rfl) ?_
      refine lv_if_ne (tgt := 56) hx hb d_MO_fits_49 rfl (fun hc => ?_) (fun hc => ?_)
      · have h := if_m hc h
        refine lv_iconst (v := (0 : Int32)) hx hb d_MO_fits_56 (by decide) ?_
        refine lv_goto (tgt := 65) hx hb d_MO_fits_57 rfl ?_
        obtain rfl := Option.some.inj h
        exact hret (by decide) d_MO_fits_65 g hP hS
      · have h := if_p hc h
        refine lv_iconst (v := (1 : Int32)) hx hb d_MO_fits_52 (by decide) ?_
        refine lv_goto (tgt := 65) hx hb d_MO_fits_53 rfl ?_
        obtain rfl := Option.some.inj h
        exact hret (by decide) d_MO_fits_65 g hP hS
    have J19 : ∀ (a23 : Int32) (a24 : Int32) (M25 : Mem)  (res : Int32 × Mem) (h : j_MO_fits_19 a23 a24 M25 = some res) (g : G0 res) (H : Heap) (locs : List Loc) (ls : Array Slot) (hP : va_P x.1 vwCl (wld x M25) H) (hS : va_S (A0 x) s.heap H locs) (hl : lv_has ls 2 [(0, .int a23), (1, .int a24)]), W p l e r_MO_fits s m args below meth c H locs 0 0 Q (F0 m 19 ls []) := by
      intro a23 a24 M25 res h g H locs ls hP hS hl
      unfold j_MO_fits_19 at h
      refine lv_iload_n hx hb d_MO_fits_19 rfl (lv_at hl 0 rfl) ?_
      refine lv_iconst (v := (1 : Int32)) hx hb d_MO_fits_20 (by decide) ?_
      refine lv_icmp_eq (tgt := 30) hx hb d_MO_fits_21 rfl (fun hc => ?_) (fun hc => ?_)
      · have h := if_p hc h
        refine lv_iconst (v := (1 : Int32)) hx hb d_MO_fits_30 (by decide) ?_
        obtain rfl := Option.some.inj h
        exact hret (by decide) d_MO_fits_31 g hP hS
      · have h := if_m hc h
        refine lv_iload_n hx hb d_MO_fits_24 rfl (lv_at hl 0 rfl) ?_
        refine lv_bipush (v := (12 : Int32)) hx hb d_MO_fits_25 (by decide) ?_
        refine lv_icmp_ne (tgt := 32) hx hb d_MO_fits_27 rfl (fun hc => ?_) (fun hc => ?_)
        · have h := if_m hc h
          refine lv_iload_n hx hb d_MO_fits_32 rfl (lv_at hl 0 rfl) ?_
          refine lv_if_eq (tgt := 48) hx hb d_MO_fits_33 rfl (fun hc => ?_) (fun hc => ?_)
          · have h := if_p hc h
            exact J48 a24 M25 _ h g H locs ls hP hS (lv_sub hl [1] rfl)
          · have h := if_m hc h
            refine lv_iload_n hx hb d_MO_fits_36 rfl (lv_at hl 0 rfl) ?_
            refine lv_bipush (v := (10 : Int32)) hx hb d_MO_fits_37 (by decide) ?_
            refine lv_icmp_eq (tgt := 48) hx hb d_MO_fits_39 rfl (fun hc => ?_) (fun hc => ?_)
            · have h := if_p hc h
              exact J48 a24 M25 _ h g H locs ls hP hS (lv_sub hl [1] rfl)
            · have h := if_m hc h
              refine lv_iload_n hx hb d_MO_fits_42 rfl (lv_at hl 0 rfl) ?_
              refine lv_bipush (v := (15 : Int32)) hx hb d_MO_fits_43 (by decide) ?_
              refine lv_icmp_ne (tgt := 60) hx hb d_MO_fits_45 rfl (fun hc => ?_) (fun hc => ?_)
              · have h := if_m hc h
                refine lv_iload_n hx hb d_MO_fits_60 rfl (lv_at hl 1 rfl) ?_
                refine lv_iconst (v := (4 : Int32)) hx hb d_MO_fits_61 (by decide) ?_
                obtain ⟨r28, M26, c27, h⟩ := bi_e h
                refine cl_MO_89 (rest := []) (R := r_MO_fits) (c_MO_within l x hJ a24 (4 : Int32) c27) hx hb hml hts hown hK hZ hP hS hl.1 (Nat.le_of_ble_eq_true rfl) (Nat.le_of_ble_eq_true rfl) (Nat.le_of_ble_eq_true rfl) ⟨rfl, rfl, Nat.zero_le _, Nat.zero_le _⟩ d_MO_fits_62 (fun H locs hP hS => ?_)
                obtain ⟨b29, h⟩ := cb_e h
                obtain rfl := Option.some.inj h
                exact hret b29 d_MO_fits_65 g hP hS
              · have h := if_p hc h
                exact J48 a24 M25 _ h g H locs ls hP hS (lv_sub hl [1] rfl)
        · have h := if_p hc h
          refine lv_iconst (v := (1 : Int32)) hx hb d_MO_fits_30 (by decide) ?_
          obtain rfl := Option.some.inj h
          exact hret (by decide) d_MO_fits_31 g hP hS
    refine lv_iload_n hx hb d_MO_fits_0 rfl (lv_at hl 0 rfl) ?_
    refine lv_bipush (v := (6 : Int32)) hx hb d_MO_fits_1 (by decide) ?_
    refine lv_icmp_lt (tgt := 19) hx hb d_MO_fits_3 rfl (fun hc => ?_) (fun hc => ?_)
    · have h := if_p hc h
      exact J19 a0 a1 M _ h g H locs ls hP hS (lv_sub hl [0, 1] rfl)
    · have h := if_m hc h
      refine lv_iload_n hx hb d_MO_fits_6 rfl (lv_at hl 0 rfl) ?_
      refine lv_bipush (v := (9 : Int32)) hx hb d_MO_fits_7 (by decide) ?_
      refine lv_icmp_gt (tgt := 19) hx hb d_MO_fits_9 rfl (fun hc => ?_) (fun hc => ?_)
      · have h := if_p hc h
        exact J19 a0 a1 M _ h g H locs ls hP hS (lv_sub hl [0, 1] rfl)
      · have h := if_m hc h
        refine lv_iload_n hx hb d_MO_fits_12 rfl (lv_at hl 1 rfl) ?_
        refine lv_bipush (v := (24 : Int32)) hx hb d_MO_fits_13 (by decide) ?_
        obtain ⟨r32, M30, c31, h⟩ := bi_e h
        refine cl_MO_89 (rest := []) (R := r_MO_fits) (c_MO_within l x hJ a1 (24 : Int32) c31) hx hb hml hts hown hK hZ hP hS hl.1 (Nat.le_of_ble_eq_true rfl) (Nat.le_of_ble_eq_true rfl) (Nat.le_of_ble_eq_true rfl) ⟨rfl, rfl, Nat.zero_le _, Nat.zero_le _⟩ d_MO_fits_15 (fun H locs hP hS => ?_)
        obtain ⟨b33, h⟩ := cb_e h
        obtain rfl := Option.some.inj h
        exact hret b33 d_MO_fits_18 g hP hS
  rw [eH] at key
  exact key
theorem d_MO_emit_0 : decode b_MO_emit 0 = .ok (.iload_n 1, 1) := by decide +kernel
theorem d_MO_emit_1 : decode b_MO_emit 1 = .ok (.bipush 16, 2) := by decide +kernel
theorem d_MO_emit_3 : decode b_MO_emit 3 = .ok (.invokestatic 89, 3) := by decide +kernel
theorem d_MO_emit_6 : decode b_MO_emit 6 = .ok (.ifCond .eq 35, 3) := by decide +kernel
theorem d_MO_emit_9 : decode b_MO_emit 9 = .ok (.iload_n 2, 1) := by decide +kernel
theorem d_MO_emit_10 : decode b_MO_emit 10 = .ok (.iconst 4, 1) := by decide +kernel
theorem d_MO_emit_11 : decode b_MO_emit 11 = .ok (.invokestatic 89, 3) := by decide +kernel
theorem d_MO_emit_14 : decode b_MO_emit 14 = .ok (.ifCond .eq 27, 3) := by decide +kernel
theorem d_MO_emit_17 : decode b_MO_emit 17 = .ok (.iload_n 1, 1) := by decide +kernel
theorem d_MO_emit_18 : decode b_MO_emit 18 = .ok (.iload_n 3, 1) := by decide +kernel
theorem d_MO_emit_19 : decode b_MO_emit 19 = .ok (.invokestatic 93, 3) := by decide +kernel
theorem d_MO_emit_22 : decode b_MO_emit 22 = .ok (.ifCond .eq 19, 3) := by decide +kernel
theorem d_MO_emit_25 : decode b_MO_emit 25 = .ok (.aload_n 0, 1) := by decide +kernel
theorem d_MO_emit_26 : decode b_MO_emit 26 = .ok (.getfield 96, 3) := by decide +kernel
theorem d_MO_emit_29 : decode b_MO_emit 29 = .ok (.bipush 24, 2) := by decide +kernel
theorem d_MO_emit_31 : decode b_MO_emit 31 = .ok (.if_icmp .eq 10, 3) := by decide +kernel
theorem d_MO_emit_34 : decode b_MO_emit 34 = .ok (.aload_n 0, 1) := by decide +kernel
theorem d_MO_emit_35 : decode b_MO_emit 35 = .ok (.getfield 99, 3) := by decide +kernel
theorem d_MO_emit_38 : decode b_MO_emit 38 = .ok (.ifCond .le 5, 3) := by decide +kernel
theorem d_MO_emit_41 : decode b_MO_emit 41 = .ok (.iconst 0, 1) := by decide +kernel
theorem d_MO_emit_42 : decode b_MO_emit 42 = .ok (.ireturn, 1) := by decide +kernel
theorem d_MO_emit_43 : decode b_MO_emit 43 = .ok (.aload_n 0, 1) := by decide +kernel
theorem d_MO_emit_44 : decode b_MO_emit 44 = .ok (.getfield 7, 3) := by decide +kernel
theorem d_MO_emit_47 : decode b_MO_emit 47 = .ok (.aload_n 0, 1) := by decide +kernel
theorem d_MO_emit_48 : decode b_MO_emit 48 = .ok (.getfield 96, 3) := by decide +kernel
theorem d_MO_emit_51 : decode b_MO_emit 51 = .ok (.iload_n 1, 1) := by decide +kernel
theorem d_MO_emit_52 : decode b_MO_emit 52 = .ok (.iastore, 1) := by decide +kernel
theorem d_MO_emit_53 : decode b_MO_emit 53 = .ok (.aload_n 0, 1) := by decide +kernel
theorem d_MO_emit_54 : decode b_MO_emit 54 = .ok (.getfield 13, 3) := by decide +kernel
theorem d_MO_emit_57 : decode b_MO_emit 57 = .ok (.aload_n 0, 1) := by decide +kernel
theorem d_MO_emit_58 : decode b_MO_emit 58 = .ok (.getfield 96, 3) := by decide +kernel
theorem d_MO_emit_61 : decode b_MO_emit 61 = .ok (.iload_n 2, 1) := by decide +kernel
theorem d_MO_emit_62 : decode b_MO_emit 62 = .ok (.iastore, 1) := by decide +kernel
theorem d_MO_emit_63 : decode b_MO_emit 63 = .ok (.aload_n 0, 1) := by decide +kernel
theorem d_MO_emit_64 : decode b_MO_emit 64 = .ok (.getfield 16, 3) := by decide +kernel
theorem d_MO_emit_67 : decode b_MO_emit 67 = .ok (.aload_n 0, 1) := by decide +kernel
theorem d_MO_emit_68 : decode b_MO_emit 68 = .ok (.getfield 96, 3) := by decide +kernel
theorem d_MO_emit_71 : decode b_MO_emit 71 = .ok (.iload_n 3, 1) := by decide +kernel
theorem d_MO_emit_72 : decode b_MO_emit 72 = .ok (.iastore, 1) := by decide +kernel
theorem d_MO_emit_73 : decode b_MO_emit 73 = .ok (.aload_n 0, 1) := by decide +kernel
theorem d_MO_emit_74 : decode b_MO_emit 74 = .ok (.dup, 1) := by decide +kernel
theorem d_MO_emit_75 : decode b_MO_emit 75 = .ok (.getfield 96, 3) := by decide +kernel
theorem d_MO_emit_78 : decode b_MO_emit 78 = .ok (.iconst 1, 1) := by decide +kernel
theorem d_MO_emit_79 : decode b_MO_emit 79 = .ok (.iadd, 1) := by decide +kernel
theorem d_MO_emit_80 : decode b_MO_emit 80 = .ok (.putfield 96, 3) := by decide +kernel
theorem d_MO_emit_83 : decode b_MO_emit 83 = .ok (.iconst 1, 1) := by decide +kernel
theorem d_MO_emit_84 : decode b_MO_emit 84 = .ok (.ireturn, 1) := by decide +kernel
noncomputable def s_MO_emit (a1 : Int32) (a2 : Int32) (a3 : Int32) (M : Mem) : Option (Int32 × Mem) :=
  bi (s_MO_within a1 (16 : Int32) M) (fun r23 M21 => if r23 = 0 then (some ((0 : Int32), M21)) else (bi (s_MO_within a2 (4 : Int32) M21) (fun r26 M24 => if r26 = 0 then (some ((0 : Int32), M24)) else (bi (s_MO_fits a1 a3 M24) (fun r29 M27 => if r29 = 0 then (some ((0 : Int32), M27)) else (if (M27 26 0) = (24 : Int32) then (some ((0 : Int32), M27)) else (if (M27 26 32) ≤ 0 then (ck (M27 26 0) 24 (nx (st M27 27 (M27 26 0).toNatClampNeg a1) (fun M31 => ck (M31 26 0) 24 (nx (st M31 28 (M31 26 0).toNatClampNeg a2) (fun M33 => ck (M33 26 0) 24 (nx (st M33 29 (M33 26 0).toNatClampNeg a3) (fun M35 => nx (st M35 26 0 ((M35 26 0) + (1 : Int32))) (fun M36 => some ((1 : Int32), M36))))))))) else (some ((0 : Int32), M27)))))))))
set_option maxHeartbeats 4000000 in
set_option maxRecDepth 100000 in
theorem c_MO_emit (l : Launch) (x : Cx) (hJ : Inj x) (a1 : Int32) (a2 : Int32) (a3 : Int32) {M : Mem} {out : Int32 × Mem} (h : s_MO_emit a1 a2 a3 M = some out) : Ci l x y_MO_emit (Cond.code y_MO_emit b_MO_emit 4 (some .boolean) :: tb) r_MO_emit [.ref (x.2.1 26), .int a1, .int a2, .int a3] M out := by
  refine ofCz (cc := b_MO_emit) (maxL := 4) (by decide) rfl (rfl) (Nat.le_of_ble_eq_true rfl) ?_
  intro p e s m args below meth c Q G0 ls g hx hb hml hown hts hK hZ hP hS hl hret
  have hown : s.vm.findClass R_MO = some m.cls := hown
  have hl : lv_has ls 4 [(0, .ref (x.2.1 26)), (1, .int a1), (2, .int a2), (3, .int a3)] := hl
  obtain ⟨H, eH⟩ : ∃ z, z = s.heap := ⟨_, rfl⟩
  obtain ⟨locs, eL⟩ : ∃ z, z = ([] : List Loc) := ⟨_, rfl⟩
  rw [← eH] at hP
  have hS : va_S (A0 x) s.heap H locs := by rw [eH, eL]; exact hS
  rw [← eL]
  have key : W p l e r_MO_emit s m args below meth c H locs 0 0 Q (F0 m 0 ls []) := by
    clear eH eL
    unfold s_MO_emit at h
    refine lv_iload_n hx hb d_MO_emit_0 rfl (lv_at hl 1 rfl) ?_
    refine lv_bipush (v := (16 : Int32)) hx hb d_MO_emit_1 (by decide) ?_
    obtain ⟨r23, M21, c22, h⟩ := bi_e h
    refine cl_MO_89 (rest := []) (R := r_MO_emit) (c_MO_within l x hJ a1 (16 : Int32) c22) hx hb hml hts hown hK hZ hP hS hl.1 (Nat.le_of_ble_eq_true rfl) (Nat.le_of_ble_eq_true rfl) (Nat.le_of_ble_eq_true rfl) ⟨rfl, rfl, Nat.zero_le _, Nat.zero_le _⟩ d_MO_emit_3 (fun H locs hP hS => ?_)
    refine lv_if_eq (tgt := 41) hx hb d_MO_emit_6 rfl (fun hc => ?_) (fun hc => ?_)
    · have h := if_p hc h
      refine lv_iconst (v := (0 : Int32)) hx hb d_MO_emit_41 (by decide) ?_
      obtain rfl := Option.some.inj h
      exact hret (by decide) d_MO_emit_42 g hP hS
    · have h := if_m hc h
      refine lv_iload_n hx hb d_MO_emit_9 rfl (lv_at hl 2 rfl) ?_
      refine lv_iconst (v := (4 : Int32)) hx hb d_MO_emit_10 (by decide) ?_
      obtain ⟨r26, M24, c25, h⟩ := bi_e h
      refine cl_MO_89 (rest := []) (R := r_MO_emit) (c_MO_within l x hJ a2 (4 : Int32) c25) hx hb hml hts hown hK hZ hP hS hl.1 (Nat.le_of_ble_eq_true rfl) (Nat.le_of_ble_eq_true rfl) (Nat.le_of_ble_eq_true rfl) ⟨rfl, rfl, Nat.zero_le _, Nat.zero_le _⟩ d_MO_emit_11 (fun H locs hP hS => ?_)
      refine lv_if_eq (tgt := 41) hx hb d_MO_emit_14 rfl (fun hc => ?_) (fun hc => ?_)
      · have h := if_p hc h
        refine lv_iconst (v := (0 : Int32)) hx hb d_MO_emit_41 (by decide) ?_
        obtain rfl := Option.some.inj h
        exact hret (by decide) d_MO_emit_42 g hP hS
      · have h := if_m hc h
        refine lv_iload_n hx hb d_MO_emit_17 rfl (lv_at hl 1 rfl) ?_
        refine lv_iload_n hx hb d_MO_emit_18 rfl (lv_at hl 3 rfl) ?_
        obtain ⟨r29, M27, c28, h⟩ := bi_e h
        refine cl_MO_93 (rest := []) (R := r_MO_emit) (c_MO_fits l x hJ a1 a3 c28) hx hb hml hts hown hK hZ hP hS hl.1 (Nat.le_of_ble_eq_true rfl) (Nat.le_of_ble_eq_true rfl) (Nat.le_of_ble_eq_true rfl) ⟨rfl, rfl, Nat.zero_le _, Nat.zero_le _⟩ d_MO_emit_19 (fun H locs hP hS => ?_)
        refine lv_if_eq (tgt := 41) hx hb d_MO_emit_22 rfl (fun hc => ?_) (fun hc => ?_)
        · have h := if_p hc h
          refine lv_iconst (v := (0 : Int32)) hx hb d_MO_emit_41 (by decide) ?_
          obtain rfl := Option.some.inj h
          exact hret (by decide) d_MO_emit_42 g hP hS
        · have h := if_m hc h
          refine lv_aload_n hx hb d_MO_emit_25 rfl (lv_at hl 0 rfl) ?_
          refine gf_MO_96 hx hb hts hown hK hP d_MO_emit_26 ?_
          refine lv_bipush (v := (24 : Int32)) hx hb d_MO_emit_29 (by decide) ?_
          refine lv_icmp_eq (tgt := 41) hx hb d_MO_emit_31 rfl (fun hc => ?_) (fun hc => ?_)
          · have h := if_p hc h
            refine lv_iconst (v := (0 : Int32)) hx hb d_MO_emit_41 (by decide) ?_
            obtain rfl := Option.some.inj h
            exact hret (by decide) d_MO_emit_42 g hP hS
          · have h := if_m hc h
            refine lv_aload_n hx hb d_MO_emit_34 rfl (lv_at hl 0 rfl) ?_
            refine gf_MO_99 hx hb hts hown hK hP d_MO_emit_35 ?_
            refine lv_if_le (tgt := 43) hx hb d_MO_emit_38 rfl (fun hc => ?_) (fun hc => ?_)
            · have h := if_p hc h
              refine lv_aload_n hx hb d_MO_emit_43 rfl (lv_at hl 0 rfl) ?_
              refine gf_MO_7 hx hb hts hown hK hP d_MO_emit_44 ?_
              refine lv_aload_n hx hb d_MO_emit_47 rfl (lv_at hl 0 rfl) ?_
              refine gf_MO_96 hx hb hts hown hK hP d_MO_emit_48 ?_
              refine lv_iload_n hx hb d_MO_emit_51 rfl (lv_at hl 1 rfl) ?_
              obtain ⟨b30, h⟩ := ck_e h
              obtain ⟨M31, eM31, h⟩ := nx_e h
              refine m_ast hx hb hK hJ hP hS ar_MO_ops b30 eM31 d_MO_emit_52 (fun H locs hP hS => ?_)
              refine lv_aload_n hx hb d_MO_emit_53 rfl (lv_at hl 0 rfl) ?_
              refine gf_MO_13 hx hb hts hown hK hP d_MO_emit_54 ?_
              refine lv_aload_n hx hb d_MO_emit_57 rfl (lv_at hl 0 rfl) ?_
              refine gf_MO_96 hx hb hts hown hK hP d_MO_emit_58 ?_
              refine lv_iload_n hx hb d_MO_emit_61 rfl (lv_at hl 2 rfl) ?_
              obtain ⟨b32, h⟩ := ck_e h
              obtain ⟨M33, eM33, h⟩ := nx_e h
              refine m_ast hx hb hK hJ hP hS ar_MO_as b32 eM33 d_MO_emit_62 (fun H locs hP hS => ?_)
              refine lv_aload_n hx hb d_MO_emit_63 rfl (lv_at hl 0 rfl) ?_
              refine gf_MO_16 hx hb hts hown hK hP d_MO_emit_64 ?_
              refine lv_aload_n hx hb d_MO_emit_67 rfl (lv_at hl 0 rfl) ?_
              refine gf_MO_96 hx hb hts hown hK hP d_MO_emit_68 ?_
              refine lv_iload_n hx hb d_MO_emit_71 rfl (lv_at hl 3 rfl) ?_
              obtain ⟨b34, h⟩ := ck_e h
              obtain ⟨M35, eM35, h⟩ := nx_e h
              refine m_ast hx hb hK hJ hP hS ar_MO_bs b34 eM35 d_MO_emit_72 (fun H locs hP hS => ?_)
              refine lv_aload_n hx hb d_MO_emit_73 rfl (lv_at hl 0 rfl) ?_
              refine lv_dup hx hb d_MO_emit_74 rfl ?_
              refine gf_MO_96 hx hb hts hown hK hP d_MO_emit_75 ?_
              refine lv_iconst (v := (1 : Int32)) hx hb d_MO_emit_78 (by decide) ?_
              refine lv_iadd hx hb d_MO_emit_79 ?_
              obtain ⟨M36, eM36, h⟩ := nx_e h
              refine pf_MO_96 hx hb hts hown hK hJ hP hS eM36 d_MO_emit_80 (fun H locs hP hS => ?_)
              refine lv_iconst (v := (1 : Int32)) hx hb d_MO_emit_83 (by decide) ?_
              obtain rfl := Option.some.inj h
              exact hret (by decide) d_MO_emit_84 g hP hS
            · have h := if_m hc h
              refine lv_iconst (v := (0 : Int32)) hx hb d_MO_emit_41 (by decide) ?_
              obtain rfl := Option.some.inj h
              exact hret (by decide) d_MO_emit_42 g hP hS
  rw [eH] at key
  exact key
theorem d_MO_feed_0 : decode b_MO_feed 0 = .ok (.iload_n 1, 1) := by decide +kernel
theorem d_MO_feed_1 : decode b_MO_feed 1 = .ok (.sipush 256, 3) := by decide +kernel
theorem d_MO_feed_4 : decode b_MO_feed 4 = .ok (.invokestatic 89, 3) := by decide +kernel
theorem d_MO_feed_7 : decode b_MO_feed 7 = .ok (.ifCond .eq 12, 3) := by decide +kernel
theorem d_MO_feed_10 : decode b_MO_feed 10 = .ok (.aload_n 0, 1) := by decide +kernel
theorem d_MO_feed_11 : decode b_MO_feed 11 = .ok (.getfield 102, 3) := by decide +kernel
theorem d_MO_feed_14 : decode b_MO_feed 14 = .ok (.bipush 6, 2) := by decide +kernel
theorem d_MO_feed_16 : decode b_MO_feed 16 = .ok (.if_icmp .ne 5, 3) := by decide +kernel
theorem d_MO_feed_19 : decode b_MO_feed 19 = .ok (.iconst 0, 1) := by decide +kernel
theorem d_MO_feed_20 : decode b_MO_feed 20 = .ok (.ireturn, 1) := by decide +kernel
theorem d_MO_feed_21 : decode b_MO_feed 21 = .ok (.aload_n 0, 1) := by decide +kernel
theorem d_MO_feed_22 : decode b_MO_feed 22 = .ok (.getfield 19, 3) := by decide +kernel
theorem d_MO_feed_25 : decode b_MO_feed 25 = .ok (.aload_n 0, 1) := by decide +kernel
theorem d_MO_feed_26 : decode b_MO_feed 26 = .ok (.getfield 102, 3) := by decide +kernel
theorem d_MO_feed_29 : decode b_MO_feed 29 = .ok (.iload_n 1, 1) := by decide +kernel
theorem d_MO_feed_30 : decode b_MO_feed 30 = .ok (.iastore, 1) := by decide +kernel
theorem d_MO_feed_31 : decode b_MO_feed 31 = .ok (.aload_n 0, 1) := by decide +kernel
theorem d_MO_feed_32 : decode b_MO_feed 32 = .ok (.dup, 1) := by decide +kernel
theorem d_MO_feed_33 : decode b_MO_feed 33 = .ok (.getfield 102, 3) := by decide +kernel
theorem d_MO_feed_36 : decode b_MO_feed 36 = .ok (.iconst 1, 1) := by decide +kernel
theorem d_MO_feed_37 : decode b_MO_feed 37 = .ok (.iadd, 1) := by decide +kernel
theorem d_MO_feed_38 : decode b_MO_feed 38 = .ok (.putfield 102, 3) := by decide +kernel
theorem d_MO_feed_41 : decode b_MO_feed 41 = .ok (.iconst 1, 1) := by decide +kernel
theorem d_MO_feed_42 : decode b_MO_feed 42 = .ok (.ireturn, 1) := by decide +kernel
noncomputable def s_MO_feed (a1 : Int32) (M : Mem) : Option (Int32 × Mem) :=
  bi (s_MO_within a1 (256 : Int32) M) (fun r23 M21 => if r23 = 0 then (some ((0 : Int32), M21)) else (if (M21 26 5) = (6 : Int32) then (some ((0 : Int32), M21)) else (ck (M21 26 5) 6 (nx (st M21 30 (M21 26 5).toNatClampNeg a1) (fun M25 => nx (st M25 26 5 ((M25 26 5) + (1 : Int32))) (fun M26 => some ((1 : Int32), M26)))))))
set_option maxHeartbeats 4000000 in
set_option maxRecDepth 100000 in
theorem c_MO_feed (l : Launch) (x : Cx) (hJ : Inj x) (a1 : Int32) {M : Mem} {out : Int32 × Mem} (h : s_MO_feed a1 M = some out) : Ci l x y_MO_feed (Cond.code y_MO_feed b_MO_feed 2 (some .boolean) :: tb) r_MO_feed [.ref (x.2.1 26), .int a1] M out := by
  refine ofCz (cc := b_MO_feed) (maxL := 2) (by decide) rfl (rfl) (Nat.le_of_ble_eq_true rfl) ?_
  intro p e s m args below meth c Q G0 ls g hx hb hml hown hts hK hZ hP hS hl hret
  have hown : s.vm.findClass R_MO = some m.cls := hown
  have hl : lv_has ls 2 [(0, .ref (x.2.1 26)), (1, .int a1)] := hl
  obtain ⟨H, eH⟩ : ∃ z, z = s.heap := ⟨_, rfl⟩
  obtain ⟨locs, eL⟩ : ∃ z, z = ([] : List Loc) := ⟨_, rfl⟩
  rw [← eH] at hP
  have hS : va_S (A0 x) s.heap H locs := by rw [eH, eL]; exact hS
  rw [← eL]
  have key : W p l e r_MO_feed s m args below meth c H locs 0 0 Q (F0 m 0 ls []) := by
    clear eH eL
    unfold s_MO_feed at h
    refine lv_iload_n hx hb d_MO_feed_0 rfl (lv_at hl 1 rfl) ?_
    refine lv_sipush (v := (256 : Int32)) hx hb d_MO_feed_1 (by decide) ?_
    obtain ⟨r23, M21, c22, h⟩ := bi_e h
    refine cl_MO_89 (rest := []) (R := r_MO_feed) (c_MO_within l x hJ a1 (256 : Int32) c22) hx hb hml hts hown hK hZ hP hS hl.1 (Nat.le_of_ble_eq_true rfl) (Nat.le_of_ble_eq_true rfl) (Nat.le_of_ble_eq_true rfl) ⟨rfl, rfl, Nat.zero_le _, Nat.zero_le _⟩ d_MO_feed_4 (fun H locs hP hS => ?_)
    refine lv_if_eq (tgt := 19) hx hb d_MO_feed_7 rfl (fun hc => ?_) (fun hc => ?_)
    · have h := if_p hc h
      refine lv_iconst (v := (0 : Int32)) hx hb d_MO_feed_19 (by decide) ?_
      obtain rfl := Option.some.inj h
      exact hret (by decide) d_MO_feed_20 g hP hS
    · have h := if_m hc h
      refine lv_aload_n hx hb d_MO_feed_10 rfl (lv_at hl 0 rfl) ?_
      refine gf_MO_102 hx hb hts hown hK hP d_MO_feed_11 ?_
      refine lv_bipush (v := (6 : Int32)) hx hb d_MO_feed_14 (by decide) ?_
      refine lv_icmp_ne (tgt := 21) hx hb d_MO_feed_16 rfl (fun hc => ?_) (fun hc => ?_)
      · have h := if_m hc h
        refine lv_aload_n hx hb d_MO_feed_21 rfl (lv_at hl 0 rfl) ?_
        refine gf_MO_19 hx hb hts hown hK hP d_MO_feed_22 ?_
        refine lv_aload_n hx hb d_MO_feed_25 rfl (lv_at hl 0 rfl) ?_
        refine gf_MO_102 hx hb hts hown hK hP d_MO_feed_26 ?_
        refine lv_iload_n hx hb d_MO_feed_29 rfl (lv_at hl 1 rfl) ?_
        obtain ⟨b24, h⟩ := ck_e h
        obtain ⟨M25, eM25, h⟩ := nx_e h
        refine m_ast hx hb hK hJ hP hS ar_MO_draft b24 eM25 d_MO_feed_30 (fun H locs hP hS => ?_)
        refine lv_aload_n hx hb d_MO_feed_31 rfl (lv_at hl 0 rfl) ?_
        refine lv_dup hx hb d_MO_feed_32 rfl ?_
        refine gf_MO_102 hx hb hts hown hK hP d_MO_feed_33 ?_
        refine lv_iconst (v := (1 : Int32)) hx hb d_MO_feed_36 (by decide) ?_
        refine lv_iadd hx hb d_MO_feed_37 ?_
        obtain ⟨M26, eM26, h⟩ := nx_e h
        refine pf_MO_102 hx hb hts hown hK hJ hP hS eM26 d_MO_feed_38 (fun H locs hP hS => ?_)
        refine lv_iconst (v := (1 : Int32)) hx hb d_MO_feed_41 (by decide) ?_
        obtain rfl := Option.some.inj h
        exact hret (by decide) d_MO_feed_42 g hP hS
      · have h := if_p hc h
        refine lv_iconst (v := (0 : Int32)) hx hb d_MO_feed_19 (by decide) ?_
        obtain rfl := Option.some.inj h
        exact hret (by decide) d_MO_feed_20 g hP hS
  rw [eH] at key
  exact key
theorem d_MO_jump_0 : decode b_MO_jump 0 = .ok (.iload_n 1, 1) := by decide +kernel
theorem d_MO_jump_1 : decode b_MO_jump 1 = .ok (.bipush 6, 2) := by decide +kernel
theorem d_MO_jump_3 : decode b_MO_jump 3 = .ok (.if_icmp .ne 27, 3) := by decide +kernel
theorem d_MO_jump_6 : decode b_MO_jump 6 = .ok (.aload_n 0, 1) := by decide +kernel
theorem d_MO_jump_7 : decode b_MO_jump 7 = .ok (.aload_n 0, 1) := by decide +kernel
theorem d_MO_jump_8 : decode b_MO_jump 8 = .ok (.getfield 25, 3) := by decide +kernel
theorem d_MO_jump_11 : decode b_MO_jump 11 = .ok (.iload_n 2, 1) := by decide +kernel
theorem d_MO_jump_12 : decode b_MO_jump 12 = .ok (.iaload, 1) := by decide +kernel
theorem d_MO_jump_13 : decode b_MO_jump 13 = .ok (.ifCond .ne 7, 3) := by decide +kernel
theorem d_MO_jump_16 : decode b_MO_jump 16 = .ok (.iload_n 3, 1) := by decide +kernel
theorem d_MO_jump_17 : decode b_MO_jump 17 = .ok (.goto 7, 3) := by decide +kernel
theorem d_MO_jump_20 : decode b_MO_jump 20 = .ok (.aload_n 0, 1) := by decide +kernel
theorem d_MO_jump_21 : decode b_MO_jump 21 = .ok (.getfield 108, 3) := by decide +kernel
theorem d_MO_jump_24 : decode b_MO_jump 24 = .ok (.putfield 108, 3) := by decide +kernel
theorem d_MO_jump_27 : decode b_MO_jump 27 = .ok (.goto 140, 3) := by decide +kernel
theorem d_MO_jump_30 : decode b_MO_jump 30 = .ok (.iload_n 1, 1) := by decide +kernel
theorem d_MO_jump_31 : decode b_MO_jump 31 = .ok (.bipush 7, 2) := by decide +kernel
theorem d_MO_jump_33 : decode b_MO_jump 33 = .ok (.if_icmp .ne 27, 3) := by decide +kernel
theorem d_MO_jump_36 : decode b_MO_jump 36 = .ok (.aload_n 0, 1) := by decide +kernel
theorem d_MO_jump_37 : decode b_MO_jump 37 = .ok (.aload_n 0, 1) := by decide +kernel
theorem d_MO_jump_38 : decode b_MO_jump 38 = .ok (.getfield 25, 3) := by decide +kernel
theorem d_MO_jump_41 : decode b_MO_jump 41 = .ok (.iload_n 2, 1) := by decide +kernel
theorem d_MO_jump_42 : decode b_MO_jump 42 = .ok (.iaload, 1) := by decide +kernel
theorem d_MO_jump_43 : decode b_MO_jump 43 = .ok (.ifCond .ge 7, 3) := by decide +kernel
theorem d_MO_jump_46 : decode b_MO_jump 46 = .ok (.iload_n 3, 1) := by decide +kernel
theorem d_MO_jump_47 : decode b_MO_jump 47 = .ok (.goto 7, 3) := by decide +kernel
theorem d_MO_jump_50 : decode b_MO_jump 50 = .ok (.aload_n 0, 1) := by decide +kernel
theorem d_MO_jump_51 : decode b_MO_jump 51 = .ok (.getfield 108, 3) := by decide +kernel
theorem d_MO_jump_54 : decode b_MO_jump 54 = .ok (.putfield 108, 3) := by decide +kernel
theorem d_MO_jump_57 : decode b_MO_jump 57 = .ok (.goto 110, 3) := by decide +kernel
theorem d_MO_jump_60 : decode b_MO_jump 60 = .ok (.iload_n 1, 1) := by decide +kernel
theorem d_MO_jump_61 : decode b_MO_jump 61 = .ok (.bipush 8, 2) := by decide +kernel
theorem d_MO_jump_63 : decode b_MO_jump 63 = .ok (.if_icmp .ne 11, 3) := by decide +kernel
theorem d_MO_jump_66 : decode b_MO_jump 66 = .ok (.aload_n 0, 1) := by decide +kernel
theorem d_MO_jump_67 : decode b_MO_jump 67 = .ok (.iload_n 3, 1) := by decide +kernel
theorem d_MO_jump_68 : decode b_MO_jump 68 = .ok (.putfield 108, 3) := by decide +kernel
theorem d_MO_jump_71 : decode b_MO_jump 71 = .ok (.goto 96, 3) := by decide +kernel
theorem d_MO_jump_74 : decode b_MO_jump 74 = .ok (.iload_n 1, 1) := by decide +kernel
theorem d_MO_jump_75 : decode b_MO_jump 75 = .ok (.bipush 9, 2) := by decide +kernel
theorem d_MO_jump_77 : decode b_MO_jump 77 = .ok (.if_icmp .ne 52, 3) := by decide +kernel
theorem d_MO_jump_80 : decode b_MO_jump 80 = .ok (.aload_n 0, 1) := by decide +kernel
theorem d_MO_jump_81 : decode b_MO_jump 81 = .ok (.getfield 105, 3) := by decide +kernel
theorem d_MO_jump_84 : decode b_MO_jump 84 = .ok (.iconst 3, 1) := by decide +kernel
theorem d_MO_jump_85 : decode b_MO_jump 85 = .ok (.if_icmp .ne 11, 3) := by decide +kernel
theorem d_MO_jump_88 : decode b_MO_jump 88 = .ok (.aload_n 0, 1) := by decide +kernel
theorem d_MO_jump_89 : decode b_MO_jump 89 = .ok (.iconst 4, 1) := by decide +kernel
theorem d_MO_jump_90 : decode b_MO_jump 90 = .ok (.putfield 114, 3) := by decide +kernel
theorem d_MO_jump_93 : decode b_MO_jump 93 = .ok (.goto 74, 3) := by decide +kernel
theorem d_MO_jump_96 : decode b_MO_jump 96 = .ok (.aload_n 0, 1) := by decide +kernel
theorem d_MO_jump_97 : decode b_MO_jump 97 = .ok (.getfield 31, 3) := by decide +kernel
theorem d_MO_jump_100 : decode b_MO_jump 100 = .ok (.aload_n 0, 1) := by decide +kernel
theorem d_MO_jump_101 : decode b_MO_jump 101 = .ok (.getfield 105, 3) := by decide +kernel
theorem d_MO_jump_104 : decode b_MO_jump 104 = .ok (.aload_n 0, 1) := by decide +kernel
theorem d_MO_jump_105 : decode b_MO_jump 105 = .ok (.getfield 120, 3) := by decide +kernel
theorem d_MO_jump_108 : decode b_MO_jump 108 = .ok (.iconst 1, 1) := by decide +kernel
theorem d_MO_jump_109 : decode b_MO_jump 109 = .ok (.iadd, 1) := by decide +kernel
theorem d_MO_jump_110 : decode b_MO_jump 110 = .ok (.iastore, 1) := by decide +kernel
theorem d_MO_jump_111 : decode b_MO_jump 111 = .ok (.aload_n 0, 1) := by decide +kernel
theorem d_MO_jump_112 : decode b_MO_jump 112 = .ok (.dup, 1) := by decide +kernel
theorem d_MO_jump_113 : decode b_MO_jump 113 = .ok (.getfield 105, 3) := by decide +kernel
theorem d_MO_jump_116 : decode b_MO_jump 116 = .ok (.iconst 1, 1) := by decide +kernel
theorem d_MO_jump_117 : decode b_MO_jump 117 = .ok (.iadd, 1) := by decide +kernel
theorem d_MO_jump_118 : decode b_MO_jump 118 = .ok (.putfield 105, 3) := by decide +kernel
theorem d_MO_jump_121 : decode b_MO_jump 121 = .ok (.aload_n 0, 1) := by decide +kernel
theorem d_MO_jump_122 : decode b_MO_jump 122 = .ok (.iload_n 3, 1) := by decide +kernel
theorem d_MO_jump_123 : decode b_MO_jump 123 = .ok (.putfield 108, 3) := by decide +kernel
theorem d_MO_jump_126 : decode b_MO_jump 126 = .ok (.goto 41, 3) := by decide +kernel
theorem d_MO_jump_129 : decode b_MO_jump 129 = .ok (.aload_n 0, 1) := by decide +kernel
theorem d_MO_jump_130 : decode b_MO_jump 130 = .ok (.getfield 105, 3) := by decide +kernel
theorem d_MO_jump_133 : decode b_MO_jump 133 = .ok (.ifCond .ne 11, 3) := by decide +kernel
theorem d_MO_jump_136 : decode b_MO_jump 136 = .ok (.aload_n 0, 1) := by decide +kernel
theorem d_MO_jump_137 : decode b_MO_jump 137 = .ok (.iconst 0, 1) := by decide +kernel
theorem d_MO_jump_138 : decode b_MO_jump 138 = .ok (.putfield 114, 3) := by decide +kernel
theorem d_MO_jump_141 : decode b_MO_jump 141 = .ok (.goto 26, 3) := by decide +kernel
theorem d_MO_jump_144 : decode b_MO_jump 144 = .ok (.aload_n 0, 1) := by decide +kernel
theorem d_MO_jump_145 : decode b_MO_jump 145 = .ok (.dup, 1) := by decide +kernel
theorem d_MO_jump_146 : decode b_MO_jump 146 = .ok (.getfield 105, 3) := by decide +kernel
theorem d_MO_jump_149 : decode b_MO_jump 149 = .ok (.iconst 1, 1) := by decide +kernel
theorem d_MO_jump_150 : decode b_MO_jump 150 = .ok (.isub, 1) := by decide +kernel
theorem d_MO_jump_151 : decode b_MO_jump 151 = .ok (.putfield 105, 3) := by decide +kernel
theorem d_MO_jump_154 : decode b_MO_jump 154 = .ok (.aload_n 0, 1) := by decide +kernel
theorem d_MO_jump_155 : decode b_MO_jump 155 = .ok (.aload_n 0, 1) := by decide +kernel
theorem d_MO_jump_156 : decode b_MO_jump 156 = .ok (.getfield 31, 3) := by decide +kernel
theorem d_MO_jump_159 : decode b_MO_jump 159 = .ok (.aload_n 0, 1) := by decide +kernel
theorem d_MO_jump_160 : decode b_MO_jump 160 = .ok (.getfield 105, 3) := by decide +kernel
theorem d_MO_jump_163 : decode b_MO_jump 163 = .ok (.iaload, 1) := by decide +kernel
theorem d_MO_jump_164 : decode b_MO_jump 164 = .ok (.putfield 108, 3) := by decide +kernel
theorem d_MO_jump_167 : decode b_MO_jump 167 = .ok (.return_, 1) := by decide +kernel
noncomputable def s_MO_jump (a1 : Int32) (a2 : Int32) (a3 : Int32) (M : Mem) : Option (Mem) :=
  if a1 = (6 : Int32) then (ck a2 4 (if (M 32 a2.toNatClampNeg) = 0 then (nx (st M 26 13 a3) (fun M36 => some M36)) else (nx (st M 26 13 (M 26 13)) (fun M35 => some M35)))) else (if a1 = (7 : Int32) then (ck a2 4 (if 0 ≤ (M 32 a2.toNatClampNeg) then (nx (st M 26 13 (M 26 13)) (fun M32 => some M32)) else (nx (st M 26 13 a3) (fun M33 => some M33)))) else (if a1 = (8 : Int32) then (nx (st M 26 13 a3) (fun M30 => some M30)) else (if a1 = (9 : Int32) then (if (M 26 12) = (3 : Int32) then (nx (st M 26 16 (4 : Int32)) (fun M29 => some M29)) else (ck (M 26 12) 3 (nx (st M 34 (M 26 12).toNatClampNeg ((M 26 14) + (1 : Int32))) (fun M26 => nx (st M26 26 12 ((M26 26 12) + (1 : Int32))) (fun M27 => nx (st M27 26 13 a3) (fun M28 => some M28)))))) else (if (M 26 12) = 0 then (nx (st M 26 16 (0 : Int32)) (fun M24 => some M24)) else (nx (st M 26 12 ((M 26 12) - (1 : Int32))) (fun M21 => ck (M21 26 12) 3 (nx (st M21 26 13 (M21 34 (M21 26 12).toNatClampNeg)) (fun M23 => some M23))))))))
set_option maxHeartbeats 4000000 in
set_option maxRecDepth 100000 in
theorem c_MO_jump (l : Launch) (x : Cx) (hJ : Inj x) (a1 : Int32) (a2 : Int32) (a3 : Int32) {M : Mem} {out : Mem} (h : s_MO_jump a1 a2 a3 M = some out) : Cv l x y_MO_jump (Cond.code y_MO_jump b_MO_jump 4 none :: tb) r_MO_jump [.ref (x.2.1 26), .int a1, .int a2, .int a3] M out := by
  refine ofCv (cc := b_MO_jump) (maxL := 4) (by decide) rfl (rfl) (Nat.le_of_ble_eq_true rfl) ?_
  intro p e s m args below meth c Q G0 ls g hx hb hml hown hts hK hZ hP hS hl hret
  have hown : s.vm.findClass R_MO = some m.cls := hown
  have hl : lv_has ls 4 [(0, .ref (x.2.1 26)), (1, .int a1), (2, .int a2), (3, .int a3)] := hl
  obtain ⟨H, eH⟩ : ∃ z, z = s.heap := ⟨_, rfl⟩
  obtain ⟨locs, eL⟩ : ∃ z, z = ([] : List Loc) := ⟨_, rfl⟩
  rw [← eH] at hP
  have hS : va_S (A0 x) s.heap H locs := by rw [eH, eL]; exact hS
  rw [← eL]
  have key : W p l e r_MO_jump s m args below meth c H locs 0 0 Q (F0 m 0 ls []) := by
    clear eH eL
    unfold s_MO_jump at h
    refine lv_iload_n hx hb d_MO_jump_0 rfl (lv_at hl 1 rfl) ?_
    refine lv_bipush (v := (6 : Int32)) hx hb d_MO_jump_1 (by decide) ?_
    refine lv_icmp_ne (tgt := 30) hx hb d_MO_jump_3 rfl (fun hc => ?_) (fun hc => ?_)
    · have h := if_m hc h
      refine lv_iload_n hx hb d_MO_jump_30 rfl (lv_at hl 1 rfl) ?_
      refine lv_bipush (v := (7 : Int32)) hx hb d_MO_jump_31 (by decide) ?_
      refine lv_icmp_ne (tgt := 60) hx hb d_MO_jump_33 rfl (fun hc => ?_) (fun hc => ?_)
      · have h := if_m hc h
        refine lv_iload_n hx hb d_MO_jump_60 rfl (lv_at hl 1 rfl) ?_
        refine lv_bipush (v := (8 : Int32)) hx hb d_MO_jump_61 (by decide) ?_
        refine lv_icmp_ne (tgt := 74) hx hb d_MO_jump_63 rfl (fun hc => ?_) (fun hc => ?_)
        · have h := if_m hc h
          refine lv_iload_n hx hb d_MO_jump_74 rfl (lv_at hl 1 rfl) ?_
          refine lv_bipush (v := (9 : Int32)) hx hb d_MO_jump_75 (by decide) ?_
          refine lv_icmp_ne (tgt := 129) hx hb d_MO_jump_77 rfl (fun hc => ?_) (fun hc => ?_)
          · have h := if_m hc h
            refine lv_aload_n hx hb d_MO_jump_129 rfl (lv_at hl 0 rfl) ?_
            refine gf_MO_105 hx hb hts hown hK hP d_MO_jump_130 ?_
            refine lv_if_ne (tgt := 144) hx hb d_MO_jump_133 rfl (fun hc => ?_) (fun hc => ?_)
            · have h := if_m hc h
              refine lv_aload_n hx hb d_MO_jump_144 rfl (lv_at hl 0 rfl) ?_
              refine lv_dup hx hb d_MO_jump_145 rfl ?_
              refine gf_MO_105 hx hb hts hown hK hP d_MO_jump_146 ?_
              refine lv_iconst (v := (1 : Int32)) hx hb d_MO_jump_149 (by decide) ?_
              refine lv_isub hx hb d_MO_jump_150 ?_
              obtain ⟨M21, eM21, h⟩ := nx_e h
              refine pf_MO_105 hx hb hts hown hK hJ hP hS eM21 d_MO_jump_151 (fun H locs hP hS => ?_)
              refine lv_aload_n hx hb d_MO_jump_154 rfl (lv_at hl 0 rfl) ?_
              refine lv_aload_n hx hb d_MO_jump_155 rfl (lv_at hl 0 rfl) ?_
              refine gf_MO_31 hx hb hts hown hK hP d_MO_jump_156 ?_
              refine lv_aload_n hx hb d_MO_jump_159 rfl (lv_at hl 0 rfl) ?_
              refine gf_MO_105 hx hb hts hown hK hP d_MO_jump_160 ?_
              obtain ⟨b22, h⟩ := ck_e h
              refine m_ald hx hb hK hP ar_MO_stack b22 d_MO_jump_163 ?_
              obtain ⟨M23, eM23, h⟩ := nx_e h
              refine pf_MO_108 hx hb hts hown hK hJ hP hS eM23 d_MO_jump_164 (fun H locs hP hS => ?_)
              obtain rfl := Option.some.inj h
              exact hret d_MO_jump_167 g hP hS
            · have h := if_p hc h
              refine lv_aload_n hx hb d_MO_jump_136 rfl (lv_at hl 0 rfl) ?_
              refine lv_iconst (v := (0 : Int32)) hx hb d_MO_jump_137 (by decide) ?_
              obtain ⟨M24, eM24, h⟩ := nx_e h
              refine pf_MO_114 hx hb hts hown hK hJ hP hS eM24 d_MO_jump_138 (fun H locs hP hS => ?_)
              refine lv_goto (tgt := 167) hx hb d_MO_jump_141 rfl ?_
              obtain rfl := Option.some.inj h
              exact hret d_MO_jump_167 g hP hS
          · have h := if_p hc h
            refine lv_aload_n hx hb d_MO_jump_80 rfl (lv_at hl 0 rfl) ?_
            refine gf_MO_105 hx hb hts hown hK hP d_MO_jump_81 ?_
            refine lv_iconst (v := (3 : Int32)) hx hb d_MO_jump_84 (by decide) ?_
            refine lv_icmp_ne (tgt := 96) hx hb d_MO_jump_85 rfl (fun hc => ?_) (fun hc => ?_)
            · have h := if_m hc h
              refine lv_aload_n hx hb d_MO_jump_96 rfl (lv_at hl 0 rfl) ?_
              refine gf_MO_31 hx hb hts hown hK hP d_MO_jump_97 ?_
              refine lv_aload_n hx hb d_MO_jump_100 rfl (lv_at hl 0 rfl) ?_
              refine gf_MO_105 hx hb hts hown hK hP d_MO_jump_101 ?_
              refine lv_aload_n hx hb d_MO_jump_104 rfl (lv_at hl 0 rfl) ?_
              refine gf_MO_120 hx hb hts hown hK hP d_MO_jump_105 ?_
              refine lv_iconst (v := (1 : Int32)) hx hb d_MO_jump_108 (by decide) ?_
              refine lv_iadd hx hb d_MO_jump_109 ?_
              obtain ⟨b25, h⟩ := ck_e h
              obtain ⟨M26, eM26, h⟩ := nx_e h
              refine m_ast hx hb hK hJ hP hS ar_MO_stack b25 eM26 d_MO_jump_110 (fun H locs hP hS => ?_)
              refine lv_aload_n hx hb d_MO_jump_111 rfl (lv_at hl 0 rfl) ?_
              refine lv_dup hx hb d_MO_jump_112 rfl ?_
              refine gf_MO_105 hx hb hts hown hK hP d_MO_jump_113 ?_
              refine lv_iconst (v := (1 : Int32)) hx hb d_MO_jump_116 (by decide) ?_
              refine lv_iadd hx hb d_MO_jump_117 ?_
              obtain ⟨M27, eM27, h⟩ := nx_e h
              refine pf_MO_105 hx hb hts hown hK hJ hP hS eM27 d_MO_jump_118 (fun H locs hP hS => ?_)
              refine lv_aload_n hx hb d_MO_jump_121 rfl (lv_at hl 0 rfl) ?_
              refine lv_iload_n hx hb d_MO_jump_122 rfl (lv_at hl 3 rfl) ?_
              obtain ⟨M28, eM28, h⟩ := nx_e h
              refine pf_MO_108 hx hb hts hown hK hJ hP hS eM28 d_MO_jump_123 (fun H locs hP hS => ?_)
              refine lv_goto (tgt := 167) hx hb d_MO_jump_126 rfl ?_
              obtain rfl := Option.some.inj h
              exact hret d_MO_jump_167 g hP hS
            · have h := if_p hc h
              refine lv_aload_n hx hb d_MO_jump_88 rfl (lv_at hl 0 rfl) ?_
              refine lv_iconst (v := (4 : Int32)) hx hb d_MO_jump_89 (by decide) ?_
              obtain ⟨M29, eM29, h⟩ := nx_e h
              refine pf_MO_114 hx hb hts hown hK hJ hP hS eM29 d_MO_jump_90 (fun H locs hP hS => ?_)
              refine lv_goto (tgt := 167) hx hb d_MO_jump_93 rfl ?_
              obtain rfl := Option.some.inj h
              exact hret d_MO_jump_167 g hP hS
        · have h := if_p hc h
          refine lv_aload_n hx hb d_MO_jump_66 rfl (lv_at hl 0 rfl) ?_
          refine lv_iload_n hx hb d_MO_jump_67 rfl (lv_at hl 3 rfl) ?_
          obtain ⟨M30, eM30, h⟩ := nx_e h
          refine pf_MO_108 hx hb hts hown hK hJ hP hS eM30 d_MO_jump_68 (fun H locs hP hS => ?_)
          refine lv_goto (tgt := 167) hx hb d_MO_jump_71 rfl ?_
          obtain rfl := Option.some.inj h
          exact hret d_MO_jump_167 g hP hS
      · have h := if_p hc h
        refine lv_aload_n hx hb d_MO_jump_36 rfl (lv_at hl 0 rfl) ?_
        refine lv_aload_n hx hb d_MO_jump_37 rfl (lv_at hl 0 rfl) ?_
        refine gf_MO_25 hx hb hts hown hK hP d_MO_jump_38 ?_
        refine lv_iload_n hx hb d_MO_jump_41 rfl (lv_at hl 2 rfl) ?_
        obtain ⟨b31, h⟩ := ck_e h
        refine m_ald hx hb hK hP ar_MO_r b31 d_MO_jump_42 ?_
        refine lv_if_ge (tgt := 50) hx hb d_MO_jump_43 rfl (fun hc => ?_) (fun hc => ?_)
        · have h := if_p hc h
          refine lv_aload_n hx hb d_MO_jump_50 rfl (lv_at hl 0 rfl) ?_
          refine gf_MO_108 hx hb hts hown hK hP d_MO_jump_51 ?_
          obtain ⟨M32, eM32, h⟩ := nx_e h
          refine pf_MO_108 hx hb hts hown hK hJ hP hS eM32 d_MO_jump_54 (fun H locs hP hS => ?_)
          refine lv_goto (tgt := 167) hx hb d_MO_jump_57 rfl ?_
          obtain rfl := Option.some.inj h
          exact hret d_MO_jump_167 g hP hS
        · have h := if_m hc h
          refine lv_iload_n hx hb d_MO_jump_46 rfl (lv_at hl 3 rfl) ?_
          refine lv_goto (tgt := 54) hx hb d_MO_jump_47 rfl ?_
          obtain ⟨M33, eM33, h⟩ := nx_e h
          refine pf_MO_108 hx hb hts hown hK hJ hP hS eM33 d_MO_jump_54 (fun H locs hP hS => ?_)
          refine lv_goto (tgt := 167) hx hb d_MO_jump_57 rfl ?_
          obtain rfl := Option.some.inj h
          exact hret d_MO_jump_167 g hP hS
    · have h := if_p hc h
      refine lv_aload_n hx hb d_MO_jump_6 rfl (lv_at hl 0 rfl) ?_
      refine lv_aload_n hx hb d_MO_jump_7 rfl (lv_at hl 0 rfl) ?_
      refine gf_MO_25 hx hb hts hown hK hP d_MO_jump_8 ?_
      refine lv_iload_n hx hb d_MO_jump_11 rfl (lv_at hl 2 rfl) ?_
      obtain ⟨b34, h⟩ := ck_e h
      refine m_ald hx hb hK hP ar_MO_r b34 d_MO_jump_12 ?_
      refine lv_if_ne (tgt := 20) hx hb d_MO_jump_13 rfl (fun hc => ?_) (fun hc => ?_)
      · have h := if_m hc h
        refine lv_aload_n hx hb d_MO_jump_20 rfl (lv_at hl 0 rfl) ?_
        refine gf_MO_108 hx hb hts hown hK hP d_MO_jump_21 ?_
        obtain ⟨M35, eM35, h⟩ := nx_e h
        refine pf_MO_108 hx hb hts hown hK hJ hP hS eM35 d_MO_jump_24 (fun H locs hP hS => ?_)
        refine lv_goto (tgt := 167) hx hb d_MO_jump_27 rfl ?_
        obtain rfl := Option.some.inj h
        exact hret d_MO_jump_167 g hP hS
      · have h := if_p hc h
        refine lv_iload_n hx hb d_MO_jump_16 rfl (lv_at hl 3 rfl) ?_
        refine lv_goto (tgt := 24) hx hb d_MO_jump_17 rfl ?_
        obtain ⟨M36, eM36, h⟩ := nx_e h
        refine pf_MO_108 hx hb hts hown hK hJ hP hS eM36 d_MO_jump_24 (fun H locs hP hS => ?_)
        refine lv_goto (tgt := 167) hx hb d_MO_jump_27 rfl ?_
        obtain rfl := Option.some.inj h
        exact hret d_MO_jump_167 g hP hS
  rw [eH] at key
  exact key
theorem d_MO_word_0 : decode b_MO_word 0 = .ok (.iload_n 3, 1) := by decide +kernel
theorem d_MO_word_1 : decode b_MO_word 1 = .ok (.iconst 4, 1) := by decide +kernel
theorem d_MO_word_2 : decode b_MO_word 2 = .ok (.invokestatic 89, 3) := by decide +kernel
theorem d_MO_word_5 : decode b_MO_word 5 = .ok (.ifCond .ne 11, 3) := by decide +kernel
theorem d_MO_word_8 : decode b_MO_word 8 = .ok (.aload_n 0, 1) := by decide +kernel
theorem d_MO_word_9 : decode b_MO_word 9 = .ok (.iconst 3, 1) := by decide +kernel
theorem d_MO_word_10 : decode b_MO_word 10 = .ok (.putfield 114, 3) := by decide +kernel
theorem d_MO_word_13 : decode b_MO_word 13 = .ok (.goto 36, 3) := by decide +kernel
theorem d_MO_word_16 : decode b_MO_word 16 = .ok (.iload_n 1, 1) := by decide +kernel
theorem d_MO_word_17 : decode b_MO_word 17 = .ok (.bipush 13, 2) := by decide +kernel
theorem d_MO_word_19 : decode b_MO_word 19 = .ok (.if_icmp .ne 18, 3) := by decide +kernel
theorem d_MO_word_22 : decode b_MO_word 22 = .ok (.aload_n 0, 1) := by decide +kernel
theorem d_MO_word_23 : decode b_MO_word 23 = .ok (.getfield 25, 3) := by decide +kernel
theorem d_MO_word_26 : decode b_MO_word 26 = .ok (.iload_n 2, 1) := by decide +kernel
theorem d_MO_word_27 : decode b_MO_word 27 = .ok (.aload_n 0, 1) := by decide +kernel
theorem d_MO_word_28 : decode b_MO_word 28 = .ok (.getfield 28, 3) := by decide +kernel
theorem d_MO_word_31 : decode b_MO_word 31 = .ok (.iload_n 3, 1) := by decide +kernel
theorem d_MO_word_32 : decode b_MO_word 32 = .ok (.iaload, 1) := by decide +kernel
theorem d_MO_word_33 : decode b_MO_word 33 = .ok (.iastore, 1) := by decide +kernel
theorem d_MO_word_34 : decode b_MO_word 34 = .ok (.goto 15, 3) := by decide +kernel
theorem d_MO_word_37 : decode b_MO_word 37 = .ok (.aload_n 0, 1) := by decide +kernel
theorem d_MO_word_38 : decode b_MO_word 38 = .ok (.getfield 28, 3) := by decide +kernel
theorem d_MO_word_41 : decode b_MO_word 41 = .ok (.iload_n 3, 1) := by decide +kernel
theorem d_MO_word_42 : decode b_MO_word 42 = .ok (.aload_n 0, 1) := by decide +kernel
theorem d_MO_word_43 : decode b_MO_word 43 = .ok (.getfield 25, 3) := by decide +kernel
theorem d_MO_word_46 : decode b_MO_word 46 = .ok (.iload_n 2, 1) := by decide +kernel
theorem d_MO_word_47 : decode b_MO_word 47 = .ok (.iaload, 1) := by decide +kernel
theorem d_MO_word_48 : decode b_MO_word 48 = .ok (.iastore, 1) := by decide +kernel
theorem d_MO_word_49 : decode b_MO_word 49 = .ok (.return_, 1) := by decide +kernel
noncomputable def s_MO_word (a1 : Int32) (a2 : Int32) (a3 : Int32) (M : Mem) : Option (Mem) :=
  bi (s_MO_within a3 (4 : Int32) M) (fun r23 M21 => if r23 = 0 then (nx (st M21 26 16 (3 : Int32)) (fun M30 => some M30)) else (if a1 = (13 : Int32) then (ck a3 4 (ck a2 4 (nx (st M21 32 a2.toNatClampNeg (M21 33 a3.toNatClampNeg)) (fun M29 => some M29)))) else (ck a2 4 (ck a3 4 (nx (st M21 33 a3.toNatClampNeg (M21 32 a2.toNatClampNeg)) (fun M26 => some M26))))))
set_option maxHeartbeats 4000000 in
set_option maxRecDepth 100000 in
theorem c_MO_word (l : Launch) (x : Cx) (hJ : Inj x) (a1 : Int32) (a2 : Int32) (a3 : Int32) {M : Mem} {out : Mem} (h : s_MO_word a1 a2 a3 M = some out) : Cv l x y_MO_word (Cond.code y_MO_word b_MO_word 4 none :: tb) r_MO_word [.ref (x.2.1 26), .int a1, .int a2, .int a3] M out := by
  refine ofCv (cc := b_MO_word) (maxL := 4) (by decide) rfl (rfl) (Nat.le_of_ble_eq_true rfl) ?_
  intro p e s m args below meth c Q G0 ls g hx hb hml hown hts hK hZ hP hS hl hret
  have hown : s.vm.findClass R_MO = some m.cls := hown
  have hl : lv_has ls 4 [(0, .ref (x.2.1 26)), (1, .int a1), (2, .int a2), (3, .int a3)] := hl
  obtain ⟨H, eH⟩ : ∃ z, z = s.heap := ⟨_, rfl⟩
  obtain ⟨locs, eL⟩ : ∃ z, z = ([] : List Loc) := ⟨_, rfl⟩
  rw [← eH] at hP
  have hS : va_S (A0 x) s.heap H locs := by rw [eH, eL]; exact hS
  rw [← eL]
  have key : W p l e r_MO_word s m args below meth c H locs 0 0 Q (F0 m 0 ls []) := by
    clear eH eL
    unfold s_MO_word at h
    refine lv_iload_n hx hb d_MO_word_0 rfl (lv_at hl 3 rfl) ?_
    refine lv_iconst (v := (4 : Int32)) hx hb d_MO_word_1 (by decide) ?_
    obtain ⟨r23, M21, c22, h⟩ := bi_e h
    refine cl_MO_89 (rest := []) (R := r_MO_word) (c_MO_within l x hJ a3 (4 : Int32) c22) hx hb hml hts hown hK hZ hP hS hl.1 (Nat.le_of_ble_eq_true rfl) (Nat.le_of_ble_eq_true rfl) (Nat.le_of_ble_eq_true rfl) ⟨rfl, rfl, Nat.zero_le _, Nat.zero_le _⟩ d_MO_word_2 (fun H locs hP hS => ?_)
    refine lv_if_ne (tgt := 16) hx hb d_MO_word_5 rfl (fun hc => ?_) (fun hc => ?_)
    · have h := if_m hc h
      refine lv_iload_n hx hb d_MO_word_16 rfl (lv_at hl 1 rfl) ?_
      refine lv_bipush (v := (13 : Int32)) hx hb d_MO_word_17 (by decide) ?_
      refine lv_icmp_ne (tgt := 37) hx hb d_MO_word_19 rfl (fun hc => ?_) (fun hc => ?_)
      · have h := if_m hc h
        refine lv_aload_n hx hb d_MO_word_37 rfl (lv_at hl 0 rfl) ?_
        refine gf_MO_28 hx hb hts hown hK hP d_MO_word_38 ?_
        refine lv_iload_n hx hb d_MO_word_41 rfl (lv_at hl 3 rfl) ?_
        refine lv_aload_n hx hb d_MO_word_42 rfl (lv_at hl 0 rfl) ?_
        refine gf_MO_25 hx hb hts hown hK hP d_MO_word_43 ?_
        refine lv_iload_n hx hb d_MO_word_46 rfl (lv_at hl 2 rfl) ?_
        obtain ⟨b24, h⟩ := ck_e h
        refine m_ald hx hb hK hP ar_MO_r b24 d_MO_word_47 ?_
        obtain ⟨b25, h⟩ := ck_e h
        obtain ⟨M26, eM26, h⟩ := nx_e h
        refine m_ast hx hb hK hJ hP hS ar_MO_memory b25 eM26 d_MO_word_48 (fun H locs hP hS => ?_)
        obtain rfl := Option.some.inj h
        exact hret d_MO_word_49 g hP hS
      · have h := if_p hc h
        refine lv_aload_n hx hb d_MO_word_22 rfl (lv_at hl 0 rfl) ?_
        refine gf_MO_25 hx hb hts hown hK hP d_MO_word_23 ?_
        refine lv_iload_n hx hb d_MO_word_26 rfl (lv_at hl 2 rfl) ?_
        refine lv_aload_n hx hb d_MO_word_27 rfl (lv_at hl 0 rfl) ?_
        refine gf_MO_28 hx hb hts hown hK hP d_MO_word_28 ?_
        refine lv_iload_n hx hb d_MO_word_31 rfl (lv_at hl 3 rfl) ?_
        obtain ⟨b27, h⟩ := ck_e h
        refine m_ald hx hb hK hP ar_MO_memory b27 d_MO_word_32 ?_
        obtain ⟨b28, h⟩ := ck_e h
        obtain ⟨M29, eM29, h⟩ := nx_e h
        refine m_ast hx hb hK hJ hP hS ar_MO_r b28 eM29 d_MO_word_33 (fun H locs hP hS => ?_)
        refine lv_goto (tgt := 49) hx hb d_MO_word_34 rfl ?_
        obtain rfl := Option.some.inj h
        exact hret d_MO_word_49 g hP hS
    · have h := if_p hc h
      refine lv_aload_n hx hb d_MO_word_8 rfl (lv_at hl 0 rfl) ?_
      refine lv_iconst (v := (3 : Int32)) hx hb d_MO_word_9 (by decide) ?_
      obtain ⟨M30, eM30, h⟩ := nx_e h
      refine pf_MO_114 hx hb hts hown hK hJ hP hS eM30 d_MO_word_10 (fun H locs hP hS => ?_)
      refine lv_goto (tgt := 49) hx hb d_MO_word_13 rfl ?_
      obtain rfl := Option.some.inj h
      exact hret d_MO_word_49 g hP hS
  rw [eH] at key
  exact key
theorem d_MO_work_0 : decode b_MO_work 0 = .ok (.iload_n 1, 1) := by decide +kernel
theorem d_MO_work_1 : decode b_MO_work 1 = .ok (.tableswitch 280 0 15 #[79, 87, 97, 137, 159, 181, 280, 280, 280, 280, 280, 203, 242, 280, 280, 267], 79) := by decide +kernel
theorem d_MO_work_80 : decode b_MO_work 80 = .ok (.aload_n 0, 1) := by decide +kernel
theorem d_MO_work_81 : decode b_MO_work 81 = .ok (.iconst 0, 1) := by decide +kernel
theorem d_MO_work_82 : decode b_MO_work 82 = .ok (.putfield 114, 3) := by decide +kernel
theorem d_MO_work_85 : decode b_MO_work 85 = .ok (.goto 208, 3) := by decide +kernel
theorem d_MO_work_88 : decode b_MO_work 88 = .ok (.aload_n 0, 1) := by decide +kernel
theorem d_MO_work_89 : decode b_MO_work 89 = .ok (.getfield 25, 3) := by decide +kernel
theorem d_MO_work_92 : decode b_MO_work 92 = .ok (.iload_n 2, 1) := by decide +kernel
theorem d_MO_work_93 : decode b_MO_work 93 = .ok (.iload_n 3, 1) := by decide +kernel
theorem d_MO_work_94 : decode b_MO_work 94 = .ok (.iastore, 1) := by decide +kernel
theorem d_MO_work_95 : decode b_MO_work 95 = .ok (.goto 198, 3) := by decide +kernel
theorem d_MO_work_98 : decode b_MO_work 98 = .ok (.aload_n 0, 1) := by decide +kernel
theorem d_MO_work_99 : decode b_MO_work 99 = .ok (.getfield 25, 3) := by decide +kernel
theorem d_MO_work_102 : decode b_MO_work 102 = .ok (.iload_n 2, 1) := by decide +kernel
theorem d_MO_work_103 : decode b_MO_work 103 = .ok (.aload_n 0, 1) := by decide +kernel
theorem d_MO_work_104 : decode b_MO_work 104 = .ok (.getfield 25, 3) := by decide +kernel
theorem d_MO_work_107 : decode b_MO_work 107 = .ok (.iload_n 3, 1) := by decide +kernel
theorem d_MO_work_108 : decode b_MO_work 108 = .ok (.iaload, 1) := by decide +kernel
theorem d_MO_work_109 : decode b_MO_work 109 = .ok (.aload_n 0, 1) := by decide +kernel
theorem d_MO_work_110 : decode b_MO_work 110 = .ok (.getfield 130, 3) := by decide +kernel
theorem d_MO_work_113 : decode b_MO_work 113 = .ok (.invokestatic 89, 3) := by decide +kernel
theorem d_MO_work_116 : decode b_MO_work 116 = .ok (.ifCond .eq 17, 3) := by decide +kernel
theorem d_MO_work_119 : decode b_MO_work 119 = .ok (.aload_n 0, 1) := by decide +kernel
theorem d_MO_work_120 : decode b_MO_work 120 = .ok (.getfield 22, 3) := by decide +kernel
theorem d_MO_work_123 : decode b_MO_work 123 = .ok (.aload_n 0, 1) := by decide +kernel
theorem d_MO_work_124 : decode b_MO_work 124 = .ok (.getfield 25, 3) := by decide +kernel
theorem d_MO_work_127 : decode b_MO_work 127 = .ok (.iload_n 3, 1) := by decide +kernel
theorem d_MO_work_128 : decode b_MO_work 128 = .ok (.iaload, 1) := by decide +kernel
theorem d_MO_work_129 : decode b_MO_work 129 = .ok (.iaload, 1) := by decide +kernel
theorem d_MO_work_130 : decode b_MO_work 130 = .ok (.goto 4, 3) := by decide +kernel
theorem d_MO_work_133 : decode b_MO_work 133 = .ok (.iconst (-1), 1) := by decide +kernel
theorem d_MO_work_134 : decode b_MO_work 134 = .ok (.iastore, 1) := by decide +kernel
theorem d_MO_work_135 : decode b_MO_work 135 = .ok (.goto 158, 3) := by decide +kernel
theorem d_MO_work_138 : decode b_MO_work 138 = .ok (.aload_n 0, 1) := by decide +kernel
theorem d_MO_work_139 : decode b_MO_work 139 = .ok (.getfield 25, 3) := by decide +kernel
theorem d_MO_work_142 : decode b_MO_work 142 = .ok (.iload_n 2, 1) := by decide +kernel
theorem d_MO_work_143 : decode b_MO_work 143 = .ok (.aload_n 0, 1) := by decide +kernel
theorem d_MO_work_144 : decode b_MO_work 144 = .ok (.getfield 25, 3) := by decide +kernel
theorem d_MO_work_147 : decode b_MO_work 147 = .ok (.iload_n 2, 1) := by decide +kernel
theorem d_MO_work_148 : decode b_MO_work 148 = .ok (.iaload, 1) := by decide +kernel
theorem d_MO_work_149 : decode b_MO_work 149 = .ok (.aload_n 0, 1) := by decide +kernel
theorem d_MO_work_150 : decode b_MO_work 150 = .ok (.getfield 25, 3) := by decide +kernel
theorem d_MO_work_153 : decode b_MO_work 153 = .ok (.iload_n 3, 1) := by decide +kernel
theorem d_MO_work_154 : decode b_MO_work 154 = .ok (.iaload, 1) := by decide +kernel
theorem d_MO_work_155 : decode b_MO_work 155 = .ok (.iadd, 1) := by decide +kernel
theorem d_MO_work_156 : decode b_MO_work 156 = .ok (.iastore, 1) := by decide +kernel
theorem d_MO_work_157 : decode b_MO_work 157 = .ok (.goto 136, 3) := by decide +kernel
theorem d_MO_work_160 : decode b_MO_work 160 = .ok (.aload_n 0, 1) := by decide +kernel
theorem d_MO_work_161 : decode b_MO_work 161 = .ok (.getfield 25, 3) := by decide +kernel
theorem d_MO_work_164 : decode b_MO_work 164 = .ok (.iload_n 2, 1) := by decide +kernel
theorem d_MO_work_165 : decode b_MO_work 165 = .ok (.aload_n 0, 1) := by decide +kernel
theorem d_MO_work_166 : decode b_MO_work 166 = .ok (.getfield 25, 3) := by decide +kernel
theorem d_MO_work_169 : decode b_MO_work 169 = .ok (.iload_n 2, 1) := by decide +kernel
theorem d_MO_work_170 : decode b_MO_work 170 = .ok (.iaload, 1) := by decide +kernel
theorem d_MO_work_171 : decode b_MO_work 171 = .ok (.aload_n 0, 1) := by decide +kernel
theorem d_MO_work_172 : decode b_MO_work 172 = .ok (.getfield 25, 3) := by decide +kernel
theorem d_MO_work_175 : decode b_MO_work 175 = .ok (.iload_n 3, 1) := by decide +kernel
theorem d_MO_work_176 : decode b_MO_work 176 = .ok (.iaload, 1) := by decide +kernel
theorem d_MO_work_177 : decode b_MO_work 177 = .ok (.isub, 1) := by decide +kernel
theorem d_MO_work_178 : decode b_MO_work 178 = .ok (.iastore, 1) := by decide +kernel
theorem d_MO_work_179 : decode b_MO_work 179 = .ok (.goto 114, 3) := by decide +kernel
theorem d_MO_work_182 : decode b_MO_work 182 = .ok (.aload_n 0, 1) := by decide +kernel
theorem d_MO_work_183 : decode b_MO_work 183 = .ok (.getfield 25, 3) := by decide +kernel
theorem d_MO_work_186 : decode b_MO_work 186 = .ok (.iload_n 2, 1) := by decide +kernel
theorem d_MO_work_187 : decode b_MO_work 187 = .ok (.aload_n 0, 1) := by decide +kernel
theorem d_MO_work_188 : decode b_MO_work 188 = .ok (.getfield 25, 3) := by decide +kernel
theorem d_MO_work_191 : decode b_MO_work 191 = .ok (.iload_n 2, 1) := by decide +kernel
theorem d_MO_work_192 : decode b_MO_work 192 = .ok (.iaload, 1) := by decide +kernel
theorem d_MO_work_193 : decode b_MO_work 193 = .ok (.aload_n 0, 1) := by decide +kernel
theorem d_MO_work_194 : decode b_MO_work 194 = .ok (.getfield 25, 3) := by decide +kernel
theorem d_MO_work_197 : decode b_MO_work 197 = .ok (.iload_n 3, 1) := by decide +kernel
theorem d_MO_work_198 : decode b_MO_work 198 = .ok (.iaload, 1) := by decide +kernel
theorem d_MO_work_199 : decode b_MO_work 199 = .ok (.imul, 1) := by decide +kernel
theorem d_MO_work_200 : decode b_MO_work 200 = .ok (.iastore, 1) := by decide +kernel
theorem d_MO_work_201 : decode b_MO_work 201 = .ok (.goto 92, 3) := by decide +kernel
theorem d_MO_work_204 : decode b_MO_work 204 = .ok (.aload_n 0, 1) := by decide +kernel
theorem d_MO_work_205 : decode b_MO_work 205 = .ok (.getfield 25, 3) := by decide +kernel
theorem d_MO_work_208 : decode b_MO_work 208 = .ok (.iload_n 3, 1) := by decide +kernel
theorem d_MO_work_209 : decode b_MO_work 209 = .ok (.iaload, 1) := by decide +kernel
theorem d_MO_work_210 : decode b_MO_work 210 = .ok (.ifCond .ne 11, 3) := by decide +kernel
theorem d_MO_work_213 : decode b_MO_work 213 = .ok (.aload_n 0, 1) := by decide +kernel
theorem d_MO_work_214 : decode b_MO_work 214 = .ok (.iconst 2, 1) := by decide +kernel
theorem d_MO_work_215 : decode b_MO_work 215 = .ok (.putfield 114, 3) := by decide +kernel
theorem d_MO_work_218 : decode b_MO_work 218 = .ok (.goto 75, 3) := by decide +kernel
theorem d_MO_work_221 : decode b_MO_work 221 = .ok (.aload_n 0, 1) := by decide +kernel
theorem d_MO_work_222 : decode b_MO_work 222 = .ok (.getfield 25, 3) := by decide +kernel
theorem d_MO_work_225 : decode b_MO_work 225 = .ok (.iload_n 2, 1) := by decide +kernel
theorem d_MO_work_226 : decode b_MO_work 226 = .ok (.aload_n 0, 1) := by decide +kernel
theorem d_MO_work_227 : decode b_MO_work 227 = .ok (.getfield 25, 3) := by decide +kernel
theorem d_MO_work_230 : decode b_MO_work 230 = .ok (.iload_n 2, 1) := by decide +kernel
theorem d_MO_work_231 : decode b_MO_work 231 = .ok (.iaload, 1) := by decide +kernel
theorem d_MO_work_232 : decode b_MO_work 232 = .ok (.aload_n 0, 1) := by decide +kernel
theorem d_MO_work_233 : decode b_MO_work 233 = .ok (.getfield 25, 3) := by decide +kernel
theorem d_MO_work_236 : decode b_MO_work 236 = .ok (.iload_n 3, 1) := by decide +kernel
theorem d_MO_work_237 : decode b_MO_work 237 = .ok (.iaload, 1) := by decide +kernel
theorem d_MO_work_238 : decode b_MO_work 238 = .ok (.idiv, 1) := by decide +kernel
theorem d_MO_work_239 : decode b_MO_work 239 = .ok (.iastore, 1) := by decide +kernel
theorem d_MO_work_240 : decode b_MO_work 240 = .ok (.goto 53, 3) := by decide +kernel
theorem d_MO_work_243 : decode b_MO_work 243 = .ok (.aload_n 0, 1) := by decide +kernel
theorem d_MO_work_244 : decode b_MO_work 244 = .ok (.aload_n 0, 1) := by decide +kernel
theorem d_MO_work_245 : decode b_MO_work 245 = .ok (.getfield 25, 3) := by decide +kernel
theorem d_MO_work_248 : decode b_MO_work 248 = .ok (.iload_n 2, 1) := by decide +kernel
theorem d_MO_work_249 : decode b_MO_work 249 = .ok (.iaload, 1) := by decide +kernel
theorem d_MO_work_250 : decode b_MO_work 250 = .ok (.iload_n 3, 1) := by decide +kernel
theorem d_MO_work_251 : decode b_MO_work 251 = .ok (.if_icmp .ne 7, 3) := by decide +kernel
theorem d_MO_work_254 : decode b_MO_work 254 = .ok (.iconst 1, 1) := by decide +kernel
theorem d_MO_work_255 : decode b_MO_work 255 = .ok (.goto 7, 3) := by decide +kernel
theorem d_MO_work_258 : decode b_MO_work 258 = .ok (.aload_n 0, 1) := by decide +kernel
theorem d_MO_work_259 : decode b_MO_work 259 = .ok (.getfield 114, 3) := by decide +kernel
theorem d_MO_work_262 : decode b_MO_work 262 = .ok (.putfield 114, 3) := by decide +kernel
theorem d_MO_work_265 : decode b_MO_work 265 = .ok (.goto 28, 3) := by decide +kernel
theorem d_MO_work_268 : decode b_MO_work 268 = .ok (.aload_n 0, 1) := by decide +kernel
theorem d_MO_work_269 : decode b_MO_work 269 = .ok (.getfield 25, 3) := by decide +kernel
theorem d_MO_work_272 : decode b_MO_work 272 = .ok (.iload_n 2, 1) := by decide +kernel
theorem d_MO_work_273 : decode b_MO_work 273 = .ok (.aload_n 0, 1) := by decide +kernel
theorem d_MO_work_274 : decode b_MO_work 274 = .ok (.getfield 130, 3) := by decide +kernel
theorem d_MO_work_277 : decode b_MO_work 277 = .ok (.iastore, 1) := by decide +kernel
theorem d_MO_work_278 : decode b_MO_work 278 = .ok (.goto 15, 3) := by decide +kernel
theorem d_MO_work_281 : decode b_MO_work 281 = .ok (.aload_n 0, 1) := by decide +kernel
theorem d_MO_work_282 : decode b_MO_work 282 = .ok (.iload_n 1, 1) := by decide +kernel
theorem d_MO_work_283 : decode b_MO_work 283 = .ok (.iload_n 2, 1) := by decide +kernel
theorem d_MO_work_284 : decode b_MO_work 284 = .ok (.aload_n 0, 1) := by decide +kernel
theorem d_MO_work_285 : decode b_MO_work 285 = .ok (.getfield 25, 3) := by decide +kernel
theorem d_MO_work_288 : decode b_MO_work 288 = .ok (.iload_n 3, 1) := by decide +kernel
theorem d_MO_work_289 : decode b_MO_work 289 = .ok (.iaload, 1) := by decide +kernel
theorem d_MO_work_290 : decode b_MO_work 290 = .ok (.invokevirtual 133, 3) := by decide +kernel
theorem d_MO_work_293 : decode b_MO_work 293 = .ok (.return_, 1) := by decide +kernel
noncomputable def j_MO_work_281 (a21 : Int32) (a22 : Int32) (a23 : Int32) (M24 : Mem) : Option (Mem) :=
  ck a23 4 (bv (s_MO_word a21 a22 (M24 32 a23.toNatClampNeg) M24) (fun M26 => some M26))
noncomputable def s_MO_work (a1 : Int32) (a2 : Int32) (a3 : Int32) (M : Mem) : Option (Mem) :=
  if a1 = (0 : Int32) then (nx (st M 26 16 (0 : Int32)) (fun M28 => some M28)) else (if a1 = (1 : Int32) then (ck a2 4 (nx (st M 32 a2.toNatClampNeg a3) (fun M31 => some M31))) else (if a1 = (2 : Int32) then (ck a3 4 (bi (s_MO_within (M 32 a3.toNatClampNeg) (M 26 8) M) (fun r36 M34 => if r36 = 0 then (ck a2 4 (nx (st M34 32 a2.toNatClampNeg (-1 : Int32)) (fun M38 => some M38))) else (ck a3 4 (ck (M34 32 a3.toNatClampNeg) 6 (ck a2 4 (nx (st M34 32 a2.toNatClampNeg (M34 31 (M34 32 a3.toNatClampNeg).toNatClampNeg)) (fun M42 => some M42)))))))) else (if a1 = (3 : Int32) then (ck a2 4 (ck a3 4 (ck a2 4 (nx (st M 32 a2.toNatClampNeg ((M 32 a2.toNatClampNeg) + (M 32 a3.toNatClampNeg))) (fun M47 => some M47))))) else (if a1 = (4 : Int32) then (ck a2 4 (ck a3 4 (ck a2 4 (nx (st M 32 a2.toNatClampNeg ((M 32 a2.toNatClampNeg) - (M 32 a3.toNatClampNeg))) (fun M52 => some M52))))) else (if a1 = (5 : Int32) then (ck a2 4 (ck a3 4 (ck a2 4 (nx (st M 32 a2.toNatClampNeg ((M 32 a2.toNatClampNeg) * (M 32 a3.toNatClampNeg))) (fun M57 => some M57))))) else (if a1 = (6 : Int32) then (j_MO_work_281 a1 a2 a3 M) else (if a1 = (7 : Int32) then (j_MO_work_281 a1 a2 a3 M) else (if a1 = (8 : Int32) then (j_MO_work_281 a1 a2 a3 M) else (if a1 = (9 : Int32) then (j_MO_work_281 a1 a2 a3 M) else (if a1 = (10 : Int32) then (j_MO_work_281 a1 a2 a3 M) else (if a1 = (11 : Int32) then (ck a3 4 (if (M 32 a3.toNatClampNeg) = 0 then (nx (st M 26 16 (2 : Int32)) (fun M70 => some M70)) else (ck a2 4 (ck a3 4 (cz (M 32 a3.toNatClampNeg) (ck a2 4 (nx (st M 32 a2.toNatClampNeg ((M 32 a2.toNatClampNeg) / (M 32 a3.toNatClampNeg))) (fun M69 => some M69)))))))) else (if a1 = (12 : Int32) then (ck a2 4 (if (M 32 a2.toNatClampNeg) = a3 then (nx (st M 26 16 (1 : Int32)) (fun M74 => some M74)) else (nx (st M 26 16 (M 26 16)) (fun M73 => some M73)))) else (if a1 = (13 : Int32) then (j_MO_work_281 a1 a2 a3 M) else (if a1 = (14 : Int32) then (j_MO_work_281 a1 a2 a3 M) else (if a1 = (15 : Int32) then (ck a2 4 (nx (st M 32 a2.toNatClampNeg (M 26 8)) (fun M79 => some M79))) else (j_MO_work_281 a1 a2 a3 M))))))))))))))))
set_option maxHeartbeats 4000000 in
set_option maxRecDepth 100000 in
theorem c_MO_work (l : Launch) (x : Cx) (hJ : Inj x) (a1 : Int32) (a2 : Int32) (a3 : Int32) {M : Mem} {out : Mem} (h : s_MO_work a1 a2 a3 M = some out) : Cv l x y_MO_work (Cond.code y_MO_work b_MO_work 4 none :: tb) r_MO_work [.ref (x.2.1 26), .int a1, .int a2, .int a3] M out := by
  refine ofCv (cc := b_MO_work) (maxL := 4) (by decide) rfl (rfl) (Nat.le_of_ble_eq_true rfl) ?_
  intro p e s m args below meth c Q G0 ls g hx hb hml hown hts hK hZ hP hS hl hret
  have hown : s.vm.findClass R_MO = some m.cls := hown
  have hl : lv_has ls 4 [(0, .ref (x.2.1 26)), (1, .int a1), (2, .int a2), (3, .int a3)] := hl
  obtain ⟨H, eH⟩ : ∃ z, z = s.heap := ⟨_, rfl⟩
  obtain ⟨locs, eL⟩ : ∃ z, z = ([] : List Loc) := ⟨_, rfl⟩
  rw [← eH] at hP
  have hS : va_S (A0 x) s.heap H locs := by rw [eH, eL]; exact hS
  rw [← eL]
  have key : W p l e r_MO_work s m args below meth c H locs 0 0 Q (F0 m 0 ls []) := by
    clear eH eL
    unfold s_MO_work at h
    have J281 : ∀ (a21 : Int32) (a22 : Int32) (a23 : Int32) (M24 : Mem)  (res : Mem) (h : j_MO_work_281 a21 a22 a23 M24 = some res) (g : G0 res) (H : Heap) (locs : List Loc) (ls : Array Slot) (hP : va_P x.1 vwCl (wld x M24) H) (hS : va_S (A0 x) s.heap H locs) (hl : lv_has ls 4 [(0, .ref (x.2.1 26)), (1, .int a21), (2, .int a22), (3, .int a23)]), W p l e r_MO_work s m args below meth c H locs 0 0 Q (F0 m 281 ls []) := by
      intro a21 a22 a23 M24 res h g H locs ls hP hS hl
      unfold j_MO_work_281 at h
      refine lv_aload_n hx hb d_MO_work_281 rfl (lv_at hl 0 rfl) ?_
      refine lv_iload_n hx hb d_MO_work_282 rfl (lv_at hl 1 rfl) ?_
      refine lv_iload_n hx hb d_MO_work_283 rfl (lv_at hl 2 rfl) ?_
      refine lv_aload_n hx hb d_MO_work_284 rfl (lv_at hl 0 rfl) ?_
      refine gf_MO_25 hx hb hts hown hK hP d_MO_work_285 ?_
      refine lv_iload_n hx hb d_MO_work_288 rfl (lv_at hl 3 rfl) ?_
      obtain ⟨b25, h⟩ := ck_e h
      refine m_ald hx hb hK hP ar_MO_r b25 d_MO_work_289 ?_
      obtain ⟨M26, c27, h⟩ := bv_e h
      refine cl_MO_133 (rest := []) (R := r_MO_work) (c_MO_word l x hJ a21 a22 (M24 32 a23.toNatClampNeg) c27) hx hb hml hts hown hK hZ hP hS hl.1 (Nat.le_of_ble_eq_true rfl) (Nat.le_of_ble_eq_true rfl) (Nat.le_of_ble_eq_true rfl) ⟨rfl, rfl, Nat.zero_le _, Nat.zero_le _⟩ d_MO_work_290 (fun H locs hP hS => ?_)
      obtain rfl := Option.some.inj h
      exact hret d_MO_work_293 g hP hS
    refine lv_iload_n hx hb d_MO_work_0 rfl (lv_at hl 1 rfl) ?_
    by_cases n29 : a1 = (0 : Int32)
    · have h := if_p n29 h
      refine sw_in (k := (0 : Int32)) (tgt := 80) hx hb n29 d_MO_work_1 (by decide) (by decide) rfl rfl ?_
      refine lv_aload_n hx hb d_MO_work_80 rfl (lv_at hl 0 rfl) ?_
      refine lv_iconst (v := (0 : Int32)) hx hb d_MO_work_81 (by decide) ?_
      obtain ⟨M28, eM28, h⟩ := nx_e h
      refine pf_MO_114 hx hb hts hown hK hJ hP hS eM28 d_MO_work_82 (fun H locs hP hS => ?_)
      refine lv_goto (tgt := 293) hx hb d_MO_work_85 rfl ?_
      obtain rfl := Option.some.inj h
      exact hret d_MO_work_293 g hP hS
    have h := if_m n29 h
    by_cases n32 : a1 = (1 : Int32)
    · have h := if_p n32 h
      refine sw_in (k := (1 : Int32)) (tgt := 88) hx hb n32 d_MO_work_1 (by decide) (by decide) rfl rfl ?_
      refine lv_aload_n hx hb d_MO_work_88 rfl (lv_at hl 0 rfl) ?_
      refine gf_MO_25 hx hb hts hown hK hP d_MO_work_89 ?_
      refine lv_iload_n hx hb d_MO_work_92 rfl (lv_at hl 2 rfl) ?_
      refine lv_iload_n hx hb d_MO_work_93 rfl (lv_at hl 3 rfl) ?_
      obtain ⟨b30, h⟩ := ck_e h
      obtain ⟨M31, eM31, h⟩ := nx_e h
      refine m_ast hx hb hK hJ hP hS ar_MO_r b30 eM31 d_MO_work_94 (fun H locs hP hS => ?_)
      refine lv_goto (tgt := 293) hx hb d_MO_work_95 rfl ?_
      obtain rfl := Option.some.inj h
      exact hret d_MO_work_293 g hP hS
    have h := if_m n32 h
    by_cases n43 : a1 = (2 : Int32)
    · have h := if_p n43 h
      refine sw_in (k := (2 : Int32)) (tgt := 98) hx hb n43 d_MO_work_1 (by decide) (by decide) rfl rfl ?_
      refine lv_aload_n hx hb d_MO_work_98 rfl (lv_at hl 0 rfl) ?_
      refine gf_MO_25 hx hb hts hown hK hP d_MO_work_99 ?_
      refine lv_iload_n hx hb d_MO_work_102 rfl (lv_at hl 2 rfl) ?_
      refine lv_aload_n hx hb d_MO_work_103 rfl (lv_at hl 0 rfl) ?_
      refine gf_MO_25 hx hb hts hown hK hP d_MO_work_104 ?_
      refine lv_iload_n hx hb d_MO_work_107 rfl (lv_at hl 3 rfl) ?_
      obtain ⟨b33, h⟩ := ck_e h
      refine m_ald hx hb hK hP ar_MO_r b33 d_MO_work_108 ?_
      refine lv_aload_n hx hb d_MO_work_109 rfl (lv_at hl 0 rfl) ?_
      refine gf_MO_130 hx hb hts hown hK hP d_MO_work_110 ?_
      obtain ⟨r36, M34, c35, h⟩ := bi_e h
      refine cl_MO_89 (rest := [.int a2, .ref (x.2.1 32)]) (R := r_MO_work) (c_MO_within l x hJ (M 32 a3.toNatClampNeg) (M 26 8) c35) hx hb hml hts hown hK hZ hP hS hl.1 (Nat.le_of_ble_eq_true rfl) (Nat.le_of_ble_eq_true rfl) (Nat.le_of_ble_eq_true rfl) ⟨rfl, rfl, Nat.zero_le _, Nat.zero_le _⟩ d_MO_work_113 (fun H locs hP hS => ?_)
      refine lv_if_eq (tgt := 133) hx hb d_MO_work_116 rfl (fun hc => ?_) (fun hc => ?_)
      · have h := if_p hc h
        refine lv_iconst (v := (-1 : Int32)) hx hb d_MO_work_133 (by decide) ?_
        obtain ⟨b37, h⟩ := ck_e h
        obtain ⟨M38, eM38, h⟩ := nx_e h
        refine m_ast hx hb hK hJ hP hS ar_MO_r b37 eM38 d_MO_work_134 (fun H locs hP hS => ?_)
        refine lv_goto (tgt := 293) hx hb d_MO_work_135 rfl ?_
        obtain rfl := Option.some.inj h
        exact hret d_MO_work_293 g hP hS
      · have h := if_m hc h
        refine lv_aload_n hx hb d_MO_work_119 rfl (lv_at hl 0 rfl) ?_
        refine gf_MO_22 hx hb hts hown hK hP d_MO_work_120 ?_
        refine lv_aload_n hx hb d_MO_work_123 rfl (lv_at hl 0 rfl) ?_
        refine gf_MO_25 hx hb hts hown hK hP d_MO_work_124 ?_
        refine lv_iload_n hx hb d_MO_work_127 rfl (lv_at hl 3 rfl) ?_
        obtain ⟨b39, h⟩ := ck_e h
        refine m_ald hx hb hK hP ar_MO_r b39 d_MO_work_128 ?_
        obtain ⟨b40, h⟩ := ck_e h
        refine m_ald hx hb hK hP ar_MO_tape b40 d_MO_work_129 ?_
        refine lv_goto (tgt := 134) hx hb d_MO_work_130 rfl ?_
        obtain ⟨b41, h⟩ := ck_e h
        obtain ⟨M42, eM42, h⟩ := nx_e h
        refine m_ast hx hb hK hJ hP hS ar_MO_r b41 eM42 d_MO_work_134 (fun H locs hP hS => ?_)
        refine lv_goto (tgt := 293) hx hb d_MO_work_135 rfl ?_
        obtain rfl := Option.some.inj h
        exact hret d_MO_work_293 g hP hS
    have h := if_m n43 h
    by_cases n48 : a1 = (3 : Int32)
    · have h := if_p n48 h
      refine sw_in (k := (3 : Int32)) (tgt := 138) hx hb n48 d_MO_work_1 (by decide) (by decide) rfl rfl ?_
      refine lv_aload_n hx hb d_MO_work_138 rfl (lv_at hl 0 rfl) ?_
      refine gf_MO_25 hx hb hts hown hK hP d_MO_work_139 ?_
      refine lv_iload_n hx hb d_MO_work_142 rfl (lv_at hl 2 rfl) ?_
      refine lv_aload_n hx hb d_MO_work_143 rfl (lv_at hl 0 rfl) ?_
      refine gf_MO_25 hx hb hts hown hK hP d_MO_work_144 ?_
      refine lv_iload_n hx hb d_MO_work_147 rfl (lv_at hl 2 rfl) ?_
      obtain ⟨b44, h⟩ := ck_e h
      refine m_ald hx hb hK hP ar_MO_r b44 d_MO_work_148 ?_
      refine lv_aload_n hx hb d_MO_work_149 rfl (lv_at hl 0 rfl) ?_
      refine gf_MO_25 hx hb hts hown hK hP d_MO_work_150 ?_
      refine lv_iload_n hx hb d_MO_work_153 rfl (lv_at hl 3 rfl) ?_
      obtain ⟨b45, h⟩ := ck_e h
      refine m_ald hx hb hK hP ar_MO_r b45 d_MO_work_154 ?_
      refine lv_iadd hx hb d_MO_work_155 ?_
      obtain ⟨b46, h⟩ := ck_e h
      obtain ⟨M47, eM47, h⟩ := nx_e h
      refine m_ast hx hb hK hJ hP hS ar_MO_r b46 eM47 d_MO_work_156 (fun H locs hP hS => ?_)
      refine lv_goto (tgt := 293) hx hb d_MO_work_157 rfl ?_
      obtain rfl := Option.some.inj h
      exact hret d_MO_work_293 g hP hS
    have h := if_m n48 h
    by_cases n53 : a1 = (4 : Int32)
    · have h := if_p n53 h
      refine sw_in (k := (4 : Int32)) (tgt := 160) hx hb n53 d_MO_work_1 (by decide) (by decide) rfl rfl ?_
      refine lv_aload_n hx hb d_MO_work_160 rfl (lv_at hl 0 rfl) ?_
      refine gf_MO_25 hx hb hts hown hK hP d_MO_work_161 ?_
      refine lv_iload_n hx hb d_MO_work_164 rfl (lv_at hl 2 rfl) ?_
      refine lv_aload_n hx hb d_MO_work_165 rfl (lv_at hl 0 rfl) ?_
      refine gf_MO_25 hx hb hts hown hK hP d_MO_work_166 ?_
      refine lv_iload_n hx hb d_MO_work_169 rfl (lv_at hl 2 rfl) ?_
      obtain ⟨b49, h⟩ := ck_e h
      refine m_ald hx hb hK hP ar_MO_r b49 d_MO_work_170 ?_
      refine lv_aload_n hx hb d_MO_work_171 rfl (lv_at hl 0 rfl) ?_
      refine gf_MO_25 hx hb hts hown hK hP d_MO_work_172 ?_
      refine lv_iload_n hx hb d_MO_work_175 rfl (lv_at hl 3 rfl) ?_
      obtain ⟨b50, h⟩ := ck_e h
      refine m_ald hx hb hK hP ar_MO_r b50 d_MO_work_176 ?_
      refine lv_isub hx hb d_MO_work_177 ?_
      obtain ⟨b51, h⟩ := ck_e h
      obtain ⟨M52, eM52, h⟩ := nx_e h
      refine m_ast hx hb hK hJ hP hS ar_MO_r b51 eM52 d_MO_work_178 (fun H locs hP hS => ?_)
      refine lv_goto (tgt := 293) hx hb d_MO_work_179 rfl ?_
      obtain rfl := Option.some.inj h
      exact hret d_MO_work_293 g hP hS
    have h := if_m n53 h
    by_cases n58 : a1 = (5 : Int32)
    · have h := if_p n58 h
      refine sw_in (k := (5 : Int32)) (tgt := 182) hx hb n58 d_MO_work_1 (by decide) (by decide) rfl rfl ?_
      refine lv_aload_n hx hb d_MO_work_182 rfl (lv_at hl 0 rfl) ?_
      refine gf_MO_25 hx hb hts hown hK hP d_MO_work_183 ?_
      refine lv_iload_n hx hb d_MO_work_186 rfl (lv_at hl 2 rfl) ?_
      refine lv_aload_n hx hb d_MO_work_187 rfl (lv_at hl 0 rfl) ?_
      refine gf_MO_25 hx hb hts hown hK hP d_MO_work_188 ?_
      refine lv_iload_n hx hb d_MO_work_191 rfl (lv_at hl 2 rfl) ?_
      obtain ⟨b54, h⟩ := ck_e h
      refine m_ald hx hb hK hP ar_MO_r b54 d_MO_work_192 ?_
      refine lv_aload_n hx hb d_MO_work_193 rfl (lv_at hl 0 rfl) ?_
      refine gf_MO_25 hx hb hts hown hK hP d_MO_work_194 ?_
      refine lv_iload_n hx hb d_MO_work_197 rfl (lv_at hl 3 rfl) ?_
      obtain ⟨b55, h⟩ := ck_e h
      refine m_ald hx hb hK hP ar_MO_r b55 d_MO_work_198 ?_
      refine lv_imul hx hb d_MO_work_199 ?_
      obtain ⟨b56, h⟩ := ck_e h
      obtain ⟨M57, eM57, h⟩ := nx_e h
      refine m_ast hx hb hK hJ hP hS ar_MO_r b56 eM57 d_MO_work_200 (fun H locs hP hS => ?_)
      refine lv_goto (tgt := 293) hx hb d_MO_work_201 rfl ?_
      obtain rfl := Option.some.inj h
      exact hret d_MO_work_293 g hP hS
    have h := if_m n58 h
    by_cases n59 : a1 = (6 : Int32)
    · have h := if_p n59 h
      refine sw_in (k := (6 : Int32)) (tgt := 281) hx hb n59 d_MO_work_1 (by decide) (by decide) rfl rfl ?_
      exact J281 a1 a2 a3 M _ h g H locs ls hP hS (lv_sub hl [0, 1, 2, 3] rfl)
    have h := if_m n59 h
    by_cases n60 : a1 = (7 : Int32)
    · have h := if_p n60 h
      refine sw_in (k := (7 : Int32)) (tgt := 281) hx hb n60 d_MO_work_1 (by decide) (by decide) rfl rfl ?_
      exact J281 a1 a2 a3 M _ h g H locs ls hP hS (lv_sub hl [0, 1, 2, 3] rfl)
    have h := if_m n60 h
    by_cases n61 : a1 = (8 : Int32)
    · have h := if_p n61 h
      refine sw_in (k := (8 : Int32)) (tgt := 281) hx hb n61 d_MO_work_1 (by decide) (by decide) rfl rfl ?_
      exact J281 a1 a2 a3 M _ h g H locs ls hP hS (lv_sub hl [0, 1, 2, 3] rfl)
    have h := if_m n61 h
    by_cases n62 : a1 = (9 : Int32)
    · have h := if_p n62 h
      refine sw_in (k := (9 : Int32)) (tgt := 281) hx hb n62 d_MO_work_1 (by decide) (by decide) rfl rfl ?_
      exact J281 a1 a2 a3 M _ h g H locs ls hP hS (lv_sub hl [0, 1, 2, 3] rfl)
    have h := if_m n62 h
    by_cases n63 : a1 = (10 : Int32)
    · have h := if_p n63 h
      refine sw_in (k := (10 : Int32)) (tgt := 281) hx hb n63 d_MO_work_1 (by decide) (by decide) rfl rfl ?_
      exact J281 a1 a2 a3 M _ h g H locs ls hP hS (lv_sub hl [0, 1, 2, 3] rfl)
    have h := if_m n63 h
    by_cases n71 : a1 = (11 : Int32)
    · have h := if_p n71 h
      refine sw_in (k := (11 : Int32)) (tgt := 204) hx hb n71 d_MO_work_1 (by decide) (by decide) rfl rfl ?_
      refine lv_aload_n hx hb d_MO_work_204 rfl (lv_at hl 0 rfl) ?_
      refine gf_MO_25 hx hb hts hown hK hP d_MO_work_205 ?_
      refine lv_iload_n hx hb d_MO_work_208 rfl (lv_at hl 3 rfl) ?_
      obtain ⟨b64, h⟩ := ck_e h
      refine m_ald hx hb hK hP ar_MO_r b64 d_MO_work_209 ?_
      refine lv_if_ne (tgt := 221) hx hb d_MO_work_210 rfl (fun hc => ?_) (fun hc => ?_)
      · have h := if_m hc h
        refine lv_aload_n hx hb d_MO_work_221 rfl (lv_at hl 0 rfl) ?_
        refine gf_MO_25 hx hb hts hown hK hP d_MO_work_222 ?_
        refine lv_iload_n hx hb d_MO_work_225 rfl (lv_at hl 2 rfl) ?_
        refine lv_aload_n hx hb d_MO_work_226 rfl (lv_at hl 0 rfl) ?_
        refine gf_MO_25 hx hb hts hown hK hP d_MO_work_227 ?_
        refine lv_iload_n hx hb d_MO_work_230 rfl (lv_at hl 2 rfl) ?_
        obtain ⟨b65, h⟩ := ck_e h
        refine m_ald hx hb hK hP ar_MO_r b65 d_MO_work_231 ?_
        refine lv_aload_n hx hb d_MO_work_232 rfl (lv_at hl 0 rfl) ?_
        refine gf_MO_25 hx hb hts hown hK hP d_MO_work_233 ?_
        refine lv_iload_n hx hb d_MO_work_236 rfl (lv_at hl 3 rfl) ?_
        obtain ⟨b66, h⟩ := ck_e h
        refine m_ald hx hb hK hP ar_MO_r b66 d_MO_work_237 ?_
        obtain ⟨z67, h⟩ := cz_e h
        refine lv_idiv hx hb d_MO_work_238 z67 ?_
        obtain ⟨b68, h⟩ := ck_e h
        obtain ⟨M69, eM69, h⟩ := nx_e h
        refine m_ast hx hb hK hJ hP hS ar_MO_r b68 eM69 d_MO_work_239 (fun H locs hP hS => ?_)
        refine lv_goto (tgt := 293) hx hb d_MO_work_240 rfl ?_
        obtain rfl := Option.some.inj h
        exact hret d_MO_work_293 g hP hS
      · have h := if_p hc h
        refine lv_aload_n hx hb d_MO_work_213 rfl (lv_at hl 0 rfl) ?_
        refine lv_iconst (v := (2 : Int32)) hx hb d_MO_work_214 (by decide) ?_
        obtain ⟨M70, eM70, h⟩ := nx_e h
        refine pf_MO_114 hx hb hts hown hK hJ hP hS eM70 d_MO_work_215 (fun H locs hP hS => ?_)
        refine lv_goto (tgt := 293) hx hb d_MO_work_218 rfl ?_
        obtain rfl := Option.some.inj h
        exact hret d_MO_work_293 g hP hS
    have h := if_m n71 h
    by_cases n75 : a1 = (12 : Int32)
    · have h := if_p n75 h
      refine sw_in (k := (12 : Int32)) (tgt := 243) hx hb n75 d_MO_work_1 (by decide) (by decide) rfl rfl ?_
      refine lv_aload_n hx hb d_MO_work_243 rfl (lv_at hl 0 rfl) ?_
      refine lv_aload_n hx hb d_MO_work_244 rfl (lv_at hl 0 rfl) ?_
      refine gf_MO_25 hx hb hts hown hK hP d_MO_work_245 ?_
      refine lv_iload_n hx hb d_MO_work_248 rfl (lv_at hl 2 rfl) ?_
      obtain ⟨b72, h⟩ := ck_e h
      refine m_ald hx hb hK hP ar_MO_r b72 d_MO_work_249 ?_
      refine lv_iload_n hx hb d_MO_work_250 rfl (lv_at hl 3 rfl) ?_
      refine lv_icmp_ne (tgt := 258) hx hb d_MO_work_251 rfl (fun hc => ?_) (fun hc => ?_)
      · have h := if_m hc h
        refine lv_aload_n hx hb d_MO_work_258 rfl (lv_at hl 0 rfl) ?_
        refine gf_MO_114 hx hb hts hown hK hP d_MO_work_259 ?_
        obtain ⟨M73, eM73, h⟩ := nx_e h
        refine pf_MO_114 hx hb hts hown hK hJ hP hS eM73 d_MO_work_262 (fun H locs hP hS => ?_)
        refine lv_goto (tgt := 293) hx hb d_MO_work_265 rfl ?_
        obtain rfl := Option.some.inj h
        exact hret d_MO_work_293 g hP hS
      · have h := if_p hc h
        refine lv_iconst (v := (1 : Int32)) hx hb d_MO_work_254 (by decide) ?_
        refine lv_goto (tgt := 262) hx hb d_MO_work_255 rfl ?_
        obtain ⟨M74, eM74, h⟩ := nx_e h
        refine pf_MO_114 hx hb hts hown hK hJ hP hS eM74 d_MO_work_262 (fun H locs hP hS => ?_)
        refine lv_goto (tgt := 293) hx hb d_MO_work_265 rfl ?_
        obtain rfl := Option.some.inj h
        exact hret d_MO_work_293 g hP hS
    have h := if_m n75 h
    by_cases n76 : a1 = (13 : Int32)
    · have h := if_p n76 h
      refine sw_in (k := (13 : Int32)) (tgt := 281) hx hb n76 d_MO_work_1 (by decide) (by decide) rfl rfl ?_
      exact J281 a1 a2 a3 M _ h g H locs ls hP hS (lv_sub hl [0, 1, 2, 3] rfl)
    have h := if_m n76 h
    by_cases n77 : a1 = (14 : Int32)
    · have h := if_p n77 h
      refine sw_in (k := (14 : Int32)) (tgt := 281) hx hb n77 d_MO_work_1 (by decide) (by decide) rfl rfl ?_
      exact J281 a1 a2 a3 M _ h g H locs ls hP hS (lv_sub hl [0, 1, 2, 3] rfl)
    have h := if_m n77 h
    by_cases n80 : a1 = (15 : Int32)
    · have h := if_p n80 h
      refine sw_in (k := (15 : Int32)) (tgt := 268) hx hb n80 d_MO_work_1 (by decide) (by decide) rfl rfl ?_
      refine lv_aload_n hx hb d_MO_work_268 rfl (lv_at hl 0 rfl) ?_
      refine gf_MO_25 hx hb hts hown hK hP d_MO_work_269 ?_
      refine lv_iload_n hx hb d_MO_work_272 rfl (lv_at hl 2 rfl) ?_
      refine lv_aload_n hx hb d_MO_work_273 rfl (lv_at hl 0 rfl) ?_
      refine gf_MO_130 hx hb hts hown hK hP d_MO_work_274 ?_
      obtain ⟨b78, h⟩ := ck_e h
      obtain ⟨M79, eM79, h⟩ := nx_e h
      refine m_ast hx hb hK hJ hP hS ar_MO_r b78 eM79 d_MO_work_277 (fun H locs hP hS => ?_)
      refine lv_goto (tgt := 293) hx hb d_MO_work_278 rfl ?_
      obtain rfl := Option.some.inj h
      exact hret d_MO_work_293 g hP hS
    have h := if_m n80 h
    have b0 := sw_ne (k := (0 : Int32)) (z := 0) (by decide) n29
    have b1 := sw_ne (k := (1 : Int32)) (z := 1) (by decide) n32
    have b2 := sw_ne (k := (2 : Int32)) (z := 2) (by decide) n43
    have b3 := sw_ne (k := (3 : Int32)) (z := 3) (by decide) n48
    have b4 := sw_ne (k := (4 : Int32)) (z := 4) (by decide) n53
    have b5 := sw_ne (k := (5 : Int32)) (z := 5) (by decide) n58
    have b6 := sw_ne (k := (6 : Int32)) (z := 6) (by decide) n59
    have b7 := sw_ne (k := (7 : Int32)) (z := 7) (by decide) n60
    have b8 := sw_ne (k := (8 : Int32)) (z := 8) (by decide) n61
    have b9 := sw_ne (k := (9 : Int32)) (z := 9) (by decide) n62
    have b10 := sw_ne (k := (10 : Int32)) (z := 10) (by decide) n63
    have b11 := sw_ne (k := (11 : Int32)) (z := 11) (by decide) n71
    have b12 := sw_ne (k := (12 : Int32)) (z := 12) (by decide) n75
    have b13 := sw_ne (k := (13 : Int32)) (z := 13) (by decide) n76
    have b14 := sw_ne (k := (14 : Int32)) (z := 14) (by decide) n77
    have b15 := sw_ne (k := (15 : Int32)) (z := 15) (by decide) n80
    refine lv_tableOut (tgt := 281) hx hb d_MO_work_1 (by omega) rfl ?_
    exact J281 a1 a2 a3 M _ h g H locs ls hP hS (lv_sub hl [0, 1, 2, 3] rfl)
  rw [eH] at key
  exact key
