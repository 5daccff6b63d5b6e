abbrev df_IN : List Value := [.null, .int 0]
theorem dfo_IN : ∀ j, j < 2 → defaultValue (t_IN j) = vp_V df_IN j := by decide +kernel
abbrev df_PR : List Value := [.null, .null, .null, .int 0]
theorem dfo_PR : ∀ j, j < 4 → defaultValue (t_PR j) = vp_V df_PR j := by decide +kernel
abbrev df_RU : List Value := [.null, .null, .null, .null, .null, .int 0, .int 0, .int 0, .int 0, .int 0, .int 0]
theorem dfo_RU : ∀ j, j < 11 → defaultValue (t_RU j) = vp_V df_RU j := by decide +kernel
abbrev df_GE : List Value := [.int 0]
theorem dfo_GE : ∀ j, j < 1 → defaultValue (t_GE j) = vp_V df_GE j := by decide +kernel
abbrev df_TR : List Value := [.int 0, .int 0, .int 0]
theorem dfo_TR : ∀ j, j < 3 → defaultValue (t_TR j) = vp_V df_TR j := by decide +kernel
abbrev df_EN : List Value := [.null, .int 0, .int 0, .int 0]
theorem dfo_EN : ∀ j, j < 4 → defaultValue (t_EN j) = vp_V df_EN j := by decide +kernel
abbrev df_FI : List Value := [.null, .null, .null, .int 0, .int 0, .int 0, .int 0]
theorem dfo_FI : ∀ j, j < 7 → defaultValue (t_FI j) = vp_V df_FI j := by decide +kernel
abbrev df_SH : List Value := [.null, .null]
theorem dfo_SH : ∀ j, j < 2 → defaultValue (t_SH j) = vp_V df_SH j := by decide +kernel
abbrev df_ST : List Value := [.null, .null, .null, .int 0, .int 0, .int 0, .int 0]
theorem dfo_ST : ∀ j, j < 7 → defaultValue (t_ST j) = vp_V df_ST j := by decide +kernel
abbrev df_FS : List Value := [.null, .int 0]
theorem dfo_FS : ∀ j, j < 2 → defaultValue (t_FS j) = vp_V df_FS j := by decide +kernel
abbrev df_EC : List Value := [.null, .null, .null, .null, .null, .null, .null, .null, .null, .int 0, .int 0, .int 0]
theorem dfo_EC : ∀ j, j < 12 → defaultValue (t_EC j) = vp_V df_EC j := by decide +kernel
abbrev df_MO : List Value := [.int 0, .null, .null, .null, .null, .int 0, .int 0, .null, .int 0, .null, .null, .null, .int 0, .int 0, .int 0, .int 0, .int 0, .null, .int 0, .null, .null, .null, .int 0, .null, .null, .null, .null, .null, .null, .null, .null, .null, .int 0, .int 0, .int 0, .int 0, .null, .null, .null, .int 0, .int 0, .int 0, .int 0, .null, .int 0]
theorem dfo_MO : ∀ j, j < 45 → defaultValue (t_MO j) = vp_V df_MO j := by decide +kernel
def rk_IN : Room := { frames := 1, cells := 1, slots := 6, locals := 40 }
def pw_IN (ids : ClassId × ClassId × ClassId) (h0 : Nat) (ws : va_W) : Prop := ∃ (q7 : Nat), ws = (h0, .inr (4, [.ref q7, .int 0])) :: ([] ++ [(q7, .inl (ids.1, 6, .inl (fun _ => 0)))])
set_option maxHeartbeats 4000000 in
set_option maxRecDepth 100000 in
theorem k_IN (l : Launch) (D : va_G) (ids : ClassId × ClassId × ClassId) (h0 : Nat) : Ck l D ids y_IN_init (Cond.code y_IN_init b_IN_init 1 none :: tb) rk_IN [.ref h0] h0 (.inr (4, df_IN)) (pw_IN ids h0) 1 6 := by
  refine ofCk (cc := b_IN_init) (maxL := 1) (by decide) rfl (Nat.le_of_ble_eq_true rfl) rfl ?_
  intro p e s m args below meth c Q ls A hx hb hml hown hin hts hO hK hA hP hD hS hl hret
  have hown : s.vm.findClass R_IN = some m.cls := hown
  have hl : lv_has ls 1 [(0, .ref h0)] := hl
  refine lv_aload_n hx hb d_IN_init_0 rfl (lv_at hl 0 rfl) ?_
  refine W.objInit hx hb hown (hts.1 _ q_689) (hts.1 _ q_690) (hts.1 _ q_691) rfl (by rw [hml]; exact hl.1) rfl d_IN_init_1 (Nat.le_of_ble_eq_true rfl) (Nat.le_of_ble_eq_true rfl) ?_
  refine W.eq (g2 := F0 m 4 ls []) rfl ?_
  refine lv_aload_n hx hb d_IN_init_4 rfl (lv_at hl 0 rfl) ?_
  refine lv_bipush (v := (6 : Int32)) hx hb d_IN_init_5 (by decide) ?_
  refine k_newa (N' := 6) hx hb (hts.1 _ q_692) hK hA hP hD hS (by decide) (by decide) (by decide) (Nat.le_of_ble_eq_true rfl) (Nat.le_of_ble_eq_true rfl) d_IN_init_7 (fun q7 H hP hD hS => ?_)
  refine k_putF (ty := .array (.int)) (C := R_IN) (TT := T_IN) (N := 2) (ci := 4) hx hb hts in_IN t_IN ty_IN nm_IN hown hK hP hD hS rfl 0 (by decide) q_21 rfl rfl hin rfl (by decide +kernel) rfl rfl (Nat.le_of_ble_eq_true rfl) (fs' := [.ref q7, .int 0]) rfl d_IN_init_9 (fun H locs hP hD hS => ?_)
  refine W.widen (k := 1) (n := 6) (Nat.le_of_ble_eq_true rfl) (Nat.le_of_ble_eq_true rfl) ?_
  refine hret d_IN_init_12 ?_ hP hD hS
  exact ⟨q7, rfl⟩
def rk_PR : Room := { frames := 1, cells := 3, slots := 72, locals := 40 }
def pw_PR (ids : ClassId × ClassId × ClassId) (h0 : Nat) (ws : va_W) : Prop := ∃ (q7 : Nat) (q15 : Nat) (q23 : Nat), ws = (h0, .inr (5, [.ref q7, .ref q15, .ref q23, .int 0])) :: ((([] ++ [(q7, .inl (ids.1, 24, .inl (fun _ => 0)))]) ++ [(q15, .inl (ids.1, 24, .inl (fun _ => 0)))]) ++ [(q23, .inl (ids.1, 24, .inl (fun _ => 0)))])
set_option maxHeartbeats 4000000 in
set_option maxRecDepth 100000 in
theorem k_PR (l : Launch) (D : va_G) (ids : ClassId × ClassId × ClassId) (h0 : Nat) : Ck l D ids y_PR_init (Cond.code y_PR_init b_PR_init 1 none :: tb) rk_PR [.ref h0] h0 (.inr (5, df_PR)) (pw_PR ids h0) 3 72 := by
  refine ofCk (cc := b_PR_init) (maxL := 1) (by decide) rfl (Nat.le_of_ble_eq_true rfl) rfl ?_
  intro p e s m args below meth c Q ls A hx hb hml hown hin hts hO hK hA hP hD hS hl hret
  have hown : s.vm.findClass R_PR = some m.cls := hown
  have hl : lv_has ls 1 [(0, .ref h0)] := hl
  refine lv_aload_n hx hb d_PR_init_0 rfl (lv_at hl 0 rfl) ?_
  refine W.objInit hx hb hown (hts.1 _ q_693) (hts.1 _ q_690) (hts.1 _ q_691) rfl (by rw [hml]; exact hl.1) rfl d_PR_init_1 (Nat.le_of_ble_eq_true rfl) (Nat.le_of_ble_eq_true rfl) ?_
  refine W.eq (g2 := F0 m 4 ls []) rfl ?_
  refine lv_aload_n hx hb d_PR_init_4 rfl (lv_at hl 0 rfl) ?_
  refine lv_bipush (v := (24 : Int32)) hx hb d_PR_init_5 (by decide) ?_
  refine k_newa (N' := 24) hx hb (hts.1 _ q_692) hK hA hP hD hS (by decide) (by decide) (by decide) (Nat.le_of_ble_eq_true rfl) (Nat.le_of_ble_eq_true rfl) d_PR_init_7 (fun q7 H hP hD hS => ?_)
  refine k_putF (ty := .array (.int)) (C := R_PR) (TT := T_PR) (N := 4) (ci := 5) hx hb hts in_PR t_PR ty_PR nm_PR hown hK hP hD hS rfl 0 (by decide) q_11 rfl rfl hin rfl (by decide +kernel) rfl rfl (Nat.le_of_ble_eq_true rfl) (fs' := [.ref q7, .null, .null, .int 0]) rfl d_PR_init_9 (fun H locs hP hD hS => ?_)
  refine lv_aload_n hx hb d_PR_init_12 rfl (lv_at hl 0 rfl) ?_
  refine lv_bipush (v := (24 : Int32)) hx hb d_PR_init_13 (by decide) ?_
  refine k_newa (N' := 24) hx hb (hts.1 _ q_692) hK hA hP hD hS (by decide) (by decide) (by decide) (Nat.le_of_ble_eq_true rfl) (Nat.le_of_ble_eq_true rfl) d_PR_init_15 (fun q15 H hP hD hS => ?_)
  refine k_putF (ty := .array (.int)) (C := R_PR) (TT := T_PR) (N := 4) (ci := 5) hx hb hts in_PR t_PR ty_PR nm_PR hown hK hP hD hS rfl 1 (by decide) q_12 rfl rfl hin rfl (by decide +kernel) rfl rfl (Nat.le_of_ble_eq_true rfl) (fs' := [.ref q7, .ref q15, .null, .int 0]) rfl d_PR_init_17 (fun H locs hP hD hS => ?_)
  refine lv_aload_n hx hb d_PR_init_20 rfl (lv_at hl 0 rfl) ?_
  refine lv_bipush (v := (24 : Int32)) hx hb d_PR_init_21 (by decide) ?_
  refine k_newa (N' := 24) hx hb (hts.1 _ q_692) hK hA hP hD hS (by decide) (by decide) (by decide) (Nat.le_of_ble_eq_true rfl) (Nat.le_of_ble_eq_true rfl) d_PR_init_23 (fun q23 H hP hD hS => ?_)
  refine k_putF (ty := .array (.int)) (C := R_PR) (TT := T_PR) (N := 4) (ci := 5) hx hb hts in_PR t_PR ty_PR nm_PR hown hK hP hD hS rfl 2 (by decide) q_13 rfl rfl hin rfl (by decide +kernel) rfl rfl (Nat.le_of_ble_eq_true rfl) (fs' := [.ref q7, .ref q15, .ref q23, .int 0]) rfl d_PR_init_25 (fun H locs hP hD hS => ?_)
  refine W.widen (k := 3) (n := 72) (Nat.le_of_ble_eq_true rfl) (Nat.le_of_ble_eq_true rfl) ?_
  refine hret d_PR_init_28 ?_ hP hD hS
  exact ⟨q7, q15, q23, rfl⟩
def rk_RU : Room := { frames := 1, cells := 5, slots := 651, locals := 40 }
def pw_RU (ids : ClassId × ClassId × ClassId) (h0 : Nat) (ws : va_W) : Prop := ∃ (q6 : Nat) (q13 : Nat) (q20 : Nat) (q29 : Nat) (q37 : Nat), ws = (h0, .inr (6, [.ref q6, .ref q13, .ref q20, .ref q29, .ref q37, .int 0, .int 0, .int 0, .int 0, .int 0, .int 0])) :: ((((([] ++ [(q6, .inl (ids.1, 4, .inl (fun _ => 0)))]) ++ [(q13, .inl (ids.1, 4, .inl (fun _ => 0)))]) ++ [(q20, .inl (ids.1, 3, .inl (fun _ => 0)))]) ++ [(q29, .inl (ids.1, 576, .inl (fun _ => 0)))]) ++ [(q37, .inl (ids.1, 64, .inl (fun _ => 0)))])
set_option maxHeartbeats 4000000 in
set_option maxRecDepth 100000 in
theorem k_RU (l : Launch) (D : va_G) (ids : ClassId × ClassId × ClassId) (h0 : Nat) : Ck l D ids y_RU_init (Cond.code y_RU_init b_RU_init 1 none :: tb) rk_RU [.ref h0] h0 (.inr (6, df_RU)) (pw_RU ids h0) 5 651 := by
  refine ofCk (cc := b_RU_init) (maxL := 1) (by decide) rfl (Nat.le_of_ble_eq_true rfl) rfl ?_
  intro p e s m args below meth c Q ls A hx hb hml hown hin hts hO hK hA hP hD hS hl hret
  have hown : s.vm.findClass R_RU = some m.cls := hown
  have hl : lv_has ls 1 [(0, .ref h0)] := hl
  refine lv_aload_n hx hb d_RU_init_0 rfl (lv_at hl 0 rfl) ?_
  refine W.objInit hx hb hown (hts.1 _ q_694) (hts.1 _ q_690) (hts.1 _ q_691) rfl (by rw [hml]; exact hl.1) rfl d_RU_init_1 (Nat.le_of_ble_eq_true rfl) (Nat.le_of_ble_eq_true rfl) ?_
  refine W.eq (g2 := F0 m 4 ls []) rfl ?_
  refine lv_aload_n hx hb d_RU_init_4 rfl (lv_at hl 0 rfl) ?_
  refine lv_iconst (v := (4 : Int32)) hx hb d_RU_init_5 (by decide) ?_
  refine k_newa (N' := 4) hx hb (hts.1 _ q_692) hK hA hP hD hS (by decide) (by decide) (by decide) (Nat.le_of_ble_eq_true rfl) (Nat.le_of_ble_eq_true rfl) d_RU_init_6 (fun q6 H hP hD hS => ?_)
  refine k_putF (ty := .array (.int)) (C := R_RU) (TT := T_RU) (N := 11) (ci := 6) hx hb hts in_RU t_RU ty_RU nm_RU hown hK hP hD hS rfl 0 (by decide) q_28 rfl rfl hin rfl (by decide +kernel) rfl rfl (Nat.le_of_ble_eq_true rfl) (fs' := [.ref q6, .null, .null, .null, .null, .int 0, .int 0, .int 0, .int 0, .int 0, .int 0]) rfl d_RU_init_8 (fun H locs hP hD hS => ?_)
  refine lv_aload_n hx hb d_RU_init_11 rfl (lv_at hl 0 rfl) ?_
  refine lv_iconst (v := (4 : Int32)) hx hb d_RU_init_12 (by decide) ?_
  refine k_newa (N' := 4) hx hb (hts.1 _ q_692) hK hA hP hD hS (by decide) (by decide) (by decide) (Nat.le_of_ble_eq_true rfl) (Nat.le_of_ble_eq_true rfl) d_RU_init_13 (fun q13 H hP hD hS => ?_)
  refine k_putF (ty := .array (.int)) (C := R_RU) (TT := T_RU) (N := 11) (ci := 6) hx hb hts in_RU t_RU ty_RU nm_RU hown hK hP hD hS rfl 1 (by decide) q_33 rfl rfl hin rfl (by decide +kernel) rfl rfl (Nat.le_of_ble_eq_true rfl) (fs' := [.ref q6, .ref q13, .null, .null, .null, .int 0, .int 0, .int 0, .int 0, .int 0, .int 0]) rfl d_RU_init_15 (fun H locs hP hD hS => ?_)
  refine lv_aload_n hx hb d_RU_init_18 rfl (lv_at hl 0 rfl) ?_
  refine lv_iconst (v := (3 : Int32)) hx hb d_RU_init_19 (by decide) ?_
  refine k_newa (N' := 3) hx hb (hts.1 _ q_692) hK hA hP hD hS (by decide) (by decide) (by decide) (Nat.le_of_ble_eq_true rfl) (Nat.le_of_ble_eq_true rfl) d_RU_init_20 (fun q20 H hP hD hS => ?_)
  refine k_putF (ty := .array (.int)) (C := R_RU) (TT := T_RU) (N := 11) (ci := 6) hx hb hts in_RU t_RU ty_RU nm_RU hown hK hP hD hS rfl 2 (by decide) q_42 rfl rfl hin rfl (by decide +kernel) rfl rfl (Nat.le_of_ble_eq_true rfl) (fs' := [.ref q6, .ref q13, .ref q20, .null, .null, .int 0, .int 0, .int 0, .int 0, .int 0, .int 0]) rfl d_RU_init_22 (fun H locs hP hD hS => ?_)
  refine lv_aload_n hx hb d_RU_init_25 rfl (lv_at hl 0 rfl) ?_
  refine lv_sipush (v := (576 : Int32)) hx hb d_RU_init_26 (by decide) ?_
  refine k_newa (N' := 576) hx hb (hts.1 _ q_692) hK hA hP hD hS (by decide) (by decide) (by decide) (Nat.le_of_ble_eq_true rfl) (Nat.le_of_ble_eq_true rfl) d_RU_init_29 (fun q29 H hP hD hS => ?_)
  refine k_putF (ty := .array (.int)) (C := R_RU) (TT := T_RU) (N := 11) (ci := 6) hx hb hts in_RU t_RU ty_RU nm_RU hown hK hP hD hS rfl 3 (by decide) q_40 rfl rfl hin rfl (by decide +kernel) rfl rfl (Nat.le_of_ble_eq_true rfl) (fs' := [.ref q6, .ref q13, .ref q20, .ref q29, .null, .int 0, .int 0, .int 0, .int 0, .int 0, .int 0]) rfl d_RU_init_31 (fun H locs hP hD hS => ?_)
  refine lv_aload_n hx hb d_RU_init_34 rfl (lv_at hl 0 rfl) ?_
  refine lv_bipush (v := (64 : Int32)) hx hb d_RU_init_35 (by decide) ?_
  refine k_newa (N' := 64) hx hb (hts.1 _ q_692) hK hA hP hD hS (by decide) (by decide) (by decide) (Nat.le_of_ble_eq_true rfl) (Nat.le_of_ble_eq_true rfl) d_RU_init_37 (fun q37 H hP hD hS => ?_)
  refine k_putF (ty := .array (.int)) (C := R_RU) (TT := T_RU) (N := 11) (ci := 6) hx hb hts in_RU t_RU ty_RU nm_RU hown hK hP hD hS rfl 4 (by decide) q_41 rfl rfl hin rfl (by decide +kernel) rfl rfl (Nat.le_of_ble_eq_true rfl) (fs' := [.ref q6, .ref q13, .ref q20, .ref q29, .ref q37, .int 0, .int 0, .int 0, .int 0, .int 0, .int 0]) rfl d_RU_init_39 (fun H locs hP hD hS => ?_)
  refine W.widen (k := 5) (n := 651) (Nat.le_of_ble_eq_true rfl) (Nat.le_of_ble_eq_true rfl) ?_
  refine hret d_RU_init_42 ?_ hP hD hS
  exact ⟨q6, q13, q20, q29, q37, rfl⟩
def rk_GE : Room := { frames := 1, cells := 0, slots := 0, locals := 40 }
def pw_GE (a1 : Int32) (ids : ClassId × ClassId × ClassId) (h0 : Nat) (ws : va_W) : Prop := ws = (h0, .inr (3, [.int (if a1 = 0 then 1 else a1)])) :: []
set_option maxHeartbeats 4000000 in
set_option maxRecDepth 100000 in
theorem k_GE (l : Launch) (D : va_G) (ids : ClassId × ClassId × ClassId) (h0 : Nat) (a1 : Int32) : Ck l D ids y_GE_init (Cond.code y_GE_init b_GE_init 2 none :: tb) rk_GE [.ref h0, .int a1] h0 (.inr (3, df_GE)) (pw_GE a1 ids h0) 0 0 := by
  refine ofCk (cc := b_GE_init) (maxL := 2) (by decide) rfl (Nat.le_of_ble_eq_true rfl) rfl ?_
  intro p e s m args below meth c Q ls A hx hb hml hown hin hts hO hK hA hP hD hS hl hret
  have hown : s.vm.findClass R_GE = some m.cls := hown
  have hl : lv_has ls 2 [(0, .ref h0), (1, .int a1)] := hl
  refine lv_aload_n hx hb d_GE_init_0 rfl (lv_at hl 0 rfl) ?_
  refine W.objInit hx hb hown (hts.1 _ q_695) (hts.1 _ q_690) (hts.1 _ q_691) rfl (by rw [hml]; exact hl.1) rfl d_GE_init_1 (Nat.le_of_ble_eq_true rfl) (Nat.le_of_ble_eq_true rfl) ?_
  refine W.eq (g2 := F0 m 4 ls []) rfl ?_
  refine lv_aload_n hx hb d_GE_init_4 rfl (lv_at hl 0 rfl) ?_
  refine lv_iload_n hx hb d_GE_init_5 rfl (lv_at hl 1 rfl) ?_
  refine lv_if_ne (tgt := 13) hx hb d_GE_init_6 rfl (fun hc => ?_) (fun hc => ?_)
  · refine lv_iload_n hx hb d_GE_init_13 rfl (lv_at hl 1 rfl) ?_
    refine k_put (C := R_GE) (TT := T_GE) (N := 1) (ci := 3) hx hb hts in_GE t_GE ty_GE nm_GE hown hK hP hD hS rfl 0 (by decide) q_253 rfl rfl (by decide +kernel) (Nat.le_of_ble_eq_true rfl) (fs' := [.int a1]) rfl d_GE_init_14 (fun H locs hP hD hS => ?_)
    refine W.widen (k := 0) (n := 0) (Nat.le_of_ble_eq_true rfl) (Nat.le_of_ble_eq_true rfl) ?_
    refine hret d_GE_init_17 ?_ hP hD hS
    show _ = _; rw [if_neg hc]
  · refine lv_iconst (v := (1 : Int32)) hx hb d_GE_init_9 (by decide) ?_
    refine lv_goto (tgt := 14) hx hb d_GE_init_10 rfl ?_
    refine k_put (C := R_GE) (TT := T_GE) (N := 1) (ci := 3) hx hb hts in_GE t_GE ty_GE nm_GE hown hK hP hD hS rfl 0 (by decide) q_253 rfl rfl (by decide +kernel) (Nat.le_of_ble_eq_true rfl) (fs' := [.int (1 : Int32)]) rfl d_GE_init_14 (fun H locs hP hD hS => ?_)
    refine W.widen (k := 0) (n := 0) (Nat.le_of_ble_eq_true rfl) (Nat.le_of_ble_eq_true rfl) ?_
    refine hret d_GE_init_17 ?_ hP hD hS
    show _ = _; rw [if_pos hc]
def rk_TR : Room := { frames := 1, cells := 0, slots := 0, locals := 40 }
def pw_TR (ids : ClassId × ClassId × ClassId) (h0 : Nat) (ws : va_W) : Prop := ws = (h0, .inr (9, [.int (-1 : Int32), .int 0, .int 0])) :: []
set_option maxHeartbeats 4000000 in
set_option maxRecDepth 100000 in
theorem k_TR (l : Launch) (D : va_G) (ids : ClassId × ClassId × ClassId) (h0 : Nat) : Ck l D ids y_TR_init (Cond.code y_TR_init b_TR_init 1 none :: tb) rk_TR [.ref h0] h0 (.inr (9, df_TR)) (pw_TR ids h0) 0 0 := by
  refine ofCk (cc := b_TR_init) (maxL := 1) (by decide) rfl (Nat.le_of_ble_eq_true rfl) rfl ?_
  intro p e s m args below meth c Q ls A hx hb hml hown hin hts hO hK hA hP hD hS hl hret
  have hown : s.vm.findClass R_TR = some m.cls := hown
  have hl : lv_has ls 1 [(0, .ref h0)] := hl
  refine lv_aload_n hx hb d_TR_init_0 rfl (lv_at hl 0 rfl) ?_
  refine W.objInit hx hb hown (hts.1 _ q_696) (hts.1 _ q_690) (hts.1 _ q_691) rfl (by rw [hml]; exact hl.1) rfl d_TR_init_1 (Nat.le_of_ble_eq_true rfl) (Nat.le_of_ble_eq_true rfl) ?_
  refine W.eq (g2 := F0 m 4 ls []) rfl ?_
  refine lv_aload_n hx hb d_TR_init_4 rfl (lv_at hl 0 rfl) ?_
  refine lv_iconst (v := (-1 : Int32)) hx hb d_TR_init_5 (by decide) ?_
  refine k_put (C := R_TR) (TT := T_TR) (N := 3) (ci := 9) hx hb hts in_TR t_TR ty_TR nm_TR hown hK hP hD hS rfl 0 (by decide) q_193 rfl rfl (by decide +kernel) (Nat.le_of_ble_eq_true rfl) (fs' := [.int (-1 : Int32), .int 0, .int 0]) rfl d_TR_init_6 (fun H locs hP hD hS => ?_)
  refine W.widen (k := 0) (n := 0) (Nat.le_of_ble_eq_true rfl) (Nat.le_of_ble_eq_true rfl) ?_
  refine hret d_TR_init_9 ?_ hP hD hS
  exact rfl
def rk_EN : Room := { frames := 2, cells := 2, slots := 8, locals := 60 }
def pw_EN (ids : ClassId × ClassId × ClassId) (h0 : Nat) (ws : va_W) : Prop := ∃ (q5 : Nat) (w9 : va_W), pw_IN ids q5 w9 ∧ ws = (h0, .inr (0, [.ref q5, .int 0, .int 0, .int 0])) :: ([] ++ w9)
set_option maxHeartbeats 4000000 in
set_option maxRecDepth 100000 in
theorem k_EN (l : Launch) (D : va_G) (ids : ClassId × ClassId × ClassId) (h0 : Nat) : Ck l D ids y_EN_init (Cond.code y_EN_init b_EN_init 1 none :: tb) rk_EN [.ref h0] h0 (.inr (0, df_EN)) (pw_EN ids h0) 2 8 := by
  refine ofCk (cc := b_EN_init) (maxL := 1) (by decide) rfl (Nat.le_of_ble_eq_true rfl) rfl ?_
  intro p e s m args below meth c Q ls A hx hb hml hown hin hts hO hK hA hP hD hS hl hret
  have hown : s.vm.findClass R_EN = some m.cls := hown
  have hl : lv_has ls 1 [(0, .ref h0)] := hl
  refine lv_aload_n hx hb d_EN_init_0 rfl (lv_at hl 0 rfl) ?_
  refine W.objInit hx hb hown (hts.1 _ q_697) (hts.1 _ q_690) (hts.1 _ q_691) rfl (by rw [hml]; exact hl.1) rfl d_EN_init_1 (Nat.le_of_ble_eq_true rfl) (Nat.le_of_ble_eq_true rfl) ?_
  refine W.eq (g2 := F0 m 4 ls []) rfl ?_
  refine lv_aload_n hx hb d_EN_init_4 rfl (lv_at hl 0 rfl) ?_
  refine k_new (C := R_IN) (TT := T_IN) (N := 2) (ci := 4) (fs := df_IN) hx hb hts in_IN t_IN ty_IN hown q_698 q_699 q_25 hK hA hP hD hS rfl dfo_IN (Nat.le_of_ble_eq_true rfl) (Nat.le_of_ble_eq_true rfl) d_EN_init_5 (fun q5 H hP hD hS => ?_)
  refine lv_dup hx hb d_EN_init_8 rfl ?_
  refine k_call (ws := (h0, .inr (0, [.null, .int 0, .int 0, .int 0])) :: []) (va_runIN (As := []) (rest := [.ref q5, .ref h0]) ⟨hx, hb, hml, hown, hts.1⟩ (k_IN l D ids q5 H.size) ⟨va_cnB 0 hts.1 (tb_good q_700) rfl rfl rfl (hO.2.2 _ (List.mem_of_getElem? (l := nbK) (i := 0) rfl)) (hts.1 _ q_25) ⟨by decide, by decide, by decide +kernel⟩ ⟨Nat.le_of_ble_eq_true rfl, Nat.le_of_ble_eq_true rfl⟩, rfl, hts.1 _ q_701⟩ ⟨kblind, k_pre (ws := (h0, .inr (0, [.null, .int 0, .int 0, .int 0])) :: []) hts hO hK hP⟩ rfl rfl hl.1 rfl (lv_room (Nat.le_of_ble_eq_true rfl)) d_EN_init_9 ⟨Nat.le_of_ble_eq_true rfl, Nat.le_of_ble_eq_true rfl⟩) hA hP hD hS (fun w9 H locs hw9 hP hD hS => ?_)
  have hP : va_P D vwCl ((h0, .inr (0, [.null, .int 0, .int 0, .int 0])) :: ([] ++ w9)) H := hP
  have hD : va_D A ((h0, .inr (0, [.null, .int 0, .int 0, .int 0])) :: ([] ++ w9)) := hD
  refine k_putF (ty := .object "EdgeCampaign$Input") (C := R_EN) (TT := T_EN) (N := 4) (ci := 0) hx hb hts in_EN t_EN ty_EN nm_EN hown hK hP hD hS rfl 0 (by decide) q_107 rfl rfl hin rfl (by decide +kernel) rfl rfl (Nat.le_of_ble_eq_true rfl) (fs' := [.ref q5, .int 0, .int 0, .int 0]) rfl d_EN_init_12 (fun H locs hP hD hS => ?_)
  refine W.widen (k := 2) (n := 8) (Nat.le_of_ble_eq_true rfl) (Nat.le_of_ble_eq_true rfl) ?_
  refine hret d_EN_init_15 ?_ hP hD hS
  exact ⟨q5, w9, hw9, rfl⟩
def rk_FI : Room := { frames := 2, cells := 5, slots := 19, locals := 60 }
def pw_FI (ids : ClassId × ClassId × ClassId) (h0 : Nat) (ws : va_W) : Prop := ∃ (q5 : Nat) (w9 : va_W) (q16 : Nat) (w20 : va_W) (q28 : Nat), pw_IN ids q5 w9 ∧ pw_IN ids q16 w20 ∧ ws = (h0, .inr (1, [.ref q5, .ref q16, .ref q28, .int 0, .int 0, .int 0, .int 0])) :: ((([] ++ w9) ++ w20) ++ [(q28, .inl (ids.1, 3, .inl (fun _ => 0)))])
set_option maxHeartbeats 4000000 in
set_option maxRecDepth 100000 in
theorem k_FI (l : Launch) (D : va_G) (ids : ClassId × ClassId × ClassId) (h0 : Nat) : Ck l D ids y_FI_init (Cond.code y_FI_init b_FI_init 1 none :: tb) rk_FI [.ref h0] h0 (.inr (1, df_FI)) (pw_FI ids h0) 5 19 := by
  refine ofCk (cc := b_FI_init) (maxL := 1) (by decide) rfl (Nat.le_of_ble_eq_true rfl) rfl ?_
  intro p e s m args below meth c Q ls A hx hb hml hown hin hts hO hK hA hP hD hS hl hret
  have hown : s.vm.findClass R_FI = some m.cls := hown
  have hl : lv_has ls 1 [(0, .ref h0)] := hl
  refine lv_aload_n hx hb d_FI_init_0 rfl (lv_at hl 0 rfl) ?_
  refine W.objInit hx hb hown (hts.1 _ q_702) (hts.1 _ q_690) (hts.1 _ q_691) rfl (by rw [hml]; exact hl.1) rfl d_FI_init_1 (Nat.le_of_ble_eq_true rfl) (Nat.le_of_ble_eq_true rfl) ?_
  refine W.eq (g2 := F0 m 4 ls []) rfl ?_
  refine lv_aload_n hx hb d_FI_init_4 rfl (lv_at hl 0 rfl) ?_
  refine k_new (C := R_IN) (TT := T_IN) (N := 2) (ci := 4) (fs := df_IN) hx hb hts in_IN t_IN ty_IN hown q_703 q_699 q_25 hK hA hP hD hS rfl dfo_IN (Nat.le_of_ble_eq_true rfl) (Nat.le_of_ble_eq_true rfl) d_FI_init_5 (fun q5 H hP hD hS => ?_)
  refine lv_dup hx hb d_FI_init_8 rfl ?_
  refine k_call (ws := (h0, .inr (1, [.null, .null, .null, .int 0, .int 0, .int 0, .int 0])) :: []) (va_runIN (As := []) (rest := [.ref q5, .ref h0]) ⟨hx, hb, hml, hown, hts.1⟩ (k_IN l D ids q5 H.size) ⟨va_cnB 0 hts.1 (tb_good q_700) rfl rfl rfl (hO.2.2 _ (List.mem_of_getElem? (l := nbK) (i := 1) rfl)) (hts.1 _ q_25) ⟨by decide, by decide, by decide +kernel⟩ ⟨Nat.le_of_ble_eq_true rfl, Nat.le_of_ble_eq_true rfl⟩, rfl, hts.1 _ q_701⟩ ⟨kblind, k_pre (ws := (h0, .inr (1, [.null, .null, .null, .int 0, .int 0, .int 0, .int 0])) :: []) hts hO hK hP⟩ rfl rfl hl.1 rfl (lv_room (Nat.le_of_ble_eq_true rfl)) d_FI_init_9 ⟨Nat.le_of_ble_eq_true rfl, Nat.le_of_ble_eq_true rfl⟩) hA hP hD hS (fun w9 H locs hw9 hP hD hS => ?_)
  have hP : va_P D vwCl ((h0, .inr (1, [.null, .null, .null, .int 0, .int 0, .int 0, .int 0])) :: ([] ++ w9)) H := hP
  have hD : va_D A ((h0, .inr (1, [.null, .null, .null, .int 0, .int 0, .int 0, .int 0])) :: ([] ++ w9)) := hD
  refine k_putF (ty := .object "EdgeCampaign$Input") (C := R_FI) (TT := T_FI) (N := 7) (ci := 1) hx hb hts in_FI t_FI ty_FI nm_FI hown hK hP hD hS rfl 0 (by decide) q_147 rfl rfl hin rfl (by decide +kernel) rfl rfl (Nat.le_of_ble_eq_true rfl) (fs' := [.ref q5, .null, .null, .int 0, .int 0, .int 0, .int 0]) rfl d_FI_init_12 (fun H locs hP hD hS => ?_)
  refine lv_aload_n hx hb d_FI_init_15 rfl (lv_at hl 0 rfl) ?_
  refine k_new (C := R_IN) (TT := T_IN) (N := 2) (ci := 4) (fs := df_IN) hx hb hts in_IN t_IN ty_IN hown q_703 q_699 q_25 hK hA hP hD hS rfl dfo_IN (Nat.le_of_ble_eq_true rfl) (Nat.le_of_ble_eq_true rfl) d_FI_init_16 (fun q16 H hP hD hS => ?_)
  refine lv_dup hx hb d_FI_init_19 rfl ?_
  refine k_call (ws := (h0, .inr (1, [.ref q5, .null, .null, .int 0, .int 0, .int 0, .int 0])) :: ([] ++ w9)) (va_runIN (As := []) (rest := [.ref q16, .ref h0]) ⟨hx, hb, hml, hown, hts.1⟩ (k_IN l D ids q16 H.size) ⟨va_cnB 0 hts.1 (tb_good q_700) rfl rfl rfl (hO.2.2 _ (List.mem_of_getElem? (l := nbK) (i := 1) rfl)) (hts.1 _ q_25) ⟨by decide, by decide, by decide +kernel⟩ ⟨Nat.le_of_ble_eq_true rfl, Nat.le_of_ble_eq_true rfl⟩, rfl, hts.1 _ q_701⟩ ⟨kblind, k_pre (ws := (h0, .inr (1, [.ref q5, .null, .null, .int 0, .int 0, .int 0, .int 0])) :: ([] ++ w9)) hts hO hK hP⟩ rfl rfl hl.1 rfl (lv_room (Nat.le_of_ble_eq_true rfl)) d_FI_init_20 ⟨Nat.le_of_ble_eq_true rfl, Nat.le_of_ble_eq_true rfl⟩) hA hP hD hS (fun w20 H locs hw20 hP hD hS => ?_)
  have hP : va_P D vwCl ((h0, .inr (1, [.ref q5, .null, .null, .int 0, .int 0, .int 0, .int 0])) :: (([] ++ w9) ++ w20)) H := hP
  have hD : va_D A ((h0, .inr (1, [.ref q5, .null, .null, .int 0, .int 0, .int 0, .int 0])) :: (([] ++ w9) ++ w20)) := hD
  refine k_putF (ty := .object "EdgeCampaign$Input") (C := R_FI) (TT := T_FI) (N := 7) (ci := 1) hx hb hts in_FI t_FI ty_FI nm_FI hown hK hP hD hS rfl 1 (by decide) q_149 rfl rfl hin rfl (by decide +kernel) rfl rfl (Nat.le_of_ble_eq_true rfl) (fs' := [.ref q5, .ref q16, .null, .int 0, .int 0, .int 0, .int 0]) rfl d_FI_init_23 (fun H locs hP hD hS => ?_)
  refine lv_aload_n hx hb d_FI_init_26 rfl (lv_at hl 0 rfl) ?_
  refine lv_iconst (v := (3 : Int32)) hx hb d_FI_init_27 (by decide) ?_
  refine k_newa (N' := 3) hx hb (hts.1 _ q_692) hK hA hP hD hS (by decide) (by decide) (by decide) (Nat.le_of_ble_eq_true rfl) (Nat.le_of_ble_eq_true rfl) d_FI_init_28 (fun q28 H hP hD hS => ?_)
  refine k_putF (ty := .array (.int)) (C := R_FI) (TT := T_FI) (N := 7) (ci := 1) hx hb hts in_FI t_FI ty_FI nm_FI hown hK hP hD hS rfl 2 (by decide) q_135 rfl rfl hin rfl (by decide +kernel) rfl rfl (Nat.le_of_ble_eq_true rfl) (fs' := [.ref q5, .ref q16, .ref q28, .int 0, .int 0, .int 0, .int 0]) rfl d_FI_init_30 (fun H locs hP hD hS => ?_)
  refine W.widen (k := 5) (n := 19) (Nat.le_of_ble_eq_true rfl) (Nat.le_of_ble_eq_true rfl) ?_
  refine hret d_FI_init_33 ?_ hP hD hS
  exact ⟨q5, w9, q16, w20, q28, hw9, hw20, rfl⟩
def rk_SH : Room := { frames := 2, cells := 8, slots := 670, locals := 60 }
def pw_SH (ids : ClassId × ClassId × ClassId) (h0 : Nat) (ws : va_W) : Prop := ∃ (q5 : Nat) (w9 : va_W) (q16 : Nat) (w20 : va_W), pw_RU ids q5 w9 ∧ pw_IN ids q16 w20 ∧ ws = (h0, .inr (7, [.ref q5, .ref q16])) :: (([] ++ w9) ++ w20)
set_option maxHeartbeats 4000000 in
set_option maxRecDepth 100000 in
theorem k_SH (l : Launch) (D : va_G) (ids : ClassId × ClassId × ClassId) (h0 : Nat) : Ck l D ids y_SH_init (Cond.code y_SH_init b_SH_init 1 none :: tb) rk_SH [.ref h0] h0 (.inr (7, df_SH)) (pw_SH ids h0) 8 670 := by
  refine ofCk (cc := b_SH_init) (maxL := 1) (by decide) rfl (Nat.le_of_ble_eq_true rfl) rfl ?_
  intro p e s m args below meth c Q ls A hx hb hml hown hin hts hO hK hA hP hD hS hl hret
  have hown : s.vm.findClass R_SH = some m.cls := hown
  have hl : lv_has ls 1 [(0, .ref h0)] := hl
  refine lv_aload_n hx hb d_SH_init_0 rfl (lv_at hl 0 rfl) ?_
  refine W.objInit hx hb hown (hts.1 _ q_704) (hts.1 _ q_690) (hts.1 _ q_691) rfl (by rw [hml]; exact hl.1) rfl d_SH_init_1 (Nat.le_of_ble_eq_true rfl) (Nat.le_of_ble_eq_true rfl) ?_
  refine W.eq (g2 := F0 m 4 ls []) rfl ?_
  refine lv_aload_n hx hb d_SH_init_4 rfl (lv_at hl 0 rfl) ?_
  refine k_new (C := R_RU) (TT := T_RU) (N := 11) (ci := 6) (fs := df_RU) hx hb hts in_RU t_RU ty_RU hown q_705 q_706 q_52 hK hA hP hD hS rfl dfo_RU (Nat.le_of_ble_eq_true rfl) (Nat.le_of_ble_eq_true rfl) d_SH_init_5 (fun q5 H hP hD hS => ?_)
  refine lv_dup hx hb d_SH_init_8 rfl ?_
  refine k_call (ws := (h0, .inr (7, [.null, .null])) :: []) (va_runIN (As := []) (rest := [.ref q5, .ref h0]) ⟨hx, hb, hml, hown, hts.1⟩ (k_RU l D ids q5 H.size) ⟨va_cnB 0 hts.1 (tb_good q_707) rfl rfl rfl (hO.2.2 _ (List.mem_of_getElem? (l := nbK) (i := 2) rfl)) (hts.1 _ q_52) ⟨by decide, by decide, by decide +kernel⟩ ⟨Nat.le_of_ble_eq_true rfl, Nat.le_of_ble_eq_true rfl⟩, rfl, hts.1 _ q_708⟩ ⟨kblind, k_pre (ws := (h0, .inr (7, [.null, .null])) :: []) hts hO hK hP⟩ rfl rfl hl.1 rfl (lv_room (Nat.le_of_ble_eq_true rfl)) d_SH_init_9 ⟨Nat.le_of_ble_eq_true rfl, Nat.le_of_ble_eq_true rfl⟩) hA hP hD hS (fun w9 H locs hw9 hP hD hS => ?_)
  have hP : va_P D vwCl ((h0, .inr (7, [.null, .null])) :: ([] ++ w9)) H := hP
  have hD : va_D A ((h0, .inr (7, [.null, .null])) :: ([] ++ w9)) := hD
  refine k_putF (ty := .object "EdgeCampaign$Run") (C := R_SH) (TT := T_SH) (N := 2) (ci := 7) hx hb hts in_SH t_SH ty_SH nm_SH hown hK hP hD hS rfl 0 (by decide) q_165 rfl rfl hin rfl (by decide +kernel) rfl rfl (Nat.le_of_ble_eq_true rfl) (fs' := [.ref q5, .null]) rfl d_SH_init_12 (fun H locs hP hD hS => ?_)
  refine lv_aload_n hx hb d_SH_init_15 rfl (lv_at hl 0 rfl) ?_
  refine k_new (C := R_IN) (TT := T_IN) (N := 2) (ci := 4) (fs := df_IN) hx hb hts in_IN t_IN ty_IN hown q_709 q_699 q_25 hK hA hP hD hS rfl dfo_IN (Nat.le_of_ble_eq_true rfl) (Nat.le_of_ble_eq_true rfl) d_SH_init_16 (fun q16 H hP hD hS => ?_)
  refine lv_dup hx hb d_SH_init_19 rfl ?_
  refine k_call (ws := (h0, .inr (7, [.ref q5, .null])) :: ([] ++ w9)) (va_runIN (As := []) (rest := [.ref q16, .ref h0]) ⟨hx, hb, hml, hown, hts.1⟩ (k_IN l D ids q16 H.size) ⟨va_cnB 0 hts.1 (tb_good q_700) rfl rfl rfl (hO.2.2 _ (List.mem_of_getElem? (l := nbK) (i := 3) rfl)) (hts.1 _ q_25) ⟨by decide, by decide, by decide +kernel⟩ ⟨Nat.le_of_ble_eq_true rfl, Nat.le_of_ble_eq_true rfl⟩, rfl, hts.1 _ q_701⟩ ⟨kblind, k_pre (ws := (h0, .inr (7, [.ref q5, .null])) :: ([] ++ w9)) hts hO hK hP⟩ rfl rfl hl.1 rfl (lv_room (Nat.le_of_ble_eq_true rfl)) d_SH_init_20 ⟨Nat.le_of_ble_eq_true rfl, Nat.le_of_ble_eq_true rfl⟩) hA hP hD hS (fun w20 H locs hw20 hP hD hS => ?_)
  have hP : va_P D vwCl ((h0, .inr (7, [.ref q5, .null])) :: (([] ++ w9) ++ w20)) H := hP
  have hD : va_D A ((h0, .inr (7, [.ref q5, .null])) :: (([] ++ w9) ++ w20)) := hD
  refine k_putF (ty := .object "EdgeCampaign$Input") (C := R_SH) (TT := T_SH) (N := 2) (ci := 7) hx hb hts in_SH t_SH ty_SH nm_SH hown hK hP hD hS rfl 1 (by decide) q_158 rfl rfl hin rfl (by decide +kernel) rfl rfl (Nat.le_of_ble_eq_true rfl) (fs' := [.ref q5, .ref q16]) rfl d_SH_init_23 (fun H locs hP hD hS => ?_)
  refine W.widen (k := 8) (n := 670) (Nat.le_of_ble_eq_true rfl) (Nat.le_of_ble_eq_true rfl) ?_
  refine hret d_SH_init_26 ?_ hP hD hS
  exact ⟨q5, w9, q16, w20, hw9, hw20, rfl⟩
