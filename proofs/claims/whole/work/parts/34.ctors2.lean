def rk_ST : Room := { frames := 3, cells := 51, slots := 1360, locals := 80 }
def pl_ST (ids : ClassId × ClassId × ClassId) (n : Nat) (f : Nat → Option Nat) (T : va_W) : Prop := ∃ (u : Nat → Nat) (v : Nat → va_W), (∀ k, k < n → f k = some (u k) ∧ pw_EN ids (u k) (v k)) ∧ T = (List.range n).flatMap v
theorem pl_ST_s {ids : ClassId × ClassId × ClassId} {n : Nat} {f : Nat → Option Nat} {T w : va_W} {q : Nat} (h : pl_ST ids n f T) (hw : pw_EN ids q w) : pl_ST ids (n + 1) (va_up f n (some q)) (T ++ w) := by
  obtain ⟨u, v, h1, h2⟩ := h
  refine ⟨va_up u n q, va_up v n w, fun k hk => ?_, ?_⟩
  · by_cases e : k = n
    · subst e; simp only [va_up, if_true]; exact ⟨trivial, hw⟩
    · simp only [va_up, if_neg e]; exact h1 k (by omega)
  · have e1 : (List.range n).flatMap (va_up v n w) = (List.range n).flatMap v := by
      unfold List.flatMap
      rw [List.map_congr_left (g := v) (fun k hk => by have := List.mem_range.mp hk; simp only [va_up, if_neg (Nat.ne_of_lt this)])]
    rw [List.range_succ, List.flatMap_append, e1, ← h2]
    simp [va_up]
def pw_ST (ids : ClassId × ClassId × ClassId) (h0 : Nat) (ws : va_W) : Prop := ∃ (q7 : Nat) (q17 : Nat) (q26 : Nat) (f : Nat → Option Nat) (T : va_W), pl_ST ids 16 f T ∧ ws = (h0, .inr (8, [.ref q7, .ref q17, .ref q26, .int 0, .int 0, .int 0, .int 0])) :: (((([] ++ [(q7, .inl (ids.2.1, 16, .inr (.inr (.inr (.inr f)))))]) ++ [(q17, .inl (ids.1, 576, .inl (fun _ => 0)))]) ++ [(q26, .inl (ids.1, 576, .inl (fun _ => 0)))]) ++ T)
set_option maxHeartbeats 4000000 in
set_option maxRecDepth 100000 in
theorem k_ST (l : Launch) (D : va_G) (ids : ClassId × ClassId × ClassId) (h0 : Nat) : Ck l D ids y_ST_init (Cond.code y_ST_init b_ST_init 2 none :: tb) rk_ST [.ref h0] h0 (.inr (8, df_ST)) (pw_ST ids h0) 51 1360 := by
  refine ofCk (cc := b_ST_init) (maxL := 2) (by decide) rfl (Nat.le_of_ble_eq_true rfl) rfl ?_
  intro p e s m args below meth c Q ls A hx hb hml hown hin hts hO hK hA hP hD hS hl hret
  have hown : s.vm.findClass R_ST = some m.cls := hown
  have hl : lv_has ls 2 [(0, .ref h0)] := hl
  refine lv_aload_n hx hb d_ST_init_0 rfl (lv_at hl 0 rfl) ?_
  refine W.objInit hx hb hown (hts.1 _ q_710) (hts.1 _ q_690) (hts.1 _ q_691) rfl (by rw [hml]; exact hl.1) rfl d_ST_init_1 (Nat.le_of_ble_eq_true rfl) (Nat.le_of_ble_eq_true rfl) ?_
  refine W.eq (g2 := F0 m 4 ls []) rfl ?_
  refine lv_aload_n hx hb d_ST_init_4 rfl (lv_at hl 0 rfl) ?_
  refine lv_bipush (v := (16 : Int32)) hx hb d_ST_init_5 (by decide) ?_
  refine k_newq (N' := 16) (C := "EdgeCampaign$Entry") (t0 := 1) (cX := ids.2.1) hx hb hown (hts.1 _ q_711) hO.1 hK rfl hA hP hD hS (by decide) (by decide) (by decide) (Nat.le_of_ble_eq_true rfl) (Nat.le_of_ble_eq_true rfl) d_ST_init_7 (fun q7 H hP hD hS => ?_)
  refine k_putF (ty := .array (.object "EdgeCampaign$Entry")) (C := R_ST) (TT := T_ST) (N := 7) (ci := 8) hx hb hts in_ST t_ST ty_ST nm_ST hown hK hP hD hS rfl 0 (by decide) q_108 rfl rfl hin rfl (by decide +kernel) rfl rfl (Nat.le_of_ble_eq_true rfl) (fs' := [.ref q7, .null, .null, .int 0, .int 0, .int 0, .int 0]) rfl d_ST_init_10 (fun H locs hP hD hS => ?_)
  refine lv_aload_n hx hb d_ST_init_13 rfl (lv_at hl 0 rfl) ?_
  refine lv_sipush (v := (576 : Int32)) hx hb d_ST_init_14 (by decide) ?_
  refine k_newa (N' := 576) hx hb (hts.1 _ q_692) hK hA hP hD hS (by decide) (by decide) (by decide) (Nat.le_of_ble_eq_true rfl) (Nat.le_of_ble_eq_true rfl) d_ST_init_17 (fun q17 H hP hD hS => ?_)
  refine k_putF (ty := .array (.int)) (C := R_ST) (TT := T_ST) (N := 7) (ci := 8) hx hb hts in_ST t_ST ty_ST nm_ST hown hK hP hD hS rfl 1 (by decide) q_87 rfl rfl hin rfl (by decide +kernel) rfl rfl (Nat.le_of_ble_eq_true rfl) (fs' := [.ref q7, .ref q17, .null, .int 0, .int 0, .int 0, .int 0]) rfl d_ST_init_19 (fun H locs hP hD hS => ?_)
  refine lv_aload_n hx hb d_ST_init_22 rfl (lv_at hl 0 rfl) ?_
  refine lv_sipush (v := (576 : Int32)) hx hb d_ST_init_23 (by decide) ?_
  refine k_newa (N' := 576) hx hb (hts.1 _ q_692) hK hA hP hD hS (by decide) (by decide) (by decide) (Nat.le_of_ble_eq_true rfl) (Nat.le_of_ble_eq_true rfl) d_ST_init_26 (fun q26 H hP hD hS => ?_)
  refine k_putF (ty := .array (.int)) (C := R_ST) (TT := T_ST) (N := 7) (ci := 8) hx hb hts in_ST t_ST ty_ST nm_ST hown hK hP hD hS rfl 2 (by decide) q_102 rfl rfl hin rfl (by decide +kernel) rfl rfl (Nat.le_of_ble_eq_true rfl) (fs' := [.ref q7, .ref q17, .ref q26, .int 0, .int 0, .int 0, .int 0]) rfl d_ST_init_28 (fun H locs hP hD hS => ?_)
  refine lv_iconst (v := (0 : Int32)) hx hb d_ST_init_31 (by decide) ?_
  refine lv_istore_n hx hb d_ST_init_32 rfl hl (by decide) rfl (fun ls hl => ?_)
  have hl : lv_has ls 2 [(1, .int (0 : Int32)), (0, .ref h0)] := hl
  have key : ∀ (r n : Nat) (f : Nat → Option Nat) (T : va_W) (H : Heap) (locs : List Loc) (ls : Array Slot), n + r = 16 → pl_ST ids n f T → va_P D vwCl ((h0, .inr (8, [.ref q7, .ref q17, .ref q26, .int 0, .int 0, .int 0, .int 0])) :: (((([] ++ [(q7, .inl (ids.2.1, 16, .inr (.inr (.inr (.inr f)))))]) ++ [(q17, .inl (ids.1, 576, .inl (fun _ => 0)))]) ++ [(q26, .inl (ids.1, 576, .inl (fun _ => 0)))]) ++ T)) H → va_D A ((h0, .inr (8, [.ref q7, .ref q17, .ref q26, .int 0, .int 0, .int 0, .int 0])) :: (((([] ++ [(q7, .inl (ids.2.1, 16, .inr (.inr (.inr (.inr f)))))]) ++ [(q17, .inl (ids.1, 576, .inl (fun _ => 0)))]) ++ [(q26, .inl (ids.1, 576, .inl (fun _ => 0)))]) ++ T)) → va_S A s.heap H locs → lv_has ls 2 [(1, .int (nI n)), (0, .ref h0)] → W p l e rk_ST s m args below meth c H locs (3 + 3 * n) (1168 + 12 * n) Q (F0 m 33 ls []) := by
    intro r
    induction r with
    | zero =>
      intro n f T H locs ls hn hpl hP hD hS hl
      obtain rfl : n = 16 := by omega
      refine lv_iload_n hx hb d_ST_init_33 rfl (lv_at hl 0 rfl) ?_
      refine lv_bipush (v := (16 : Int32)) hx hb d_ST_init_34 (by decide) ?_
      refine lv_icmp_ge (tgt := 58) hx hb d_ST_init_36 rfl (fun hc => ?_) (fun hc => absurd (by decide) hc)
      refine W.widen (k := 51) (n := 1360) (by omega) (by omega) ?_
      exact hret d_ST_init_58 ⟨q7, q17, q26, f, T, hpl, rfl⟩ hP hD hS
    | succ r ih =>
      intro n f T H locs ls hn hpl hP hD hS hl
      refine lv_iload_n hx hb d_ST_init_33 rfl (lv_at hl 0 rfl) ?_
      refine lv_bipush (v := (16 : Int32)) hx hb d_ST_init_34 (by decide) ?_
      have hnc : nI n < (16 : Int32) := nI_lt (a := n) (b := 16) (by omega) (by decide)
      refine lv_icmp_ge (tgt := 58) hx hb d_ST_init_36 rfl (fun hc => absurd hnc (Int32.not_lt.mpr hc)) (fun hc => ?_)
      refine lv_aload_n hx hb d_ST_init_39 rfl (lv_at hl 1 rfl) ?_
      refine va_get (D := D) (ci := 8) (v := .ref q7) (C := R_ST) (T := T_ST) (N := 7) hx hb hts.1 in_ST hown hK hP 0 rfl rfl 0 (by decide) (hts.1 _ q_108) (fun z h => h) rfl d_ST_init_40 ?_
      refine lv_iload_n hx hb d_ST_init_43 rfl (lv_at hl 0 rfl) ?_
      refine k_new (C := R_EN) (TT := T_EN) (N := 4) (ci := 0) (fs := df_EN) hx hb hts in_EN t_EN ty_EN hown q_711 q_713 q_111 hK hA hP hD hS rfl dfo_EN (Nat.le_trans (m := 51) (by omega) (Nat.le_of_ble_eq_true rfl)) (Nat.le_trans (m := 1360) (by omega) (Nat.le_of_ble_eq_true rfl)) d_ST_init_44 (fun q H hP hD hS => ?_)
      refine lv_dup hx hb d_ST_init_47 rfl ?_
      have hPw : va_P D vwCl ((((h0, .inr (8, [.ref q7, .ref q17, .ref q26, .int 0, .int 0, .int 0, .int 0])) :: (((([] ++ [(q7, .inl (ids.2.1, 16, .inr (.inr (.inr (.inr f)))))]) ++ [(q17, .inl (ids.1, 576, .inl (fun _ => 0)))]) ++ [(q26, .inl (ids.1, 576, .inl (fun _ => 0)))]) ++ T)) : va_W) ++ [(q, .inr (0, df_EN))]) H := hP
      have hDw : va_D A ((((h0, .inr (8, [.ref q7, .ref q17, .ref q26, .int 0, .int 0, .int 0, .int 0])) :: (((([] ++ [(q7, .inl (ids.2.1, 16, .inr (.inr (.inr (.inr f)))))]) ++ [(q17, .inl (ids.1, 576, .inl (fun _ => 0)))]) ++ [(q26, .inl (ids.1, 576, .inl (fun _ => 0)))]) ++ T)) : va_W) ++ [(q, .inr (0, df_EN))]) := hD
      refine k_call (va_runIN (As := []) (rest := [.ref q, .int (nI n), .ref q7]) ⟨hx, hb, hml, hown, hts.1⟩ (k_EN l D ids q H.size) ⟨va_cnB 0 hts.1 (tb_good q_712) rfl rfl rfl (hO.2.2 _ (List.mem_of_getElem? (l := nbK) (i := 4) rfl)) (hts.1 _ q_111) ⟨by decide, by decide, by decide +kernel⟩ ⟨Nat.le_of_ble_eq_true rfl, Nat.le_of_ble_eq_true rfl⟩, rfl, hts.1 _ q_714⟩ ⟨kblind, k_pre hts hO hK hPw⟩ rfl rfl hl.1 rfl (lv_room (Nat.le_of_ble_eq_true rfl)) d_ST_init_48 ⟨Nat.le_trans (m := 51) (by omega) (Nat.le_of_ble_eq_true rfl), Nat.le_trans (m := 1360) (by omega) (Nat.le_of_ble_eq_true rfl)⟩) hA hPw hDw hS (fun w H locs hw hP hD hS => ?_)
      have hmem : ∃ vs : List Value, ((q, .inr (0, vs)) : Nat × va_E) ∈ ((((h0, .inr (8, [.ref q7, .ref q17, .ref q26, .int 0, .int 0, .int 0, .int 0])) :: (((([] ++ [(q7, .inl (ids.2.1, 16, .inr (.inr (.inr (.inr f)))))]) ++ [(q17, .inl (ids.1, 576, .inl (fun _ => 0)))]) ++ [(q26, .inl (ids.1, 576, .inl (fun _ => 0)))]) ++ T)) : va_W) ++ w) := by
        have hw2 := hw
        simp only [pw_EN] at hw2
        obtain ⟨_, _, _, e1⟩ := hw2
        exact ⟨_, List.mem_append_right _ (by rw [e1]; exact List.mem_cons_self)⟩
      obtain ⟨vs, hmem⟩ := hmem
      obtain ⟨qk, hqk⟩ := List.getElem?_of_mem hmem
      have hP : va_P D vwCl ((h0, .inr (8, [.ref q7, .ref q17, .ref q26, .int 0, .int 0, .int 0, .int 0])) :: (((([] ++ [(q7, .inl (ids.2.1, 16, .inr (.inr (.inr (.inr f)))))]) ++ [(q17, .inl (ids.1, 576, .inl (fun _ => 0)))]) ++ [(q26, .inl (ids.1, 576, .inl (fun _ => 0)))]) ++ (T ++ w))) H := by rw [← List.append_assoc]; exact hP
      have hD : va_D A ((h0, .inr (8, [.ref q7, .ref q17, .ref q26, .int 0, .int 0, .int 0, .int 0])) :: (((([] ++ [(q7, .inl (ids.2.1, 16, .inr (.inr (.inr (.inr f)))))]) ++ [(q17, .inl (ids.1, 576, .inl (fun _ => 0)))]) ++ [(q26, .inl (ids.1, 576, .inl (fun _ => 0)))]) ++ (T ++ w))) := by rw [← List.append_assoc]; exact hD
      have hqk : ((h0, .inr (8, [.ref q7, .ref q17, .ref q26, .int 0, .int 0, .int 0, .int 0])) :: (((([] ++ [(q7, .inl (ids.2.1, 16, .inr (.inr (.inr (.inr f)))))]) ++ [(q17, .inl (ids.1, 576, .inl (fun _ => 0)))]) ++ [(q26, .inl (ids.1, 576, .inl (fun _ => 0)))]) ++ (T ++ w)))[qk]? = some (q, .inr (0, vs)) := by rw [← List.append_assoc]; exact hqk
      refine va_astq (D := D) (r := (R_EN, T_EN, 4)) (f := f) (n := 16) (cA := ids.2.1) hx hb hK hP hD hS 1 1 qk 0 rfl rfl hqk rfl (vp_in_nI (n := n) (N := 16) (by omega) (by decide)) d_ST_init_51 (fun H locs hP hD hS => ?_)
      rw [nI_clamp (n := n) (by omega)] at hP hD
      have hP : va_P D vwCl ((h0, .inr (8, [.ref q7, .ref q17, .ref q26, .int 0, .int 0, .int 0, .int 0])) :: (((([] ++ [(q7, .inl (ids.2.1, 16, .inr (.inr (.inr (.inr (va_up f n (some q)))))))]) ++ [(q17, .inl (ids.1, 576, .inl (fun _ => 0)))]) ++ [(q26, .inl (ids.1, 576, .inl (fun _ => 0)))]) ++ (T ++ w))) H := hP
      have hD : va_D A ((h0, .inr (8, [.ref q7, .ref q17, .ref q26, .int 0, .int 0, .int 0, .int 0])) :: (((([] ++ [(q7, .inl (ids.2.1, 16, .inr (.inr (.inr (.inr (va_up f n (some q)))))))]) ++ [(q17, .inl (ids.1, 576, .inl (fun _ => 0)))]) ++ [(q26, .inl (ids.1, 576, .inl (fun _ => 0)))]) ++ (T ++ w))) := hD
      refine lv_iinc (k := 0) (v := nI (n + 1)) hx hb d_ST_init_52 hl rfl (iinc_v (k := (1 : Int32)) (by decide) (nI_succ n)) (by decide) rfl (fun ls hl => ?_)
      have hl : lv_has ls 2 [(1, .int (nI (n + 1))), (0, .ref h0)] := hl
      refine lv_goto (tgt := 33) hx hb d_ST_init_55 rfl ?_
      refine W.widen (k := 3 + 3 * (n + 1)) (n := 1168 + 12 * (n + 1)) (by omega) (by omega) ?_
      exact ih (n + 1) (va_up f n (some q)) (T ++ w) H locs ls (by omega) (pl_ST_s hpl hw) hP hD hS hl
  refine W.widen (k := 3 + 3 * 0) (n := 1168 + 12 * 0) (by decide) (by decide) ?_
  have hP : va_P D vwCl ((h0, .inr (8, [.ref q7, .ref q17, .ref q26, .int 0, .int 0, .int 0, .int 0])) :: (((([] ++ [(q7, .inl (ids.2.1, 16, .inr (.inr (.inr (.inr (fun _ => none))))))]) ++ [(q17, .inl (ids.1, 576, .inl (fun _ => 0)))]) ++ [(q26, .inl (ids.1, 576, .inl (fun _ => 0)))]) ++ [])) H := by rw [List.append_nil]; exact hP
  have hD : va_D A ((h0, .inr (8, [.ref q7, .ref q17, .ref q26, .int 0, .int 0, .int 0, .int 0])) :: (((([] ++ [(q7, .inl (ids.2.1, 16, .inr (.inr (.inr (.inr (fun _ => none))))))]) ++ [(q17, .inl (ids.1, 576, .inl (fun _ => 0)))]) ++ [(q26, .inl (ids.1, 576, .inl (fun _ => 0)))]) ++ [])) := by rw [List.append_nil]; exact hD
  exact key 16 0 (fun _ => none) [] H _ ls (by decide) ⟨fun _ => 0, fun _ => [], fun k hk => absurd hk (Nat.not_lt_zero k), rfl⟩ hP hD hS hl
def rk_FS : Room := { frames := 3, cells := 49, slots := 216, locals := 80 }
def pl_FS (ids : ClassId × ClassId × ClassId) (n : Nat) (f : Nat → Option Nat) (T : va_W) : Prop := ∃ (u : Nat → Nat) (v : Nat → va_W), (∀ k, k < n → f k = some (u k) ∧ pw_FI ids (u k) (v k)) ∧ T = (List.range n).flatMap v
theorem pl_FS_s {ids : ClassId × ClassId × ClassId} {n : Nat} {f : Nat → Option Nat} {T w : va_W} {q : Nat} (h : pl_FS ids n f T) (hw : pw_FI ids q w) : pl_FS ids (n + 1) (va_up f n (some q)) (T ++ w) := by
  obtain ⟨u, v, h1, h2⟩ := h
  refine ⟨va_up u n q, va_up v n w, fun k hk => ?_, ?_⟩
  · by_cases e : k = n
    · subst e; simp only [va_up, if_true]; exact ⟨trivial, hw⟩
    · simp only [va_up, if_neg e]; exact h1 k (by omega)
  · have e1 : (List.range n).flatMap (va_up v n w) = (List.range n).flatMap v := by
      unfold List.flatMap
      rw [List.map_congr_left (g := v) (fun k hk => by have := List.mem_range.mp hk; simp only [va_up, if_neg (Nat.ne_of_lt this)])]
    rw [List.range_succ, List.flatMap_append, e1, ← h2]
    simp [va_up]
def pw_FS (ids : ClassId × ClassId × ClassId) (h0 : Nat) (ws : va_W) : Prop := ∃ (q7 : Nat) (f : Nat → Option Nat) (T : va_W), pl_FS ids 8 f T ∧ ws = (h0, .inr (2, [.ref q7, .int 0])) :: (([] ++ [(q7, .inl (ids.2.2, 8, .inr (.inr (.inr (.inr f)))))]) ++ T)
set_option maxHeartbeats 4000000 in
set_option maxRecDepth 100000 in
theorem k_FS (l : Launch) (D : va_G) (ids : ClassId × ClassId × ClassId) (h0 : Nat) : Ck l D ids y_FS_init (Cond.code y_FS_init b_FS_init 2 none :: tb) rk_FS [.ref h0] h0 (.inr (2, df_FS)) (pw_FS ids h0) 49 216 := by
  refine ofCk (cc := b_FS_init) (maxL := 2) (by decide) rfl (Nat.le_of_ble_eq_true rfl) rfl ?_
  intro p e s m args below meth c Q ls A hx hb hml hown hin hts hO hK hA hP hD hS hl hret
  have hown : s.vm.findClass R_FS = some m.cls := hown
  have hl : lv_has ls 2 [(0, .ref h0)] := hl
  refine lv_aload_n hx hb d_FS_init_0 rfl (lv_at hl 0 rfl) ?_
  refine W.objInit hx hb hown (hts.1 _ q_715) (hts.1 _ q_690) (hts.1 _ q_691) rfl (by rw [hml]; exact hl.1) rfl d_FS_init_1 (Nat.le_of_ble_eq_true rfl) (Nat.le_of_ble_eq_true rfl) ?_
  refine W.eq (g2 := F0 m 4 ls []) rfl ?_
  refine lv_aload_n hx hb d_FS_init_4 rfl (lv_at hl 0 rfl) ?_
  refine lv_bipush (v := (8 : Int32)) hx hb d_FS_init_5 (by decide) ?_
  refine k_newq (N' := 8) (C := "EdgeCampaign$Finding") (t0 := 2) (cX := ids.2.2) hx hb hown (hts.1 _ q_716) hO.2.1 hK rfl hA hP hD hS (by decide) (by decide) (by decide) (Nat.le_of_ble_eq_true rfl) (Nat.le_of_ble_eq_true rfl) d_FS_init_7 (fun q7 H hP hD hS => ?_)
  refine k_putF (ty := .array (.object "EdgeCampaign$Finding")) (C := R_FS) (TT := T_FS) (N := 2) (ci := 2) hx hb hts in_FS t_FS ty_FS nm_FS hown hK hP hD hS rfl 0 (by decide) q_140 rfl rfl hin rfl (by decide +kernel) rfl rfl (Nat.le_of_ble_eq_true rfl) (fs' := [.ref q7, .int 0]) rfl d_FS_init_10 (fun H locs hP hD hS => ?_)
  refine lv_iconst (v := (0 : Int32)) hx hb d_FS_init_13 (by decide) ?_
  refine lv_istore_n hx hb d_FS_init_14 rfl hl (by decide) rfl (fun ls hl => ?_)
  have hl : lv_has ls 2 [(1, .int (0 : Int32)), (0, .ref h0)] := hl
  have key : ∀ (r n : Nat) (f : Nat → Option Nat) (T : va_W) (H : Heap) (locs : List Loc) (ls : Array Slot), n + r = 8 → pl_FS ids n f T → va_P D vwCl ((h0, .inr (2, [.ref q7, .int 0])) :: (([] ++ [(q7, .inl (ids.2.2, 8, .inr (.inr (.inr (.inr f)))))]) ++ T)) H → va_D A ((h0, .inr (2, [.ref q7, .int 0])) :: (([] ++ [(q7, .inl (ids.2.2, 8, .inr (.inr (.inr (.inr f)))))]) ++ T)) → va_S A s.heap H locs → lv_has ls 2 [(1, .int (nI n)), (0, .ref h0)] → W p l e rk_FS s m args below meth c H locs (1 + 6 * n) (8 + 26 * n) Q (F0 m 15 ls []) := by
    intro r
    induction r with
    | zero =>
      intro n f T H locs ls hn hpl hP hD hS hl
      obtain rfl : n = 8 := by omega
      refine lv_iload_n hx hb d_FS_init_15 rfl (lv_at hl 0 rfl) ?_
      refine lv_bipush (v := (8 : Int32)) hx hb d_FS_init_16 (by decide) ?_
      refine lv_icmp_ge (tgt := 40) hx hb d_FS_init_18 rfl (fun hc => ?_) (fun hc => absurd (by decide) hc)
      refine W.widen (k := 49) (n := 216) (by omega) (by omega) ?_
      exact hret d_FS_init_40 ⟨q7, f, T, hpl, rfl⟩ hP hD hS
    | succ r ih =>
      intro n f T H locs ls hn hpl hP hD hS hl
      refine lv_iload_n hx hb d_FS_init_15 rfl (lv_at hl 0 rfl) ?_
      refine lv_bipush (v := (8 : Int32)) hx hb d_FS_init_16 (by decide) ?_
      have hnc : nI n < (8 : Int32) := nI_lt (a := n) (b := 8) (by omega) (by decide)
      refine lv_icmp_ge (tgt := 40) hx hb d_FS_init_18 rfl (fun hc => absurd hnc (Int32.not_lt.mpr hc)) (fun hc => ?_)
      refine lv_aload_n hx hb d_FS_init_21 rfl (lv_at hl 1 rfl) ?_
      refine va_get (D := D) (ci := 2) (v := .ref q7) (C := R_FS) (T := T_FS) (N := 2) hx hb hts.1 in_FS hown hK hP 0 rfl rfl 0 (by decide) (hts.1 _ q_140) (fun z h => h) rfl d_FS_init_22 ?_
      refine lv_iload_n hx hb d_FS_init_25 rfl (lv_at hl 0 rfl) ?_
      refine k_new (C := R_FI) (TT := T_FI) (N := 7) (ci := 1) (fs := df_FI) hx hb hts in_FI t_FI ty_FI hown q_716 q_718 q_144 hK hA hP hD hS rfl dfo_FI (Nat.le_trans (m := 49) (by omega) (Nat.le_of_ble_eq_true rfl)) (Nat.le_trans (m := 216) (by omega) (Nat.le_of_ble_eq_true rfl)) d_FS_init_26 (fun q H hP hD hS => ?_)
      refine lv_dup hx hb d_FS_init_29 rfl ?_
      have hPw : va_P D vwCl ((((h0, .inr (2, [.ref q7, .int 0])) :: (([] ++ [(q7, .inl (ids.2.2, 8, .inr (.inr (.inr (.inr f)))))]) ++ T)) : va_W) ++ [(q, .inr (1, df_FI))]) H := hP
      have hDw : va_D A ((((h0, .inr (2, [.ref q7, .int 0])) :: (([] ++ [(q7, .inl (ids.2.2, 8, .inr (.inr (.inr (.inr f)))))]) ++ T)) : va_W) ++ [(q, .inr (1, df_FI))]) := hD
      refine k_call (va_runIN (As := []) (rest := [.ref q, .int (nI n), .ref q7]) ⟨hx, hb, hml, hown, hts.1⟩ (k_FI l D ids q H.size) ⟨va_cnB 0 hts.1 (tb_good q_717) rfl rfl rfl (hO.2.2 _ (List.mem_of_getElem? (l := nbK) (i := 5) rfl)) (hts.1 _ q_144) ⟨by decide, by decide, by decide +kernel⟩ ⟨Nat.le_of_ble_eq_true rfl, Nat.le_of_ble_eq_true rfl⟩, rfl, hts.1 _ q_719⟩ ⟨kblind, k_pre hts hO hK hPw⟩ rfl rfl hl.1 rfl (lv_room (Nat.le_of_ble_eq_true rfl)) d_FS_init_30 ⟨Nat.le_trans (m := 49) (by omega) (Nat.le_of_ble_eq_true rfl), Nat.le_trans (m := 216) (by omega) (Nat.le_of_ble_eq_true rfl)⟩) hA hPw hDw hS (fun w H locs hw hP hD hS => ?_)
      have hmem : ∃ vs : List Value, ((q, .inr (1, vs)) : Nat × va_E) ∈ ((((h0, .inr (2, [.ref q7, .int 0])) :: (([] ++ [(q7, .inl (ids.2.2, 8, .inr (.inr (.inr (.inr f)))))]) ++ T)) : va_W) ++ w) := by
        have hw2 := hw
        simp only [pw_FI] at hw2
        obtain ⟨_, _, _, _, _, _, _, e1⟩ := hw2
        exact ⟨_, List.mem_append_right _ (by rw [e1]; exact List.mem_cons_self)⟩
      obtain ⟨vs, hmem⟩ := hmem
      obtain ⟨qk, hqk⟩ := List.getElem?_of_mem hmem
      have hP : va_P D vwCl ((h0, .inr (2, [.ref q7, .int 0])) :: (([] ++ [(q7, .inl (ids.2.2, 8, .inr (.inr (.inr (.inr f)))))]) ++ (T ++ w))) H := by rw [← List.append_assoc]; exact hP
      have hD : va_D A ((h0, .inr (2, [.ref q7, .int 0])) :: (([] ++ [(q7, .inl (ids.2.2, 8, .inr (.inr (.inr (.inr f)))))]) ++ (T ++ w))) := by rw [← List.append_assoc]; exact hD
      have hqk : ((h0, .inr (2, [.ref q7, .int 0])) :: (([] ++ [(q7, .inl (ids.2.2, 8, .inr (.inr (.inr (.inr f)))))]) ++ (T ++ w)))[qk]? = some (q, .inr (1, vs)) := by rw [← List.append_assoc]; exact hqk
      refine va_astq (D := D) (r := (R_FI, T_FI, 7)) (f := f) (n := 8) (cA := ids.2.2) hx hb hK hP hD hS 1 2 qk 1 rfl rfl hqk rfl (vp_in_nI (n := n) (N := 8) (by omega) (by decide)) d_FS_init_33 (fun H locs hP hD hS => ?_)
      rw [nI_clamp (n := n) (by omega)] at hP hD
      have hP : va_P D vwCl ((h0, .inr (2, [.ref q7, .int 0])) :: (([] ++ [(q7, .inl (ids.2.2, 8, .inr (.inr (.inr (.inr (va_up f n (some q)))))))]) ++ (T ++ w))) H := hP
      have hD : va_D A ((h0, .inr (2, [.ref q7, .int 0])) :: (([] ++ [(q7, .inl (ids.2.2, 8, .inr (.inr (.inr (.inr (va_up f n (some q)))))))]) ++ (T ++ w))) := hD
      refine lv_iinc (k := 0) (v := nI (n + 1)) hx hb d_FS_init_34 hl rfl (iinc_v (k := (1 : Int32)) (by decide) (nI_succ n)) (by decide) rfl (fun ls hl => ?_)
      have hl : lv_has ls 2 [(1, .int (nI (n + 1))), (0, .ref h0)] := hl
      refine lv_goto (tgt := 15) hx hb d_FS_init_37 rfl ?_
      refine W.widen (k := 1 + 6 * (n + 1)) (n := 8 + 26 * (n + 1)) (by omega) (by omega) ?_
      exact ih (n + 1) (va_up f n (some q)) (T ++ w) H locs ls (by omega) (pl_FS_s hpl hw) hP hD hS hl
  refine W.widen (k := 1 + 6 * 0) (n := 8 + 26 * 0) (by decide) (by decide) ?_
  have hP : va_P D vwCl ((h0, .inr (2, [.ref q7, .int 0])) :: (([] ++ [(q7, .inl (ids.2.2, 8, .inr (.inr (.inr (.inr (fun _ => none))))))]) ++ [])) H := by rw [List.append_nil]; exact hP
  have hD : va_D A ((h0, .inr (2, [.ref q7, .int 0])) :: (([] ++ [(q7, .inl (ids.2.2, 8, .inr (.inr (.inr (.inr (fun _ => none))))))]) ++ [])) := by rw [List.append_nil]; exact hD
  exact key 8 0 (fun _ => none) [] H _ ls (by decide) ⟨fun _ => 0, fun _ => [], fun k hk => absurd hk (Nat.not_lt_zero k), rfl⟩ hP hD hS hl
