theorem nb_in : ∀ w ∈ nb, w ∈ lw_tbl := by decide +kernel
theorem nbK_in : ∀ q ∈ nbK, (Cond.methodLinkNest q.1 q.2.1 q.2.2.1 q.2.2.2) ∈ lw_tbl := by decide +kernel
theorem nst_all {s : State} {args : Array Value} (hts : ∀ w ∈ lw_tbl, w.before args s = true) : Nst s := by
  intro w hw
  have h := hts w (nb_in w hw)
  rcases List.mem_append.mp hw with h2 | h2
  · obtain ⟨q, -, rfl⟩ := List.mem_map.mp h2
    exact va_Nw.of rfl h
  · obtain ⟨q, -, rfl⟩ := List.mem_map.mp h2
    exact va_Nw.of rfl h
theorem aos_all {s : State} {args : Array Value} (hts : ∀ w ∈ lw_tbl, w.before args s = true) : Aos s := ⟨va_AO.of (hts _ (List.mem_of_getElem? (i := 165) (by decide +kernel))), va_AO.of (hts _ (List.mem_of_getElem? (i := 230) (by decide +kernel))), fun q hq => va_Nw.of rfl (hts _ (nbK_in q hq))⟩
theorem stc_all {s : State} {b : Nat} (hts : ∀ w ∈ lw_tbl, w.before #[Value.ref b] s = true) (hgv : (Jvm.Cond.and given_1 narrow_1).before #[Value.ref b] s = true) {A : Nat → Prop} (hA : ∀ a : Nat, a < s.heap.size → ¬ A a) : ∃ tA tP : Nat, (va_Z "EdgeCampaign$Trials" "ADDED" "[I" (.ref tA) A s s.heap ∧ va_T .int tA 4 (fun k => .int (sADD k)) A s s.heap) ∧ (va_Z "EdgeCampaign$Trials" "PUT" "[I" (.ref tP) A s s.heap ∧ va_T .int tP 4 (fun k => .int (sPUT k)) A s s.heap) := by
  have hs := flat_of_before _ hgv
  obtain ⟨tA, a1, a2⟩ := va_Tof (f := fun k => .int (sADD k)) (N := 4) (tm := .static "EdgeCampaign$Trials" "ADDED" "[I") (ty := .int) (A := A) (by decide) (hs _ (by decide +kernel)) (va_eqt (hs (.eq (.length (.static "EdgeCampaign$Trials" "ADDED" "[I")) (.int 4)) (by decide +kernel))) (fun j hj => by
    rcases (show j = 0 ∨ j = 1 ∨ j = 2 ∨ j = 3 by omega) with rfl | rfl | rfl | rfl
    · exact va_eqt (hs (.eq (.elem (.static "EdgeCampaign$Trials" "ADDED" "[I") (.int 0)) (.int 1)) (by decide +kernel))
    · exact va_eqt (hs (.eq (.elem (.static "EdgeCampaign$Trials" "ADDED" "[I") (.int 1)) (.int (-1))) (by decide +kernel))
    · exact va_eqt (hs (.eq (.elem (.static "EdgeCampaign$Trials" "ADDED" "[I") (.int 2)) (.int 16)) (by decide +kernel))
    · exact va_eqt (hs (.eq (.elem (.static "EdgeCampaign$Trials" "ADDED" "[I") (.int 3)) (.int (-16))) (by decide +kernel))) hA
  obtain ⟨tP, b1, b2⟩ := va_Tof (f := fun k => .int (sPUT k)) (N := 4) (tm := .static "EdgeCampaign$Trials" "PUT" "[I") (ty := .int) (A := A) (by decide) (hs _ (by decide +kernel)) (va_eqt (hs (.eq (.length (.static "EdgeCampaign$Trials" "PUT" "[I")) (.int 4)) (by decide +kernel))) (fun j hj => by
    rcases (show j = 0 ∨ j = 1 ∨ j = 2 ∨ j = 3 by omega) with rfl | rfl | rfl | rfl
    · exact va_eqt (hs (.eq (.elem (.static "EdgeCampaign$Trials" "PUT" "[I") (.int 0)) (.int 0)) (by decide +kernel))
    · exact va_eqt (hs (.eq (.elem (.static "EdgeCampaign$Trials" "PUT" "[I") (.int 1)) (.int 127)) (by decide +kernel))
    · exact va_eqt (hs (.eq (.elem (.static "EdgeCampaign$Trials" "PUT" "[I") (.int 2)) (.int 128)) (by decide +kernel))
    · exact va_eqt (hs (.eq (.elem (.static "EdgeCampaign$Trials" "PUT" "[I") (.int 3)) (.int 255)) (by decide +kernel))) hA
  exact ⟨tA, tP, ⟨va_Zref (hts _ (List.mem_of_getElem? (i := 579) (by decide +kernel))) (hts _ (List.mem_filter.mp q_196).1) a1 hA, a2⟩, va_Zref (hts _ (List.mem_of_getElem? (i := 585) (by decide +kernel))) (hts _ (List.mem_filter.mp q_196).1) b1 hA, b2⟩
/-- what is left to prove of the numbers alone: the law's loop, from the fresh memory, comes to its end with 1 -/
def Pure : Prop := ∀ (L : Nat) (xs : Nat → Int32), L ≤ 2049 → ∃ M1 : Mem, s_LAW_law L xs 1 (M0 (if L = 0 then 0 else xs 0)) = some (1, M1)
set_option maxHeartbeats 4000000 in
set_option maxRecDepth 100000 in
theorem whole_open (hpure : Pure) {p : Program} {e : Env} {s : State} {m : MethodId} {below : List Frame} {meth : Method} {c : Code} (l : Launch) {b L : Nat} {xs : Nat → Int32} (hL : L ≤ 2049) (C0 : lw_At p s m meth c b L xs) : W p l e room_1 s m #[Value.ref b] below meth c s.heap [] 0 0 (lw_Z below #[Value.ref b] s) (entryFrame m ([Value.ref b] : List Value).toArray 4) := by
  obtain ⟨hx, hb, hr, hml, hown, hts0, hX, hbl, hlocks, hgv⟩ := C0
  have hown : s.vm.findClass R_LAW = some m.cls := hown
  have hb : c.code = b_LAW_law := hb
  have hts : Tb #[Value.ref b] s := ⟨fun w hw => hts0 w (List.mem_filter.mp hw).1, nst_all hts0⟩
  have hO := aos_all hts0
  have hL2 : L < 2 ^ 31 := by omega
  obtain ⟨D, hKn⟩ := kn_all hts.1
  obtain ⟨ids, hKt⟩ := ids_all hts0
  have hK : va_K D vwCl (tyk ids) s := ⟨hKn, hKt⟩
  obtain ⟨A, eA⟩ : ∃ A : Nat → Prop, A = fun q => s.heap.size ≤ q := ⟨_, rfl⟩
  have hA : ∀ q : Nat, s.heap.size ≤ q → A q := fun q h => by rw [eA]; exact h
  have hbA : ¬ A b := by rw [eA]; exact Nat.not_le.mpr hbl
  have hS : va_S A s.heap s.heap [] := va_S.rf
  have hP : va_P D vwCl [] s.heap := fun k q h => by cases h
  have hD : va_D A [] := ⟨(fun i j a b h => by cases h), (fun k q h => by cases h)⟩
  have hl := lv_entry ([.ref b]) (n := 4) (Nat.le_of_ble_eq_true rfl)
  rw [lg_entry_eq]
  generalize (lg_sl ([.ref b]) ++ List.replicate (4 - (lg_sl ([.ref b])).length) Slot.unset).toArray = ls at hl ⊢
  have hl : lv_has ls 4 [(0, .ref b)] := hl
  have hpre : ∀ {H : Heap} {locs : List Loc}, va_S A s.heap H locs → PreS s H (va_Pc [.ref b, .int 0] (fun U => va_X b L xs U U.heap ∧ b < U.heap.size)) [.ref b, .int 0] := fun hS => ⟨fun a U g mk q => ⟨q.1, va_X.moved (u := U) (U := U.calling g mk a) (Vm.Alike.refl U.vm) q.2.1, q.2.2⟩, fun U hU hW => ⟨rfl, va_X.moved hW.alike (va_X.kept hX (by rw [hU]; exact hS.2.1 b hbl hbA)), by rw [hU]; exact Nat.lt_of_lt_of_le hbl hS.1⟩⟩
  have hcw := (callB_of (R := room_1) (own := R_LAW) (rm := { frames := 0, cells := 0, slots := 0, locals := 0 }) (mc := 0) (ms := 0) 2 hts.1 (tb_good q_753) rfl rfl rfl (hts.1 _ q_754) (hts.1 _ q_755) ⟨by decide, by decide, by decide +kernel⟩ ⟨Nat.le_of_ble_eq_true rfl, Nat.le_of_ble_eq_true rfl⟩)
  refine va_new (D := D) (cl := vwCl) (ci := 10) (fs := df_EC) (C := R_EC) (T := T_EC) (N := 12) hx hb hts.1 in_EC t_EC ty_EC hown (hts.1 _ q_757) (hts.1 _ q_751) (hts.1 _ q_245) hK hP hD hS hA rfl dfo_EC (Nat.le_of_ble_eq_true rfl) (Nat.le_of_ble_eq_true rfl) d_LAW_law_0 (fun q1 H hP hD hS => ?_)
  refine lv_dup hx hb d_LAW_law_3 rfl ?_
  refine lv_aload_n hx hb d_LAW_law_4 rfl (lv_at hl 0 rfl) ?_
  refine lv_iconst (v := (0 : Int32)) hx hb d_LAW_law_5 (by decide) ?_
  refine va_calli (va_runS (As := [.ref b, .int 0]) (rest := [.ref q1, .ref q1]) ⟨hx, hb, hml, hown, hts.1⟩ (c_cell l b L xs hL2) ⟨hcw, hts.1 _ q_756⟩ (hpre hS) rfl rfl hl.1 rfl (lv_room (Nat.le_of_ble_eq_true rfl)) d_LAW_law_6 ⟨Nat.le_of_ble_eq_true rfl, Nat.le_of_ble_eq_true rfl⟩) hS (fun q _ h => h.elim) (fun q h => h.elim) (fun v u t H1 locs1 ht hvm hpv _ hz hk hS => ?_)
  have hP := hP.kept (fun k z hz => hk z.1 ((hP k z hz).lt) id)
  have hpv : v = if L = 0 then 0 else xs 0 := hpv
  refine k_call (ws := []) (va_runI (As := [.int v]) (rest := [.ref q1]) ⟨hx, hb, hml, hown, hts.1⟩ (k_EC l D ids q1 v H1.size) ⟨callB_of 1 hts.1 (tb_good q_758) rfl rfl rfl (hts.1 _ q_245) (hts.1 _ q_759) ⟨by decide, by decide, by decide +kernel⟩ ⟨Nat.le_of_ble_eq_true rfl, Nat.le_of_ble_eq_true rfl⟩, rfl, hts.1 _ q_760⟩ ⟨kblind, k_pre (ws := []) hts hO hK hP⟩ rfl rfl hl.1 rfl (lv_room (Nat.le_of_ble_eq_true rfl)) d_LAW_law_9 ⟨Nat.le_of_ble_eq_true rfl, Nat.le_of_ble_eq_true rfl⟩) hA hP hD hS (fun w1 H locs hw1 hP hD hS => ?_)
  refine lv_astore_n hx hb d_LAW_law_12 rfl hl (by decide) rfl (fun ls hl => ?_)
  have hl : lv_has ls 4 [(1, .ref q1), (0, .ref b)] := hl
  refine va_new (D := D) (cl := vwCl) (ci := 11) (fs := df_MO) (C := R_MO) (T := T_MO) (N := 45) hx hb hts.1 in_MO t_MO ty_MO hown (hts.1 _ q_761) (hts.1 _ q_752) (hts.1 _ q_323) hK hP hD hS hA rfl dfo_MO (Nat.le_of_ble_eq_true rfl) (Nat.le_of_ble_eq_true rfl) d_LAW_law_13 (fun q2 H hP hD hS => ?_)
  refine lv_dup hx hb d_LAW_law_16 rfl ?_
  refine lv_aload_n hx hb d_LAW_law_17 rfl (lv_at hl 1 rfl) ?_
  refine lv_iconst (v := (0 : Int32)) hx hb d_LAW_law_18 (by decide) ?_
  refine va_calli (va_runS (As := [.ref b, .int 0]) (rest := [.ref q2, .ref q2]) ⟨hx, hb, hml, hown, hts.1⟩ (c_cell l b L xs hL2) ⟨hcw, hts.1 _ q_756⟩ (hpre hS) rfl rfl hl.1 rfl (lv_room (Nat.le_of_ble_eq_true rfl)) d_LAW_law_19 ⟨Nat.le_of_ble_eq_true rfl, Nat.le_of_ble_eq_true rfl⟩) hS (fun q _ h => h.elim) (fun q h => h.elim) (fun v2 u2 t2 H2 locs2 ht2 hvm2 hpv2 _ hz2 hk2 hS => ?_)
  have hP := hP.kept (fun k z hz => hk2 z.1 ((hP k z hz).lt) id)
  have hpv2 : v2 = if L = 0 then 0 else xs 0 := hpv2
  refine k_call (ws := [] ++ w1) (va_runI (As := [.int v2]) (rest := [.ref q2]) ⟨hx, hb, hml, hown, hts.1⟩ (k_MO l D ids q2 v2 H2.size) ⟨callB_of 1 hts.1 (tb_good q_762) rfl rfl rfl (hts.1 _ q_323) (hts.1 _ q_763) ⟨by decide, by decide, by decide +kernel⟩ ⟨Nat.le_of_ble_eq_true rfl, Nat.le_of_ble_eq_true rfl⟩, rfl, hts.1 _ q_764⟩ ⟨kblind, k_pre (ws := [] ++ w1) hts hO hK hP⟩ rfl rfl hl.1 rfl (lv_room (Nat.le_of_ble_eq_true rfl)) d_LAW_law_22 ⟨Nat.le_of_ble_eq_true rfl, Nat.le_of_ble_eq_true rfl⟩) hA hP hD hS (fun w2 H locs hw2 hP hD hS => ?_)
  refine lv_astore_n hx hb d_LAW_law_25 rfl hl (by decide) rfl (fun ls hl => ?_)
  have hl : lv_has ls 4 [(2, .ref q2), (1, .ref q1), (0, .ref b)] := hl
  refine lv_iconst (v := (1 : Int32)) hx hb d_LAW_law_26 (by decide) ?_
  refine lv_istore_n hx hb d_LAW_law_27 rfl hl (by decide) rfl (fun ls hl => ?_)
  have hl : lv_has ls 4 [(3, .int (1 : Int32)), (2, .ref q2), (1, .ref q1), (0, .ref b)] := hl
  subst hpv
  subst hpv2
  obtain ⟨ad, e1, e2, hall⟩ := to_wld hw1 hw2 hP hD
  have hA0 : ∀ tt : Nat × Nat, ∀ a : Nat, a < s.heap.size → ¬ A0 (D, ad, ids, tt) a := fun tt a ha h => by
    obtain ⟨j, hj, ej⟩ := h
    have h1 := (hall tt).2.1 j hj
    rw [eA] at h1
    have h2 : s.heap.size ≤ ad j := h1
    have h3 : a = ad j := ej
    omega
  obtain ⟨tA, tP, hst⟩ := stc_all (A := A0 (D, ad, ids, (0, 0))) hts0 hgv (hA0 (0, 0))
  obtain ⟨hJ, hnew, hPw⟩ := hall (tA, tP)
  obtain ⟨x, ex⟩ : ∃ x : Cx, x = (D, ad, ids, (tA, tP)) := ⟨_, rfl⟩
  obtain ⟨M1, hM1⟩ := hpure L xs hL
  have hZ : Stc x s s.heap := by rw [ex]; exact hst
  have hold : ∀ j, j < 154 → s.heap.size ≤ x.2.1 j := fun j hj => by
    have h1 := hnew j hj
    rw [eA] at h1
    rw [ex]
    exact h1
  refine va_forget (fun q hq => by have h1 := hS.2.2 q hq; rw [eA] at h1; exact h1) ?_
  have hS2 : va_S (A0 x) s.heap H [] := ⟨hS.1, fun q h1 _ => hS.2.1 q h1 (by rw [eA]; exact Nat.not_le.mpr h1), fun _ h => by cases h⟩
  refine w_LAW_law l x (by rw [ex]; exact hJ) (G0 := fun o => o.1 = 1) (b := b) (L := L) (xs := xs) hM1 rfl ⟨Nat.le_of_ble_eq_true rfl, Nat.le_of_ble_eq_true rfl⟩ hx hb hml hown hts (by rw [ex]; exact hK) hZ hX hbl (by rw [ex]; exact hA0 _ b hbl) (by rw [ex]; exact hPw) hS2 (by rw [ex]; show lv_has ls 4 [(0, .ref b), (1, .ref (ad 0)), (2, .ref (ad 26)), (3, .int 1)]; rw [e1, e2]; exact lv_sub hl [3, 2, 1, 0] rfl) ?_
  intro v M2 H locs ls pc hv hd hg hP hS
  have hg : v = 1 := hg
  subst hg
  refine va_forget (fun q hq => by obtain ⟨j, hj, ej⟩ := hS.2.2 q hq; rw [ej]; exact hold j hj) ?_
  refine W.widen (k := 600000) (n := 7302250) (Nat.le_of_ble_eq_true rfl) (Nat.le_of_ble_eq_true rfl) ?_
  exact lw_ret hx hb hr hlocks hd
