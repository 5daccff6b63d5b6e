theorem d_ST_hasNews_0 : decode b_ST_hasNews 0 = .ok (.iconst 0, 1) := by decide +kernel
theorem d_ST_hasNews_1 : decode b_ST_hasNews 1 = .ok (.istore_n 2, 1) := by decide +kernel
theorem d_ST_hasNews_2 : decode b_ST_hasNews 2 = .ok (.iload_n 2, 1) := by decide +kernel
theorem d_ST_hasNews_3 : decode b_ST_hasNews 3 = .ok (.aload_n 1, 1) := by decide +kernel
theorem d_ST_hasNews_4 : decode b_ST_hasNews 4 = .ok (.getfield 34, 3) := by decide +kernel
theorem d_ST_hasNews_7 : decode b_ST_hasNews 7 = .ok (.if_icmp .ge 33, 3) := by decide +kernel
theorem d_ST_hasNews_10 : decode b_ST_hasNews 10 = .ok (.aload_n 1, 1) := by decide +kernel
theorem d_ST_hasNews_11 : decode b_ST_hasNews 11 = .ok (.getfield 39, 3) := by decide +kernel
theorem d_ST_hasNews_14 : decode b_ST_hasNews 14 = .ok (.iload_n 2, 1) := by decide +kernel
theorem d_ST_hasNews_15 : decode b_ST_hasNews 15 = .ok (.iaload, 1) := by decide +kernel
theorem d_ST_hasNews_16 : decode b_ST_hasNews 16 = .ok (.istore_n 3, 1) := by decide +kernel
theorem d_ST_hasNews_17 : decode b_ST_hasNews 17 = .ok (.aload_n 0, 1) := by decide +kernel
theorem d_ST_hasNews_18 : decode b_ST_hasNews 18 = .ok (.getfield 19, 3) := by decide +kernel
theorem d_ST_hasNews_21 : decode b_ST_hasNews 21 = .ok (.iload_n 3, 1) := by decide +kernel
theorem d_ST_hasNews_22 : decode b_ST_hasNews 22 = .ok (.iaload, 1) := by decide +kernel
theorem d_ST_hasNews_23 : decode b_ST_hasNews 23 = .ok (.aload_n 1, 1) := by decide +kernel
theorem d_ST_hasNews_24 : decode b_ST_hasNews 24 = .ok (.iload_n 3, 1) := by decide +kernel
theorem d_ST_hasNews_25 : decode b_ST_hasNews 25 = .ok (.invokevirtual 42, 3) := by decide +kernel
theorem d_ST_hasNews_28 : decode b_ST_hasNews 28 = .ok (.iand, 1) := by decide +kernel
theorem d_ST_hasNews_29 : decode b_ST_hasNews 29 = .ok (.ifCond .ne 5, 3) := by decide +kernel
theorem d_ST_hasNews_32 : decode b_ST_hasNews 32 = .ok (.iconst 1, 1) := by decide +kernel
theorem d_ST_hasNews_33 : decode b_ST_hasNews 33 = .ok (.ireturn, 1) := by decide +kernel
theorem d_ST_hasNews_34 : decode b_ST_hasNews 34 = .ok (.iinc 2 1, 3) := by decide +kernel
theorem d_ST_hasNews_37 : decode b_ST_hasNews 37 = .ok (.goto (-35), 3) := by decide +kernel
theorem d_ST_hasNews_40 : decode b_ST_hasNews 40 = .ok (.iconst 0, 1) := by decide +kernel
theorem d_ST_hasNews_41 : decode b_ST_hasNews 41 = .ok (.ireturn, 1) := by decide +kernel
noncomputable def l_ST_hasNews_2 (j1 : Nat) (v22 : Int32) (M23 : Mem) : Option ((Int32 × Mem) ⊕ (Int32 × Mem)) :=
  if (M23 j1 5) ≤ v22 then (some (.inr ((0 : Int32), M23))) else (ck v22 64 (nx (M23 (j1 + 5) v22.toNatClampNeg) (fun v25 => ck v25 576 (bi (s_RU_pairBit j1 v25 M23) (fun r29 M27 => if ((M23 7 v25.toNatClampNeg) &&& r29) = 0 then (some (.inr ((1 : Int32), M27))) else (nx (v22 + (1 : Int32)) (fun v30 => some (.inl (v30, M27)))))))))
noncomputable def s_ST_hasNews (j1 : Nat) (M : Mem) : Option (Int32 × Mem) :=
  nx ((0 : Int32)) (fun v21 => lp (fun q : Int32 × Mem => l_ST_hasNews_2 j1 q.1 q.2) (v21, M))
set_option maxHeartbeats 4000000 in
set_option maxRecDepth 100000 in
theorem c_ST_hasNews (l : Launch) (x : Cx) (hJ : Inj x) (j1 : Nat) (k1 : kd_run j1) {M : Mem} {out : Int32 × Mem} (h : s_ST_hasNews j1 M = some out) : Ci l x y_ST_hasNews (Cond.code y_ST_hasNews b_ST_hasNews 4 (some .boolean) :: tb) r_ST_hasNews [.ref (x.2.1 5), .ref (x.2.1 j1)] M out := by
  refine ofCz (cc := b_ST_hasNews) (maxL := 4) (by decide) rfl (rfl) (Nat.le_of_ble_eq_true rfl) ?_
  intro p e s m args below meth c Q G0 ls g hx hb hml hown hts hK hZ hP hS hl hret
  have hown : s.vm.findClass R_ST = some m.cls := hown
  have hl : lv_has ls 4 [(0, .ref (x.2.1 5)), (1, .ref (x.2.1 j1))] := hl
  obtain ⟨H, eH⟩ : ∃ z, z = s.heap := ⟨_, rfl⟩
  obtain ⟨locs, eL⟩ : ∃ z, z = ([] : List Loc) := ⟨_, rfl⟩
  rw [← eH] at hP
  have hS : va_S (A0 x) s.heap H locs := by rw [eH, eL]; exact hS
  rw [← eL]
  have key : W p l e r_ST_hasNews s m args below meth c H locs 0 0 Q (F0 m 0 ls []) := by
    clear eH eL
    unfold s_ST_hasNews at h
    refine lv_iconst (v := (0 : Int32)) hx hb d_ST_hasNews_0 (by decide) ?_
    obtain ⟨v21, ev21, h⟩ := nx_e h
    refine tp_i ev21 ?_
    refine lv_istore_n hx hb d_ST_hasNews_1 rfl hl (by decide) rfl (fun ls hl => ?_)
    have hl : lv_has ls 4 [(2, .int v21), (0, .ref (x.2.1 5)), (1, .ref (x.2.1 j1))] := hl
    obtain ⟨P2, eP2⟩ : ∃ P : (Int32 × Mem) → Prop, P = (fun q => ∀ (H : Heap) (locs : List Loc) (ls : Array Slot), va_P x.1 vwCl (wld x (q.2)) H → va_S (A0 x) s.heap H locs → lv_has ls 4 [(0, .ref (x.2.1 5)), (1, .ref (x.2.1 j1)), (2, .int (q.1))] → W p l e r_ST_hasNews s m args below meth c H locs 0 0 Q (F0 m 2 ls [])) := ⟨_, rfl⟩
    have L2 : P2 (v21, M) := by
      refine lp_walk (G := G0) ?_ h g
      intro q res h g
      obtain ⟨v22, M23⟩ := q
      rw [eP2]
      intro H locs ls hP hS hl
      have hP : va_P x.1 vwCl (wld x M23) H := hP
      have hl : lv_has ls 4 [(0, .ref (x.2.1 5)), (1, .ref (x.2.1 j1)), (2, .int v22)] := hl
      have h : l_ST_hasNews_2 j1 v22 M23 = some res := h
      unfold l_ST_hasNews_2 at h
      refine lv_iload_n hx hb d_ST_hasNews_2 rfl (lv_at hl 2 rfl) ?_
      refine lv_aload_n hx hb d_ST_hasNews_3 rfl (lv_at hl 1 rfl) ?_
      refine gf_ST_34 hx hb hts hown hK hP k1 d_ST_hasNews_4 ?_
      refine lv_icmp_ge (tgt := 40) hx hb d_ST_hasNews_7 rfl (fun hc => ?_) (fun hc => ?_)
      · have h := if_p hc h
        refine lv_iconst (v := (0 : Int32)) hx hb d_ST_hasNews_40 (by decide) ?_
        obtain rfl := Option.some.inj h
        exact hret (by decide) d_ST_hasNews_41 g hP hS
      · have h := if_m hc h
        refine lv_aload_n hx hb d_ST_hasNews_10 rfl (lv_at hl 1 rfl) ?_
        refine gf_ST_39 hx hb hts hown hK hP k1 d_ST_hasNews_11 ?_
        refine lv_iload_n hx hb d_ST_hasNews_14 rfl (lv_at hl 2 rfl) ?_
        obtain ⟨b24, h⟩ := ck_e h
        refine m_ald hx hb hK hP (ar_RU_edges k1) b24 d_ST_hasNews_15 ?_
        obtain ⟨v25, ev25, h⟩ := nx_e h
        refine tp_i ev25 ?_
        refine lv_istore_n hx hb d_ST_hasNews_16 rfl hl (by decide) rfl (fun ls hl => ?_)
        have hl : lv_has ls 4 [(3, .int v25), (0, .ref (x.2.1 5)), (1, .ref (x.2.1 j1)), (2, .int v22)] := hl
        refine lv_aload_n hx hb d_ST_hasNews_17 rfl (lv_at hl 1 rfl) ?_
        refine gf_ST_19 hx hb hts hown hK hP d_ST_hasNews_18 ?_
        refine lv_iload_n hx hb d_ST_hasNews_21 rfl (lv_at hl 0 rfl) ?_
        obtain ⟨b26, h⟩ := ck_e h
        refine m_ald hx hb hK hP ar_ST_buckets b26 d_ST_hasNews_22 ?_
        refine lv_aload_n hx hb d_ST_hasNews_23 rfl (lv_at hl 2 rfl) ?_
        refine lv_iload_n hx hb d_ST_hasNews_24 rfl (lv_at hl 0 rfl) ?_
        obtain ⟨r29, M27, c28, h⟩ := bi_e h
        refine cl_ST_42 (rest := [.int (M23 7 v25.toNatClampNeg)]) (R := r_ST_hasNews) (c_RU_pairBit l x hJ j1 k1 v25 c28) k1 hx hb hml hts hown hK hZ hP hS hl.1 (Nat.le_of_ble_eq_true rfl) (Nat.le_of_ble_eq_true rfl) (Nat.le_of_ble_eq_true rfl) ⟨rfl, rfl, Nat.zero_le _, Nat.zero_le _⟩ d_ST_hasNews_25 (fun H locs hP hS => ?_)
        refine lv_iand hx hb d_ST_hasNews_28 ?_
        refine lv_if_ne (tgt := 34) hx hb d_ST_hasNews_29 rfl (fun hc => ?_) (fun hc => ?_)
        · have h := if_m hc h
          obtain ⟨v30, ev30, h⟩ := nx_e h
          refine lv_iinc (k := 3) hx hb d_ST_hasNews_34 hl rfl (iinc_v (k := (1 : Int32)) (by decide) ev30) (by decide) rfl (fun ls hl => ?_)
          have hl : lv_has ls 4 [(2, .int v30), (3, .int v25), (0, .ref (x.2.1 5)), (1, .ref (x.2.1 j1))] := hl
          refine lv_goto (tgt := 2) hx hb d_ST_hasNews_37 rfl ?_
          obtain rfl := Option.some.inj h
          have g : P2 (v30, M27) := g
          rw [eP2] at g
          exact g H locs ls hP hS (lv_sub hl [2, 3, 0] rfl)
        · have h := if_p hc h
          refine lv_iconst (v := (1 : Int32)) hx hb d_ST_hasNews_32 (by decide) ?_
          obtain rfl := Option.some.inj h
          exact hret (by decide) d_ST_hasNews_33 g hP hS
    rw [eP2] at L2
    exact L2 H locs ls hP hS (lv_sub hl [1, 2, 0] rfl)
  rw [eH] at key
  exact key
theorem d_ST_markSeen_0 : decode b_ST_markSeen 0 = .ok (.aload_n 0, 1) := by decide +kernel
theorem d_ST_markSeen_1 : decode b_ST_markSeen 1 = .ok (.getfield 19, 3) := by decide +kernel
theorem d_ST_markSeen_4 : decode b_ST_markSeen 4 = .ok (.iload_n 1, 1) := by decide +kernel
theorem d_ST_markSeen_5 : decode b_ST_markSeen 5 = .ok (.iaload, 1) := by decide +kernel
theorem d_ST_markSeen_6 : decode b_ST_markSeen 6 = .ok (.ifCond .ne 13, 3) := by decide +kernel
theorem d_ST_markSeen_9 : decode b_ST_markSeen 9 = .ok (.aload_n 0, 1) := by decide +kernel
theorem d_ST_markSeen_10 : decode b_ST_markSeen 10 = .ok (.dup, 1) := by decide +kernel
theorem d_ST_markSeen_11 : decode b_ST_markSeen 11 = .ok (.getfield 68, 3) := by decide +kernel
theorem d_ST_markSeen_14 : decode b_ST_markSeen 14 = .ok (.iconst 1, 1) := by decide +kernel
theorem d_ST_markSeen_15 : decode b_ST_markSeen 15 = .ok (.iadd, 1) := by decide +kernel
theorem d_ST_markSeen_16 : decode b_ST_markSeen 16 = .ok (.putfield 68, 3) := by decide +kernel
theorem d_ST_markSeen_19 : decode b_ST_markSeen 19 = .ok (.aload_n 0, 1) := by decide +kernel
theorem d_ST_markSeen_20 : decode b_ST_markSeen 20 = .ok (.getfield 19, 3) := by decide +kernel
theorem d_ST_markSeen_23 : decode b_ST_markSeen 23 = .ok (.iload_n 1, 1) := by decide +kernel
theorem d_ST_markSeen_24 : decode b_ST_markSeen 24 = .ok (.iaload, 1) := by decide +kernel
theorem d_ST_markSeen_25 : decode b_ST_markSeen 25 = .ok (.iload_n 2, 1) := by decide +kernel
theorem d_ST_markSeen_26 : decode b_ST_markSeen 26 = .ok (.iand, 1) := by decide +kernel
theorem d_ST_markSeen_27 : decode b_ST_markSeen 27 = .ok (.ifCond .ne 13, 3) := by decide +kernel
theorem d_ST_markSeen_30 : decode b_ST_markSeen 30 = .ok (.aload_n 0, 1) := by decide +kernel
theorem d_ST_markSeen_31 : decode b_ST_markSeen 31 = .ok (.dup, 1) := by decide +kernel
theorem d_ST_markSeen_32 : decode b_ST_markSeen 32 = .ok (.getfield 71, 3) := by decide +kernel
theorem d_ST_markSeen_35 : decode b_ST_markSeen 35 = .ok (.iconst 1, 1) := by decide +kernel
theorem d_ST_markSeen_36 : decode b_ST_markSeen 36 = .ok (.iadd, 1) := by decide +kernel
theorem d_ST_markSeen_37 : decode b_ST_markSeen 37 = .ok (.putfield 71, 3) := by decide +kernel
theorem d_ST_markSeen_40 : decode b_ST_markSeen 40 = .ok (.aload_n 0, 1) := by decide +kernel
theorem d_ST_markSeen_41 : decode b_ST_markSeen 41 = .ok (.getfield 19, 3) := by decide +kernel
theorem d_ST_markSeen_44 : decode b_ST_markSeen 44 = .ok (.iload_n 1, 1) := by decide +kernel
theorem d_ST_markSeen_45 : decode b_ST_markSeen 45 = .ok (.dup2, 1) := by decide +kernel
theorem d_ST_markSeen_46 : decode b_ST_markSeen 46 = .ok (.iaload, 1) := by decide +kernel
theorem d_ST_markSeen_47 : decode b_ST_markSeen 47 = .ok (.iload_n 2, 1) := by decide +kernel
theorem d_ST_markSeen_48 : decode b_ST_markSeen 48 = .ok (.ior, 1) := by decide +kernel
theorem d_ST_markSeen_49 : decode b_ST_markSeen 49 = .ok (.iastore, 1) := by decide +kernel
theorem d_ST_markSeen_50 : decode b_ST_markSeen 50 = .ok (.aload_n 0, 1) := by decide +kernel
theorem d_ST_markSeen_51 : decode b_ST_markSeen 51 = .ok (.getfield 23, 3) := by decide +kernel
theorem d_ST_markSeen_54 : decode b_ST_markSeen 54 = .ok (.iload_n 1, 1) := by decide +kernel
theorem d_ST_markSeen_55 : decode b_ST_markSeen 55 = .ok (.dup2, 1) := by decide +kernel
theorem d_ST_markSeen_56 : decode b_ST_markSeen 56 = .ok (.iaload, 1) := by decide +kernel
theorem d_ST_markSeen_57 : decode b_ST_markSeen 57 = .ok (.iconst 1, 1) := by decide +kernel
theorem d_ST_markSeen_58 : decode b_ST_markSeen 58 = .ok (.aload_n 0, 1) := by decide +kernel
theorem d_ST_markSeen_59 : decode b_ST_markSeen 59 = .ok (.getfield 27, 3) := by decide +kernel
theorem d_ST_markSeen_62 : decode b_ST_markSeen 62 = .ok (.ishl, 1) := by decide +kernel
theorem d_ST_markSeen_63 : decode b_ST_markSeen 63 = .ok (.ior, 1) := by decide +kernel
theorem d_ST_markSeen_64 : decode b_ST_markSeen 64 = .ok (.iastore, 1) := by decide +kernel
theorem d_ST_markSeen_65 : decode b_ST_markSeen 65 = .ok (.return_, 1) := by decide +kernel
noncomputable def j_ST_markSeen_40 (a21 : Int32) (a22 : Int32) (M23 : Mem) : Option (Mem) :=
  ck a21 576 (ck a21 576 (nx (st M23 7 a21.toNatClampNeg ((M23 7 a21.toNatClampNeg) ||| a22)) (fun M26 => ck a21 576 (ck a21 576 (nx (st M26 8 a21.toNatClampNeg ((M26 8 a21.toNatClampNeg) ||| ((1 : Int32) <<< ((M26 5 3) &&& 31)))) (fun M29 => some M29))))))
noncomputable def j_ST_markSeen_19 (a30 : Int32) (a31 : Int32) (M32 : Mem) : Option (Mem) :=
  ck a30 576 (if ((M32 7 a30.toNatClampNeg) &&& a31) = 0 then (nx (st M32 5 6 ((M32 5 6) + (1 : Int32))) (fun M34 => j_ST_markSeen_40 a30 a31 M34)) else (j_ST_markSeen_40 a30 a31 M32))
noncomputable def s_ST_markSeen (a1 : Int32) (a2 : Int32) (M : Mem) : Option (Mem) :=
  ck a1 576 (if (M 7 a1.toNatClampNeg) = 0 then (nx (st M 5 5 ((M 5 5) + (1 : Int32))) (fun M36 => j_ST_markSeen_19 a1 a2 M36)) else (j_ST_markSeen_19 a1 a2 M))
set_option maxHeartbeats 4000000 in
set_option maxRecDepth 100000 in
theorem c_ST_markSeen (l : Launch) (x : Cx) (hJ : Inj x) (a1 : Int32) (a2 : Int32) {M : Mem} {out : Mem} (h : s_ST_markSeen a1 a2 M = some out) : Cv l x y_ST_markSeen (Cond.code y_ST_markSeen b_ST_markSeen 3 none :: tb) r_ST_markSeen [.ref (x.2.1 5), .int a1, .int a2] M out := by
  refine ofCv (cc := b_ST_markSeen) (maxL := 3) (by decide) rfl (rfl) (Nat.le_of_ble_eq_true rfl) ?_
  intro p e s m args below meth c Q G0 ls g hx hb hml hown hts hK hZ hP hS hl hret
  have hown : s.vm.findClass R_ST = some m.cls := hown
  have hl : lv_has ls 3 [(0, .ref (x.2.1 5)), (1, .int a1), (2, .int a2)] := hl
  obtain ⟨H, eH⟩ : ∃ z, z = s.heap := ⟨_, rfl⟩
  obtain ⟨locs, eL⟩ : ∃ z, z = ([] : List Loc) := ⟨_, rfl⟩
  rw [← eH] at hP
  have hS : va_S (A0 x) s.heap H locs := by rw [eH, eL]; exact hS
  rw [← eL]
  have key : W p l e r_ST_markSeen s m args below meth c H locs 0 0 Q (F0 m 0 ls []) := by
    clear eH eL
    unfold s_ST_markSeen at h
    have J40 : ∀ (a21 : Int32) (a22 : Int32) (M23 : Mem)  (res : Mem) (h : j_ST_markSeen_40 a21 a22 M23 = some res) (g : G0 res) (H : Heap) (locs : List Loc) (ls : Array Slot) (hP : va_P x.1 vwCl (wld x M23) H) (hS : va_S (A0 x) s.heap H locs) (hl : lv_has ls 3 [(0, .ref (x.2.1 5)), (1, .int a21), (2, .int a22)]), W p l e r_ST_markSeen s m args below meth c H locs 0 0 Q (F0 m 40 ls []) := by
      intro a21 a22 M23 res h g H locs ls hP hS hl
      unfold j_ST_markSeen_40 at h
      refine lv_aload_n hx hb d_ST_markSeen_40 rfl (lv_at hl 0 rfl) ?_
      refine gf_ST_19 hx hb hts hown hK hP d_ST_markSeen_41 ?_
      refine lv_iload_n hx hb d_ST_markSeen_44 rfl (lv_at hl 1 rfl) ?_
      refine lv_dup2_11 hx hb d_ST_markSeen_45 rfl rfl ?_
      obtain ⟨b24, h⟩ := ck_e h
      refine m_ald hx hb hK hP ar_ST_buckets b24 d_ST_markSeen_46 ?_
      refine lv_iload_n hx hb d_ST_markSeen_47 rfl (lv_at hl 2 rfl) ?_
      refine lv_ior hx hb d_ST_markSeen_48 ?_
      obtain ⟨b25, h⟩ := ck_e h
      obtain ⟨M26, eM26, h⟩ := nx_e h
      refine m_ast hx hb hK hJ hP hS ar_ST_buckets b25 eM26 d_ST_markSeen_49 (fun H locs hP hS => ?_)
      refine lv_aload_n hx hb d_ST_markSeen_50 rfl (lv_at hl 0 rfl) ?_
      refine gf_ST_23 hx hb hts hown hK hP d_ST_markSeen_51 ?_
      refine lv_iload_n hx hb d_ST_markSeen_54 rfl (lv_at hl 1 rfl) ?_
      refine lv_dup2_11 hx hb d_ST_markSeen_55 rfl rfl ?_
      obtain ⟨b27, h⟩ := ck_e h
      refine m_ald hx hb hK hP ar_ST_goers b27 d_ST_markSeen_56 ?_
      refine lv_iconst (v := (1 : Int32)) hx hb d_ST_markSeen_57 (by decide) ?_
      refine lv_aload_n hx hb d_ST_markSeen_58 rfl (lv_at hl 0 rfl) ?_
      refine gf_ST_27 hx hb hts hown hK hP d_ST_markSeen_59 ?_
      refine lv_ishl hx hb d_ST_markSeen_62 ?_
      refine lv_ior hx hb d_ST_markSeen_63 ?_
      obtain ⟨b28, h⟩ := ck_e h
      obtain ⟨M29, eM29, h⟩ := nx_e h
      refine m_ast hx hb hK hJ hP hS ar_ST_goers b28 eM29 d_ST_markSeen_64 (fun H locs hP hS => ?_)
      obtain rfl := Option.some.inj h
      exact hret d_ST_markSeen_65 g hP hS
    have J19 : ∀ (a30 : Int32) (a31 : Int32) (M32 : Mem)  (res : Mem) (h : j_ST_markSeen_19 a30 a31 M32 = some res) (g : G0 res) (H : Heap) (locs : List Loc) (ls : Array Slot) (hP : va_P x.1 vwCl (wld x M32) H) (hS : va_S (A0 x) s.heap H locs) (hl : lv_has ls 3 [(0, .ref (x.2.1 5)), (1, .int a30), (2, .int a31)]), W p l e r_ST_markSeen s m args below meth c H locs 0 0 Q (F0 m 19 ls []) := by
      intro a30 a31 M32 res h g H locs ls hP hS hl
      unfold j_ST_markSeen_19 at h
      refine lv_aload_n hx hb d_ST_markSeen_19 rfl (lv_at hl 0 rfl) ?_
      refine gf_ST_19 hx hb hts hown hK hP d_ST_markSeen_20 ?_
      refine lv_iload_n hx hb d_ST_markSeen_23 rfl (lv_at hl 1 rfl) ?_
      obtain ⟨b33, h⟩ := ck_e h
      refine m_ald hx hb hK hP ar_ST_buckets b33 d_ST_markSeen_24 ?_
      refine lv_iload_n hx hb d_ST_markSeen_25 rfl (lv_at hl 2 rfl) ?_
      refine lv_iand hx hb d_ST_markSeen_26 ?_
      refine lv_if_ne (tgt := 40) hx hb d_ST_markSeen_27 rfl (fun hc => ?_) (fun hc => ?_)
      · have h := if_m hc h
        exact J40 a30 a31 M32 _ h g H locs ls hP hS (lv_sub hl [0, 1, 2] rfl)
      · have h := if_p hc h
        refine lv_aload_n hx hb d_ST_markSeen_30 rfl (lv_at hl 0 rfl) ?_
        refine lv_dup hx hb d_ST_markSeen_31 rfl ?_
        refine gf_ST_71 hx hb hts hown hK hP d_ST_markSeen_32 ?_
        refine lv_iconst (v := (1 : Int32)) hx hb d_ST_markSeen_35 (by decide) ?_
        refine lv_iadd hx hb d_ST_markSeen_36 ?_
        obtain ⟨M34, eM34, h⟩ := nx_e h
        refine pf_ST_71 hx hb hts hown hK hJ hP hS eM34 d_ST_markSeen_37 (fun H locs hP hS => ?_)
        exact J40 a30 a31 M34 _ h g H locs ls hP hS (lv_sub hl [0, 1, 2] rfl)
    refine lv_aload_n hx hb d_ST_markSeen_0 rfl (lv_at hl 0 rfl) ?_
    refine gf_ST_19 hx hb hts hown hK hP d_ST_markSeen_1 ?_
    refine lv_iload_n hx hb d_ST_markSeen_4 rfl (lv_at hl 1 rfl) ?_
    obtain ⟨b35, h⟩ := ck_e h
    refine m_ald hx hb hK hP ar_ST_buckets b35 d_ST_markSeen_5 ?_
    refine lv_if_ne (tgt := 19) hx hb d_ST_markSeen_6 rfl (fun hc => ?_) (fun hc => ?_)
    · have h := if_m hc h
      exact J19 a1 a2 M _ h g H locs ls hP hS (lv_sub hl [0, 1, 2] rfl)
    · have h := if_p hc h
      refine lv_aload_n hx hb d_ST_markSeen_9 rfl (lv_at hl 0 rfl) ?_
      refine lv_dup hx hb d_ST_markSeen_10 rfl ?_
      refine gf_ST_68 hx hb hts hown hK hP d_ST_markSeen_11 ?_
      refine lv_iconst (v := (1 : Int32)) hx hb d_ST_markSeen_14 (by decide) ?_
      refine lv_iadd hx hb d_ST_markSeen_15 ?_
      obtain ⟨M36, eM36, h⟩ := nx_e h
      refine pf_ST_68 hx hb hts hown hK hJ hP hS eM36 d_ST_markSeen_16 (fun H locs hP hS => ?_)
      exact J19 a1 a2 M36 _ h g H locs ls hP hS (lv_sub hl [0, 1, 2] rfl)
  rw [eH] at key
  exact key
theorem d_ST_top_0 : decode b_ST_top 0 = .ok (.iconst (-1), 1) := by decide +kernel
theorem d_ST_top_1 : decode b_ST_top 1 = .ok (.istore_n 2, 1) := by decide +kernel
theorem d_ST_top_2 : decode b_ST_top 2 = .ok (.iconst 0, 1) := by decide +kernel
theorem d_ST_top_3 : decode b_ST_top 3 = .ok (.istore_n 3, 1) := by decide +kernel
theorem d_ST_top_4 : decode b_ST_top 4 = .ok (.iload_n 3, 1) := by decide +kernel
theorem d_ST_top_5 : decode b_ST_top 5 = .ok (.aload_n 0, 1) := by decide +kernel
theorem d_ST_top_6 : decode b_ST_top 6 = .ok (.getfield 27, 3) := by decide +kernel
theorem d_ST_top_9 : decode b_ST_top 9 = .ok (.if_icmp .ge 58, 3) := by decide +kernel
theorem d_ST_top_12 : decode b_ST_top 12 = .ok (.iload_n 1, 1) := by decide +kernel
theorem d_ST_top_13 : decode b_ST_top 13 = .ok (.iload_n 3, 1) := by decide +kernel
theorem d_ST_top_14 : decode b_ST_top 14 = .ok (.ishr, 1) := by decide +kernel
theorem d_ST_top_15 : decode b_ST_top 15 = .ok (.iconst 1, 1) := by decide +kernel
theorem d_ST_top_16 : decode b_ST_top 16 = .ok (.iand, 1) := by decide +kernel
theorem d_ST_top_17 : decode b_ST_top 17 = .ok (.iconst 1, 1) := by decide +kernel
theorem d_ST_top_18 : decode b_ST_top 18 = .ok (.if_icmp .ne 7, 3) := by decide +kernel
theorem d_ST_top_21 : decode b_ST_top 21 = .ok (.iconst 1, 1) := by decide +kernel
theorem d_ST_top_22 : decode b_ST_top 22 = .ok (.goto 4, 3) := by decide +kernel
theorem d_ST_top_25 : decode b_ST_top 25 = .ok (.iconst 0, 1) := by decide +kernel
theorem d_ST_top_26 : decode b_ST_top 26 = .ok (.istore 4, 2) := by decide +kernel
theorem d_ST_top_28 : decode b_ST_top 28 = .ok (.iload 4, 2) := by decide +kernel
theorem d_ST_top_30 : decode b_ST_top 30 = .ok (.ifCond .eq 31, 3) := by decide +kernel
theorem d_ST_top_33 : decode b_ST_top 33 = .ok (.iload_n 2, 1) := by decide +kernel
theorem d_ST_top_34 : decode b_ST_top 34 = .ok (.iconst (-1), 1) := by decide +kernel
theorem d_ST_top_35 : decode b_ST_top 35 = .ok (.if_icmp .eq 24, 3) := by decide +kernel
theorem d_ST_top_38 : decode b_ST_top 38 = .ok (.aload_n 0, 1) := by decide +kernel
theorem d_ST_top_39 : decode b_ST_top 39 = .ok (.getfield 13, 3) := by decide +kernel
theorem d_ST_top_42 : decode b_ST_top 42 = .ok (.iload_n 3, 1) := by decide +kernel
theorem d_ST_top_43 : decode b_ST_top 43 = .ok (.aaload, 1) := by decide +kernel
theorem d_ST_top_44 : decode b_ST_top 44 = .ok (.invokevirtual 77, 3) := by decide +kernel
theorem d_ST_top_47 : decode b_ST_top 47 = .ok (.aload_n 0, 1) := by decide +kernel
theorem d_ST_top_48 : decode b_ST_top 48 = .ok (.getfield 13, 3) := by decide +kernel
theorem d_ST_top_51 : decode b_ST_top 51 = .ok (.iload_n 2, 1) := by decide +kernel
theorem d_ST_top_52 : decode b_ST_top 52 = .ok (.aaload, 1) := by decide +kernel
theorem d_ST_top_53 : decode b_ST_top 53 = .ok (.invokevirtual 77, 3) := by decide +kernel
theorem d_ST_top_56 : decode b_ST_top 56 = .ok (.if_icmp .ge 5, 3) := by decide +kernel
theorem d_ST_top_59 : decode b_ST_top 59 = .ok (.iload_n 3, 1) := by decide +kernel
theorem d_ST_top_60 : decode b_ST_top 60 = .ok (.istore_n 2, 1) := by decide +kernel
theorem d_ST_top_61 : decode b_ST_top 61 = .ok (.iinc 3 1, 3) := by decide +kernel
theorem d_ST_top_64 : decode b_ST_top 64 = .ok (.goto (-60), 3) := by decide +kernel
theorem d_ST_top_67 : decode b_ST_top 67 = .ok (.iload_n 2, 1) := by decide +kernel
theorem d_ST_top_68 : decode b_ST_top 68 = .ok (.ireturn, 1) := by decide +kernel
noncomputable def j_ST_top_61 (a1 : Int32) (a26 : Int32) (a27 : Int32) (M28 : Mem) : Option ((Int32 × Int32 × Mem) ⊕ (Int32 × Mem)) :=
  nx (a27 + (1 : Int32)) (fun v29 => some (.inl (a26, v29, M28)))
noncomputable def j_ST_top_59 (a1 : Int32) (a30 : Int32) (M31 : Mem) : Option ((Int32 × Int32 × Mem) ⊕ (Int32 × Mem)) :=
  j_ST_top_61 a1 a30 a30 M31
noncomputable def j_ST_top_26 (a1 : Int32) (a32 : Int32) (a33 : Int32) (a34 : Int32) (M35 : Mem) : Option ((Int32 × Int32 × Mem) ⊕ (Int32 × Mem)) :=
  if a34 = 0 then (j_ST_top_61 a1 a32 a33 M35) else (if a32 = (-1 : Int32) then (j_ST_top_59 a1 a33 M35) else (ck a33 16 (bi (s_EN_cost (122 + a33.toNatClampNeg) M35) (fun r39 M37 => ck a32 16 (bi (s_EN_cost (122 + a32.toNatClampNeg) M37) (fun r43 M41 => if r43 ≤ r39 then (j_ST_top_61 a1 a32 a33 M41) else (j_ST_top_59 a1 a33 M41)))))))
noncomputable def l_ST_top_4 (a1 : Int32) (v23 : Int32) (v24 : Int32) (M25 : Mem) : Option ((Int32 × Int32 × Mem) ⊕ (Int32 × Mem)) :=
  if (M25 5 3) ≤ v24 then (some (.inr (v23, M25))) else (if ((a1 >>> (v24 &&& 31)) &&& (1 : Int32)) = (1 : Int32) then (j_ST_top_26 a1 v23 v24 (1 : Int32) M25) else (j_ST_top_26 a1 v23 v24 (0 : Int32) M25))
noncomputable def s_ST_top (a1 : Int32) (M : Mem) : Option (Int32 × Mem) :=
  nx ((-1 : Int32)) (fun v21 => nx ((0 : Int32)) (fun v22 => lp (fun q : Int32 × Int32 × Mem => l_ST_top_4 a1 q.1 q.2.1 q.2.2) (v21, v22, M)))
set_option maxHeartbeats 4000000 in
set_option maxRecDepth 100000 in
theorem c_ST_top (l : Launch) (x : Cx) (hJ : Inj x) (a1 : Int32) {M : Mem} {out : Int32 × Mem} (h : s_ST_top a1 M = some out) : Ci l x y_ST_top (Cond.code y_ST_top b_ST_top 5 (some .int) :: tb) r_ST_top [.ref (x.2.1 5), .int a1] M out := by
  refine ofCi (cc := b_ST_top) (maxL := 5) (by decide) rfl (rfl) (Nat.le_of_ble_eq_true rfl) ?_
  intro p e s m args below meth c Q G0 ls g hx hb hml hown hts hK hZ hP hS hl hret
  have hown : s.vm.findClass R_ST = some m.cls := hown
  have hl : lv_has ls 5 [(0, .ref (x.2.1 5)), (1, .int a1)] := hl
  obtain ⟨H, eH⟩ : ∃ z, z = s.heap := ⟨_, rfl⟩
  obtain ⟨locs, eL⟩ : ∃ z, z = ([] : List Loc) := ⟨_, rfl⟩
  rw [← eH] at hP
  have hS : va_S (A0 x) s.heap H locs := by rw [eH, eL]; exact hS
  rw [← eL]
  have key : W p l e r_ST_top s m args below meth c H locs 0 0 Q (F0 m 0 ls []) := by
    clear eH eL
    unfold s_ST_top at h
    refine lv_iconst (v := (-1 : Int32)) hx hb d_ST_top_0 (by decide) ?_
    obtain ⟨v21, ev21, h⟩ := nx_e h
    refine tp_i ev21 ?_
    refine lv_istore_n hx hb d_ST_top_1 rfl hl (by decide) rfl (fun ls hl => ?_)
    have hl : lv_has ls 5 [(2, .int v21), (0, .ref (x.2.1 5)), (1, .int a1)] := hl
    refine lv_iconst (v := (0 : Int32)) hx hb d_ST_top_2 (by decide) ?_
    obtain ⟨v22, ev22, h⟩ := nx_e h
    refine tp_i ev22 ?_
    refine lv_istore_n hx hb d_ST_top_3 rfl hl (by decide) rfl (fun ls hl => ?_)
    have hl : lv_has ls 5 [(3, .int v22), (2, .int v21), (0, .ref (x.2.1 5)), (1, .int a1)] := hl
    obtain ⟨P4, eP4⟩ : ∃ P : (Int32 × Int32 × Mem) → Prop, P = (fun q => ∀ (H : Heap) (locs : List Loc) (ls : Array Slot), va_P x.1 vwCl (wld x (q.2.2)) H → va_S (A0 x) s.heap H locs → lv_has ls 5 [(0, .ref (x.2.1 5)), (1, .int a1), (2, .int (q.1)), (3, .int (q.2.1))] → W p l e r_ST_top s m args below meth c H locs 0 0 Q (F0 m 4 ls [])) := ⟨_, rfl⟩
    have L4 : P4 (v21, v22, M) := by
      refine lp_walk (G := G0) ?_ h g
      intro q res h g
      obtain ⟨v23, v24, M25⟩ := q
      rw [eP4]
      intro H locs ls hP hS hl
      have hP : va_P x.1 vwCl (wld x M25) H := hP
      have hl : lv_has ls 5 [(0, .ref (x.2.1 5)), (1, .int a1), (2, .int v23), (3, .int v24)] := hl
      have h : l_ST_top_4 a1 v23 v24 M25 = some res := h
      unfold l_ST_top_4 at h
      have J61 : ∀ (a26 : Int32) (a27 : Int32) (M28 : Mem)  (res : (Int32 × Int32 × Mem) ⊕ (Int32 × Mem)) (h : j_ST_top_61 a1 a26 a27 M28 = some res) (g : (lpG P4 G0) res) (H : Heap) (locs : List Loc) (ls : Array Slot) (hP : va_P x.1 vwCl (wld x M28) H) (hS : va_S (A0 x) s.heap H locs) (hl : lv_has ls 5 [(0, .ref (x.2.1 5)), (1, .int a1), (2, .int a26), (3, .int a27)]), W p l e r_ST_top s m args below meth c H locs 0 0 Q (F0 m 61 ls []) := by
        intro a26 a27 M28 res h g H locs ls hP hS hl
        unfold j_ST_top_61 at h
        obtain ⟨v29, ev29, h⟩ := nx_e h
        refine lv_iinc (k := 3) hx hb d_ST_top_61 hl rfl (iinc_v (k := (1 : Int32)) (by decide) ev29) (by decide) rfl (fun ls hl => ?_)
        have hl : lv_has ls 5 [(3, .int v29), (0, .ref (x.2.1 5)), (1, .int a1), (2, .int a26)] := hl
        refine lv_goto (tgt := 4) hx hb d_ST_top_64 rfl ?_
        obtain rfl := Option.some.inj h
        have g : P4 (a26, v29, M28) := g
        rw [eP4] at g
        exact g H locs ls hP hS (lv_sub hl [1, 2, 3, 0] rfl)
      have J59 : ∀ (a30 : Int32) (M31 : Mem)  (res : (Int32 × Int32 × Mem) ⊕ (Int32 × Mem)) (h : j_ST_top_59 a1 a30 M31 = some res) (g : (lpG P4 G0) res) (H : Heap) (locs : List Loc) (ls : Array Slot) (hP : va_P x.1 vwCl (wld x M31) H) (hS : va_S (A0 x) s.heap H locs) (hl : lv_has ls 5 [(0, .ref (x.2.1 5)), (1, .int a1), (3, .int a30)]), W p l e r_ST_top s m args below meth c H locs 0 0 Q (F0 m 59 ls []) := by
        intro a30 M31 res h g H locs ls hP hS hl
        unfold j_ST_top_59 at h
        refine lv_iload_n hx hb d_ST_top_59 rfl (lv_at hl 2 rfl) ?_
        refine lv_istore_n hx hb d_ST_top_60 rfl hl (by decide) rfl (fun ls hl => ?_)
        have hl : lv_has ls 5 [(2, .int a30), (0, .ref (x.2.1 5)), (1, .int a1), (3, .int a30)] := hl
        exact J61 a30 a30 M31 _ h g H locs ls hP hS (lv_sub hl [1, 2, 0, 3] rfl)
      have J26 : ∀ (a32 : Int32) (a33 : Int32) (a34 : Int32) (M35 : Mem)  (res : (Int32 × Int32 × Mem) ⊕ (Int32 × Mem)) (h : j_ST_top_26 a1 a32 a33 a34 M35 = some res) (g : (lpG P4 G0) res) (H : Heap) (locs : List Loc) (ls : Array Slot) (hP : va_P x.1 vwCl (wld x M35) H) (hS : va_S (A0 x) s.heap H locs) (hl : lv_has ls 5 [(0, .ref (x.2.1 5)), (1, .int a1), (2, .int a32), (3, .int a33)]), W p l e r_ST_top s m args below meth c H locs 0 0 Q (F0 m 26 ls [.int a34]) := by
        intro a32 a33 a34 M35 res h g H locs ls hP hS hl
        unfold j_ST_top_26 at h
        refine lv_istore hx hb d_ST_top_26 hl (by decide) rfl (fun ls hl => ?_)
        have hl : lv_has ls 5 [(4, .int a34), (0, .ref (x.2.1 5)), (1, .int a1), (2, .int a32), (3, .int a33)] := hl
        refine lv_iload hx hb d_ST_top_28 (lv_at hl 0 rfl) ?_
        refine lv_if_eq (tgt := 61) hx hb d_ST_top_30 rfl (fun hc => ?_) (fun hc => ?_)
        · have h := if_p hc h
          exact J61 a32 a33 M35 _ h g H locs ls hP hS (lv_sub hl [1, 2, 3, 4] rfl)
        · have h := if_m hc h
          refine lv_iload_n hx hb d_ST_top_33 rfl (lv_at hl 3 rfl) ?_
          refine lv_iconst (v := (-1 : Int32)) hx hb d_ST_top_34 (by decide) ?_
          refine lv_icmp_eq (tgt := 59) hx hb d_ST_top_35 rfl (fun hc => ?_) (fun hc => ?_)
          · have h := if_p hc h
            exact J59 a33 M35 _ h g H locs ls hP hS (lv_sub hl [1, 2, 4] rfl)
          · have h := if_m hc h
            refine lv_aload_n hx hb d_ST_top_38 rfl (lv_at hl 1 rfl) ?_
            refine gf_ST_13 hx hb hts hown hK hP d_ST_top_39 ?_
            refine lv_iload_n hx hb d_ST_top_42 rfl (lv_at hl 4 rfl) ?_
            obtain ⟨b36, h⟩ := ck_e h
            refine m_aaE hx hb hK hP b36 d_ST_top_43 ?_
            obtain ⟨r39, M37, c38, h⟩ := bi_e h
            refine cl_ST_77 (rest := []) (R := r_ST_top) (c_EN_cost l x hJ (122 + a33.toNatClampNeg) (kd_en_at b36) c38) (kd_en_at b36) hx hb hml hts hown hK hZ hP hS hl.1 (Nat.le_of_ble_eq_true rfl) (Nat.le_of_ble_eq_true rfl) (Nat.le_of_ble_eq_true rfl) ⟨rfl, rfl, Nat.zero_le _, Nat.zero_le _⟩ d_ST_top_44 (fun H locs hP hS => ?_)
            refine lv_aload_n hx hb d_ST_top_47 rfl (lv_at hl 1 rfl) ?_
            refine gf_ST_13 hx hb hts hown hK hP d_ST_top_48 ?_
            refine lv_iload_n hx hb d_ST_top_51 rfl (lv_at hl 3 rfl) ?_
            obtain ⟨b40, h⟩ := ck_e h
            refine m_aaE hx hb hK hP b40 d_ST_top_52 ?_
            obtain ⟨r43, M41, c42, h⟩ := bi_e h
            refine cl_ST_77 (rest := [.int r39]) (R := r_ST_top) (c_EN_cost l x hJ (122 + a32.toNatClampNeg) (kd_en_at b40) c42) (kd_en_at b40) hx hb hml hts hown hK hZ hP hS hl.1 (Nat.le_of_ble_eq_true rfl) (Nat.le_of_ble_eq_true rfl) (Nat.le_of_ble_eq_true rfl) ⟨rfl, rfl, Nat.zero_le _, Nat.zero_le _⟩ d_ST_top_53 (fun H locs hP hS => ?_)
            refine lv_icmp_ge (tgt := 61) hx hb d_ST_top_56 rfl (fun hc => ?_) (fun hc => ?_)
            · have h := if_p hc h
              exact J61 a32 a33 M41 _ h g H locs ls hP hS (lv_sub hl [1, 2, 3, 4] rfl)
            · have h := if_m hc h
              exact J59 a33 M41 _ h g H locs ls hP hS (lv_sub hl [1, 2, 4] rfl)
      refine lv_iload_n hx hb d_ST_top_4 rfl (lv_at hl 3 rfl) ?_
      refine lv_aload_n hx hb d_ST_top_5 rfl (lv_at hl 0 rfl) ?_
      refine gf_ST_27 hx hb hts hown hK hP d_ST_top_6 ?_
      refine lv_icmp_ge (tgt := 67) hx hb d_ST_top_9 rfl (fun hc => ?_) (fun hc => ?_)
      · have h := if_p hc h
        refine lv_iload_n hx hb d_ST_top_67 rfl (lv_at hl 2 rfl) ?_
        obtain rfl := Option.some.inj h
        exact hret d_ST_top_68 g hP hS
      · have h := if_m hc h
        refine lv_iload_n hx hb d_ST_top_12 rfl (lv_at hl 1 rfl) ?_
        refine lv_iload_n hx hb d_ST_top_13 rfl (lv_at hl 3 rfl) ?_
        refine lv_ishr hx hb d_ST_top_14 ?_
        refine lv_iconst (v := (1 : Int32)) hx hb d_ST_top_15 (by decide) ?_
        refine lv_iand hx hb d_ST_top_16 ?_
        refine lv_iconst (v := (1 : Int32)) hx hb d_ST_top_17 (by decide) ?_
        refine lv_icmp_ne (tgt := 25) hx hb d_ST_top_18 rfl (fun hc => ?_) (fun hc => ?_)
        · have h := if_m hc h
          refine lv_iconst (v := (0 : Int32)) hx hb d_ST_top_25 (by decide) ?_
          exact J26 v23 v24 (0 : Int32) M25 _ h g H locs ls hP hS (lv_sub hl [0, 1, 2, 3] rfl)
        · have h := if_p hc h
          refine lv_iconst (v := (1 : Int32)) hx hb d_ST_top_21 (by decide) ?_
          refine lv_goto (tgt := 26) hx hb d_ST_top_22 rfl ?_
          exact J26 v23 v24 (1 : Int32) M25 _ h g H locs ls hP hS (lv_sub hl [0, 1, 2, 3] rfl)
    rw [eP4] at L4
    exact L4 H locs ls hP hS (lv_sub hl [2, 3, 1, 0] rfl)
  rw [eH] at key
  exact key
theorem d_ST_chooseFavoured_0 : decode b_ST_chooseFavoured 0 = .ok (.aload_n 0, 1) := by decide +kernel
theorem d_ST_chooseFavoured_1 : decode b_ST_chooseFavoured 1 = .ok (.iconst 0, 1) := by decide +kernel
theorem d_ST_chooseFavoured_2 : decode b_ST_chooseFavoured 2 = .ok (.putfield 31, 3) := by decide +kernel
theorem d_ST_chooseFavoured_5 : decode b_ST_chooseFavoured 5 = .ok (.iconst 0, 1) := by decide +kernel
theorem d_ST_chooseFavoured_6 : decode b_ST_chooseFavoured 6 = .ok (.istore_n 1, 1) := by decide +kernel
theorem d_ST_chooseFavoured_7 : decode b_ST_chooseFavoured 7 = .ok (.iload_n 1, 1) := by decide +kernel
theorem d_ST_chooseFavoured_8 : decode b_ST_chooseFavoured 8 = .ok (.sipush 576, 3) := by decide +kernel
theorem d_ST_chooseFavoured_11 : decode b_ST_chooseFavoured 11 = .ok (.if_icmp .ge 53, 3) := by decide +kernel
theorem d_ST_chooseFavoured_14 : decode b_ST_chooseFavoured 14 = .ok (.aload_n 0, 1) := by decide +kernel
theorem d_ST_chooseFavoured_15 : decode b_ST_chooseFavoured 15 = .ok (.getfield 23, 3) := by decide +kernel
theorem d_ST_chooseFavoured_18 : decode b_ST_chooseFavoured 18 = .ok (.iload_n 1, 1) := by decide +kernel
theorem d_ST_chooseFavoured_19 : decode b_ST_chooseFavoured 19 = .ok (.iaload, 1) := by decide +kernel
theorem d_ST_chooseFavoured_20 : decode b_ST_chooseFavoured 20 = .ok (.ifCond .eq 38, 3) := by decide +kernel
theorem d_ST_chooseFavoured_23 : decode b_ST_chooseFavoured 23 = .ok (.aload_n 0, 1) := by decide +kernel
theorem d_ST_chooseFavoured_24 : decode b_ST_chooseFavoured 24 = .ok (.getfield 23, 3) := by decide +kernel
theorem d_ST_chooseFavoured_27 : decode b_ST_chooseFavoured 27 = .ok (.iload_n 1, 1) := by decide +kernel
theorem d_ST_chooseFavoured_28 : decode b_ST_chooseFavoured 28 = .ok (.iaload, 1) := by decide +kernel
theorem d_ST_chooseFavoured_29 : decode b_ST_chooseFavoured 29 = .ok (.aload_n 0, 1) := by decide +kernel
theorem d_ST_chooseFavoured_30 : decode b_ST_chooseFavoured 30 = .ok (.getfield 31, 3) := by decide +kernel
theorem d_ST_chooseFavoured_33 : decode b_ST_chooseFavoured 33 = .ok (.iand, 1) := by decide +kernel
theorem d_ST_chooseFavoured_34 : decode b_ST_chooseFavoured 34 = .ok (.ifCond .ne 24, 3) := by decide +kernel
theorem d_ST_chooseFavoured_37 : decode b_ST_chooseFavoured 37 = .ok (.aload_n 0, 1) := by decide +kernel
theorem d_ST_chooseFavoured_38 : decode b_ST_chooseFavoured 38 = .ok (.dup, 1) := by decide +kernel
theorem d_ST_chooseFavoured_39 : decode b_ST_chooseFavoured 39 = .ok (.getfield 31, 3) := by decide +kernel
theorem d_ST_chooseFavoured_42 : decode b_ST_chooseFavoured 42 = .ok (.iconst 1, 1) := by decide +kernel
theorem d_ST_chooseFavoured_43 : decode b_ST_chooseFavoured 43 = .ok (.aload_n 0, 1) := by decide +kernel
theorem d_ST_chooseFavoured_44 : decode b_ST_chooseFavoured 44 = .ok (.aload_n 0, 1) := by decide +kernel
theorem d_ST_chooseFavoured_45 : decode b_ST_chooseFavoured 45 = .ok (.getfield 23, 3) := by decide +kernel
theorem d_ST_chooseFavoured_48 : decode b_ST_chooseFavoured 48 = .ok (.iload_n 1, 1) := by decide +kernel
theorem d_ST_chooseFavoured_49 : decode b_ST_chooseFavoured 49 = .ok (.iaload, 1) := by decide +kernel
theorem d_ST_chooseFavoured_50 : decode b_ST_chooseFavoured 50 = .ok (.invokevirtual 74, 3) := by decide +kernel
theorem d_ST_chooseFavoured_53 : decode b_ST_chooseFavoured 53 = .ok (.ishl, 1) := by decide +kernel
theorem d_ST_chooseFavoured_54 : decode b_ST_chooseFavoured 54 = .ok (.ior, 1) := by decide +kernel
theorem d_ST_chooseFavoured_55 : decode b_ST_chooseFavoured 55 = .ok (.putfield 31, 3) := by decide +kernel
theorem d_ST_chooseFavoured_58 : decode b_ST_chooseFavoured 58 = .ok (.iinc 1 1, 3) := by decide +kernel
theorem d_ST_chooseFavoured_61 : decode b_ST_chooseFavoured 61 = .ok (.goto (-54), 3) := by decide +kernel
theorem d_ST_chooseFavoured_64 : decode b_ST_chooseFavoured 64 = .ok (.return_, 1) := by decide +kernel
noncomputable def j_ST_chooseFavoured_58 (a25 : Int32) (M26 : Mem) : Option ((Int32 × Mem) ⊕ Mem) :=
  nx (a25 + (1 : Int32)) (fun v27 => some (.inl (v27, M26)))
noncomputable def l_ST_chooseFavoured_7  (v23 : Int32) (M24 : Mem) : Option ((Int32 × Mem) ⊕ (Mem)) :=
  if (576 : Int32) ≤ v23 then (some (.inr M24)) else (ck v23 576 (if (M24 8 v23.toNatClampNeg) = 0 then (j_ST_chooseFavoured_58 v23 M24) else (ck v23 576 (if ((M24 8 v23.toNatClampNeg) &&& (M24 5 4)) = 0 then (ck v23 576 (bi (s_ST_top (M24 8 v23.toNatClampNeg) M24) (fun r33 M31 => nx (st M31 5 4 ((M24 5 4) ||| ((1 : Int32) <<< (r33 &&& 31)))) (fun M34 => j_ST_chooseFavoured_58 v23 M34)))) else (j_ST_chooseFavoured_58 v23 M24)))))
noncomputable def s_ST_chooseFavoured  (M : Mem) : Option (Mem) :=
  nx (st M 5 4 (0 : Int32)) (fun M21 => nx ((0 : Int32)) (fun v22 => lp (fun q : Int32 × Mem => l_ST_chooseFavoured_7 q.1 q.2) (v22, M21)))
set_option maxHeartbeats 4000000 in
set_option maxRecDepth 100000 in
theorem c_ST_chooseFavoured (l : Launch) (x : Cx) (hJ : Inj x)  {M : Mem} {out : Mem} (h : s_ST_chooseFavoured M = some out) : Cv l x y_ST_chooseFavoured (Cond.code y_ST_chooseFavoured b_ST_chooseFavoured 2 none :: tb) r_ST_chooseFavoured [.ref (x.2.1 5)] M out := by
  refine ofCv (cc := b_ST_chooseFavoured) (maxL := 2) (by decide) rfl (rfl) (Nat.le_of_ble_eq_true rfl) ?_
  intro p e s m args below meth c Q G0 ls g hx hb hml hown hts hK hZ hP hS hl hret
  have hown : s.vm.findClass R_ST = some m.cls := hown
  have hl : lv_has ls 2 [(0, .ref (x.2.1 5))] := hl
  obtain ⟨H, eH⟩ : ∃ z, z = s.heap := ⟨_, rfl⟩
  obtain ⟨locs, eL⟩ : ∃ z, z = ([] : List Loc) := ⟨_, rfl⟩
  rw [← eH] at hP
  have hS : va_S (A0 x) s.heap H locs := by rw [eH, eL]; exact hS
  rw [← eL]
  have key : W p l e r_ST_chooseFavoured s m args below meth c H locs 0 0 Q (F0 m 0 ls []) := by
    clear eH eL
    unfold s_ST_chooseFavoured at h
    refine lv_aload_n hx hb d_ST_chooseFavoured_0 rfl (lv_at hl 0 rfl) ?_
    refine lv_iconst (v := (0 : Int32)) hx hb d_ST_chooseFavoured_1 (by decide) ?_
    obtain ⟨M21, eM21, h⟩ := nx_e h
    refine pf_ST_31 hx hb hts hown hK hJ hP hS eM21 d_ST_chooseFavoured_2 (fun H locs hP hS => ?_)
    refine lv_iconst (v := (0 : Int32)) hx hb d_ST_chooseFavoured_5 (by decide) ?_
    obtain ⟨v22, ev22, h⟩ := nx_e h
    refine tp_i ev22 ?_
    refine lv_istore_n hx hb d_ST_chooseFavoured_6 rfl hl (by decide) rfl (fun ls hl => ?_)
    have hl : lv_has ls 2 [(1, .int v22), (0, .ref (x.2.1 5))] := hl
    obtain ⟨P7, eP7⟩ : ∃ P : (Int32 × Mem) → Prop, P = (fun q => ∀ (H : Heap) (locs : List Loc) (ls : Array Slot), va_P x.1 vwCl (wld x (q.2)) H → va_S (A0 x) s.heap H locs → lv_has ls 2 [(0, .ref (x.2.1 5)), (1, .int (q.1))] → W p l e r_ST_chooseFavoured s m args below meth c H locs 0 0 Q (F0 m 7 ls [])) := ⟨_, rfl⟩
    have L7 : P7 (v22, M21) := by
      refine lp_walk (G := G0) ?_ h g
      intro q res h g
      obtain ⟨v23, M24⟩ := q
      rw [eP7]
      intro H locs ls hP hS hl
      have hP : va_P x.1 vwCl (wld x M24) H := hP
      have hl : lv_has ls 2 [(0, .ref (x.2.1 5)), (1, .int v23)] := hl
      have h : l_ST_chooseFavoured_7 v23 M24 = some res := h
      unfold l_ST_chooseFavoured_7 at h
      have J58 : ∀ (a25 : Int32) (M26 : Mem)  (res : (Int32 × Mem) ⊕ Mem) (h : j_ST_chooseFavoured_58 a25 M26 = some res) (g : (lpG P7 G0) res) (H : Heap) (locs : List Loc) (ls : Array Slot) (hP : va_P x.1 vwCl (wld x M26) H) (hS : va_S (A0 x) s.heap H locs) (hl : lv_has ls 2 [(0, .ref (x.2.1 5)), (1, .int a25)]), W p l e r_ST_chooseFavoured s m args below meth c H locs 0 0 Q (F0 m 58 ls []) := by
        intro a25 M26 res h g H locs ls hP hS hl
        unfold j_ST_chooseFavoured_58 at h
        obtain ⟨v27, ev27, h⟩ := nx_e h
        refine lv_iinc (k := 1) hx hb d_ST_chooseFavoured_58 hl rfl (iinc_v (k := (1 : Int32)) (by decide) ev27) (by decide) rfl (fun ls hl => ?_)
        have hl : lv_has ls 2 [(1, .int v27), (0, .ref (x.2.1 5))] := hl
        refine lv_goto (tgt := 7) hx hb d_ST_chooseFavoured_61 rfl ?_
        obtain rfl := Option.some.inj h
        have g : P7 (v27, M26) := g
        rw [eP7] at g
        exact g H locs ls hP hS (lv_sub hl [1, 0] rfl)
      refine lv_iload_n hx hb d_ST_chooseFavoured_7 rfl (lv_at hl 1 rfl) ?_
      refine lv_sipush (v := (576 : Int32)) hx hb d_ST_chooseFavoured_8 (by decide) ?_
      refine lv_icmp_ge (tgt := 64) hx hb d_ST_chooseFavoured_11 rfl (fun hc => ?_) (fun hc => ?_)
      · have h := if_p hc h
        obtain rfl := Option.some.inj h
        exact hret d_ST_chooseFavoured_64 g hP hS
      · have h := if_m hc h
        refine lv_aload_n hx hb d_ST_chooseFavoured_14 rfl (lv_at hl 0 rfl) ?_
        refine gf_ST_23 hx hb hts hown hK hP d_ST_chooseFavoured_15 ?_
        refine lv_iload_n hx hb d_ST_chooseFavoured_18 rfl (lv_at hl 1 rfl) ?_
        obtain ⟨b28, h⟩ := ck_e h
        refine m_ald hx hb hK hP ar_ST_goers b28 d_ST_chooseFavoured_19 ?_
        refine lv_if_eq (tgt := 58) hx hb d_ST_chooseFavoured_20 rfl (fun hc => ?_) (fun hc => ?_)
        · have h := if_p hc h
          exact J58 v23 M24 _ h g H locs ls hP hS (lv_sub hl [0, 1] rfl)
        · have h := if_m hc h
          refine lv_aload_n hx hb d_ST_chooseFavoured_23 rfl (lv_at hl 0 rfl) ?_
          refine gf_ST_23 hx hb hts hown hK hP d_ST_chooseFavoured_24 ?_
          refine lv_iload_n hx hb d_ST_chooseFavoured_27 rfl (lv_at hl 1 rfl) ?_
          obtain ⟨b29, h⟩ := ck_e h
          refine m_ald hx hb hK hP ar_ST_goers b29 d_ST_chooseFavoured_28 ?_
          refine lv_aload_n hx hb d_ST_chooseFavoured_29 rfl (lv_at hl 0 rfl) ?_
          refine gf_ST_31 hx hb hts hown hK hP d_ST_chooseFavoured_30 ?_
          refine lv_iand hx hb d_ST_chooseFavoured_33 ?_
          refine lv_if_ne (tgt := 58) hx hb d_ST_chooseFavoured_34 rfl (fun hc => ?_) (fun hc => ?_)
          · have h := if_m hc h
            exact J58 v23 M24 _ h g H locs ls hP hS (lv_sub hl [0, 1] rfl)
          · have h := if_p hc h
            refine lv_aload_n hx hb d_ST_chooseFavoured_37 rfl (lv_at hl 0 rfl) ?_
            refine lv_dup hx hb d_ST_chooseFavoured_38 rfl ?_
            refine gf_ST_31 hx hb hts hown hK hP d_ST_chooseFavoured_39 ?_
            refine lv_iconst (v := (1 : Int32)) hx hb d_ST_chooseFavoured_42 (by decide) ?_
            refine lv_aload_n hx hb d_ST_chooseFavoured_43 rfl (lv_at hl 0 rfl) ?_
            refine lv_aload_n hx hb d_ST_chooseFavoured_44 rfl (lv_at hl 0 rfl) ?_
            refine gf_ST_23 hx hb hts hown hK hP d_ST_chooseFavoured_45 ?_
            refine lv_iload_n hx hb d_ST_chooseFavoured_48 rfl (lv_at hl 1 rfl) ?_
            obtain ⟨b30, h⟩ := ck_e h
            refine m_ald hx hb hK hP ar_ST_goers b30 d_ST_chooseFavoured_49 ?_
            obtain ⟨r33, M31, c32, h⟩ := bi_e h
            refine cl_ST_74 (rest := [.int (1 : Int32), .int (M24 5 4), .ref (x.2.1 5)]) (R := r_ST_chooseFavoured) (c_ST_top l x hJ (M24 8 v23.toNatClampNeg) c32) hx hb hml hts hown hK hZ hP hS hl.1 (Nat.le_of_ble_eq_true rfl) (Nat.le_of_ble_eq_true rfl) (Nat.le_of_ble_eq_true rfl) ⟨rfl, rfl, Nat.zero_le _, Nat.zero_le _⟩ d_ST_chooseFavoured_50 (fun H locs hP hS => ?_)
            refine lv_ishl hx hb d_ST_chooseFavoured_53 ?_
            refine lv_ior hx hb d_ST_chooseFavoured_54 ?_
            obtain ⟨M34, eM34, h⟩ := nx_e h
            refine pf_ST_31 hx hb hts hown hK hJ hP hS eM34 d_ST_chooseFavoured_55 (fun H locs hP hS => ?_)
            exact J58 v23 M34 _ h g H locs ls hP hS (lv_sub hl [0, 1] rfl)
    rw [eP7] at L7
    exact L7 H locs ls hP hS (lv_sub hl [1, 0] rfl)
  rw [eH] at key
  exact key
theorem d_ST_keep_0 : decode b_ST_keep 0 = .ok (.aload_n 0, 1) := by decide +kernel
theorem d_ST_keep_1 : decode b_ST_keep 1 = .ok (.getfield 27, 3) := by decide +kernel
theorem d_ST_keep_4 : decode b_ST_keep 4 = .ok (.bipush 16, 2) := by decide +kernel
theorem d_ST_keep_6 : decode b_ST_keep 6 = .ok (.if_icmp .lt 5, 3) := by decide +kernel
theorem d_ST_keep_9 : decode b_ST_keep 9 = .ok (.iconst 0, 1) := by decide +kernel
theorem d_ST_keep_10 : decode b_ST_keep 10 = .ok (.ireturn, 1) := by decide +kernel
theorem d_ST_keep_11 : decode b_ST_keep 11 = .ok (.aload_n 0, 1) := by decide +kernel
theorem d_ST_keep_12 : decode b_ST_keep 12 = .ok (.getfield 13, 3) := by decide +kernel
theorem d_ST_keep_15 : decode b_ST_keep 15 = .ok (.aload_n 0, 1) := by decide +kernel
theorem d_ST_keep_16 : decode b_ST_keep 16 = .ok (.getfield 27, 3) := by decide +kernel
theorem d_ST_keep_19 : decode b_ST_keep 19 = .ok (.aaload, 1) := by decide +kernel
theorem d_ST_keep_20 : decode b_ST_keep 20 = .ok (.astore_n 3, 1) := by decide +kernel
theorem d_ST_keep_21 : decode b_ST_keep 21 = .ok (.aload_n 3, 1) := by decide +kernel
theorem d_ST_keep_22 : decode b_ST_keep 22 = .ok (.getfield 46, 3) := by decide +kernel
theorem d_ST_keep_25 : decode b_ST_keep 25 = .ok (.aload_n 1, 1) := by decide +kernel
theorem d_ST_keep_26 : decode b_ST_keep 26 = .ok (.invokevirtual 50, 3) := by decide +kernel
theorem d_ST_keep_29 : decode b_ST_keep 29 = .ok (.aload_n 3, 1) := by decide +kernel
theorem d_ST_keep_30 : decode b_ST_keep 30 = .ok (.aload_n 2, 1) := by decide +kernel
theorem d_ST_keep_31 : decode b_ST_keep 31 = .ok (.getfield 56, 3) := by decide +kernel
theorem d_ST_keep_34 : decode b_ST_keep 34 = .ok (.putfield 59, 3) := by decide +kernel
theorem d_ST_keep_37 : decode b_ST_keep 37 = .ok (.aload_n 3, 1) := by decide +kernel
theorem d_ST_keep_38 : decode b_ST_keep 38 = .ok (.aload_n 2, 1) := by decide +kernel
theorem d_ST_keep_39 : decode b_ST_keep 39 = .ok (.getfield 34, 3) := by decide +kernel
theorem d_ST_keep_42 : decode b_ST_keep 42 = .ok (.putfield 60, 3) := by decide +kernel
theorem d_ST_keep_45 : decode b_ST_keep 45 = .ok (.iconst 0, 1) := by decide +kernel
theorem d_ST_keep_46 : decode b_ST_keep 46 = .ok (.istore 4, 2) := by decide +kernel
theorem d_ST_keep_48 : decode b_ST_keep 48 = .ok (.iload 4, 2) := by decide +kernel
theorem d_ST_keep_50 : decode b_ST_keep 50 = .ok (.aload_n 2, 1) := by decide +kernel
theorem d_ST_keep_51 : decode b_ST_keep 51 = .ok (.getfield 34, 3) := by decide +kernel
theorem d_ST_keep_54 : decode b_ST_keep 54 = .ok (.if_icmp .ge 31, 3) := by decide +kernel
theorem d_ST_keep_57 : decode b_ST_keep 57 = .ok (.aload_n 0, 1) := by decide +kernel
theorem d_ST_keep_58 : decode b_ST_keep 58 = .ok (.aload_n 2, 1) := by decide +kernel
theorem d_ST_keep_59 : decode b_ST_keep 59 = .ok (.getfield 39, 3) := by decide +kernel
theorem d_ST_keep_62 : decode b_ST_keep 62 = .ok (.iload 4, 2) := by decide +kernel
theorem d_ST_keep_64 : decode b_ST_keep 64 = .ok (.iaload, 1) := by decide +kernel
theorem d_ST_keep_65 : decode b_ST_keep 65 = .ok (.aload_n 2, 1) := by decide +kernel
theorem d_ST_keep_66 : decode b_ST_keep 66 = .ok (.aload_n 2, 1) := by decide +kernel
theorem d_ST_keep_67 : decode b_ST_keep 67 = .ok (.getfield 39, 3) := by decide +kernel
theorem d_ST_keep_70 : decode b_ST_keep 70 = .ok (.iload 4, 2) := by decide +kernel
theorem d_ST_keep_72 : decode b_ST_keep 72 = .ok (.iaload, 1) := by decide +kernel
theorem d_ST_keep_73 : decode b_ST_keep 73 = .ok (.invokevirtual 42, 3) := by decide +kernel
theorem d_ST_keep_76 : decode b_ST_keep 76 = .ok (.invokevirtual 61, 3) := by decide +kernel
theorem d_ST_keep_79 : decode b_ST_keep 79 = .ok (.iinc 4 1, 3) := by decide +kernel
theorem d_ST_keep_82 : decode b_ST_keep 82 = .ok (.goto (-34), 3) := by decide +kernel
theorem d_ST_keep_85 : decode b_ST_keep 85 = .ok (.aload_n 0, 1) := by decide +kernel
theorem d_ST_keep_86 : decode b_ST_keep 86 = .ok (.dup, 1) := by decide +kernel
theorem d_ST_keep_87 : decode b_ST_keep 87 = .ok (.getfield 27, 3) := by decide +kernel
theorem d_ST_keep_90 : decode b_ST_keep 90 = .ok (.iconst 1, 1) := by decide +kernel
theorem d_ST_keep_91 : decode b_ST_keep 91 = .ok (.iadd, 1) := by decide +kernel
theorem d_ST_keep_92 : decode b_ST_keep 92 = .ok (.putfield 27, 3) := by decide +kernel
theorem d_ST_keep_95 : decode b_ST_keep 95 = .ok (.aload_n 0, 1) := by decide +kernel
theorem d_ST_keep_96 : decode b_ST_keep 96 = .ok (.invokevirtual 65, 3) := by decide +kernel
theorem d_ST_keep_99 : decode b_ST_keep 99 = .ok (.iconst 1, 1) := by decide +kernel
theorem d_ST_keep_100 : decode b_ST_keep 100 = .ok (.ireturn, 1) := by decide +kernel
noncomputable def j_ST_keep_85  (M21 : Mem) : Option (Int32 × Mem) :=
  nx (st M21 5 3 ((M21 5 3) + (1 : Int32))) (fun M22 => bv (s_ST_chooseFavoured M22) (fun M23 => some ((1 : Int32), M23)))
noncomputable def l_ST_keep_48 (j2 : Nat) (v32 : Int32) (M33 : Mem) : Option ((Int32 × Mem) ⊕ (Int32 × Mem)) :=
  if (M33 j2 5) ≤ v32 then (jw1 (j_ST_keep_85 M33)) else (ck v32 64 (ck v32 64 (bi (s_RU_pairBit j2 (M33 (j2 + 5) v32.toNatClampNeg) M33) (fun r38 M36 => bv (s_ST_markSeen (M33 (j2 + 5) v32.toNatClampNeg) r38 M36) (fun M39 => nx (v32 + (1 : Int32)) (fun v41 => some (.inl (v41, M39))))))))
noncomputable def s_ST_keep (j1 : Nat) (j2 : Nat) (M : Mem) : Option (Int32 × Mem) :=
  if (M 5 3) < (16 : Int32) then (ck (M 5 3) 16 (nx (122 + (M 5 3).toNatClampNeg) (fun j26 => bv (s_IN_copy (2 * j26 - 186) j1 M) (fun M27 => nx (st M27 j26 1 (M27 j2 9)) (fun M29 => nx (st M29 j26 2 (M29 j2 5)) (fun M30 => nx ((0 : Int32)) (fun v31 => lp (fun q : Int32 × Mem => l_ST_keep_48 j2 q.1 q.2) (v31, M30)))))))) else (some ((0 : Int32), M))
set_option maxHeartbeats 4000000 in
set_option maxRecDepth 100000 in
theorem c_ST_keep (l : Launch) (x : Cx) (hJ : Inj x) (j1 : Nat) (k1 : kd_in j1) (j2 : Nat) (k2 : kd_run j2) {M : Mem} {out : Int32 × Mem} (h : s_ST_keep j1 j2 M = some out) : Ci l x y_ST_keep (Cond.code y_ST_keep b_ST_keep 5 (some .boolean) :: tb) r_ST_keep [.ref (x.2.1 5), .ref (x.2.1 j1), .ref (x.2.1 j2)] M out := by
  refine ofCz (cc := b_ST_keep) (maxL := 5) (by decide) rfl (rfl) (Nat.le_of_ble_eq_true rfl) ?_
  intro p e s m args below meth c Q G0 ls g hx hb hml hown hts hK hZ hP hS hl hret
  have hown : s.vm.findClass R_ST = some m.cls := hown
  have hl : lv_has ls 5 [(0, .ref (x.2.1 5)), (1, .ref (x.2.1 j1)), (2, .ref (x.2.1 j2))] := hl
  obtain ⟨H, eH⟩ : ∃ z, z = s.heap := ⟨_, rfl⟩
  obtain ⟨locs, eL⟩ : ∃ z, z = ([] : List Loc) := ⟨_, rfl⟩
  rw [← eH] at hP
  have hS : va_S (A0 x) s.heap H locs := by rw [eH, eL]; exact hS
  rw [← eL]
  have key : W p l e r_ST_keep s m args below meth c H locs 0 0 Q (F0 m 0 ls []) := by
    clear eH eL
    unfold s_ST_keep at h
    have J85 : ∀  (M21 : Mem)  (res : Int32 × Mem) (h : j_ST_keep_85 M21 = some res) (g : G0 res) (H : Heap) (locs : List Loc) (ls : Array Slot) (hP : va_P x.1 vwCl (wld x M21) H) (hS : va_S (A0 x) s.heap H locs) (hl : lv_has ls 5 [(0, .ref (x.2.1 5))]), W p l e r_ST_keep s m args below meth c H locs 0 0 Q (F0 m 85 ls []) := by
      intro M21 res h g H locs ls hP hS hl
      unfold j_ST_keep_85 at h
      refine lv_aload_n hx hb d_ST_keep_85 rfl (lv_at hl 0 rfl) ?_
      refine lv_dup hx hb d_ST_keep_86 rfl ?_
      refine gf_ST_27 hx hb hts hown hK hP d_ST_keep_87 ?_
      refine lv_iconst (v := (1 : Int32)) hx hb d_ST_keep_90 (by decide) ?_
      refine lv_iadd hx hb d_ST_keep_91 ?_
      obtain ⟨M22, eM22, h⟩ := nx_e h
      refine pf_ST_27 hx hb hts hown hK hJ hP hS eM22 d_ST_keep_92 (fun H locs hP hS => ?_)
      refine lv_aload_n hx hb d_ST_keep_95 rfl (lv_at hl 0 rfl) ?_
      obtain ⟨M23, c24, h⟩ := bv_e h
      refine cl_ST_65 (rest := []) (R := r_ST_keep) (c_ST_chooseFavoured l x hJ c24) hx hb hml hts hown hK hZ hP hS hl.1 (Nat.le_of_ble_eq_true rfl) (Nat.le_of_ble_eq_true rfl) (Nat.le_of_ble_eq_true rfl) ⟨rfl, rfl, Nat.zero_le _, Nat.zero_le _⟩ d_ST_keep_96 (fun H locs hP hS => ?_)
      refine lv_iconst (v := (1 : Int32)) hx hb d_ST_keep_99 (by decide) ?_
      obtain rfl := Option.some.inj h
      exact hret (by decide) d_ST_keep_100 g hP hS
    refine lv_aload_n hx hb d_ST_keep_0 rfl (lv_at hl 0 rfl) ?_
    refine gf_ST_27 hx hb hts hown hK hP d_ST_keep_1 ?_
    refine lv_bipush (v := (16 : Int32)) hx hb d_ST_keep_4 (by decide) ?_
    refine lv_icmp_lt (tgt := 11) hx hb d_ST_keep_6 rfl (fun hc => ?_) (fun hc => ?_)
    · have h := if_p hc h
      refine lv_aload_n hx hb d_ST_keep_11 rfl (lv_at hl 0 rfl) ?_
      refine gf_ST_13 hx hb hts hown hK hP d_ST_keep_12 ?_
      refine lv_aload_n hx hb d_ST_keep_15 rfl (lv_at hl 0 rfl) ?_
      refine gf_ST_27 hx hb hts hown hK hP d_ST_keep_16 ?_
      obtain ⟨b25, h⟩ := ck_e h
      refine m_aaE hx hb hK hP b25 d_ST_keep_19 ?_
      obtain ⟨j26, ej26, h⟩ := nx_e h
      have kj26 : kd_en j26 := by rw [ej26]; exact kd_en_at b25
      refine tp_r ej26 ?_
      refine lv_astore_n hx hb d_ST_keep_20 rfl hl (by decide) rfl (fun ls hl => ?_)
      have hl : lv_has ls 5 [(3, .ref (x.2.1 j26)), (0, .ref (x.2.1 5)), (1, .ref (x.2.1 j1)), (2, .ref (x.2.1 j2))] := hl
      refine lv_aload_n hx hb d_ST_keep_21 rfl (lv_at hl 0 rfl) ?_
      refine gf_ST_46 hx hb hts hown hK hP kj26 d_ST_keep_22 ?_
      refine lv_aload_n hx hb d_ST_keep_25 rfl (lv_at hl 2 rfl) ?_
      obtain ⟨M27, c28, h⟩ := bv_e h
      refine cl_ST_50 (rest := []) (R := r_ST_keep) (c_IN_copy l x hJ (2 * j26 - 186) (kd_EN_input kj26) j1 k1 c28) (kd_EN_input kj26) hx hb hml hts hown hK hZ hP hS hl.1 (Nat.le_of_ble_eq_true rfl) (Nat.le_of_ble_eq_true rfl) (Nat.le_of_ble_eq_true rfl) ⟨rfl, rfl, Nat.zero_le _, Nat.zero_le _⟩ d_ST_keep_26 (fun H locs hP hS => ?_)
      refine lv_aload_n hx hb d_ST_keep_29 rfl (lv_at hl 0 rfl) ?_
      refine lv_aload_n hx hb d_ST_keep_30 rfl (lv_at hl 3 rfl) ?_
      refine gf_ST_56 hx hb hts hown hK hP k2 d_ST_keep_31 ?_
      obtain ⟨M29, eM29, h⟩ := nx_e h
      refine pf_ST_59 hx hb hts hown hK hJ hP hS kj26 eM29 d_ST_keep_34 (fun H locs hP hS => ?_)
      refine lv_aload_n hx hb d_ST_keep_37 rfl (lv_at hl 0 rfl) ?_
      refine lv_aload_n hx hb d_ST_keep_38 rfl (lv_at hl 3 rfl) ?_
      refine gf_ST_34 hx hb hts hown hK hP k2 d_ST_keep_39 ?_
      obtain ⟨M30, eM30, h⟩ := nx_e h
      refine pf_ST_60 hx hb hts hown hK hJ hP hS kj26 eM30 d_ST_keep_42 (fun H locs hP hS => ?_)
      refine lv_iconst (v := (0 : Int32)) hx hb d_ST_keep_45 (by decide) ?_
      obtain ⟨v31, ev31, h⟩ := nx_e h
      refine tp_i ev31 ?_
      refine lv_istore hx hb d_ST_keep_46 hl (by decide) rfl (fun ls hl => ?_)
      have hl : lv_has ls 5 [(4, .int v31), (3, .ref (x.2.1 j26)), (0, .ref (x.2.1 5)), (1, .ref (x.2.1 j1)), (2, .ref (x.2.1 j2))] := hl
      obtain ⟨P48, eP48⟩ : ∃ P : (Int32 × Mem) → Prop, P = (fun q => ∀ (H : Heap) (locs : List Loc) (ls : Array Slot), va_P x.1 vwCl (wld x (q.2)) H → va_S (A0 x) s.heap H locs → lv_has ls 5 [(0, .ref (x.2.1 5)), (2, .ref (x.2.1 j2)), (4, .int (q.1))] → W p l e r_ST_keep s m args below meth c H locs 0 0 Q (F0 m 48 ls [])) := ⟨_, rfl⟩
      have L48 : P48 (v31, M30) := by
        refine lp_walk (G := G0) ?_ h g
        intro q res h g
        obtain ⟨v32, M33⟩ := q
        rw [eP48]
        intro H locs ls hP hS hl
        have hP : va_P x.1 vwCl (wld x M33) H := hP
        have hl : lv_has ls 5 [(0, .ref (x.2.1 5)), (2, .ref (x.2.1 j2)), (4, .int v32)] := hl
        have h : l_ST_keep_48 j2 v32 M33 = some res := h
        unfold l_ST_keep_48 at h
        refine lv_iload hx hb d_ST_keep_48 (lv_at hl 2 rfl) ?_
        refine lv_aload_n hx hb d_ST_keep_50 rfl (lv_at hl 1 rfl) ?_
        refine gf_ST_34 hx hb hts hown hK hP k2 d_ST_keep_51 ?_
        refine lv_icmp_ge (tgt := 85) hx hb d_ST_keep_54 rfl (fun hc => ?_) (fun hc => ?_)
        · have h := if_p hc h
          obtain ⟨res2, hres, h2⟩ := jw1_e h
          clear h
          subst hres
          have h := h2
          exact J85 M33 _ h g H locs ls hP hS (lv_sub hl [0] rfl)
        · have h := if_m hc h
          refine lv_aload_n hx hb d_ST_keep_57 rfl (lv_at hl 0 rfl) ?_
          refine lv_aload_n hx hb d_ST_keep_58 rfl (lv_at hl 1 rfl) ?_
          refine gf_ST_39 hx hb hts hown hK hP k2 d_ST_keep_59 ?_
          refine lv_iload hx hb d_ST_keep_62 (lv_at hl 2 rfl) ?_
          obtain ⟨b34, h⟩ := ck_e h
          refine m_ald hx hb hK hP (ar_RU_edges k2) b34 d_ST_keep_64 ?_
          refine lv_aload_n hx hb d_ST_keep_65 rfl (lv_at hl 1 rfl) ?_
          refine lv_aload_n hx hb d_ST_keep_66 rfl (lv_at hl 1 rfl) ?_
          refine gf_ST_39 hx hb hts hown hK hP k2 d_ST_keep_67 ?_
          refine lv_iload hx hb d_ST_keep_70 (lv_at hl 2 rfl) ?_
          obtain ⟨b35, h⟩ := ck_e h
          refine m_ald hx hb hK hP (ar_RU_edges k2) b35 d_ST_keep_72 ?_
          obtain ⟨r38, M36, c37, h⟩ := bi_e h
          refine cl_ST_42 (rest := [.int (M33 (j2 + 5) v32.toNatClampNeg), .ref (x.2.1 5)]) (R := r_ST_keep) (c_RU_pairBit l x hJ j2 k2 (M33 (j2 + 5) v32.toNatClampNeg) c37) k2 hx hb hml hts hown hK hZ hP hS hl.1 (Nat.le_of_ble_eq_true rfl) (Nat.le_of_ble_eq_true rfl) (Nat.le_of_ble_eq_true rfl) ⟨rfl, rfl, Nat.zero_le _, Nat.zero_le _⟩ d_ST_keep_73 (fun H locs hP hS => ?_)
          obtain ⟨M39, c40, h⟩ := bv_e h
          refine cl_ST_61 (rest := []) (R := r_ST_keep) (c_ST_markSeen l x hJ (M33 (j2 + 5) v32.toNatClampNeg) r38 c40) hx hb hml hts hown hK hZ hP hS hl.1 (Nat.le_of_ble_eq_true rfl) (Nat.le_of_ble_eq_true rfl) (Nat.le_of_ble_eq_true rfl) ⟨rfl, rfl, Nat.zero_le _, Nat.zero_le _⟩ d_ST_keep_76 (fun H locs hP hS => ?_)
          obtain ⟨v41, ev41, h⟩ := nx_e h
          refine lv_iinc (k := 2) hx hb d_ST_keep_79 hl rfl (iinc_v (k := (1 : Int32)) (by decide) ev41) (by decide) rfl (fun ls hl => ?_)
          have hl : lv_has ls 5 [(4, .int v41), (0, .ref (x.2.1 5)), (2, .ref (x.2.1 j2))] := hl
          refine lv_goto (tgt := 48) hx hb d_ST_keep_82 rfl ?_
          obtain rfl := Option.some.inj h
          have g : P48 (v41, M39) := g
          rw [eP48] at g
          exact g H locs ls hP hS (lv_sub hl [1, 2, 0] rfl)
      rw [eP48] at L48
      exact L48 H locs ls hP hS (lv_sub hl [2, 4, 0] rfl)
    · have h := if_m hc h
      refine lv_iconst (v := (0 : Int32)) hx hb d_ST_keep_9 (by decide) ?_
      obtain rfl := Option.some.inj h
      exact hret (by decide) d_ST_keep_10 g hP hS
  rw [eH] at key
  exact key
theorem d_ST_has_0 : decode b_ST_has 0 = .ok (.iload_n 1, 1) := by decide +kernel
theorem d_ST_has_1 : decode b_ST_has 1 = .ok (.ifCond .lt 15, 3) := by decide +kernel
theorem d_ST_has_4 : decode b_ST_has 4 = .ok (.iload_n 1, 1) := by decide +kernel
theorem d_ST_has_5 : decode b_ST_has 5 = .ok (.aload_n 0, 1) := by decide +kernel
theorem d_ST_has_6 : decode b_ST_has 6 = .ok (.getfield 27, 3) := by decide +kernel
theorem d_ST_has_9 : decode b_ST_has 9 = .ok (.if_icmp .ge 7, 3) := by decide +kernel
theorem d_ST_has_12 : decode b_ST_has 12 = .ok (.iconst 1, 1) := by decide +kernel
theorem d_ST_has_13 : decode b_ST_has 13 = .ok (.goto 4, 3) := by decide +kernel
theorem d_ST_has_16 : decode b_ST_has 16 = .ok (.iconst 0, 1) := by decide +kernel
theorem d_ST_has_17 : decode b_ST_has 17 = .ok (.ireturn, 1) := by decide +kernel
noncomputable def s_ST_has (a1 : Int32) (M : Mem) : Option (Int32 × Mem) :=
  if a1 < 0 then (some ((0 : Int32), M)) else (if (M 5 3) ≤ a1 then (some ((0 : Int32), M)) else (some ((1 : Int32), M)))
set_option maxHeartbeats 4000000 in
set_option maxRecDepth 100000 in
theorem c_ST_has (l : Launch) (x : Cx) (hJ : Inj x) (a1 : Int32) {M : Mem} {out : Int32 × Mem} (h : s_ST_has a1 M = some out) : Ci l x y_ST_has (Cond.code y_ST_has b_ST_has 2 (some .boolean) :: tb) r_ST_has [.ref (x.2.1 5), .int a1] M out := by
  refine ofCz (cc := b_ST_has) (maxL := 2) (by decide) rfl (rfl) (Nat.le_of_ble_eq_true rfl) ?_
  intro p e s m args below meth c Q G0 ls g hx hb hml hown hts hK hZ hP hS hl hret
  have hown : s.vm.findClass R_ST = some m.cls := hown
  have hl : lv_has ls 2 [(0, .ref (x.2.1 5)), (1, .int a1)] := hl
  obtain ⟨H, eH⟩ : ∃ z, z = s.heap := ⟨_, rfl⟩
  obtain ⟨locs, eL⟩ : ∃ z, z = ([] : List Loc) := ⟨_, rfl⟩
  rw [← eH] at hP
  have hS : va_S (A0 x) s.heap H locs := by rw [eH, eL]; exact hS
  rw [← eL]
  have key : W p l e r_ST_has s m args below meth c H locs 0 0 Q (F0 m 0 ls []) := by
    clear eH eL
    unfold s_ST_has at h
    refine lv_iload_n hx hb d_ST_has_0 rfl (lv_at hl 1 rfl) ?_
    refine lv_if_lt (tgt := 16) hx hb d_ST_has_1 rfl (fun hc => ?_) (fun hc => ?_)
    · have h := if_p hc h
      refine lv_iconst (v := (0 : Int32)) hx hb d_ST_has_16 (by decide) ?_
      obtain rfl := Option.some.inj h
      exact hret (by decide) d_ST_has_17 g hP hS
    · have h := if_m hc h
      refine lv_iload_n hx hb d_ST_has_4 rfl (lv_at hl 1 rfl) ?_
      refine lv_aload_n hx hb d_ST_has_5 rfl (lv_at hl 0 rfl) ?_
      refine gf_ST_27 hx hb hts hown hK hP d_ST_has_6 ?_
      refine lv_icmp_ge (tgt := 16) hx hb d_ST_has_9 rfl (fun hc => ?_) (fun hc => ?_)
      · have h := if_p hc h
        refine lv_iconst (v := (0 : Int32)) hx hb d_ST_has_16 (by decide) ?_
        obtain rfl := Option.some.inj h
        exact hret (by decide) d_ST_has_17 g hP hS
      · have h := if_m hc h
        refine lv_iconst (v := (1 : Int32)) hx hb d_ST_has_12 (by decide) ?_
        refine lv_goto (tgt := 17) hx hb d_ST_has_13 rfl ?_
        obtain rfl := Option.some.inj h
        exact hret (by decide) d_ST_has_17 g hP hS
  rw [eH] at key
  exact key
theorem d_ST_isFavoured_0 : decode b_ST_isFavoured 0 = .ok (.aload_n 0, 1) := by decide +kernel
theorem d_ST_isFavoured_1 : decode b_ST_isFavoured 1 = .ok (.getfield 31, 3) := by decide +kernel
theorem d_ST_isFavoured_4 : decode b_ST_isFavoured 4 = .ok (.iload_n 1, 1) := by decide +kernel
theorem d_ST_isFavoured_5 : decode b_ST_isFavoured 5 = .ok (.ishr, 1) := by decide +kernel
theorem d_ST_isFavoured_6 : decode b_ST_isFavoured 6 = .ok (.iconst 1, 1) := by decide +kernel
theorem d_ST_isFavoured_7 : decode b_ST_isFavoured 7 = .ok (.iand, 1) := by decide +kernel
theorem d_ST_isFavoured_8 : decode b_ST_isFavoured 8 = .ok (.iconst 1, 1) := by decide +kernel
theorem d_ST_isFavoured_9 : decode b_ST_isFavoured 9 = .ok (.if_icmp .ne 7, 3) := by decide +kernel
theorem d_ST_isFavoured_12 : decode b_ST_isFavoured 12 = .ok (.iconst 1, 1) := by decide +kernel
theorem d_ST_isFavoured_13 : decode b_ST_isFavoured 13 = .ok (.goto 4, 3) := by decide +kernel
theorem d_ST_isFavoured_16 : decode b_ST_isFavoured 16 = .ok (.iconst 0, 1) := by decide +kernel
theorem d_ST_isFavoured_17 : decode b_ST_isFavoured 17 = .ok (.ireturn, 1) := by decide +kernel
noncomputable def s_ST_isFavoured (a1 : Int32) (M : Mem) : Option (Int32 × Mem) :=
  if (((M 5 4) >>> (a1 &&& 31)) &&& (1 : Int32)) = (1 : Int32) then (some ((1 : Int32), M)) else (some ((0 : Int32), M))
set_option maxHeartbeats 4000000 in
set_option maxRecDepth 100000 in
theorem c_ST_isFavoured (l : Launch) (x : Cx) (hJ : Inj x) (a1 : Int32) {M : Mem} {out : Int32 × Mem} (h : s_ST_isFavoured a1 M = some out) : Ci l x y_ST_isFavoured (Cond.code y_ST_isFavoured b_ST_isFavoured 2 (some .boolean) :: tb) r_ST_isFavoured [.ref (x.2.1 5), .int a1] M out := by
  refine ofCz (cc := b_ST_isFavoured) (maxL := 2) (by decide) rfl (rfl) (Nat.le_of_ble_eq_true rfl) ?_
  intro p e s m args below meth c Q G0 ls g hx hb hml hown hts hK hZ hP hS hl hret
  have hown : s.vm.findClass R_ST = some m.cls := hown
  have hl : lv_has ls 2 [(0, .ref (x.2.1 5)), (1, .int a1)] := hl
  obtain ⟨H, eH⟩ : ∃ z, z = s.heap := ⟨_, rfl⟩
  obtain ⟨locs, eL⟩ : ∃ z, z = ([] : List Loc) := ⟨_, rfl⟩
  rw [← eH] at hP
  have hS : va_S (A0 x) s.heap H locs := by rw [eH, eL]; exact hS
  rw [← eL]
  have key : W p l e r_ST_isFavoured s m args below meth c H locs 0 0 Q (F0 m 0 ls []) := by
    clear eH eL
    unfold s_ST_isFavoured at h
    refine lv_aload_n hx hb d_ST_isFavoured_0 rfl (lv_at hl 0 rfl) ?_
    refine gf_ST_31 hx hb hts hown hK hP d_ST_isFavoured_1 ?_
    refine lv_iload_n hx hb d_ST_isFavoured_4 rfl (lv_at hl 1 rfl) ?_
    refine lv_ishr hx hb d_ST_isFavoured_5 ?_
    refine lv_iconst (v := (1 : Int32)) hx hb d_ST_isFavoured_6 (by decide) ?_
    refine lv_iand hx hb d_ST_isFavoured_7 ?_
    refine lv_iconst (v := (1 : Int32)) hx hb d_ST_isFavoured_8 (by decide) ?_
    refine lv_icmp_ne (tgt := 16) hx hb d_ST_isFavoured_9 rfl (fun hc => ?_) (fun hc => ?_)
    · have h := if_m hc h
      refine lv_iconst (v := (0 : Int32)) hx hb d_ST_isFavoured_16 (by decide) ?_
      obtain rfl := Option.some.inj h
      exact hret (by decide) d_ST_isFavoured_17 g hP hS
    · have h := if_p hc h
      refine lv_iconst (v := (1 : Int32)) hx hb d_ST_isFavoured_12 (by decide) ?_
      refine lv_goto (tgt := 17) hx hb d_ST_isFavoured_13 rfl ?_
      obtain rfl := Option.some.inj h
      exact hret (by decide) d_ST_isFavoured_17 g hP hS
  rw [eH] at key
  exact key
theorem d_ST_behind_0 : decode b_ST_behind 0 = .ok (.iload_n 1, 1) := by decide +kernel
theorem d_ST_behind_1 : decode b_ST_behind 1 = .ok (.iconst 1, 1) := by decide +kernel
theorem d_ST_behind_2 : decode b_ST_behind 2 = .ok (.iadd, 1) := by decide +kernel
theorem d_ST_behind_3 : decode b_ST_behind 3 = .ok (.aload_n 0, 1) := by decide +kernel
theorem d_ST_behind_4 : decode b_ST_behind 4 = .ok (.getfield 27, 3) := by decide +kernel
theorem d_ST_behind_7 : decode b_ST_behind 7 = .ok (.if_icmp .ge 9, 3) := by decide +kernel
theorem d_ST_behind_10 : decode b_ST_behind 10 = .ok (.iload_n 1, 1) := by decide +kernel
theorem d_ST_behind_11 : decode b_ST_behind 11 = .ok (.iconst 1, 1) := by decide +kernel
theorem d_ST_behind_12 : decode b_ST_behind 12 = .ok (.iadd, 1) := by decide +kernel
theorem d_ST_behind_13 : decode b_ST_behind 13 = .ok (.goto 4, 3) := by decide +kernel
theorem d_ST_behind_16 : decode b_ST_behind 16 = .ok (.iconst 0, 1) := by decide +kernel
theorem d_ST_behind_17 : decode b_ST_behind 17 = .ok (.ireturn, 1) := by decide +kernel
noncomputable def s_ST_behind (a1 : Int32) (M : Mem) : Option (Int32 × Mem) :=
  if (M 5 3) ≤ (a1 + (1 : Int32)) then (some ((0 : Int32), M)) else (some (a1 + (1 : Int32), M))
set_option maxHeartbeats 4000000 in
set_option maxRecDepth 100000 in
theorem c_ST_behind (l : Launch) (x : Cx) (hJ : Inj x) (a1 : Int32) {M : Mem} {out : Int32 × Mem} (h : s_ST_behind a1 M = some out) : Ci l x y_ST_behind (Cond.code y_ST_behind b_ST_behind 2 (some .int) :: tb) r_ST_behind [.ref (x.2.1 5), .int a1] M out := by
  refine ofCi (cc := b_ST_behind) (maxL := 2) (by decide) rfl (rfl) (Nat.le_of_ble_eq_true rfl) ?_
  intro p e s m args below meth c Q G0 ls g hx hb hml hown hts hK hZ hP hS hl hret
  have hown : s.vm.findClass R_ST = some m.cls := hown
  have hl : lv_has ls 2 [(0, .ref (x.2.1 5)), (1, .int a1)] := hl
  obtain ⟨H, eH⟩ : ∃ z, z = s.heap := ⟨_, rfl⟩
  obtain ⟨locs, eL⟩ : ∃ z, z = ([] : List Loc) := ⟨_, rfl⟩
  rw [← eH] at hP
  have hS : va_S (A0 x) s.heap H locs := by rw [eH, eL]; exact hS
  rw [← eL]
  have key : W p l e r_ST_behind s m args below meth c H locs 0 0 Q (F0 m 0 ls []) := by
    clear eH eL
    unfold s_ST_behind at h
    refine lv_iload_n hx hb d_ST_behind_0 rfl (lv_at hl 1 rfl) ?_
    refine lv_iconst (v := (1 : Int32)) hx hb d_ST_behind_1 (by decide) ?_
    refine lv_iadd hx hb d_ST_behind_2 ?_
    refine lv_aload_n hx hb d_ST_behind_3 rfl (lv_at hl 0 rfl) ?_
    refine gf_ST_27 hx hb hts hown hK hP d_ST_behind_4 ?_
    refine lv_icmp_ge (tgt := 16) hx hb d_ST_behind_7 rfl (fun hc => ?_) (fun hc => ?_)
    · have h := if_p hc h
      refine lv_iconst (v := (0 : Int32)) hx hb d_ST_behind_16 (by decide) ?_
      obtain rfl := Option.some.inj h
      exact hret d_ST_behind_17 g hP hS
    · have h := if_m hc h
      refine lv_iload_n hx hb d_ST_behind_10 rfl (lv_at hl 1 rfl) ?_
      refine lv_iconst (v := (1 : Int32)) hx hb d_ST_behind_11 (by decide) ?_
      refine lv_iadd hx hb d_ST_behind_12 ?_
      refine lv_goto (tgt := 17) hx hb d_ST_behind_13 rfl ?_
      obtain rfl := Option.some.inj h
      exact hret d_ST_behind_17 g hP hS
  rw [eH] at key
  exact key
