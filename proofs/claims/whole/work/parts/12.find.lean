theorem d_FI_hasSignOf_0 : decode b_FI_hasSignOf 0 = .ok (.aload_n 0, 1) := by decide +kernel
theorem d_FI_hasSignOf_1 : decode b_FI_hasSignOf 1 = .ok (.getfield 33, 3) := by decide +kernel
theorem d_FI_hasSignOf_4 : decode b_FI_hasSignOf 4 = .ok (.aload_n 1, 1) := by decide +kernel
theorem d_FI_hasSignOf_5 : decode b_FI_hasSignOf 5 = .ok (.getfield 29, 3) := by decide +kernel
theorem d_FI_hasSignOf_8 : decode b_FI_hasSignOf 8 = .ok (.if_icmp .ne 25, 3) := by decide +kernel
theorem d_FI_hasSignOf_11 : decode b_FI_hasSignOf 11 = .ok (.aload_n 0, 1) := by decide +kernel
theorem d_FI_hasSignOf_12 : decode b_FI_hasSignOf 12 = .ok (.getfield 39, 3) := by decide +kernel
theorem d_FI_hasSignOf_15 : decode b_FI_hasSignOf 15 = .ok (.aload_n 1, 1) := by decide +kernel
theorem d_FI_hasSignOf_16 : decode b_FI_hasSignOf 16 = .ok (.getfield 36, 3) := by decide +kernel
theorem d_FI_hasSignOf_19 : decode b_FI_hasSignOf 19 = .ok (.if_icmp .ne 14, 3) := by decide +kernel
theorem d_FI_hasSignOf_22 : decode b_FI_hasSignOf 22 = .ok (.aload_n 0, 1) := by decide +kernel
theorem d_FI_hasSignOf_23 : decode b_FI_hasSignOf 23 = .ok (.getfield 43, 3) := by decide +kernel
theorem d_FI_hasSignOf_26 : decode b_FI_hasSignOf 26 = .ok (.aload_n 1, 1) := by decide +kernel
theorem d_FI_hasSignOf_27 : decode b_FI_hasSignOf 27 = .ok (.getfield 40, 3) := by decide +kernel
theorem d_FI_hasSignOf_30 : decode b_FI_hasSignOf 30 = .ok (.if_icmp .eq 5, 3) := by decide +kernel
theorem d_FI_hasSignOf_33 : decode b_FI_hasSignOf 33 = .ok (.iconst 0, 1) := by decide +kernel
theorem d_FI_hasSignOf_34 : decode b_FI_hasSignOf 34 = .ok (.ireturn, 1) := by decide +kernel
theorem d_FI_hasSignOf_35 : decode b_FI_hasSignOf 35 = .ok (.iconst 0, 1) := by decide +kernel
theorem d_FI_hasSignOf_36 : decode b_FI_hasSignOf 36 = .ok (.istore_n 2, 1) := by decide +kernel
theorem d_FI_hasSignOf_37 : decode b_FI_hasSignOf 37 = .ok (.iload_n 2, 1) := by decide +kernel
theorem d_FI_hasSignOf_38 : decode b_FI_hasSignOf 38 = .ok (.aload_n 0, 1) := by decide +kernel
theorem d_FI_hasSignOf_39 : decode b_FI_hasSignOf 39 = .ok (.getfield 21, 3) := by decide +kernel
theorem d_FI_hasSignOf_42 : decode b_FI_hasSignOf 42 = .ok (.arraylength, 1) := by decide +kernel
theorem d_FI_hasSignOf_43 : decode b_FI_hasSignOf 43 = .ok (.if_icmp .ge 25, 3) := by decide +kernel
theorem d_FI_hasSignOf_46 : decode b_FI_hasSignOf 46 = .ok (.aload_n 0, 1) := by decide +kernel
theorem d_FI_hasSignOf_47 : decode b_FI_hasSignOf 47 = .ok (.getfield 21, 3) := by decide +kernel
theorem d_FI_hasSignOf_50 : decode b_FI_hasSignOf 50 = .ok (.iload_n 2, 1) := by decide +kernel
theorem d_FI_hasSignOf_51 : decode b_FI_hasSignOf 51 = .ok (.iaload, 1) := by decide +kernel
theorem d_FI_hasSignOf_52 : decode b_FI_hasSignOf 52 = .ok (.aload_n 1, 1) := by decide +kernel
theorem d_FI_hasSignOf_53 : decode b_FI_hasSignOf 53 = .ok (.iload_n 2, 1) := by decide +kernel
theorem d_FI_hasSignOf_54 : decode b_FI_hasSignOf 54 = .ok (.invokevirtual 44, 3) := by decide +kernel
theorem d_FI_hasSignOf_57 : decode b_FI_hasSignOf 57 = .ok (.if_icmp .eq 5, 3) := by decide +kernel
theorem d_FI_hasSignOf_60 : decode b_FI_hasSignOf 60 = .ok (.iconst 0, 1) := by decide +kernel
theorem d_FI_hasSignOf_61 : decode b_FI_hasSignOf 61 = .ok (.ireturn, 1) := by decide +kernel
theorem d_FI_hasSignOf_62 : decode b_FI_hasSignOf 62 = .ok (.iinc 2 1, 3) := by decide +kernel
theorem d_FI_hasSignOf_65 : decode b_FI_hasSignOf 65 = .ok (.goto (-28), 3) := by decide +kernel
theorem d_FI_hasSignOf_68 : decode b_FI_hasSignOf 68 = .ok (.iconst 1, 1) := by decide +kernel
theorem d_FI_hasSignOf_69 : decode b_FI_hasSignOf 69 = .ok (.ireturn, 1) := by decide +kernel
noncomputable def l_FI_hasSignOf_37 (j0 : Nat) (j1 : Nat) (v22 : Int32) (M23 : Mem) : Option ((Int32 × Mem) ⊕ (Int32 × Mem)) :=
  if (3 : Int32) ≤ v22 then (some (.inr ((1 : Int32), M23))) else (ck v22 3 (bi (s_RU_onStack j1 v22 M23) (fun r27 M25 => if (M23 (j0 + 1) v22.toNatClampNeg) = r27 then (nx (v22 + (1 : Int32)) (fun v28 => some (.inl (v28, M25)))) else (some (.inr ((0 : Int32), M25))))))
noncomputable def s_FI_hasSignOf (j0 : Nat) (j1 : Nat) (M : Mem) : Option (Int32 × Mem) :=
  if (M j0 3) = (M j1 10) then (if (M j0 4) = (M j1 8) then (if (M j0 5) = (M j1 6) then (nx ((0 : Int32)) (fun v21 => lp (fun q : Int32 × Mem => l_FI_hasSignOf_37 j0 j1 q.1 q.2) (v21, M))) else (some ((0 : Int32), M))) else (some ((0 : Int32), M))) else (some ((0 : Int32), M))
set_option maxHeartbeats 4000000 in
set_option maxRecDepth 100000 in
theorem c_FI_hasSignOf (l : Launch) (x : Cx) (hJ : Inj x) (j0 : Nat) (k0 : kd_fi j0) (j1 : Nat) (k1 : kd_run j1) {M : Mem} {out : Int32 × Mem} (h : s_FI_hasSignOf j0 j1 M = some out) : Ci l x y_FI_hasSignOf (Cond.code y_FI_hasSignOf b_FI_hasSignOf 3 (some .boolean) :: tb) r_FI_hasSignOf [.ref (x.2.1 j0), .ref (x.2.1 j1)] M out := by
  refine ofCz (cc := b_FI_hasSignOf) (maxL := 3) (by decide) rfl (rfl) (Nat.le_of_ble_eq_true rfl) ?_
  intro p e s m args below meth c Q G0 ls g hx hb hml hown hts hK hZ hP hS hl hret
  have hown : s.vm.findClass R_FI = some m.cls := hown
  have hl : lv_has ls 3 [(0, .ref (x.2.1 j0)), (1, .ref (x.2.1 j1))] := hl
  obtain ⟨H, eH⟩ : ∃ z, z = s.heap := ⟨_, rfl⟩
  obtain ⟨locs, eL⟩ : ∃ z, z = ([] : List Loc) := ⟨_, rfl⟩
  rw [← eH] at hP
  have hS : va_S (A0 x) s.heap H locs := by rw [eH, eL]; exact hS
  rw [← eL]
  have key : W p l e r_FI_hasSignOf s m args below meth c H locs 0 0 Q (F0 m 0 ls []) := by
    clear eH eL
    unfold s_FI_hasSignOf at h
    refine lv_aload_n hx hb d_FI_hasSignOf_0 rfl (lv_at hl 0 rfl) ?_
    refine gf_FI_33 hx hb hts hown hK hP k0 d_FI_hasSignOf_1 ?_
    refine lv_aload_n hx hb d_FI_hasSignOf_4 rfl (lv_at hl 1 rfl) ?_
    refine gf_FI_29 hx hb hts hown hK hP k1 d_FI_hasSignOf_5 ?_
    refine lv_icmp_ne (tgt := 33) hx hb d_FI_hasSignOf_8 rfl (fun hc => ?_) (fun hc => ?_)
    · have h := if_m hc h
      refine lv_iconst (v := (0 : Int32)) hx hb d_FI_hasSignOf_33 (by decide) ?_
      obtain rfl := Option.some.inj h
      exact hret (by decide) d_FI_hasSignOf_34 g hP hS
    · have h := if_p hc h
      refine lv_aload_n hx hb d_FI_hasSignOf_11 rfl (lv_at hl 0 rfl) ?_
      refine gf_FI_39 hx hb hts hown hK hP k0 d_FI_hasSignOf_12 ?_
      refine lv_aload_n hx hb d_FI_hasSignOf_15 rfl (lv_at hl 1 rfl) ?_
      refine gf_FI_36 hx hb hts hown hK hP k1 d_FI_hasSignOf_16 ?_
      refine lv_icmp_ne (tgt := 33) hx hb d_FI_hasSignOf_19 rfl (fun hc => ?_) (fun hc => ?_)
      · have h := if_m hc h
        refine lv_iconst (v := (0 : Int32)) hx hb d_FI_hasSignOf_33 (by decide) ?_
        obtain rfl := Option.some.inj h
        exact hret (by decide) d_FI_hasSignOf_34 g hP hS
      · have h := if_p hc h
        refine lv_aload_n hx hb d_FI_hasSignOf_22 rfl (lv_at hl 0 rfl) ?_
        refine gf_FI_43 hx hb hts hown hK hP k0 d_FI_hasSignOf_23 ?_
        refine lv_aload_n hx hb d_FI_hasSignOf_26 rfl (lv_at hl 1 rfl) ?_
        refine gf_FI_40 hx hb hts hown hK hP k1 d_FI_hasSignOf_27 ?_
        refine lv_icmp_eq (tgt := 35) hx hb d_FI_hasSignOf_30 rfl (fun hc => ?_) (fun hc => ?_)
        · have h := if_p hc h
          refine lv_iconst (v := (0 : Int32)) hx hb d_FI_hasSignOf_35 (by decide) ?_
          obtain ⟨v21, ev21, h⟩ := nx_e h
          refine tp_i ev21 ?_
          refine lv_istore_n hx hb d_FI_hasSignOf_36 rfl hl (by decide) rfl (fun ls hl => ?_)
          have hl : lv_has ls 3 [(2, .int v21), (0, .ref (x.2.1 j0)), (1, .ref (x.2.1 j1))] := hl
          obtain ⟨P37, eP37⟩ : ∃ P : (Int32 × Mem) → Prop, P = (fun q => ∀ (H : Heap) (locs : List Loc) (ls : Array Slot), va_P x.1 vwCl (wld x (q.2)) H → va_S (A0 x) s.heap H locs → lv_has ls 3 [(0, .ref (x.2.1 j0)), (1, .ref (x.2.1 j1)), (2, .int (q.1))] → W p l e r_FI_hasSignOf s m args below meth c H locs 0 0 Q (F0 m 37 ls [])) := ⟨_, rfl⟩
          have L37 : P37 (v21, M) := by
            refine lp_walk (G := G0) ?_ h g
            intro q res h g
            obtain ⟨v22, M23⟩ := q
            rw [eP37]
            intro H locs ls hP hS hl
            have hP : va_P x.1 vwCl (wld x M23) H := hP
            have hl : lv_has ls 3 [(0, .ref (x.2.1 j0)), (1, .ref (x.2.1 j1)), (2, .int v22)] := hl
            have h : l_FI_hasSignOf_37 j0 j1 v22 M23 = some res := h
            unfold l_FI_hasSignOf_37 at h
            refine lv_iload_n hx hb d_FI_hasSignOf_37 rfl (lv_at hl 2 rfl) ?_
            refine lv_aload_n hx hb d_FI_hasSignOf_38 rfl (lv_at hl 0 rfl) ?_
            refine gf_FI_21 hx hb hts hown hK hP k0 d_FI_hasSignOf_39 ?_
            refine m_alen hx hb hK hP (ar_FI_latestFirst k0) (v := (3 : Int32)) rfl d_FI_hasSignOf_42 ?_
            refine lv_icmp_ge (tgt := 68) hx hb d_FI_hasSignOf_43 rfl (fun hc => ?_) (fun hc => ?_)
            · have h := if_p hc h
              refine lv_iconst (v := (1 : Int32)) hx hb d_FI_hasSignOf_68 (by decide) ?_
              obtain rfl := Option.some.inj h
              exact hret (by decide) d_FI_hasSignOf_69 g hP hS
            · have h := if_m hc h
              refine lv_aload_n hx hb d_FI_hasSignOf_46 rfl (lv_at hl 0 rfl) ?_
              refine gf_FI_21 hx hb hts hown hK hP k0 d_FI_hasSignOf_47 ?_
              refine lv_iload_n hx hb d_FI_hasSignOf_50 rfl (lv_at hl 2 rfl) ?_
              obtain ⟨b24, h⟩ := ck_e h
              refine m_ald hx hb hK hP (ar_FI_latestFirst k0) b24 d_FI_hasSignOf_51 ?_
              refine lv_aload_n hx hb d_FI_hasSignOf_52 rfl (lv_at hl 1 rfl) ?_
              refine lv_iload_n hx hb d_FI_hasSignOf_53 rfl (lv_at hl 2 rfl) ?_
              obtain ⟨r27, M25, c26, h⟩ := bi_e h
              refine cl_FI_44 (rest := [.int (M23 (j0 + 1) v22.toNatClampNeg)]) (R := r_FI_hasSignOf) (c_RU_onStack l x hJ j1 k1 v22 c26) k1 hx hb hml hts hown hK hZ hP hS hl.1 (Nat.le_of_ble_eq_true rfl) (Nat.le_of_ble_eq_true rfl) (Nat.le_of_ble_eq_true rfl) ⟨rfl, rfl, Nat.zero_le _, Nat.zero_le _⟩ d_FI_hasSignOf_54 (fun H locs hP hS => ?_)
              refine lv_icmp_eq (tgt := 62) hx hb d_FI_hasSignOf_57 rfl (fun hc => ?_) (fun hc => ?_)
              · have h := if_p hc h
                obtain ⟨v28, ev28, h⟩ := nx_e h
                refine lv_iinc (k := 2) hx hb d_FI_hasSignOf_62 hl rfl (iinc_v (k := (1 : Int32)) (by decide) ev28) (by decide) rfl (fun ls hl => ?_)
                have hl : lv_has ls 3 [(2, .int v28), (0, .ref (x.2.1 j0)), (1, .ref (x.2.1 j1))] := hl
                refine lv_goto (tgt := 37) hx hb d_FI_hasSignOf_65 rfl ?_
                obtain rfl := Option.some.inj h
                have g : P37 (v28, M25) := g
                rw [eP37] at g
                exact g H locs ls hP hS (lv_sub hl [1, 2, 0] rfl)
              · have h := if_m hc h
                refine lv_iconst (v := (0 : Int32)) hx hb d_FI_hasSignOf_60 (by decide) ?_
                obtain rfl := Option.some.inj h
                exact hret (by decide) d_FI_hasSignOf_61 g hP hS
          rw [eP37] at L37
          exact L37 H locs ls hP hS (lv_sub hl [1, 2, 0] rfl)
        · have h := if_m hc h
          refine lv_iconst (v := (0 : Int32)) hx hb d_FI_hasSignOf_33 (by decide) ?_
          obtain rfl := Option.some.inj h
          exact hret (by decide) d_FI_hasSignOf_34 g hP hS
  rw [eH] at key
  exact key
theorem d_FS_countHit_0 : decode b_FS_countHit 0 = .ok (.iconst 0, 1) := by decide +kernel
theorem d_FS_countHit_1 : decode b_FS_countHit 1 = .ok (.istore_n 2, 1) := by decide +kernel
theorem d_FS_countHit_2 : decode b_FS_countHit 2 = .ok (.iload_n 2, 1) := by decide +kernel
theorem d_FS_countHit_3 : decode b_FS_countHit 3 = .ok (.aload_n 0, 1) := by decide +kernel
theorem d_FS_countHit_4 : decode b_FS_countHit 4 = .ok (.getfield 16, 3) := by decide +kernel
theorem d_FS_countHit_7 : decode b_FS_countHit 7 = .ok (.if_icmp .ge 39, 3) := by decide +kernel
theorem d_FS_countHit_10 : decode b_FS_countHit 10 = .ok (.aload_n 0, 1) := by decide +kernel
theorem d_FS_countHit_11 : decode b_FS_countHit 11 = .ok (.getfield 11, 3) := by decide +kernel
theorem d_FS_countHit_14 : decode b_FS_countHit 14 = .ok (.iload_n 2, 1) := by decide +kernel
theorem d_FS_countHit_15 : decode b_FS_countHit 15 = .ok (.aaload, 1) := by decide +kernel
theorem d_FS_countHit_16 : decode b_FS_countHit 16 = .ok (.aload_n 1, 1) := by decide +kernel
theorem d_FS_countHit_17 : decode b_FS_countHit 17 = .ok (.invokevirtual 20, 3) := by decide +kernel
theorem d_FS_countHit_20 : decode b_FS_countHit 20 = .ok (.ifCond .eq 20, 3) := by decide +kernel
theorem d_FS_countHit_23 : decode b_FS_countHit 23 = .ok (.aload_n 0, 1) := by decide +kernel
theorem d_FS_countHit_24 : decode b_FS_countHit 24 = .ok (.getfield 11, 3) := by decide +kernel
theorem d_FS_countHit_27 : decode b_FS_countHit 27 = .ok (.iload_n 2, 1) := by decide +kernel
theorem d_FS_countHit_28 : decode b_FS_countHit 28 = .ok (.aaload, 1) := by decide +kernel
theorem d_FS_countHit_29 : decode b_FS_countHit 29 = .ok (.dup, 1) := by decide +kernel
theorem d_FS_countHit_30 : decode b_FS_countHit 30 = .ok (.getfield 24, 3) := by decide +kernel
theorem d_FS_countHit_33 : decode b_FS_countHit 33 = .ok (.iconst 1, 1) := by decide +kernel
theorem d_FS_countHit_34 : decode b_FS_countHit 34 = .ok (.iadd, 1) := by decide +kernel
theorem d_FS_countHit_35 : decode b_FS_countHit 35 = .ok (.putfield 24, 3) := by decide +kernel
theorem d_FS_countHit_38 : decode b_FS_countHit 38 = .ok (.iconst 1, 1) := by decide +kernel
theorem d_FS_countHit_39 : decode b_FS_countHit 39 = .ok (.ireturn, 1) := by decide +kernel
theorem d_FS_countHit_40 : decode b_FS_countHit 40 = .ok (.iinc 2 1, 3) := by decide +kernel
theorem d_FS_countHit_43 : decode b_FS_countHit 43 = .ok (.goto (-41), 3) := by decide +kernel
theorem d_FS_countHit_46 : decode b_FS_countHit 46 = .ok (.iconst 0, 1) := by decide +kernel
theorem d_FS_countHit_47 : decode b_FS_countHit 47 = .ok (.ireturn, 1) := by decide +kernel
noncomputable def j_FS_countHit_23 (a21 : Int32) (M22 : Mem) : Option (Int32 × Mem) :=
  ck a21 8 (nx (st M22 (138 + 2 * a21.toNatClampNeg) 6 ((M22 (138 + 2 * a21.toNatClampNeg) 6) + (1 : Int32))) (fun M24 => some ((1 : Int32), M24)))
noncomputable def l_FS_countHit_2 (j1 : Nat) (v26 : Int32) (M27 : Mem) : Option ((Int32 × Mem) ⊕ (Int32 × Mem)) :=
  if (M27 9 1) ≤ v26 then (some (.inr ((0 : Int32), M27))) else (ck v26 8 (bi (s_FI_hasSignOf (138 + 2 * v26.toNatClampNeg) j1 M27) (fun r31 M29 => if r31 = 0 then (nx (v26 + (1 : Int32)) (fun v32 => some (.inl (v32, M29)))) else (jw1 (j_FS_countHit_23 v26 M29)))))
noncomputable def s_FS_countHit (j1 : Nat) (M : Mem) : Option (Int32 × Mem) :=
  nx ((0 : Int32)) (fun v25 => lp (fun q : Int32 × Mem => l_FS_countHit_2 j1 q.1 q.2) (v25, M))
set_option maxHeartbeats 4000000 in
set_option maxRecDepth 100000 in
theorem c_FS_countHit (l : Launch) (x : Cx) (hJ : Inj x) (j1 : Nat) (k1 : kd_run j1) {M : Mem} {out : Int32 × Mem} (h : s_FS_countHit j1 M = some out) : Ci l x y_FS_countHit (Cond.code y_FS_countHit b_FS_countHit 3 (some .boolean) :: tb) r_FS_countHit [.ref (x.2.1 9), .ref (x.2.1 j1)] M out := by
  refine ofCz (cc := b_FS_countHit) (maxL := 3) (by decide) rfl (rfl) (Nat.le_of_ble_eq_true rfl) ?_
  intro p e s m args below meth c Q G0 ls g hx hb hml hown hts hK hZ hP hS hl hret
  have hown : s.vm.findClass R_FS = some m.cls := hown
  have hl : lv_has ls 3 [(0, .ref (x.2.1 9)), (1, .ref (x.2.1 j1))] := hl
  obtain ⟨H, eH⟩ : ∃ z, z = s.heap := ⟨_, rfl⟩
  obtain ⟨locs, eL⟩ : ∃ z, z = ([] : List Loc) := ⟨_, rfl⟩
  rw [← eH] at hP
  have hS : va_S (A0 x) s.heap H locs := by rw [eH, eL]; exact hS
  rw [← eL]
  have key : W p l e r_FS_countHit s m args below meth c H locs 0 0 Q (F0 m 0 ls []) := by
    clear eH eL
    unfold s_FS_countHit at h
    have J23 : ∀ (a21 : Int32) (M22 : Mem)  (res : Int32 × Mem) (h : j_FS_countHit_23 a21 M22 = some res) (g : G0 res) (H : Heap) (locs : List Loc) (ls : Array Slot) (hP : va_P x.1 vwCl (wld x M22) H) (hS : va_S (A0 x) s.heap H locs) (hl : lv_has ls 3 [(0, .ref (x.2.1 9)), (2, .int a21)]), W p l e r_FS_countHit s m args below meth c H locs 0 0 Q (F0 m 23 ls []) := by
      intro a21 M22 res h g H locs ls hP hS hl
      unfold j_FS_countHit_23 at h
      refine lv_aload_n hx hb d_FS_countHit_23 rfl (lv_at hl 0 rfl) ?_
      refine gf_FS_11 hx hb hts hown hK hP d_FS_countHit_24 ?_
      refine lv_iload_n hx hb d_FS_countHit_27 rfl (lv_at hl 1 rfl) ?_
      obtain ⟨b23, h⟩ := ck_e h
      refine m_aaF hx hb hK hP b23 d_FS_countHit_28 ?_
      refine lv_dup hx hb d_FS_countHit_29 rfl ?_
      refine gf_FS_24 hx hb hts hown hK hP (kd_fi_at b23) d_FS_countHit_30 ?_
      refine lv_iconst (v := (1 : Int32)) hx hb d_FS_countHit_33 (by decide) ?_
      refine lv_iadd hx hb d_FS_countHit_34 ?_
      obtain ⟨M24, eM24, h⟩ := nx_e h
      refine pf_FS_24 hx hb hts hown hK hJ hP hS (kd_fi_at b23) eM24 d_FS_countHit_35 (fun H locs hP hS => ?_)
      refine lv_iconst (v := (1 : Int32)) hx hb d_FS_countHit_38 (by decide) ?_
      obtain rfl := Option.some.inj h
      exact hret (by decide) d_FS_countHit_39 g hP hS
    refine lv_iconst (v := (0 : Int32)) hx hb d_FS_countHit_0 (by decide) ?_
    obtain ⟨v25, ev25, h⟩ := nx_e h
    refine tp_i ev25 ?_
    refine lv_istore_n hx hb d_FS_countHit_1 rfl hl (by decide) rfl (fun ls hl => ?_)
    have hl : lv_has ls 3 [(2, .int v25), (0, .ref (x.2.1 9)), (1, .ref (x.2.1 j1))] := hl
    obtain ⟨P2, eP2⟩ : ∃ P : (Int32 × Mem) → Prop, P = (fun q => ∀ (H : Heap) (locs : List Loc) (ls : Array Slot), va_P x.1 vwCl (wld x (q.2)) H → va_S (A0 x) s.heap H locs → lv_has ls 3 [(0, .ref (x.2.1 9)), (1, .ref (x.2.1 j1)), (2, .int (q.1))] → W p l e r_FS_countHit s m args below meth c H locs 0 0 Q (F0 m 2 ls [])) := ⟨_, rfl⟩
    have L2 : P2 (v25, M) := by
      refine lp_walk (G := G0) ?_ h g
      intro q res h g
      obtain ⟨v26, M27⟩ := q
      rw [eP2]
      intro H locs ls hP hS hl
      have hP : va_P x.1 vwCl (wld x M27) H := hP
      have hl : lv_has ls 3 [(0, .ref (x.2.1 9)), (1, .ref (x.2.1 j1)), (2, .int v26)] := hl
      have h : l_FS_countHit_2 j1 v26 M27 = some res := h
      unfold l_FS_countHit_2 at h
      refine lv_iload_n hx hb d_FS_countHit_2 rfl (lv_at hl 2 rfl) ?_
      refine lv_aload_n hx hb d_FS_countHit_3 rfl (lv_at hl 0 rfl) ?_
      refine gf_FS_16 hx hb hts hown hK hP d_FS_countHit_4 ?_
      refine lv_icmp_ge (tgt := 46) hx hb d_FS_countHit_7 rfl (fun hc => ?_) (fun hc => ?_)
      · have h := if_p hc h
        refine lv_iconst (v := (0 : Int32)) hx hb d_FS_countHit_46 (by decide) ?_
        obtain rfl := Option.some.inj h
        exact hret (by decide) d_FS_countHit_47 g hP hS
      · have h := if_m hc h
        refine lv_aload_n hx hb d_FS_countHit_10 rfl (lv_at hl 0 rfl) ?_
        refine gf_FS_11 hx hb hts hown hK hP d_FS_countHit_11 ?_
        refine lv_iload_n hx hb d_FS_countHit_14 rfl (lv_at hl 2 rfl) ?_
        obtain ⟨b28, h⟩ := ck_e h
        refine m_aaF hx hb hK hP b28 d_FS_countHit_15 ?_
        refine lv_aload_n hx hb d_FS_countHit_16 rfl (lv_at hl 1 rfl) ?_
        obtain ⟨r31, M29, c30, h⟩ := bi_e h
        refine cl_FS_20 (rest := []) (R := r_FS_countHit) (c_FI_hasSignOf l x hJ (138 + 2 * v26.toNatClampNeg) (kd_fi_at b28) j1 k1 c30) (kd_fi_at b28) hx hb hml hts hown hK hZ hP hS hl.1 (Nat.le_of_ble_eq_true rfl) (Nat.le_of_ble_eq_true rfl) (Nat.le_of_ble_eq_true rfl) ⟨rfl, rfl, Nat.zero_le _, Nat.zero_le _⟩ d_FS_countHit_17 (fun H locs hP hS => ?_)
        refine lv_if_eq (tgt := 40) hx hb d_FS_countHit_20 rfl (fun hc => ?_) (fun hc => ?_)
        · have h := if_p hc h
          obtain ⟨v32, ev32, h⟩ := nx_e h
          refine lv_iinc (k := 2) hx hb d_FS_countHit_40 hl rfl (iinc_v (k := (1 : Int32)) (by decide) ev32) (by decide) rfl (fun ls hl => ?_)
          have hl : lv_has ls 3 [(2, .int v32), (0, .ref (x.2.1 9)), (1, .ref (x.2.1 j1))] := hl
          refine lv_goto (tgt := 2) hx hb d_FS_countHit_43 rfl ?_
          obtain rfl := Option.some.inj h
          have g : P2 (v32, M29) := g
          rw [eP2] at g
          exact g H locs ls hP hS (lv_sub hl [1, 2, 0] rfl)
        · have h := if_m hc h
          obtain ⟨res2, hres, h2⟩ := jw1_e h
          clear h
          subst hres
          have h := h2
          exact J23 v26 M29 _ h g H locs ls hP hS (lv_sub hl [0, 2] rfl)
    rw [eP2] at L2
    exact L2 H locs ls hP hS (lv_sub hl [1, 2, 0] rfl)
  rw [eH] at key
  exact key
theorem d_FI_begin_0 : decode b_FI_begin 0 = .ok (.aload_n 0, 1) := by decide +kernel
theorem d_FI_begin_1 : decode b_FI_begin 1 = .ok (.getfield 10, 3) := by decide +kernel
theorem d_FI_begin_4 : decode b_FI_begin 4 = .ok (.aload_n 1, 1) := by decide +kernel
theorem d_FI_begin_5 : decode b_FI_begin 5 = .ok (.invokevirtual 25, 3) := by decide +kernel
theorem d_FI_begin_8 : decode b_FI_begin 8 = .ok (.aload_n 0, 1) := by decide +kernel
theorem d_FI_begin_9 : decode b_FI_begin 9 = .ok (.getfield 16, 3) := by decide +kernel
theorem d_FI_begin_12 : decode b_FI_begin 12 = .ok (.aload_n 1, 1) := by decide +kernel
theorem d_FI_begin_13 : decode b_FI_begin 13 = .ok (.invokevirtual 25, 3) := by decide +kernel
theorem d_FI_begin_16 : decode b_FI_begin 16 = .ok (.aload_n 0, 1) := by decide +kernel
theorem d_FI_begin_17 : decode b_FI_begin 17 = .ok (.aload_n 2, 1) := by decide +kernel
theorem d_FI_begin_18 : decode b_FI_begin 18 = .ok (.getfield 29, 3) := by decide +kernel
theorem d_FI_begin_21 : decode b_FI_begin 21 = .ok (.putfield 33, 3) := by decide +kernel
theorem d_FI_begin_24 : decode b_FI_begin 24 = .ok (.aload_n 0, 1) := by decide +kernel
theorem d_FI_begin_25 : decode b_FI_begin 25 = .ok (.aload_n 2, 1) := by decide +kernel
theorem d_FI_begin_26 : decode b_FI_begin 26 = .ok (.getfield 36, 3) := by decide +kernel
theorem d_FI_begin_29 : decode b_FI_begin 29 = .ok (.putfield 39, 3) := by decide +kernel
theorem d_FI_begin_32 : decode b_FI_begin 32 = .ok (.aload_n 0, 1) := by decide +kernel
theorem d_FI_begin_33 : decode b_FI_begin 33 = .ok (.aload_n 2, 1) := by decide +kernel
theorem d_FI_begin_34 : decode b_FI_begin 34 = .ok (.getfield 40, 3) := by decide +kernel
theorem d_FI_begin_37 : decode b_FI_begin 37 = .ok (.putfield 43, 3) := by decide +kernel
theorem d_FI_begin_40 : decode b_FI_begin 40 = .ok (.iconst 0, 1) := by decide +kernel
theorem d_FI_begin_41 : decode b_FI_begin 41 = .ok (.istore_n 3, 1) := by decide +kernel
theorem d_FI_begin_42 : decode b_FI_begin 42 = .ok (.iload_n 3, 1) := by decide +kernel
theorem d_FI_begin_43 : decode b_FI_begin 43 = .ok (.aload_n 0, 1) := by decide +kernel
theorem d_FI_begin_44 : decode b_FI_begin 44 = .ok (.getfield 21, 3) := by decide +kernel
theorem d_FI_begin_47 : decode b_FI_begin 47 = .ok (.arraylength, 1) := by decide +kernel
theorem d_FI_begin_48 : decode b_FI_begin 48 = .ok (.if_icmp .ge 20, 3) := by decide +kernel
theorem d_FI_begin_51 : decode b_FI_begin 51 = .ok (.aload_n 0, 1) := by decide +kernel
theorem d_FI_begin_52 : decode b_FI_begin 52 = .ok (.getfield 21, 3) := by decide +kernel
theorem d_FI_begin_55 : decode b_FI_begin 55 = .ok (.iload_n 3, 1) := by decide +kernel
theorem d_FI_begin_56 : decode b_FI_begin 56 = .ok (.aload_n 2, 1) := by decide +kernel
theorem d_FI_begin_57 : decode b_FI_begin 57 = .ok (.iload_n 3, 1) := by decide +kernel
theorem d_FI_begin_58 : decode b_FI_begin 58 = .ok (.invokevirtual 44, 3) := by decide +kernel
theorem d_FI_begin_61 : decode b_FI_begin 61 = .ok (.iastore, 1) := by decide +kernel
theorem d_FI_begin_62 : decode b_FI_begin 62 = .ok (.iinc 3 1, 3) := by decide +kernel
theorem d_FI_begin_65 : decode b_FI_begin 65 = .ok (.goto (-23), 3) := by decide +kernel
theorem d_FI_begin_68 : decode b_FI_begin 68 = .ok (.aload_n 0, 1) := by decide +kernel
theorem d_FI_begin_69 : decode b_FI_begin 69 = .ok (.iconst 1, 1) := by decide +kernel
theorem d_FI_begin_70 : decode b_FI_begin 70 = .ok (.putfield 48, 3) := by decide +kernel
theorem d_FI_begin_73 : decode b_FI_begin 73 = .ok (.return_, 1) := by decide +kernel
noncomputable def l_FI_begin_42 (j0 : Nat) (j2 : Nat) (v29 : Int32) (M30 : Mem) : Option ((Int32 × Mem) ⊕ (Mem)) :=
  if (3 : Int32) ≤ v29 then (nx (st M30 j0 6 (1 : Int32)) (fun M31 => some (.inr M31))) else (bi (s_RU_onStack j2 v29 M30) (fun r34 M32 => ck v29 3 (nx (st M32 (j0 + 1) v29.toNatClampNeg r34) (fun M36 => nx (v29 + (1 : Int32)) (fun v37 => some (.inl (v37, M36)))))))
noncomputable def s_FI_begin (j0 : Nat) (j1 : Nat) (j2 : Nat) (M : Mem) : Option (Mem) :=
  bv (s_IN_copy (2 * j0 - 186) j1 M) (fun M21 => bv (s_IN_copy (2 * j0 - 184) j1 M21) (fun M23 => nx (st M23 j0 3 (M23 j2 10)) (fun M25 => nx (st M25 j0 4 (M25 j2 8)) (fun M26 => nx (st M26 j0 5 (M26 j2 6)) (fun M27 => nx ((0 : Int32)) (fun v28 => lp (fun q : Int32 × Mem => l_FI_begin_42 j0 j2 q.1 q.2) (v28, M27)))))))
set_option maxHeartbeats 4000000 in
set_option maxRecDepth 100000 in
theorem c_FI_begin (l : Launch) (x : Cx) (hJ : Inj x) (j0 : Nat) (k0 : kd_fi j0) (j1 : Nat) (k1 : kd_in j1) (j2 : Nat) (k2 : kd_run j2) {M : Mem} {out : Mem} (h : s_FI_begin j0 j1 j2 M = some out) : Cv l x y_FI_begin (Cond.code y_FI_begin b_FI_begin 4 none :: tb) r_FI_begin [.ref (x.2.1 j0), .ref (x.2.1 j1), .ref (x.2.1 j2)] M out := by
  refine ofCv (cc := b_FI_begin) (maxL := 4) (by decide) rfl (rfl) (Nat.le_of_ble_eq_true rfl) ?_
  intro p e s m args below meth c Q G0 ls g hx hb hml hown hts hK hZ hP hS hl hret
  have hown : s.vm.findClass R_FI = some m.cls := hown
  have hl : lv_has ls 4 [(0, .ref (x.2.1 j0)), (1, .ref (x.2.1 j1)), (2, .ref (x.2.1 j2))] := hl
  obtain ⟨H, eH⟩ : ∃ z, z = s.heap := ⟨_, rfl⟩
  obtain ⟨locs, eL⟩ : ∃ z, z = ([] : List Loc) := ⟨_, rfl⟩
  rw [← eH] at hP
  have hS : va_S (A0 x) s.heap H locs := by rw [eH, eL]; exact hS
  rw [← eL]
  have key : W p l e r_FI_begin s m args below meth c H locs 0 0 Q (F0 m 0 ls []) := by
    clear eH eL
    unfold s_FI_begin at h
    refine lv_aload_n hx hb d_FI_begin_0 rfl (lv_at hl 0 rfl) ?_
    refine gf_FI_10 hx hb hts hown hK hP k0 d_FI_begin_1 ?_
    refine lv_aload_n hx hb d_FI_begin_4 rfl (lv_at hl 1 rfl) ?_
    obtain ⟨M21, c22, h⟩ := bv_e h
    refine cl_FI_25 (rest := []) (R := r_FI_begin) (c_IN_copy l x hJ (2 * j0 - 186) (kd_FI_input k0) j1 k1 c22) (kd_FI_input k0) hx hb hml hts hown hK hZ hP hS hl.1 (Nat.le_of_ble_eq_true rfl) (Nat.le_of_ble_eq_true rfl) (Nat.le_of_ble_eq_true rfl) ⟨rfl, rfl, Nat.zero_le _, Nat.zero_le _⟩ d_FI_begin_5 (fun H locs hP hS => ?_)
    refine lv_aload_n hx hb d_FI_begin_8 rfl (lv_at hl 0 rfl) ?_
    refine gf_FI_16 hx hb hts hown hK hP k0 d_FI_begin_9 ?_
    refine lv_aload_n hx hb d_FI_begin_12 rfl (lv_at hl 1 rfl) ?_
    obtain ⟨M23, c24, h⟩ := bv_e h
    refine cl_FI_25 (rest := []) (R := r_FI_begin) (c_IN_copy l x hJ (2 * j0 - 184) (kd_FI_shortest k0) j1 k1 c24) (kd_FI_shortest k0) hx hb hml hts hown hK hZ hP hS hl.1 (Nat.le_of_ble_eq_true rfl) (Nat.le_of_ble_eq_true rfl) (Nat.le_of_ble_eq_true rfl) ⟨rfl, rfl, Nat.zero_le _, Nat.zero_le _⟩ d_FI_begin_13 (fun H locs hP hS => ?_)
    refine lv_aload_n hx hb d_FI_begin_16 rfl (lv_at hl 0 rfl) ?_
    refine lv_aload_n hx hb d_FI_begin_17 rfl (lv_at hl 2 rfl) ?_
    refine gf_FI_29 hx hb hts hown hK hP k2 d_FI_begin_18 ?_
    obtain ⟨M25, eM25, h⟩ := nx_e h
    refine pf_FI_33 hx hb hts hown hK hJ hP hS k0 eM25 d_FI_begin_21 (fun H locs hP hS => ?_)
    refine lv_aload_n hx hb d_FI_begin_24 rfl (lv_at hl 0 rfl) ?_
    refine lv_aload_n hx hb d_FI_begin_25 rfl (lv_at hl 2 rfl) ?_
    refine gf_FI_36 hx hb hts hown hK hP k2 d_FI_begin_26 ?_
    obtain ⟨M26, eM26, h⟩ := nx_e h
    refine pf_FI_39 hx hb hts hown hK hJ hP hS k0 eM26 d_FI_begin_29 (fun H locs hP hS => ?_)
    refine lv_aload_n hx hb d_FI_begin_32 rfl (lv_at hl 0 rfl) ?_
    refine lv_aload_n hx hb d_FI_begin_33 rfl (lv_at hl 2 rfl) ?_
    refine gf_FI_40 hx hb hts hown hK hP k2 d_FI_begin_34 ?_
    obtain ⟨M27, eM27, h⟩ := nx_e h
    refine pf_FI_43 hx hb hts hown hK hJ hP hS k0 eM27 d_FI_begin_37 (fun H locs hP hS => ?_)
    refine lv_iconst (v := (0 : Int32)) hx hb d_FI_begin_40 (by decide) ?_
    obtain ⟨v28, ev28, h⟩ := nx_e h
    refine tp_i ev28 ?_
    refine lv_istore_n hx hb d_FI_begin_41 rfl hl (by decide) rfl (fun ls hl => ?_)
    have hl : lv_has ls 4 [(3, .int v28), (0, .ref (x.2.1 j0)), (1, .ref (x.2.1 j1)), (2, .ref (x.2.1 j2))] := hl
    obtain ⟨P42, eP42⟩ : ∃ P : (Int32 × Mem) → Prop, P = (fun q => ∀ (H : Heap) (locs : List Loc) (ls : Array Slot), va_P x.1 vwCl (wld x (q.2)) H → va_S (A0 x) s.heap H locs → lv_has ls 4 [(0, .ref (x.2.1 j0)), (2, .ref (x.2.1 j2)), (3, .int (q.1))] → W p l e r_FI_begin s m args below meth c H locs 0 0 Q (F0 m 42 ls [])) := ⟨_, rfl⟩
    have L42 : P42 (v28, M27) := by
      refine lp_walk (G := G0) ?_ h g
      intro q res h g
      obtain ⟨v29, M30⟩ := q
      rw [eP42]
      intro H locs ls hP hS hl
      have hP : va_P x.1 vwCl (wld x M30) H := hP
      have hl : lv_has ls 4 [(0, .ref (x.2.1 j0)), (2, .ref (x.2.1 j2)), (3, .int v29)] := hl
      have h : l_FI_begin_42 j0 j2 v29 M30 = some res := h
      unfold l_FI_begin_42 at h
      refine lv_iload_n hx hb d_FI_begin_42 rfl (lv_at hl 2 rfl) ?_
      refine lv_aload_n hx hb d_FI_begin_43 rfl (lv_at hl 0 rfl) ?_
      refine gf_FI_21 hx hb hts hown hK hP k0 d_FI_begin_44 ?_
      refine m_alen hx hb hK hP (ar_FI_latestFirst k0) (v := (3 : Int32)) rfl d_FI_begin_47 ?_
      refine lv_icmp_ge (tgt := 68) hx hb d_FI_begin_48 rfl (fun hc => ?_) (fun hc => ?_)
      · have h := if_p hc h
        refine lv_aload_n hx hb d_FI_begin_68 rfl (lv_at hl 0 rfl) ?_
        refine lv_iconst (v := (1 : Int32)) hx hb d_FI_begin_69 (by decide) ?_
        obtain ⟨M31, eM31, h⟩ := nx_e h
        refine pf_FI_48 hx hb hts hown hK hJ hP hS k0 eM31 d_FI_begin_70 (fun H locs hP hS => ?_)
        obtain rfl := Option.some.inj h
        exact hret d_FI_begin_73 g hP hS
      · have h := if_m hc h
        refine lv_aload_n hx hb d_FI_begin_51 rfl (lv_at hl 0 rfl) ?_
        refine gf_FI_21 hx hb hts hown hK hP k0 d_FI_begin_52 ?_
        refine lv_iload_n hx hb d_FI_begin_55 rfl (lv_at hl 2 rfl) ?_
        refine lv_aload_n hx hb d_FI_begin_56 rfl (lv_at hl 1 rfl) ?_
        refine lv_iload_n hx hb d_FI_begin_57 rfl (lv_at hl 2 rfl) ?_
        obtain ⟨r34, M32, c33, h⟩ := bi_e h
        refine cl_FI_44 (rest := [.int v29, .ref (x.2.1 (j0 + 1))]) (R := r_FI_begin) (c_RU_onStack l x hJ j2 k2 v29 c33) k2 hx hb hml hts hown hK hZ hP hS hl.1 (Nat.le_of_ble_eq_true rfl) (Nat.le_of_ble_eq_true rfl) (Nat.le_of_ble_eq_true rfl) ⟨rfl, rfl, Nat.zero_le _, Nat.zero_le _⟩ d_FI_begin_58 (fun H locs hP hS => ?_)
        obtain ⟨b35, h⟩ := ck_e h
        obtain ⟨M36, eM36, h⟩ := nx_e h
        refine m_ast hx hb hK hJ hP hS (ar_FI_latestFirst k0) b35 eM36 d_FI_begin_61 (fun H locs hP hS => ?_)
        obtain ⟨v37, ev37, h⟩ := nx_e h
        refine lv_iinc (k := 2) hx hb d_FI_begin_62 hl rfl (iinc_v (k := (1 : Int32)) (by decide) ev37) (by decide) rfl (fun ls hl => ?_)
        have hl : lv_has ls 4 [(3, .int v37), (0, .ref (x.2.1 j0)), (2, .ref (x.2.1 j2))] := hl
        refine lv_goto (tgt := 42) hx hb d_FI_begin_65 rfl ?_
        obtain rfl := Option.some.inj h
        have g : P42 (v37, M36) := g
        rw [eP42] at g
        exact g H locs ls hP hS (lv_sub hl [1, 2, 0] rfl)
    rw [eP42] at L42
    exact L42 H locs ls hP hS (lv_sub hl [1, 3, 0] rfl)
  rw [eH] at key
  exact key
theorem d_FS_begin_0 : decode b_FS_begin 0 = .ok (.aload_n 0, 1) := by decide +kernel
theorem d_FS_begin_1 : decode b_FS_begin 1 = .ok (.getfield 16, 3) := by decide +kernel
theorem d_FS_begin_4 : decode b_FS_begin 4 = .ok (.bipush 8, 2) := by decide +kernel
theorem d_FS_begin_6 : decode b_FS_begin 6 = .ok (.if_icmp .lt 5, 3) := by decide +kernel
theorem d_FS_begin_9 : decode b_FS_begin 9 = .ok (.aconst_null, 1) := by decide +kernel
theorem d_FS_begin_10 : decode b_FS_begin 10 = .ok (.areturn, 1) := by decide +kernel
theorem d_FS_begin_11 : decode b_FS_begin 11 = .ok (.aload_n 0, 1) := by decide +kernel
theorem d_FS_begin_12 : decode b_FS_begin 12 = .ok (.getfield 11, 3) := by decide +kernel
theorem d_FS_begin_15 : decode b_FS_begin 15 = .ok (.aload_n 0, 1) := by decide +kernel
theorem d_FS_begin_16 : decode b_FS_begin 16 = .ok (.getfield 16, 3) := by decide +kernel
theorem d_FS_begin_19 : decode b_FS_begin 19 = .ok (.aaload, 1) := by decide +kernel
theorem d_FS_begin_20 : decode b_FS_begin 20 = .ok (.astore_n 3, 1) := by decide +kernel
theorem d_FS_begin_21 : decode b_FS_begin 21 = .ok (.aload_n 3, 1) := by decide +kernel
theorem d_FS_begin_22 : decode b_FS_begin 22 = .ok (.aload_n 1, 1) := by decide +kernel
theorem d_FS_begin_23 : decode b_FS_begin 23 = .ok (.aload_n 2, 1) := by decide +kernel
theorem d_FS_begin_24 : decode b_FS_begin 24 = .ok (.invokevirtual 27, 3) := by decide +kernel
theorem d_FS_begin_27 : decode b_FS_begin 27 = .ok (.aload_n 0, 1) := by decide +kernel
theorem d_FS_begin_28 : decode b_FS_begin 28 = .ok (.dup, 1) := by decide +kernel
theorem d_FS_begin_29 : decode b_FS_begin 29 = .ok (.getfield 16, 3) := by decide +kernel
theorem d_FS_begin_32 : decode b_FS_begin 32 = .ok (.iconst 1, 1) := by decide +kernel
theorem d_FS_begin_33 : decode b_FS_begin 33 = .ok (.iadd, 1) := by decide +kernel
theorem d_FS_begin_34 : decode b_FS_begin 34 = .ok (.putfield 16, 3) := by decide +kernel
theorem d_FS_begin_37 : decode b_FS_begin 37 = .ok (.aload_n 3, 1) := by decide +kernel
theorem d_FS_begin_38 : decode b_FS_begin 38 = .ok (.areturn, 1) := by decide +kernel
noncomputable def s_FS_begin (j1 : Nat) (j2 : Nat) (M : Mem) : Option (Option Nat × Mem) :=
  if (M 9 1) < (8 : Int32) then (ck (M 9 1) 8 (nx (138 + 2 * (M 9 1).toNatClampNeg) (fun j22 => bv (s_FI_begin j22 j1 j2 M) (fun M23 => nx (st M23 9 1 ((M23 9 1) + (1 : Int32))) (fun M25 => some ((some j22 : Option Nat), M25)))))) else (some ((none : Option Nat), M))
set_option maxHeartbeats 4000000 in
set_option maxRecDepth 100000 in
theorem c_FS_begin (l : Launch) (x : Cx) (hJ : Inj x) (j1 : Nat) (k1 : kd_in j1) (j2 : Nat) (k2 : kd_run j2) {M : Mem} {out : Option Nat × Mem} (h : s_FS_begin j1 j2 M = some out) : Cq l x y_FS_begin (Cond.code y_FS_begin b_FS_begin 4 (some (.object "EdgeCampaign$Finding")) :: tb) r_FS_begin [.ref (x.2.1 9), .ref (x.2.1 j1), .ref (x.2.1 j2)] M out := by
  refine ofCq (cc := b_FS_begin) (maxL := 4) (by decide) rfl (rfl) (Nat.le_of_ble_eq_true rfl) ?_
  intro p e s m args below meth c Q G0 ls g hx hb hml hown hts hK hZ hP hS hl hret
  have hown : s.vm.findClass R_FS = some m.cls := hown
  have hl : lv_has ls 4 [(0, .ref (x.2.1 9)), (1, .ref (x.2.1 j1)), (2, .ref (x.2.1 j2))] := hl
  obtain ⟨H, eH⟩ : ∃ z, z = s.heap := ⟨_, rfl⟩
  obtain ⟨locs, eL⟩ : ∃ z, z = ([] : List Loc) := ⟨_, rfl⟩
  rw [← eH] at hP
  have hS : va_S (A0 x) s.heap H locs := by rw [eH, eL]; exact hS
  rw [← eL]
  have key : W p l e r_FS_begin s m args below meth c H locs 0 0 Q (F0 m 0 ls []) := by
    clear eH eL
    unfold s_FS_begin at h
    refine lv_aload_n hx hb d_FS_begin_0 rfl (lv_at hl 0 rfl) ?_
    refine gf_FS_16 hx hb hts hown hK hP d_FS_begin_1 ?_
    refine lv_bipush (v := (8 : Int32)) hx hb d_FS_begin_4 (by decide) ?_
    refine lv_icmp_lt (tgt := 11) hx hb d_FS_begin_6 rfl (fun hc => ?_) (fun hc => ?_)
    · have h := if_p hc h
      refine lv_aload_n hx hb d_FS_begin_11 rfl (lv_at hl 0 rfl) ?_
      refine gf_FS_11 hx hb hts hown hK hP d_FS_begin_12 ?_
      refine lv_aload_n hx hb d_FS_begin_15 rfl (lv_at hl 0 rfl) ?_
      refine gf_FS_16 hx hb hts hown hK hP d_FS_begin_16 ?_
      obtain ⟨b21, h⟩ := ck_e h
      refine m_aaF hx hb hK hP b21 d_FS_begin_19 ?_
      obtain ⟨j22, ej22, h⟩ := nx_e h
      have kj22 : kd_fi j22 := by rw [ej22]; exact kd_fi_at b21
      refine tp_r ej22 ?_
      refine lv_astore_n hx hb d_FS_begin_20 rfl hl (by decide) rfl (fun ls hl => ?_)
      have hl : lv_has ls 4 [(3, .ref (x.2.1 j22)), (0, .ref (x.2.1 9)), (1, .ref (x.2.1 j1)), (2, .ref (x.2.1 j2))] := hl
      refine lv_aload_n hx hb d_FS_begin_21 rfl (lv_at hl 0 rfl) ?_
      refine lv_aload_n hx hb d_FS_begin_22 rfl (lv_at hl 2 rfl) ?_
      refine lv_aload_n hx hb d_FS_begin_23 rfl (lv_at hl 3 rfl) ?_
      obtain ⟨M23, c24, h⟩ := bv_e h
      refine cl_FS_27 (rest := []) (R := r_FS_begin) (c_FI_begin l x hJ j22 kj22 j1 k1 j2 k2 c24) kj22 hx hb hml hts hown hK hZ hP hS hl.1 (Nat.le_of_ble_eq_true rfl) (Nat.le_of_ble_eq_true rfl) (Nat.le_of_ble_eq_true rfl) ⟨rfl, rfl, Nat.zero_le _, Nat.zero_le _⟩ d_FS_begin_24 (fun H locs hP hS => ?_)
      refine lv_aload_n hx hb d_FS_begin_27 rfl (lv_at hl 1 rfl) ?_
      refine lv_dup hx hb d_FS_begin_28 rfl ?_
      refine gf_FS_16 hx hb hts hown hK hP d_FS_begin_29 ?_
      refine lv_iconst (v := (1 : Int32)) hx hb d_FS_begin_32 (by decide) ?_
      refine lv_iadd hx hb d_FS_begin_33 ?_
      obtain ⟨M25, eM25, h⟩ := nx_e h
      refine pf_FS_16 hx hb hts hown hK hJ hP hS eM25 d_FS_begin_34 (fun H locs hP hS => ?_)
      refine lv_aload_n hx hb d_FS_begin_37 rfl (lv_at hl 0 rfl) ?_
      obtain rfl := Option.some.inj h
      exact hret (r := some j22) d_FS_begin_38 g hP hS
    · have h := if_m hc h
      refine lv_null hx hb d_FS_begin_9 ?_
      obtain rfl := Option.some.inj h
      exact hret (r := none) d_FS_begin_10 g hP hS
  rw [eH] at key
  exact key
theorem d_FS_has_0 : decode b_FS_has 0 = .ok (.iload_n 1, 1) := by decide +kernel
theorem d_FS_has_1 : decode b_FS_has 1 = .ok (.ifCond .lt 15, 3) := by decide +kernel
theorem d_FS_has_4 : decode b_FS_has 4 = .ok (.iload_n 1, 1) := by decide +kernel
theorem d_FS_has_5 : decode b_FS_has 5 = .ok (.aload_n 0, 1) := by decide +kernel
theorem d_FS_has_6 : decode b_FS_has 6 = .ok (.getfield 16, 3) := by decide +kernel
theorem d_FS_has_9 : decode b_FS_has 9 = .ok (.if_icmp .ge 7, 3) := by decide +kernel
theorem d_FS_has_12 : decode b_FS_has 12 = .ok (.iconst 1, 1) := by decide +kernel
theorem d_FS_has_13 : decode b_FS_has 13 = .ok (.goto 4, 3) := by decide +kernel
theorem d_FS_has_16 : decode b_FS_has 16 = .ok (.iconst 0, 1) := by decide +kernel
theorem d_FS_has_17 : decode b_FS_has 17 = .ok (.ireturn, 1) := by decide +kernel
noncomputable def s_FS_has (a1 : Int32) (M : Mem) : Option (Int32 × Mem) :=
  if a1 < 0 then (some ((0 : Int32), M)) else (if (M 9 1) ≤ a1 then (some ((0 : Int32), M)) else (some ((1 : Int32), M)))
set_option maxHeartbeats 4000000 in
set_option maxRecDepth 100000 in
theorem c_FS_has (l : Launch) (x : Cx) (hJ : Inj x) (a1 : Int32) {M : Mem} {out : Int32 × Mem} (h : s_FS_has a1 M = some out) : Ci l x y_FS_has (Cond.code y_FS_has b_FS_has 2 (some .boolean) :: tb) r_FS_has [.ref (x.2.1 9), .int a1] M out := by
  refine ofCz (cc := b_FS_has) (maxL := 2) (by decide) rfl (rfl) (Nat.le_of_ble_eq_true rfl) ?_
  intro p e s m args below meth c Q G0 ls g hx hb hml hown hts hK hZ hP hS hl hret
  have hown : s.vm.findClass R_FS = some m.cls := hown
  have hl : lv_has ls 2 [(0, .ref (x.2.1 9)), (1, .int a1)] := hl
  obtain ⟨H, eH⟩ : ∃ z, z = s.heap := ⟨_, rfl⟩
  obtain ⟨locs, eL⟩ : ∃ z, z = ([] : List Loc) := ⟨_, rfl⟩
  rw [← eH] at hP
  have hS : va_S (A0 x) s.heap H locs := by rw [eH, eL]; exact hS
  rw [← eL]
  have key : W p l e r_FS_has s m args below meth c H locs 0 0 Q (F0 m 0 ls []) := by
    clear eH eL
    unfold s_FS_has at h
    refine lv_iload_n hx hb d_FS_has_0 rfl (lv_at hl 1 rfl) ?_
    refine lv_if_lt (tgt := 16) hx hb d_FS_has_1 rfl (fun hc => ?_) (fun hc => ?_)
    · have h := if_p hc h
      refine lv_iconst (v := (0 : Int32)) hx hb d_FS_has_16 (by decide) ?_
      obtain rfl := Option.some.inj h
      exact hret (by decide) d_FS_has_17 g hP hS
    · have h := if_m hc h
      refine lv_iload_n hx hb d_FS_has_4 rfl (lv_at hl 1 rfl) ?_
      refine lv_aload_n hx hb d_FS_has_5 rfl (lv_at hl 0 rfl) ?_
      refine gf_FS_16 hx hb hts hown hK hP d_FS_has_6 ?_
      refine lv_icmp_ge (tgt := 16) hx hb d_FS_has_9 rfl (fun hc => ?_) (fun hc => ?_)
      · have h := if_p hc h
        refine lv_iconst (v := (0 : Int32)) hx hb d_FS_has_16 (by decide) ?_
        obtain rfl := Option.some.inj h
        exact hret (by decide) d_FS_has_17 g hP hS
      · have h := if_m hc h
        refine lv_iconst (v := (1 : Int32)) hx hb d_FS_has_12 (by decide) ?_
        refine lv_goto (tgt := 17) hx hb d_FS_has_13 rfl ?_
        obtain rfl := Option.some.inj h
        exact hret (by decide) d_FS_has_17 g hP hS
  rw [eH] at key
  exact key
