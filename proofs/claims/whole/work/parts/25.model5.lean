theorem d_MO_mixed_0 : decode b_MO_mixed 0 = .ok (.aload_n 0, 1) := by decide +kernel
theorem d_MO_mixed_1 : decode b_MO_mixed 1 = .ok (.iconst 4, 1) := by decide +kernel
theorem d_MO_mixed_2 : decode b_MO_mixed 2 = .ok (.invokevirtual 235, 3) := by decide +kernel
theorem d_MO_mixed_5 : decode b_MO_mixed 5 = .ok (.iconst 1, 1) := by decide +kernel
theorem d_MO_mixed_6 : decode b_MO_mixed 6 = .ok (.iadd, 1) := by decide +kernel
theorem d_MO_mixed_7 : decode b_MO_mixed 7 = .ok (.istore_n 1, 1) := by decide +kernel
theorem d_MO_mixed_8 : decode b_MO_mixed 8 = .ok (.iconst 0, 1) := by decide +kernel
theorem d_MO_mixed_9 : decode b_MO_mixed 9 = .ok (.istore_n 2, 1) := by decide +kernel
theorem d_MO_mixed_10 : decode b_MO_mixed 10 = .ok (.iload_n 2, 1) := by decide +kernel
theorem d_MO_mixed_11 : decode b_MO_mixed 11 = .ok (.iload_n 1, 1) := by decide +kernel
theorem d_MO_mixed_12 : decode b_MO_mixed 12 = .ok (.if_icmp .ge 39, 3) := by decide +kernel
theorem d_MO_mixed_15 : decode b_MO_mixed 15 = .ok (.aload_n 0, 1) := by decide +kernel
theorem d_MO_mixed_16 : decode b_MO_mixed 16 = .ok (.iconst 5, 1) := by decide +kernel
theorem d_MO_mixed_17 : decode b_MO_mixed 17 = .ok (.invokevirtual 235, 3) := by decide +kernel
theorem d_MO_mixed_20 : decode b_MO_mixed 20 = .ok (.istore_n 3, 1) := by decide +kernel
theorem d_MO_mixed_21 : decode b_MO_mixed 21 = .ok (.iload_n 3, 1) := by decide +kernel
theorem d_MO_mixed_22 : decode b_MO_mixed 22 = .ok (.iconst 2, 1) := by decide +kernel
theorem d_MO_mixed_23 : decode b_MO_mixed 23 = .ok (.if_icmp .ne 10, 3) := by decide +kernel
theorem d_MO_mixed_26 : decode b_MO_mixed 26 = .ok (.aload_n 0, 1) := by decide +kernel
theorem d_MO_mixed_27 : decode b_MO_mixed 27 = .ok (.invokevirtual 238, 3) := by decide +kernel
theorem d_MO_mixed_30 : decode b_MO_mixed 30 = .ok (.goto 15, 3) := by decide +kernel
theorem d_MO_mixed_33 : decode b_MO_mixed 33 = .ok (.aload_n 0, 1) := by decide +kernel
theorem d_MO_mixed_34 : decode b_MO_mixed 34 = .ok (.getfield 139, 3) := by decide +kernel
theorem d_MO_mixed_37 : decode b_MO_mixed 37 = .ok (.ifCond .le 8, 3) := by decide +kernel
theorem d_MO_mixed_40 : decode b_MO_mixed 40 = .ok (.aload_n 0, 1) := by decide +kernel
theorem d_MO_mixed_41 : decode b_MO_mixed 41 = .ok (.iload_n 3, 1) := by decide +kernel
theorem d_MO_mixed_42 : decode b_MO_mixed 42 = .ok (.invokevirtual 241, 3) := by decide +kernel
theorem d_MO_mixed_45 : decode b_MO_mixed 45 = .ok (.iinc 2 1, 3) := by decide +kernel
theorem d_MO_mixed_48 : decode b_MO_mixed 48 = .ok (.goto (-38), 3) := by decide +kernel
theorem d_MO_mixed_51 : decode b_MO_mixed 51 = .ok (.return_, 1) := by decide +kernel
noncomputable def j_MO_mixed_45 (v24 : Int32) (a28 : Int32) (M29 : Mem) : Option ((Int32 × Mem) ⊕ Mem) :=
  nx (a28 + (1 : Int32)) (fun v30 => some (.inl (v30, M29)))
noncomputable def l_MO_mixed_10 (v24 : Int32) (v26 : Int32) (M27 : Mem) : Option ((Int32 × Mem) ⊕ (Mem)) :=
  if v24 ≤ v26 then (some (.inr M27)) else (bi (s_MO_draw (5 : Int32) M27) (fun r33 M31 => if r33 = (2 : Int32) then (bv (s_MO_putIn M31) (fun M36 => j_MO_mixed_45 v24 v26 M36)) else (if (M31 26 44) ≤ 0 then (j_MO_mixed_45 v24 v26 M31) else (bv (s_MO_change r33 M31) (fun M34 => j_MO_mixed_45 v24 v26 M34)))))
noncomputable def s_MO_mixed  (M : Mem) : Option (Mem) :=
  bi (s_MO_draw (4 : Int32) M) (fun r23 M21 => nx (r23 + (1 : Int32)) (fun v24 => nx ((0 : Int32)) (fun v25 => lp (fun q : Int32 × Mem => l_MO_mixed_10 v24 q.1 q.2) (v25, M21))))
set_option maxHeartbeats 4000000 in
set_option maxRecDepth 100000 in
theorem c_MO_mixed (l : Launch) (x : Cx) (hJ : Inj x)  {M : Mem} {out : Mem} (h : s_MO_mixed M = some out) : Cv l x y_MO_mixed (Cond.code y_MO_mixed b_MO_mixed 4 none :: tb) r_MO_mixed [.ref (x.2.1 26)] M out := by
  refine ofCv (cc := b_MO_mixed) (maxL := 4) (by decide) rfl (rfl) (Nat.le_of_ble_eq_true rfl) ?_
  intro p e s m args below meth c Q G0 ls g hx hb hml hown hts hK hZ hP hS hl hret
  have hown : s.vm.findClass R_MO = some m.cls := hown
  have hl : lv_has ls 4 [(0, .ref (x.2.1 26))] := hl
  obtain ⟨H, eH⟩ : ∃ z, z = s.heap := ⟨_, rfl⟩
  obtain ⟨locs, eL⟩ : ∃ z, z = ([] : List Loc) := ⟨_, rfl⟩
  rw [← eH] at hP
  have hS : va_S (A0 x) s.heap H locs := by rw [eH, eL]; exact hS
  rw [← eL]
  have key : W p l e r_MO_mixed s m args below meth c H locs 0 0 Q (F0 m 0 ls []) := by
    clear eH eL
    unfold s_MO_mixed at h
    refine lv_aload_n hx hb d_MO_mixed_0 rfl (lv_at hl 0 rfl) ?_
    refine lv_iconst (v := (4 : Int32)) hx hb d_MO_mixed_1 (by decide) ?_
    obtain ⟨r23, M21, c22, h⟩ := bi_e h
    refine cl_MO_235 (rest := []) (R := r_MO_mixed) (c_MO_draw l x hJ (4 : Int32) c22) hx hb hml hts hown hK hZ hP hS hl.1 (Nat.le_of_ble_eq_true rfl) (Nat.le_of_ble_eq_true rfl) (Nat.le_of_ble_eq_true rfl) ⟨rfl, rfl, Nat.zero_le _, Nat.zero_le _⟩ d_MO_mixed_2 (fun H locs hP hS => ?_)
    refine lv_iconst (v := (1 : Int32)) hx hb d_MO_mixed_5 (by decide) ?_
    refine lv_iadd hx hb d_MO_mixed_6 ?_
    obtain ⟨v24, ev24, h⟩ := nx_e h
    refine tp_i ev24 ?_
    refine lv_istore_n hx hb d_MO_mixed_7 rfl hl (by decide) rfl (fun ls hl => ?_)
    have hl : lv_has ls 4 [(1, .int v24), (0, .ref (x.2.1 26))] := hl
    refine lv_iconst (v := (0 : Int32)) hx hb d_MO_mixed_8 (by decide) ?_
    obtain ⟨v25, ev25, h⟩ := nx_e h
    refine tp_i ev25 ?_
    refine lv_istore_n hx hb d_MO_mixed_9 rfl hl (by decide) rfl (fun ls hl => ?_)
    have hl : lv_has ls 4 [(2, .int v25), (1, .int v24), (0, .ref (x.2.1 26))] := hl
    obtain ⟨P10, eP10⟩ : ∃ P : (Int32 × Mem) → Prop, P = (fun q => ∀ (H : Heap) (locs : List Loc) (ls : Array Slot), va_P x.1 vwCl (wld x (q.2)) H → va_S (A0 x) s.heap H locs → lv_has ls 4 [(0, .ref (x.2.1 26)), (1, .int v24), (2, .int (q.1))] → W p l e r_MO_mixed s m args below meth c H locs 0 0 Q (F0 m 10 ls [])) := ⟨_, rfl⟩
    have L10 : P10 (v25, M21) := by
      refine lp_walk (G := G0) ?_ h g
      intro q res h g
      obtain ⟨v26, M27⟩ := q
      rw [eP10]
      intro H locs ls hP hS hl
      have hP : va_P x.1 vwCl (wld x M27) H := hP
      have hl : lv_has ls 4 [(0, .ref (x.2.1 26)), (1, .int v24), (2, .int v26)] := hl
      have h : l_MO_mixed_10 v24 v26 M27 = some res := h
      unfold l_MO_mixed_10 at h
      have J45 : ∀ (a28 : Int32) (M29 : Mem)  (res : (Int32 × Mem) ⊕ Mem) (h : j_MO_mixed_45 v24 a28 M29 = some res) (g : (lpG P10 G0) res) (H : Heap) (locs : List Loc) (ls : Array Slot) (hP : va_P x.1 vwCl (wld x M29) H) (hS : va_S (A0 x) s.heap H locs) (hl : lv_has ls 4 [(0, .ref (x.2.1 26)), (1, .int v24), (2, .int a28)]), W p l e r_MO_mixed s m args below meth c H locs 0 0 Q (F0 m 45 ls []) := by
        intro a28 M29 res h g H locs ls hP hS hl
        unfold j_MO_mixed_45 at h
        obtain ⟨v30, ev30, h⟩ := nx_e h
        refine lv_iinc (k := 2) hx hb d_MO_mixed_45 hl rfl (iinc_v (k := (1 : Int32)) (by decide) ev30) (by decide) rfl (fun ls hl => ?_)
        have hl : lv_has ls 4 [(2, .int v30), (0, .ref (x.2.1 26)), (1, .int v24)] := hl
        refine lv_goto (tgt := 10) hx hb d_MO_mixed_48 rfl ?_
        obtain rfl := Option.some.inj h
        have g : P10 (v30, M29) := g
        rw [eP10] at g
        exact g H locs ls hP hS (lv_sub hl [1, 2, 0] rfl)
      refine lv_iload_n hx hb d_MO_mixed_10 rfl (lv_at hl 2 rfl) ?_
      refine lv_iload_n hx hb d_MO_mixed_11 rfl (lv_at hl 1 rfl) ?_
      refine lv_icmp_ge (tgt := 51) hx hb d_MO_mixed_12 rfl (fun hc => ?_) (fun hc => ?_)
      · have h := if_p hc h
        obtain rfl := Option.some.inj h
        exact hret d_MO_mixed_51 g hP hS
      · have h := if_m hc h
        refine lv_aload_n hx hb d_MO_mixed_15 rfl (lv_at hl 0 rfl) ?_
        refine lv_iconst (v := (5 : Int32)) hx hb d_MO_mixed_16 (by decide) ?_
        obtain ⟨r33, M31, c32, h⟩ := bi_e h
        refine cl_MO_235 (rest := []) (R := r_MO_mixed) (c_MO_draw l x hJ (5 : Int32) c32) hx hb hml hts hown hK hZ hP hS hl.1 (Nat.le_of_ble_eq_true rfl) (Nat.le_of_ble_eq_true rfl) (Nat.le_of_ble_eq_true rfl) ⟨rfl, rfl, Nat.zero_le _, Nat.zero_le _⟩ d_MO_mixed_17 (fun H locs hP hS => ?_)
        refine lv_istore_n hx hb d_MO_mixed_20 rfl hl (by decide) rfl (fun ls hl => ?_)
        have hl : lv_has ls 4 [(3, .int r33), (0, .ref (x.2.1 26)), (1, .int v24), (2, .int v26)] := hl
        refine lv_iload_n hx hb d_MO_mixed_21 rfl (lv_at hl 0 rfl) ?_
        refine lv_iconst (v := (2 : Int32)) hx hb d_MO_mixed_22 (by decide) ?_
        refine lv_icmp_ne (tgt := 33) hx hb d_MO_mixed_23 rfl (fun hc => ?_) (fun hc => ?_)
        · have h := if_m hc h
          refine lv_aload_n hx hb d_MO_mixed_33 rfl (lv_at hl 1 rfl) ?_
          refine gf_MO_139 hx hb hts hown hK hP d_MO_mixed_34 ?_
          refine lv_if_le (tgt := 45) hx hb d_MO_mixed_37 rfl (fun hc => ?_) (fun hc => ?_)
          · have h := if_p hc h
            exact J45 v26 M31 _ h g H locs ls hP hS (lv_sub hl [1, 2, 3] rfl)
          · have h := if_m hc h
            refine lv_aload_n hx hb d_MO_mixed_40 rfl (lv_at hl 1 rfl) ?_
            refine lv_iload_n hx hb d_MO_mixed_41 rfl (lv_at hl 0 rfl) ?_
            obtain ⟨M34, c35, h⟩ := bv_e h
            refine cl_MO_241 (rest := []) (R := r_MO_mixed) (c_MO_change l x hJ r33 c35) hx hb hml hts hown hK hZ hP hS hl.1 (Nat.le_of_ble_eq_true rfl) (Nat.le_of_ble_eq_true rfl) (Nat.le_of_ble_eq_true rfl) ⟨rfl, rfl, Nat.zero_le _, Nat.zero_le _⟩ d_MO_mixed_42 (fun H locs hP hS => ?_)
            exact J45 v26 M34 _ h g H locs ls hP hS (lv_sub hl [1, 2, 3] rfl)
        · have h := if_p hc h
          refine lv_aload_n hx hb d_MO_mixed_26 rfl (lv_at hl 1 rfl) ?_
          obtain ⟨M36, c37, h⟩ := bv_e h
          refine cl_MO_238 (rest := []) (R := r_MO_mixed) (c_MO_putIn l x hJ c37) hx hb hml hts hown hK hZ hP hS hl.1 (Nat.le_of_ble_eq_true rfl) (Nat.le_of_ble_eq_true rfl) (Nat.le_of_ble_eq_true rfl) ⟨rfl, rfl, Nat.zero_le _, Nat.zero_le _⟩ d_MO_mixed_27 (fun H locs hP hS => ?_)
          refine lv_goto (tgt := 45) hx hb d_MO_mixed_30 rfl ?_
          exact J45 v26 M36 _ h g H locs ls hP hS (lv_sub hl [1, 2, 3] rfl)
    rw [eP10] at L10
    exact L10 H locs ls hP hS (lv_sub hl [2, 1, 0] rfl)
  rw [eH] at key
  exact key
theorem d_MO_crossed_0 : decode b_MO_crossed 0 = .ok (.aload_n 0, 1) := by decide +kernel
theorem d_MO_crossed_1 : decode b_MO_crossed 1 = .ok (.aload_n 0, 1) := by decide +kernel
theorem d_MO_crossed_2 : decode b_MO_crossed 2 = .ok (.getfield 145, 3) := by decide +kernel
theorem d_MO_crossed_5 : decode b_MO_crossed 5 = .ok (.iconst 1, 1) := by decide +kernel
theorem d_MO_crossed_6 : decode b_MO_crossed 6 = .ok (.isub, 1) := by decide +kernel
theorem d_MO_crossed_7 : decode b_MO_crossed 7 = .ok (.invokevirtual 235, 3) := by decide +kernel
theorem d_MO_crossed_10 : decode b_MO_crossed 10 = .ok (.istore_n 2, 1) := by decide +kernel
theorem d_MO_crossed_11 : decode b_MO_crossed 11 = .ok (.iload_n 2, 1) := by decide +kernel
theorem d_MO_crossed_12 : decode b_MO_crossed 12 = .ok (.iload_n 1, 1) := by decide +kernel
theorem d_MO_crossed_13 : decode b_MO_crossed 13 = .ok (.if_icmp .lt 9, 3) := by decide +kernel
theorem d_MO_crossed_16 : decode b_MO_crossed 16 = .ok (.iload_n 2, 1) := by decide +kernel
theorem d_MO_crossed_17 : decode b_MO_crossed 17 = .ok (.iconst 1, 1) := by decide +kernel
theorem d_MO_crossed_18 : decode b_MO_crossed 18 = .ok (.iadd, 1) := by decide +kernel
theorem d_MO_crossed_19 : decode b_MO_crossed 19 = .ok (.goto 4, 3) := by decide +kernel
theorem d_MO_crossed_22 : decode b_MO_crossed 22 = .ok (.iload_n 2, 1) := by decide +kernel
theorem d_MO_crossed_23 : decode b_MO_crossed 23 = .ok (.istore_n 2, 1) := by decide +kernel
theorem d_MO_crossed_24 : decode b_MO_crossed 24 = .ok (.aload_n 0, 1) := by decide +kernel
theorem d_MO_crossed_25 : decode b_MO_crossed 25 = .ok (.getfield 40, 3) := by decide +kernel
theorem d_MO_crossed_28 : decode b_MO_crossed 28 = .ok (.iload_n 1, 1) := by decide +kernel
theorem d_MO_crossed_29 : decode b_MO_crossed 29 = .ok (.iaload, 1) := by decide +kernel
theorem d_MO_crossed_30 : decode b_MO_crossed 30 = .ok (.aload_n 0, 1) := by decide +kernel
theorem d_MO_crossed_31 : decode b_MO_crossed 31 = .ok (.getfield 40, 3) := by decide +kernel
theorem d_MO_crossed_34 : decode b_MO_crossed 34 = .ok (.iload_n 2, 1) := by decide +kernel
theorem d_MO_crossed_35 : decode b_MO_crossed 35 = .ok (.iaload, 1) := by decide +kernel
theorem d_MO_crossed_36 : decode b_MO_crossed 36 = .ok (.if_icmp .ge 12, 3) := by decide +kernel
theorem d_MO_crossed_39 : decode b_MO_crossed 39 = .ok (.aload_n 0, 1) := by decide +kernel
theorem d_MO_crossed_40 : decode b_MO_crossed 40 = .ok (.getfield 40, 3) := by decide +kernel
theorem d_MO_crossed_43 : decode b_MO_crossed 43 = .ok (.iload_n 1, 1) := by decide +kernel
theorem d_MO_crossed_44 : decode b_MO_crossed 44 = .ok (.iaload, 1) := by decide +kernel
theorem d_MO_crossed_45 : decode b_MO_crossed 45 = .ok (.goto 9, 3) := by decide +kernel
theorem d_MO_crossed_48 : decode b_MO_crossed 48 = .ok (.aload_n 0, 1) := by decide +kernel
theorem d_MO_crossed_49 : decode b_MO_crossed 49 = .ok (.getfield 40, 3) := by decide +kernel
theorem d_MO_crossed_52 : decode b_MO_crossed 52 = .ok (.iload_n 2, 1) := by decide +kernel
theorem d_MO_crossed_53 : decode b_MO_crossed 53 = .ok (.iaload, 1) := by decide +kernel
theorem d_MO_crossed_54 : decode b_MO_crossed 54 = .ok (.istore_n 3, 1) := by decide +kernel
theorem d_MO_crossed_55 : decode b_MO_crossed 55 = .ok (.aload_n 0, 1) := by decide +kernel
theorem d_MO_crossed_56 : decode b_MO_crossed 56 = .ok (.iconst 1, 1) := by decide +kernel
theorem d_MO_crossed_57 : decode b_MO_crossed 57 = .ok (.iload_n 3, 1) := by decide +kernel
theorem d_MO_crossed_58 : decode b_MO_crossed 58 = .ok (.iadd, 1) := by decide +kernel
theorem d_MO_crossed_59 : decode b_MO_crossed 59 = .ok (.invokevirtual 235, 3) := by decide +kernel
theorem d_MO_crossed_62 : decode b_MO_crossed 62 = .ok (.istore 4, 2) := by decide +kernel
theorem d_MO_crossed_64 : decode b_MO_crossed 64 = .ok (.iload 4, 2) := by decide +kernel
theorem d_MO_crossed_66 : decode b_MO_crossed 66 = .ok (.istore 5, 2) := by decide +kernel
theorem d_MO_crossed_68 : decode b_MO_crossed 68 = .ok (.iload 5, 2) := by decide +kernel
theorem d_MO_crossed_70 : decode b_MO_crossed 70 = .ok (.aload_n 0, 1) := by decide +kernel
theorem d_MO_crossed_71 : decode b_MO_crossed 71 = .ok (.getfield 40, 3) := by decide +kernel
theorem d_MO_crossed_74 : decode b_MO_crossed 74 = .ok (.iload_n 2, 1) := by decide +kernel
theorem d_MO_crossed_75 : decode b_MO_crossed 75 = .ok (.iaload, 1) := by decide +kernel
theorem d_MO_crossed_76 : decode b_MO_crossed 76 = .ok (.if_icmp .ge 28, 3) := by decide +kernel
theorem d_MO_crossed_79 : decode b_MO_crossed 79 = .ok (.aload_n 0, 1) := by decide +kernel
theorem d_MO_crossed_80 : decode b_MO_crossed 80 = .ok (.getfield 82, 3) := by decide +kernel
theorem d_MO_crossed_83 : decode b_MO_crossed 83 = .ok (.iload 5, 2) := by decide +kernel
theorem d_MO_crossed_85 : decode b_MO_crossed 85 = .ok (.aload_n 0, 1) := by decide +kernel
theorem d_MO_crossed_86 : decode b_MO_crossed 86 = .ok (.getfield 37, 3) := by decide +kernel
theorem d_MO_crossed_89 : decode b_MO_crossed 89 = .ok (.bipush 6, 2) := by decide +kernel
theorem d_MO_crossed_91 : decode b_MO_crossed 91 = .ok (.iload_n 2, 1) := by decide +kernel
theorem d_MO_crossed_92 : decode b_MO_crossed 92 = .ok (.imul, 1) := by decide +kernel
theorem d_MO_crossed_93 : decode b_MO_crossed 93 = .ok (.iload 5, 2) := by decide +kernel
theorem d_MO_crossed_95 : decode b_MO_crossed 95 = .ok (.iadd, 1) := by decide +kernel
theorem d_MO_crossed_96 : decode b_MO_crossed 96 = .ok (.iaload, 1) := by decide +kernel
theorem d_MO_crossed_97 : decode b_MO_crossed 97 = .ok (.iastore, 1) := by decide +kernel
theorem d_MO_crossed_98 : decode b_MO_crossed 98 = .ok (.iinc 5 1, 3) := by decide +kernel
theorem d_MO_crossed_101 : decode b_MO_crossed 101 = .ok (.goto (-33), 3) := by decide +kernel
theorem d_MO_crossed_104 : decode b_MO_crossed 104 = .ok (.aload_n 0, 1) := by decide +kernel
theorem d_MO_crossed_105 : decode b_MO_crossed 105 = .ok (.aload_n 0, 1) := by decide +kernel
theorem d_MO_crossed_106 : decode b_MO_crossed 106 = .ok (.getfield 40, 3) := by decide +kernel
theorem d_MO_crossed_109 : decode b_MO_crossed 109 = .ok (.iload_n 2, 1) := by decide +kernel
theorem d_MO_crossed_110 : decode b_MO_crossed 110 = .ok (.iaload, 1) := by decide +kernel
theorem d_MO_crossed_111 : decode b_MO_crossed 111 = .ok (.putfield 139, 3) := by decide +kernel
theorem d_MO_crossed_114 : decode b_MO_crossed 114 = .ok (.return_, 1) := by decide +kernel
noncomputable def j_MO_crossed_104 (a21 : Int32) (M22 : Mem) : Option (Mem) :=
  ck a21 16 (nx (st M22 26 44 (M22 37 a21.toNatClampNeg)) (fun M24 => some M24))
noncomputable def l_MO_crossed_68 (a25 : Int32) (v31 : Int32) (M32 : Mem) : Option ((Int32 × Mem) ⊕ (Mem)) :=
  ck a25 16 (if (M32 37 a25.toNatClampNeg) ≤ v31 then (jw1 (j_MO_crossed_104 a25 M32)) else (ck (((6 : Int32) * a25) + v31) 96 (ck v31 6 (nx (st M32 51 v31.toNatClampNeg (M32 36 (((6 : Int32) * a25) + v31).toNatClampNeg)) (fun M36 => nx (v31 + (1 : Int32)) (fun v37 => some (.inl (v37, M36))))))))
noncomputable def j_MO_crossed_54 (a25 : Int32) (a26 : Int32) (M27 : Mem) : Option (Mem) :=
  bi (s_MO_draw ((1 : Int32) + a26) M27) (fun r30 M28 => lp (fun q : Int32 × Mem => l_MO_crossed_68 a25 q.1 q.2) (r30, M28))
noncomputable def j_MO_crossed_23 (a38 : Int32) (a39 : Int32) (M40 : Mem) : Option (Mem) :=
  ck a38 16 (ck a39 16 (if (M40 37 a39.toNatClampNeg) ≤ (M40 37 a38.toNatClampNeg) then (ck a39 16 (j_MO_crossed_54 a39 (M40 37 a39.toNatClampNeg) M40)) else (ck a38 16 (j_MO_crossed_54 a39 (M40 37 a38.toNatClampNeg) M40))))
noncomputable def s_MO_crossed (a1 : Int32) (M : Mem) : Option (Mem) :=
  bi (s_MO_draw ((M 26 18) - (1 : Int32)) M) (fun r47 M45 => if r47 < a1 then (j_MO_crossed_23 a1 r47 M45) else (j_MO_crossed_23 a1 (r47 + (1 : Int32)) M45))
set_option maxHeartbeats 4000000 in
set_option maxRecDepth 100000 in
theorem c_MO_crossed (l : Launch) (x : Cx) (hJ : Inj x) (a1 : Int32) {M : Mem} {out : Mem} (h : s_MO_crossed a1 M = some out) : Cv l x y_MO_crossed (Cond.code y_MO_crossed b_MO_crossed 6 none :: tb) r_MO_crossed [.ref (x.2.1 26), .int a1] M out := by
  refine ofCv (cc := b_MO_crossed) (maxL := 6) (by decide) rfl (rfl) (Nat.le_of_ble_eq_true rfl) ?_
  intro p e s m args below meth c Q G0 ls g hx hb hml hown hts hK hZ hP hS hl hret
  have hown : s.vm.findClass R_MO = some m.cls := hown
  have hl : lv_has ls 6 [(0, .ref (x.2.1 26)), (1, .int a1)] := hl
  obtain ⟨H, eH⟩ : ∃ z, z = s.heap := ⟨_, rfl⟩
  obtain ⟨locs, eL⟩ : ∃ z, z = ([] : List Loc) := ⟨_, rfl⟩
  rw [← eH] at hP
  have hS : va_S (A0 x) s.heap H locs := by rw [eH, eL]; exact hS
  rw [← eL]
  have key : W p l e r_MO_crossed s m args below meth c H locs 0 0 Q (F0 m 0 ls []) := by
    clear eH eL
    unfold s_MO_crossed at h
    have J104 : ∀ (a21 : Int32) (M22 : Mem)  (res : Mem) (h : j_MO_crossed_104 a21 M22 = some res) (g : G0 res) (H : Heap) (locs : List Loc) (ls : Array Slot) (hP : va_P x.1 vwCl (wld x M22) H) (hS : va_S (A0 x) s.heap H locs) (hl : lv_has ls 6 [(0, .ref (x.2.1 26)), (2, .int a21)]), W p l e r_MO_crossed s m args below meth c H locs 0 0 Q (F0 m 104 ls []) := by
      intro a21 M22 res h g H locs ls hP hS hl
      unfold j_MO_crossed_104 at h
      refine lv_aload_n hx hb d_MO_crossed_104 rfl (lv_at hl 0 rfl) ?_
      refine lv_aload_n hx hb d_MO_crossed_105 rfl (lv_at hl 0 rfl) ?_
      refine gf_MO_40 hx hb hts hown hK hP d_MO_crossed_106 ?_
      refine lv_iload_n hx hb d_MO_crossed_109 rfl (lv_at hl 1 rfl) ?_
      obtain ⟨b23, h⟩ := ck_e h
      refine m_ald hx hb hK hP ar_MO_lengths b23 d_MO_crossed_110 ?_
      obtain ⟨M24, eM24, h⟩ := nx_e h
      refine pf_MO_139 hx hb hts hown hK hJ hP hS eM24 d_MO_crossed_111 (fun H locs hP hS => ?_)
      obtain rfl := Option.some.inj h
      exact hret d_MO_crossed_114 g hP hS
    have J54 : ∀ (a25 : Int32) (a26 : Int32) (M27 : Mem)  (res : Mem) (h : j_MO_crossed_54 a25 a26 M27 = some res) (g : G0 res) (H : Heap) (locs : List Loc) (ls : Array Slot) (hP : va_P x.1 vwCl (wld x M27) H) (hS : va_S (A0 x) s.heap H locs) (hl : lv_has ls 6 [(0, .ref (x.2.1 26)), (2, .int a25)]), W p l e r_MO_crossed s m args below meth c H locs 0 0 Q (F0 m 54 ls [.int a26]) := by
      intro a25 a26 M27 res h g H locs ls hP hS hl
      unfold j_MO_crossed_54 at h
      refine lv_istore_n hx hb d_MO_crossed_54 rfl hl (by decide) rfl (fun ls hl => ?_)
      have hl : lv_has ls 6 [(3, .int a26), (0, .ref (x.2.1 26)), (2, .int a25)] := hl
      refine lv_aload_n hx hb d_MO_crossed_55 rfl (lv_at hl 1 rfl) ?_
      refine lv_iconst (v := (1 : Int32)) hx hb d_MO_crossed_56 (by decide) ?_
      refine lv_iload_n hx hb d_MO_crossed_57 rfl (lv_at hl 0 rfl) ?_
      refine lv_iadd hx hb d_MO_crossed_58 ?_
      obtain ⟨r30, M28, c29, h⟩ := bi_e h
      refine cl_MO_235 (rest := []) (R := r_MO_crossed) (c_MO_draw l x hJ ((1 : Int32) + a26) c29) hx hb hml hts hown hK hZ hP hS hl.1 (Nat.le_of_ble_eq_true rfl) (Nat.le_of_ble_eq_true rfl) (Nat.le_of_ble_eq_true rfl) ⟨rfl, rfl, Nat.zero_le _, Nat.zero_le _⟩ d_MO_crossed_59 (fun H locs hP hS => ?_)
      refine lv_istore hx hb d_MO_crossed_62 hl (by decide) rfl (fun ls hl => ?_)
      have hl : lv_has ls 6 [(4, .int r30), (3, .int a26), (0, .ref (x.2.1 26)), (2, .int a25)] := hl
      refine lv_iload hx hb d_MO_crossed_64 (lv_at hl 0 rfl) ?_
      refine lv_istore hx hb d_MO_crossed_66 hl (by decide) rfl (fun ls hl => ?_)
      have hl : lv_has ls 6 [(5, .int r30), (4, .int r30), (3, .int a26), (0, .ref (x.2.1 26)), (2, .int a25)] := hl
      obtain ⟨P68, eP68⟩ : ∃ P : (Int32 × Mem) → Prop, P = (fun q => ∀ (H : Heap) (locs : List Loc) (ls : Array Slot), va_P x.1 vwCl (wld x (q.2)) H → va_S (A0 x) s.heap H locs → lv_has ls 6 [(0, .ref (x.2.1 26)), (2, .int a25), (5, .int (q.1))] → W p l e r_MO_crossed s m args below meth c H locs 0 0 Q (F0 m 68 ls [])) := ⟨_, rfl⟩
      have L68 : P68 (r30, M28) := by
        refine lp_walk (G := G0) ?_ h g
        intro q res h g
        obtain ⟨v31, M32⟩ := q
        rw [eP68]
        intro H locs ls hP hS hl
        have hP : va_P x.1 vwCl (wld x M32) H := hP
        have hl : lv_has ls 6 [(0, .ref (x.2.1 26)), (2, .int a25), (5, .int v31)] := hl
        have h : l_MO_crossed_68 a25 v31 M32 = some res := h
        unfold l_MO_crossed_68 at h
        refine lv_iload hx hb d_MO_crossed_68 (lv_at hl 2 rfl) ?_
        refine lv_aload_n hx hb d_MO_crossed_70 rfl (lv_at hl 0 rfl) ?_
        refine gf_MO_40 hx hb hts hown hK hP d_MO_crossed_71 ?_
        refine lv_iload_n hx hb d_MO_crossed_74 rfl (lv_at hl 1 rfl) ?_
        obtain ⟨b33, h⟩ := ck_e h
        refine m_ald hx hb hK hP ar_MO_lengths b33 d_MO_crossed_75 ?_
        refine lv_icmp_ge (tgt := 104) hx hb d_MO_crossed_76 rfl (fun hc => ?_) (fun hc => ?_)
        · have h := if_p hc h
          obtain ⟨res2, hres, h2⟩ := jw1_e h
          clear h
          subst hres
          have h := h2
          exact J104 a25 M32 _ h g H locs ls hP hS (lv_sub hl [0, 1] rfl)
        · have h := if_m hc h
          refine lv_aload_n hx hb d_MO_crossed_79 rfl (lv_at hl 0 rfl) ?_
          refine gf_MO_82 hx hb hts hown hK hP d_MO_crossed_80 ?_
          refine lv_iload hx hb d_MO_crossed_83 (lv_at hl 2 rfl) ?_
          refine lv_aload_n hx hb d_MO_crossed_85 rfl (lv_at hl 0 rfl) ?_
          refine gf_MO_37 hx hb hts hown hK hP d_MO_crossed_86 ?_
          refine lv_bipush (v := (6 : Int32)) hx hb d_MO_crossed_89 (by decide) ?_
          refine lv_iload_n hx hb d_MO_crossed_91 rfl (lv_at hl 1 rfl) ?_
          refine lv_imul hx hb d_MO_crossed_92 ?_
          refine lv_iload hx hb d_MO_crossed_93 (lv_at hl 2 rfl) ?_
          refine lv_iadd hx hb d_MO_crossed_95 ?_
          obtain ⟨b34, h⟩ := ck_e h
          refine m_ald hx hb hK hP ar_MO_inputs b34 d_MO_crossed_96 ?_
          obtain ⟨b35, h⟩ := ck_e h
          obtain ⟨M36, eM36, h⟩ := nx_e h
          refine m_ast hx hb hK hJ hP hS ar_MO_cur b35 eM36 d_MO_crossed_97 (fun H locs hP hS => ?_)
          obtain ⟨v37, ev37, h⟩ := nx_e h
          refine lv_iinc (k := 2) hx hb d_MO_crossed_98 hl rfl (iinc_v (k := (1 : Int32)) (by decide) ev37) (by decide) rfl (fun ls hl => ?_)
          have hl : lv_has ls 6 [(5, .int v37), (0, .ref (x.2.1 26)), (2, .int a25)] := hl
          refine lv_goto (tgt := 68) hx hb d_MO_crossed_101 rfl ?_
          obtain rfl := Option.some.inj h
          have g : P68 (v37, M36) := g
          rw [eP68] at g
          exact g H locs ls hP hS (lv_sub hl [1, 2, 0] rfl)
      rw [eP68] at L68
      exact L68 H locs ls hP hS (lv_sub hl [3, 4, 0] rfl)
    have J23 : ∀ (a38 : Int32) (a39 : Int32) (M40 : Mem)  (res : Mem) (h : j_MO_crossed_23 a38 a39 M40 = some res) (g : G0 res) (H : Heap) (locs : List Loc) (ls : Array Slot) (hP : va_P x.1 vwCl (wld x M40) H) (hS : va_S (A0 x) s.heap H locs) (hl : lv_has ls 6 [(0, .ref (x.2.1 26)), (1, .int a38)]), W p l e r_MO_crossed s m args below meth c H locs 0 0 Q (F0 m 23 ls [.int a39]) := by
      intro a38 a39 M40 res h g H locs ls hP hS hl
      unfold j_MO_crossed_23 at h
      refine lv_istore_n hx hb d_MO_crossed_23 rfl hl (by decide) rfl (fun ls hl => ?_)
      have hl : lv_has ls 6 [(2, .int a39), (0, .ref (x.2.1 26)), (1, .int a38)] := hl
      refine lv_aload_n hx hb d_MO_crossed_24 rfl (lv_at hl 1 rfl) ?_
      refine gf_MO_40 hx hb hts hown hK hP d_MO_crossed_25 ?_
      refine lv_iload_n hx hb d_MO_crossed_28 rfl (lv_at hl 2 rfl) ?_
      obtain ⟨b41, h⟩ := ck_e h
      refine m_ald hx hb hK hP ar_MO_lengths b41 d_MO_crossed_29 ?_
      refine lv_aload_n hx hb d_MO_crossed_30 rfl (lv_at hl 1 rfl) ?_
      refine gf_MO_40 hx hb hts hown hK hP d_MO_crossed_31 ?_
      refine lv_iload_n hx hb d_MO_crossed_34 rfl (lv_at hl 0 rfl) ?_
      obtain ⟨b42, h⟩ := ck_e h
      refine m_ald hx hb hK hP ar_MO_lengths b42 d_MO_crossed_35 ?_
      refine lv_icmp_ge (tgt := 48) hx hb d_MO_crossed_36 rfl (fun hc => ?_) (fun hc => ?_)
      · have h := if_p hc h
        refine lv_aload_n hx hb d_MO_crossed_48 rfl (lv_at hl 1 rfl) ?_
        refine gf_MO_40 hx hb hts hown hK hP d_MO_crossed_49 ?_
        refine lv_iload_n hx hb d_MO_crossed_52 rfl (lv_at hl 0 rfl) ?_
        obtain ⟨b43, h⟩ := ck_e h
        refine m_ald hx hb hK hP ar_MO_lengths b43 d_MO_crossed_53 ?_
        exact J54 a39 (M40 37 a39.toNatClampNeg) M40 _ h g H locs ls hP hS (lv_sub hl [1, 0] rfl)
      · have h := if_m hc h
        refine lv_aload_n hx hb d_MO_crossed_39 rfl (lv_at hl 1 rfl) ?_
        refine gf_MO_40 hx hb hts hown hK hP d_MO_crossed_40 ?_
        refine lv_iload_n hx hb d_MO_crossed_43 rfl (lv_at hl 2 rfl) ?_
        obtain ⟨b44, h⟩ := ck_e h
        refine m_ald hx hb hK hP ar_MO_lengths b44 d_MO_crossed_44 ?_
        refine lv_goto (tgt := 54) hx hb d_MO_crossed_45 rfl ?_
        exact J54 a39 (M40 37 a38.toNatClampNeg) M40 _ h g H locs ls hP hS (lv_sub hl [1, 0] rfl)
    refine lv_aload_n hx hb d_MO_crossed_0 rfl (lv_at hl 0 rfl) ?_
    refine lv_aload_n hx hb d_MO_crossed_1 rfl (lv_at hl 0 rfl) ?_
    refine gf_MO_145 hx hb hts hown hK hP d_MO_crossed_2 ?_
    refine lv_iconst (v := (1 : Int32)) hx hb d_MO_crossed_5 (by decide) ?_
    refine lv_isub hx hb d_MO_crossed_6 ?_
    obtain ⟨r47, M45, c46, h⟩ := bi_e h
    refine cl_MO_235 (rest := []) (R := r_MO_crossed) (c_MO_draw l x hJ ((M 26 18) - (1 : Int32)) c46) hx hb hml hts hown hK hZ hP hS hl.1 (Nat.le_of_ble_eq_true rfl) (Nat.le_of_ble_eq_true rfl) (Nat.le_of_ble_eq_true rfl) ⟨rfl, rfl, Nat.zero_le _, Nat.zero_le _⟩ d_MO_crossed_7 (fun H locs hP hS => ?_)
    refine lv_istore_n hx hb d_MO_crossed_10 rfl hl (by decide) rfl (fun ls hl => ?_)
    have hl : lv_has ls 6 [(2, .int r47), (0, .ref (x.2.1 26)), (1, .int a1)] := hl
    refine lv_iload_n hx hb d_MO_crossed_11 rfl (lv_at hl 0 rfl) ?_
    refine lv_iload_n hx hb d_MO_crossed_12 rfl (lv_at hl 2 rfl) ?_
    refine lv_icmp_lt (tgt := 22) hx hb d_MO_crossed_13 rfl (fun hc => ?_) (fun hc => ?_)
    · have h := if_p hc h
      refine lv_iload_n hx hb d_MO_crossed_22 rfl (lv_at hl 0 rfl) ?_
      exact J23 a1 r47 M45 _ h g H locs ls hP hS (lv_sub hl [1, 2] rfl)
    · have h := if_m hc h
      refine lv_iload_n hx hb d_MO_crossed_16 rfl (lv_at hl 0 rfl) ?_
      refine lv_iconst (v := (1 : Int32)) hx hb d_MO_crossed_17 (by decide) ?_
      refine lv_iadd hx hb d_MO_crossed_18 ?_
      refine lv_goto (tgt := 23) hx hb d_MO_crossed_19 rfl ?_
      exact J23 a1 (r47 + (1 : Int32)) M45 _ h g H locs ls hP hS (lv_sub hl [1, 2] rfl)
  rw [eH] at key
  exact key
theorem d_MO_trial_0 : decode b_MO_trial 0 = .ok (.aload_n 0, 1) := by decide +kernel
theorem d_MO_trial_1 : decode b_MO_trial 1 = .ok (.getfield 209, 3) := by decide +kernel
theorem d_MO_trial_4 : decode b_MO_trial 4 = .ok (.istore_n 1, 1) := by decide +kernel
theorem d_MO_trial_5 : decode b_MO_trial 5 = .ok (.aload_n 0, 1) := by decide +kernel
theorem d_MO_trial_6 : decode b_MO_trial 6 = .ok (.getfield 40, 3) := by decide +kernel
theorem d_MO_trial_9 : decode b_MO_trial 9 = .ok (.iload_n 1, 1) := by decide +kernel
theorem d_MO_trial_10 : decode b_MO_trial 10 = .ok (.iaload, 1) := by decide +kernel
theorem d_MO_trial_11 : decode b_MO_trial 11 = .ok (.istore_n 2, 1) := by decide +kernel
theorem d_MO_trial_12 : decode b_MO_trial 12 = .ok (.aload_n 0, 1) := by decide +kernel
theorem d_MO_trial_13 : decode b_MO_trial 13 = .ok (.iload_n 2, 1) := by decide +kernel
theorem d_MO_trial_14 : decode b_MO_trial 14 = .ok (.putfield 139, 3) := by decide +kernel
theorem d_MO_trial_17 : decode b_MO_trial 17 = .ok (.iconst 0, 1) := by decide +kernel
theorem d_MO_trial_18 : decode b_MO_trial 18 = .ok (.istore_n 3, 1) := by decide +kernel
theorem d_MO_trial_19 : decode b_MO_trial 19 = .ok (.iload_n 3, 1) := by decide +kernel
theorem d_MO_trial_20 : decode b_MO_trial 20 = .ok (.iload_n 2, 1) := by decide +kernel
theorem d_MO_trial_21 : decode b_MO_trial 21 = .ok (.if_icmp .ge 26, 3) := by decide +kernel
theorem d_MO_trial_24 : decode b_MO_trial 24 = .ok (.aload_n 0, 1) := by decide +kernel
theorem d_MO_trial_25 : decode b_MO_trial 25 = .ok (.getfield 82, 3) := by decide +kernel
theorem d_MO_trial_28 : decode b_MO_trial 28 = .ok (.iload_n 3, 1) := by decide +kernel
theorem d_MO_trial_29 : decode b_MO_trial 29 = .ok (.aload_n 0, 1) := by decide +kernel
theorem d_MO_trial_30 : decode b_MO_trial 30 = .ok (.getfield 37, 3) := by decide +kernel
theorem d_MO_trial_33 : decode b_MO_trial 33 = .ok (.bipush 6, 2) := by decide +kernel
theorem d_MO_trial_35 : decode b_MO_trial 35 = .ok (.iload_n 1, 1) := by decide +kernel
theorem d_MO_trial_36 : decode b_MO_trial 36 = .ok (.imul, 1) := by decide +kernel
theorem d_MO_trial_37 : decode b_MO_trial 37 = .ok (.iload_n 3, 1) := by decide +kernel
theorem d_MO_trial_38 : decode b_MO_trial 38 = .ok (.iadd, 1) := by decide +kernel
theorem d_MO_trial_39 : decode b_MO_trial 39 = .ok (.iaload, 1) := by decide +kernel
theorem d_MO_trial_40 : decode b_MO_trial 40 = .ok (.iastore, 1) := by decide +kernel
theorem d_MO_trial_41 : decode b_MO_trial 41 = .ok (.iinc 3 1, 3) := by decide +kernel
theorem d_MO_trial_44 : decode b_MO_trial 44 = .ok (.goto (-25), 3) := by decide +kernel
theorem d_MO_trial_47 : decode b_MO_trial 47 = .ok (.bipush 16, 2) := by decide +kernel
theorem d_MO_trial_49 : decode b_MO_trial 49 = .ok (.iload_n 2, 1) := by decide +kernel
theorem d_MO_trial_50 : decode b_MO_trial 50 = .ok (.imul, 1) := by decide +kernel
theorem d_MO_trial_51 : decode b_MO_trial 51 = .ok (.aload_n 0, 1) := by decide +kernel
theorem d_MO_trial_52 : decode b_MO_trial 52 = .ok (.getfield 212, 3) := by decide +kernel
theorem d_MO_trial_55 : decode b_MO_trial 55 = .ok (.iadd, 1) := by decide +kernel
theorem d_MO_trial_56 : decode b_MO_trial 56 = .ok (.istore_n 3, 1) := by decide +kernel
theorem d_MO_trial_57 : decode b_MO_trial 57 = .ok (.aload_n 0, 1) := by decide +kernel
theorem d_MO_trial_58 : decode b_MO_trial 58 = .ok (.getfield 215, 3) := by decide +kernel
theorem d_MO_trial_61 : decode b_MO_trial 61 = .ok (.bipush 16, 2) := by decide +kernel
theorem d_MO_trial_63 : decode b_MO_trial 63 = .ok (.iload_n 2, 1) := by decide +kernel
theorem d_MO_trial_64 : decode b_MO_trial 64 = .ok (.imul, 1) := by decide +kernel
theorem d_MO_trial_65 : decode b_MO_trial 65 = .ok (.if_icmp .ge 15, 3) := by decide +kernel
theorem d_MO_trial_68 : decode b_MO_trial 68 = .ok (.aload_n 0, 1) := by decide +kernel
theorem d_MO_trial_69 : decode b_MO_trial 69 = .ok (.iload_n 2, 1) := by decide +kernel
theorem d_MO_trial_70 : decode b_MO_trial 70 = .ok (.aload_n 0, 1) := by decide +kernel
theorem d_MO_trial_71 : decode b_MO_trial 71 = .ok (.getfield 215, 3) := by decide +kernel
theorem d_MO_trial_74 : decode b_MO_trial 74 = .ok (.invokevirtual 218, 3) := by decide +kernel
theorem d_MO_trial_77 : decode b_MO_trial 77 = .ok (.goto 23, 3) := by decide +kernel
theorem d_MO_trial_80 : decode b_MO_trial 80 = .ok (.aload_n 0, 1) := by decide +kernel
theorem d_MO_trial_81 : decode b_MO_trial 81 = .ok (.getfield 215, 3) := by decide +kernel
theorem d_MO_trial_84 : decode b_MO_trial 84 = .ok (.iload_n 3, 1) := by decide +kernel
theorem d_MO_trial_85 : decode b_MO_trial 85 = .ok (.if_icmp .ge 10, 3) := by decide +kernel
theorem d_MO_trial_88 : decode b_MO_trial 88 = .ok (.aload_n 0, 1) := by decide +kernel
theorem d_MO_trial_89 : decode b_MO_trial 89 = .ok (.invokevirtual 222, 3) := by decide +kernel
theorem d_MO_trial_92 : decode b_MO_trial 92 = .ok (.goto 8, 3) := by decide +kernel
theorem d_MO_trial_95 : decode b_MO_trial 95 = .ok (.aload_n 0, 1) := by decide +kernel
theorem d_MO_trial_96 : decode b_MO_trial 96 = .ok (.iload_n 1, 1) := by decide +kernel
theorem d_MO_trial_97 : decode b_MO_trial 97 = .ok (.invokevirtual 225, 3) := by decide +kernel
theorem d_MO_trial_100 : decode b_MO_trial 100 = .ok (.aload_n 0, 1) := by decide +kernel
theorem d_MO_trial_101 : decode b_MO_trial 101 = .ok (.dup, 1) := by decide +kernel
theorem d_MO_trial_102 : decode b_MO_trial 102 = .ok (.getfield 215, 3) := by decide +kernel
theorem d_MO_trial_105 : decode b_MO_trial 105 = .ok (.iconst 1, 1) := by decide +kernel
theorem d_MO_trial_106 : decode b_MO_trial 106 = .ok (.iadd, 1) := by decide +kernel
theorem d_MO_trial_107 : decode b_MO_trial 107 = .ok (.putfield 215, 3) := by decide +kernel
theorem d_MO_trial_110 : decode b_MO_trial 110 = .ok (.aload_n 0, 1) := by decide +kernel
theorem d_MO_trial_111 : decode b_MO_trial 111 = .ok (.invokevirtual 228, 3) := by decide +kernel
theorem d_MO_trial_114 : decode b_MO_trial 114 = .ok (.istore 4, 2) := by decide +kernel
theorem d_MO_trial_116 : decode b_MO_trial 116 = .ok (.iload 4, 2) := by decide +kernel
theorem d_MO_trial_118 : decode b_MO_trial 118 = .ok (.ifCond .lt 31, 3) := by decide +kernel
theorem d_MO_trial_121 : decode b_MO_trial 121 = .ok (.aload_n 0, 1) := by decide +kernel
theorem d_MO_trial_122 : decode b_MO_trial 122 = .ok (.getfield 215, 3) := by decide +kernel
theorem d_MO_trial_125 : decode b_MO_trial 125 = .ok (.iload_n 3, 1) := by decide +kernel
theorem d_MO_trial_126 : decode b_MO_trial 126 = .ok (.if_icmp .gt 19, 3) := by decide +kernel
theorem d_MO_trial_129 : decode b_MO_trial 129 = .ok (.aload_n 0, 1) := by decide +kernel
theorem d_MO_trial_130 : decode b_MO_trial 130 = .ok (.getfield 215, 3) := by decide +kernel
theorem d_MO_trial_133 : decode b_MO_trial 133 = .ok (.iload_n 3, 1) := by decide +kernel
theorem d_MO_trial_134 : decode b_MO_trial 134 = .ok (.if_icmp .ne 15, 3) := by decide +kernel
theorem d_MO_trial_137 : decode b_MO_trial 137 = .ok (.aload_n 0, 1) := by decide +kernel
theorem d_MO_trial_138 : decode b_MO_trial 138 = .ok (.getfield 145, 3) := by decide +kernel
theorem d_MO_trial_141 : decode b_MO_trial 141 = .ok (.iconst 2, 1) := by decide +kernel
theorem d_MO_trial_142 : decode b_MO_trial 142 = .ok (.if_icmp .ge 7, 3) := by decide +kernel
theorem d_MO_trial_145 : decode b_MO_trial 145 = .ok (.aload_n 0, 1) := by decide +kernel
theorem d_MO_trial_146 : decode b_MO_trial 146 = .ok (.invokevirtual 232, 3) := by decide +kernel
theorem d_MO_trial_149 : decode b_MO_trial 149 = .ok (.return_, 1) := by decide +kernel
noncomputable def j_MO_trial_145  (M21 : Mem) : Option (Mem) :=
  bv (s_MO_takeNext M21) (fun M22 => some M22)
noncomputable def j_MO_trial_100 (a24 : Int32) (M25 : Mem) : Option (Mem) :=
  nx (st M25 26 41 ((M25 26 41) + (1 : Int32))) (fun M26 => bi (s_MO_execute M26) (fun r29 M27 => if r29 < 0 then (some M27) else (if a24 < (M27 26 41) then (j_MO_trial_145 M27) else (if (M27 26 41) = a24 then (if (2 : Int32) ≤ (M27 26 18) then (some M27) else (j_MO_trial_145 M27)) else (some M27)))))
noncomputable def j_MO_trial_47 (a30 : Int32) (a31 : Int32) (M32 : Mem) : Option (Mem) :=
  nx (((16 : Int32) * a31) + (M32 26 42)) (fun v33 => if ((16 : Int32) * a31) ≤ (M32 26 41) then (if v33 ≤ (M32 26 41) then (bv (s_MO_crossed a30 M32) (fun M34 => j_MO_trial_100 v33 M34)) else (bv (s_MO_mixed M32) (fun M36 => j_MO_trial_100 v33 M36))) else (bv (s_MO_plain a31 (M32 26 41) M32) (fun M38 => j_MO_trial_100 v33 M38)))
noncomputable def l_MO_trial_19 (v40 : Int32) (v42 : Int32) (v45 : Int32) (M46 : Mem) : Option ((Int32 × Mem) ⊕ (Mem)) :=
  if v42 ≤ v45 then (jw1 (j_MO_trial_47 v40 v42 M46)) else (ck (((6 : Int32) * v40) + v45) 96 (ck v45 6 (nx (st M46 51 v45.toNatClampNeg (M46 36 (((6 : Int32) * v40) + v45).toNatClampNeg)) (fun M49 => nx (v45 + (1 : Int32)) (fun v50 => some (.inl (v50, M49)))))))
noncomputable def s_MO_trial  (M : Mem) : Option (Mem) :=
  nx (M 26 40) (fun v40 => ck v40 16 (nx (M 37 v40.toNatClampNeg) (fun v42 => nx (st M 26 44 v42) (fun M43 => nx ((0 : Int32)) (fun v44 => lp (fun q : Int32 × Mem => l_MO_trial_19 v40 v42 q.1 q.2) (v44, M43))))))
set_option maxHeartbeats 4000000 in
set_option maxRecDepth 100000 in
theorem c_MO_trial (l : Launch) (x : Cx) (hJ : Inj x)  {M : Mem} {out : Mem} (h : s_MO_trial M = some out) : Cv l x y_MO_trial (Cond.code y_MO_trial b_MO_trial 5 none :: tb) r_MO_trial [.ref (x.2.1 26)] M out := by
  refine ofCv (cc := b_MO_trial) (maxL := 5) (by decide) rfl (rfl) (Nat.le_of_ble_eq_true rfl) ?_
  intro p e s m args below meth c Q G0 ls g hx hb hml hown hts hK hZ hP hS hl hret
  have hown : s.vm.findClass R_MO = some m.cls := hown
  have hl : lv_has ls 5 [(0, .ref (x.2.1 26))] := hl
  obtain ⟨H, eH⟩ : ∃ z, z = s.heap := ⟨_, rfl⟩
  obtain ⟨locs, eL⟩ : ∃ z, z = ([] : List Loc) := ⟨_, rfl⟩
  rw [← eH] at hP
  have hS : va_S (A0 x) s.heap H locs := by rw [eH, eL]; exact hS
  rw [← eL]
  have key : W p l e r_MO_trial s m args below meth c H locs 0 0 Q (F0 m 0 ls []) := by
    clear eH eL
    unfold s_MO_trial at h
    have J145 : ∀  (M21 : Mem)  (res : Mem) (h : j_MO_trial_145 M21 = some res) (g : G0 res) (H : Heap) (locs : List Loc) (ls : Array Slot) (hP : va_P x.1 vwCl (wld x M21) H) (hS : va_S (A0 x) s.heap H locs) (hl : lv_has ls 5 [(0, .ref (x.2.1 26))]), W p l e r_MO_trial s m args below meth c H locs 0 0 Q (F0 m 145 ls []) := by
      intro M21 res h g H locs ls hP hS hl
      unfold j_MO_trial_145 at h
      refine lv_aload_n hx hb d_MO_trial_145 rfl (lv_at hl 0 rfl) ?_
      obtain ⟨M22, c23, h⟩ := bv_e h
      refine cl_MO_232 (rest := []) (R := r_MO_trial) (c_MO_takeNext l x hJ c23) hx hb hml hts hown hK hZ hP hS hl.1 (Nat.le_of_ble_eq_true rfl) (Nat.le_of_ble_eq_true rfl) (Nat.le_of_ble_eq_true rfl) ⟨rfl, rfl, Nat.zero_le _, Nat.zero_le _⟩ d_MO_trial_146 (fun H locs hP hS => ?_)
      obtain rfl := Option.some.inj h
      exact hret d_MO_trial_149 g hP hS
    have J100 : ∀ (a24 : Int32) (M25 : Mem)  (res : Mem) (h : j_MO_trial_100 a24 M25 = some res) (g : G0 res) (H : Heap) (locs : List Loc) (ls : Array Slot) (hP : va_P x.1 vwCl (wld x M25) H) (hS : va_S (A0 x) s.heap H locs) (hl : lv_has ls 5 [(0, .ref (x.2.1 26)), (3, .int a24)]), W p l e r_MO_trial s m args below meth c H locs 0 0 Q (F0 m 100 ls []) := by
      intro a24 M25 res h g H locs ls hP hS hl
      unfold j_MO_trial_100 at h
      refine lv_aload_n hx hb d_MO_trial_100 rfl (lv_at hl 0 rfl) ?_
      refine lv_dup hx hb d_MO_trial_101 rfl ?_
      refine gf_MO_215 hx hb hts hown hK hP d_MO_trial_102 ?_
      refine lv_iconst (v := (1 : Int32)) hx hb d_MO_trial_105 (by decide) ?_
      refine lv_iadd hx hb d_MO_trial_106 ?_
      obtain ⟨M26, eM26, h⟩ := nx_e h
      refine pf_MO_215 hx hb hts hown hK hJ hP hS eM26 d_MO_trial_107 (fun H locs hP hS => ?_)
      refine lv_aload_n hx hb d_MO_trial_110 rfl (lv_at hl 0 rfl) ?_
      obtain ⟨r29, M27, c28, h⟩ := bi_e h
      refine cl_MO_228 (rest := []) (R := r_MO_trial) (c_MO_execute l x hJ c28) hx hb hml hts hown hK hZ hP hS hl.1 (Nat.le_of_ble_eq_true rfl) (Nat.le_of_ble_eq_true rfl) (Nat.le_of_ble_eq_true rfl) ⟨rfl, rfl, Nat.zero_le _, Nat.zero_le _⟩ d_MO_trial_111 (fun H locs hP hS => ?_)
      refine lv_istore hx hb d_MO_trial_114 hl (by decide) rfl (fun ls hl => ?_)
      have hl : lv_has ls 5 [(4, .int r29), (0, .ref (x.2.1 26)), (3, .int a24)] := hl
      refine lv_iload hx hb d_MO_trial_116 (lv_at hl 0 rfl) ?_
      refine lv_if_lt (tgt := 149) hx hb d_MO_trial_118 rfl (fun hc => ?_) (fun hc => ?_)
      · have h := if_p hc h
        obtain rfl := Option.some.inj h
        exact hret d_MO_trial_149 g hP hS
      · have h := if_m hc h
        refine lv_aload_n hx hb d_MO_trial_121 rfl (lv_at hl 1 rfl) ?_
        refine gf_MO_215 hx hb hts hown hK hP d_MO_trial_122 ?_
        refine lv_iload_n hx hb d_MO_trial_125 rfl (lv_at hl 2 rfl) ?_
        refine lv_icmp_gt (tgt := 145) hx hb d_MO_trial_126 rfl (fun hc => ?_) (fun hc => ?_)
        · have h := if_p hc h
          exact J145 M27 _ h g H locs ls hP hS (lv_sub hl [1] rfl)
        · have h := if_m hc h
          refine lv_aload_n hx hb d_MO_trial_129 rfl (lv_at hl 1 rfl) ?_
          refine gf_MO_215 hx hb hts hown hK hP d_MO_trial_130 ?_
          refine lv_iload_n hx hb d_MO_trial_133 rfl (lv_at hl 2 rfl) ?_
          refine lv_icmp_ne (tgt := 149) hx hb d_MO_trial_134 rfl (fun hc => ?_) (fun hc => ?_)
          · have h := if_m hc h
            obtain rfl := Option.some.inj h
            exact hret d_MO_trial_149 g hP hS
          · have h := if_p hc h
            refine lv_aload_n hx hb d_MO_trial_137 rfl (lv_at hl 1 rfl) ?_
            refine gf_MO_145 hx hb hts hown hK hP d_MO_trial_138 ?_
            refine lv_iconst (v := (2 : Int32)) hx hb d_MO_trial_141 (by decide) ?_
            refine lv_icmp_ge (tgt := 149) hx hb d_MO_trial_142 rfl (fun hc => ?_) (fun hc => ?_)
            · have h := if_p hc h
              obtain rfl := Option.some.inj h
              exact hret d_MO_trial_149 g hP hS
            · have h := if_m hc h
              exact J145 M27 _ h g H locs ls hP hS (lv_sub hl [1] rfl)
    have J47 : ∀ (a30 : Int32) (a31 : Int32) (M32 : Mem)  (res : Mem) (h : j_MO_trial_47 a30 a31 M32 = some res) (g : G0 res) (H : Heap) (locs : List Loc) (ls : Array Slot) (hP : va_P x.1 vwCl (wld x M32) H) (hS : va_S (A0 x) s.heap H locs) (hl : lv_has ls 5 [(0, .ref (x.2.1 26)), (1, .int a30), (2, .int a31)]), W p l e r_MO_trial s m args below meth c H locs 0 0 Q (F0 m 47 ls []) := by
      intro a30 a31 M32 res h g H locs ls hP hS hl
      unfold j_MO_trial_47 at h
      refine lv_bipush (v := (16 : Int32)) hx hb d_MO_trial_47 (by decide) ?_
      refine lv_iload_n hx hb d_MO_trial_49 rfl (lv_at hl 2 rfl) ?_
      refine lv_imul hx hb d_MO_trial_50 ?_
      refine lv_aload_n hx hb d_MO_trial_51 rfl (lv_at hl 0 rfl) ?_
      refine gf_MO_212 hx hb hts hown hK hP d_MO_trial_52 ?_
      refine lv_iadd hx hb d_MO_trial_55 ?_
      obtain ⟨v33, ev33, h⟩ := nx_e h
      refine tp_i ev33 ?_
      refine lv_istore_n hx hb d_MO_trial_56 rfl hl (by decide) rfl (fun ls hl => ?_)
      have hl : lv_has ls 5 [(3, .int v33), (0, .ref (x.2.1 26)), (1, .int a30), (2, .int a31)] := hl
      refine lv_aload_n hx hb d_MO_trial_57 rfl (lv_at hl 1 rfl) ?_
      refine gf_MO_215 hx hb hts hown hK hP d_MO_trial_58 ?_
      refine lv_bipush (v := (16 : Int32)) hx hb d_MO_trial_61 (by decide) ?_
      refine lv_iload_n hx hb d_MO_trial_63 rfl (lv_at hl 3 rfl) ?_
      refine lv_imul hx hb d_MO_trial_64 ?_
      refine lv_icmp_ge (tgt := 80) hx hb d_MO_trial_65 rfl (fun hc => ?_) (fun hc => ?_)
      · have h := if_p hc h
        refine lv_aload_n hx hb d_MO_trial_80 rfl (lv_at hl 1 rfl) ?_
        refine gf_MO_215 hx hb hts hown hK hP d_MO_trial_81 ?_
        refine lv_iload_n hx hb d_MO_trial_84 rfl (lv_at hl 0 rfl) ?_
        refine lv_icmp_ge (tgt := 95) hx hb d_MO_trial_85 rfl (fun hc => ?_) (fun hc => ?_)
        · have h := if_p hc h
          refine lv_aload_n hx hb d_MO_trial_95 rfl (lv_at hl 1 rfl) ?_
          refine lv_iload_n hx hb d_MO_trial_96 rfl (lv_at hl 2 rfl) ?_
          obtain ⟨M34, c35, h⟩ := bv_e h
          refine cl_MO_225 (rest := []) (R := r_MO_trial) (c_MO_crossed l x hJ a30 c35) hx hb hml hts hown hK hZ hP hS hl.1 (Nat.le_of_ble_eq_true rfl) (Nat.le_of_ble_eq_true rfl) (Nat.le_of_ble_eq_true rfl) ⟨rfl, rfl, Nat.zero_le _, Nat.zero_le _⟩ d_MO_trial_97 (fun H locs hP hS => ?_)
          exact J100 v33 M34 _ h g H locs ls hP hS (lv_sub hl [1, 0] rfl)
        · have h := if_m hc h
          refine lv_aload_n hx hb d_MO_trial_88 rfl (lv_at hl 1 rfl) ?_
          obtain ⟨M36, c37, h⟩ := bv_e h
          refine cl_MO_222 (rest := []) (R := r_MO_trial) (c_MO_mixed l x hJ c37) hx hb hml hts hown hK hZ hP hS hl.1 (Nat.le_of_ble_eq_true rfl) (Nat.le_of_ble_eq_true rfl) (Nat.le_of_ble_eq_true rfl) ⟨rfl, rfl, Nat.zero_le _, Nat.zero_le _⟩ d_MO_trial_89 (fun H locs hP hS => ?_)
          refine lv_goto (tgt := 100) hx hb d_MO_trial_92 rfl ?_
          exact J100 v33 M36 _ h g H locs ls hP hS (lv_sub hl [1, 0] rfl)
      · have h := if_m hc h
        refine lv_aload_n hx hb d_MO_trial_68 rfl (lv_at hl 1 rfl) ?_
        refine lv_iload_n hx hb d_MO_trial_69 rfl (lv_at hl 3 rfl) ?_
        refine lv_aload_n hx hb d_MO_trial_70 rfl (lv_at hl 1 rfl) ?_
        refine gf_MO_215 hx hb hts hown hK hP d_MO_trial_71 ?_
        obtain ⟨M38, c39, h⟩ := bv_e h
        refine cl_MO_218 (rest := []) (R := r_MO_trial) (c_MO_plain l x hJ a31 (M32 26 41) c39) hx hb hml hts hown hK hZ hP hS hl.1 (Nat.le_of_ble_eq_true rfl) (Nat.le_of_ble_eq_true rfl) (Nat.le_of_ble_eq_true rfl) ⟨rfl, rfl, Nat.zero_le _, Nat.zero_le _⟩ d_MO_trial_74 (fun H locs hP hS => ?_)
        refine lv_goto (tgt := 100) hx hb d_MO_trial_77 rfl ?_
        exact J100 v33 M38 _ h g H locs ls hP hS (lv_sub hl [1, 0] rfl)
    refine lv_aload_n hx hb d_MO_trial_0 rfl (lv_at hl 0 rfl) ?_
    refine gf_MO_209 hx hb hts hown hK hP d_MO_trial_1 ?_
    obtain ⟨v40, ev40, h⟩ := nx_e h
    refine tp_i ev40 ?_
    refine lv_istore_n hx hb d_MO_trial_4 rfl hl (by decide) rfl (fun ls hl => ?_)
    have hl : lv_has ls 5 [(1, .int v40), (0, .ref (x.2.1 26))] := hl
    refine lv_aload_n hx hb d_MO_trial_5 rfl (lv_at hl 1 rfl) ?_
    refine gf_MO_40 hx hb hts hown hK hP d_MO_trial_6 ?_
    refine lv_iload_n hx hb d_MO_trial_9 rfl (lv_at hl 0 rfl) ?_
    obtain ⟨b41, h⟩ := ck_e h
    refine m_ald hx hb hK hP ar_MO_lengths b41 d_MO_trial_10 ?_
    obtain ⟨v42, ev42, h⟩ := nx_e h
    refine tp_i ev42 ?_
    refine lv_istore_n hx hb d_MO_trial_11 rfl hl (by decide) rfl (fun ls hl => ?_)
    have hl : lv_has ls 5 [(2, .int v42), (1, .int v40), (0, .ref (x.2.1 26))] := hl
    refine lv_aload_n hx hb d_MO_trial_12 rfl (lv_at hl 2 rfl) ?_
    refine lv_iload_n hx hb d_MO_trial_13 rfl (lv_at hl 0 rfl) ?_
    obtain ⟨M43, eM43, h⟩ := nx_e h
    refine pf_MO_139 hx hb hts hown hK hJ hP hS eM43 d_MO_trial_14 (fun H locs hP hS => ?_)
    refine lv_iconst (v := (0 : Int32)) hx hb d_MO_trial_17 (by decide) ?_
    obtain ⟨v44, ev44, h⟩ := nx_e h
    refine tp_i ev44 ?_
    refine lv_istore_n hx hb d_MO_trial_18 rfl hl (by decide) rfl (fun ls hl => ?_)
    have hl : lv_has ls 5 [(3, .int v44), (2, .int v42), (1, .int v40), (0, .ref (x.2.1 26))] := hl
    obtain ⟨P19, eP19⟩ : ∃ P : (Int32 × Mem) → Prop, P = (fun q => ∀ (H : Heap) (locs : List Loc) (ls : Array Slot), va_P x.1 vwCl (wld x (q.2)) H → va_S (A0 x) s.heap H locs → lv_has ls 5 [(0, .ref (x.2.1 26)), (1, .int v40), (2, .int v42), (3, .int (q.1))] → W p l e r_MO_trial s m args below meth c H locs 0 0 Q (F0 m 19 ls [])) := ⟨_, rfl⟩
    have L19 : P19 (v44, M43) := by
      refine lp_walk (G := G0) ?_ h g
      intro q res h g
      obtain ⟨v45, M46⟩ := q
      rw [eP19]
      intro H locs ls hP hS hl
      have hP : va_P x.1 vwCl (wld x M46) H := hP
      have hl : lv_has ls 5 [(0, .ref (x.2.1 26)), (1, .int v40), (2, .int v42), (3, .int v45)] := hl
      have h : l_MO_trial_19 v40 v42 v45 M46 = some res := h
      unfold l_MO_trial_19 at h
      refine lv_iload_n hx hb d_MO_trial_19 rfl (lv_at hl 3 rfl) ?_
      refine lv_iload_n hx hb d_MO_trial_20 rfl (lv_at hl 2 rfl) ?_
      refine lv_icmp_ge (tgt := 47) hx hb d_MO_trial_21 rfl (fun hc => ?_) (fun hc => ?_)
      · have h := if_p hc h
        obtain ⟨res2, hres, h2⟩ := jw1_e h
        clear h
        subst hres
        have h := h2
        exact J47 v40 v42 M46 _ h g H locs ls hP hS (lv_sub hl [0, 1, 2] rfl)
      · have h := if_m hc h
        refine lv_aload_n hx hb d_MO_trial_24 rfl (lv_at hl 0 rfl) ?_
        refine gf_MO_82 hx hb hts hown hK hP d_MO_trial_25 ?_
        refine lv_iload_n hx hb d_MO_trial_28 rfl (lv_at hl 3 rfl) ?_
        refine lv_aload_n hx hb d_MO_trial_29 rfl (lv_at hl 0 rfl) ?_
        refine gf_MO_37 hx hb hts hown hK hP d_MO_trial_30 ?_
        refine lv_bipush (v := (6 : Int32)) hx hb d_MO_trial_33 (by decide) ?_
        refine lv_iload_n hx hb d_MO_trial_35 rfl (lv_at hl 1 rfl) ?_
        refine lv_imul hx hb d_MO_trial_36 ?_
        refine lv_iload_n hx hb d_MO_trial_37 rfl (lv_at hl 3 rfl) ?_
        refine lv_iadd hx hb d_MO_trial_38 ?_
        obtain ⟨b47, h⟩ := ck_e h
        refine m_ald hx hb hK hP ar_MO_inputs b47 d_MO_trial_39 ?_
        obtain ⟨b48, h⟩ := ck_e h
        obtain ⟨M49, eM49, h⟩ := nx_e h
        refine m_ast hx hb hK hJ hP hS ar_MO_cur b48 eM49 d_MO_trial_40 (fun H locs hP hS => ?_)
        obtain ⟨v50, ev50, h⟩ := nx_e h
        refine lv_iinc (k := 3) hx hb d_MO_trial_41 hl rfl (iinc_v (k := (1 : Int32)) (by decide) ev50) (by decide) rfl (fun ls hl => ?_)
        have hl : lv_has ls 5 [(3, .int v50), (0, .ref (x.2.1 26)), (1, .int v40), (2, .int v42)] := hl
        refine lv_goto (tgt := 19) hx hb d_MO_trial_44 rfl ?_
        obtain rfl := Option.some.inj h
        have g : P19 (v50, M49) := g
        rw [eP19] at g
        exact g H locs ls hP hS (lv_sub hl [1, 2, 3, 0] rfl)
    rw [eP19] at L19
    exact L19 H locs ls hP hS (lv_sub hl [3, 2, 1, 0] rfl)
  rw [eH] at key
  exact key
theorem d_MO_plant_0 : decode b_MO_plant 0 = .ok (.aload_n 0, 1) := by decide +kernel
theorem d_MO_plant_1 : decode b_MO_plant 1 = .ok (.aload_n 0, 1) := by decide +kernel
theorem d_MO_plant_2 : decode b_MO_plant 2 = .ok (.getfield 102, 3) := by decide +kernel
theorem d_MO_plant_5 : decode b_MO_plant 5 = .ok (.putfield 139, 3) := by decide +kernel
theorem d_MO_plant_8 : decode b_MO_plant 8 = .ok (.iconst 0, 1) := by decide +kernel
theorem d_MO_plant_9 : decode b_MO_plant 9 = .ok (.istore_n 1, 1) := by decide +kernel
theorem d_MO_plant_10 : decode b_MO_plant 10 = .ok (.iload_n 1, 1) := by decide +kernel
theorem d_MO_plant_11 : decode b_MO_plant 11 = .ok (.aload_n 0, 1) := by decide +kernel
theorem d_MO_plant_12 : decode b_MO_plant 12 = .ok (.getfield 102, 3) := by decide +kernel
theorem d_MO_plant_15 : decode b_MO_plant 15 = .ok (.if_icmp .ge 21, 3) := by decide +kernel
theorem d_MO_plant_18 : decode b_MO_plant 18 = .ok (.aload_n 0, 1) := by decide +kernel
theorem d_MO_plant_19 : decode b_MO_plant 19 = .ok (.getfield 82, 3) := by decide +kernel
theorem d_MO_plant_22 : decode b_MO_plant 22 = .ok (.iload_n 1, 1) := by decide +kernel
theorem d_MO_plant_23 : decode b_MO_plant 23 = .ok (.aload_n 0, 1) := by decide +kernel
theorem d_MO_plant_24 : decode b_MO_plant 24 = .ok (.getfield 19, 3) := by decide +kernel
theorem d_MO_plant_27 : decode b_MO_plant 27 = .ok (.iload_n 1, 1) := by decide +kernel
theorem d_MO_plant_28 : decode b_MO_plant 28 = .ok (.iaload, 1) := by decide +kernel
theorem d_MO_plant_29 : decode b_MO_plant 29 = .ok (.iastore, 1) := by decide +kernel
theorem d_MO_plant_30 : decode b_MO_plant 30 = .ok (.iinc 1 1, 3) := by decide +kernel
theorem d_MO_plant_33 : decode b_MO_plant 33 = .ok (.goto (-23), 3) := by decide +kernel
theorem d_MO_plant_36 : decode b_MO_plant 36 = .ok (.aload_n 0, 1) := by decide +kernel
theorem d_MO_plant_37 : decode b_MO_plant 37 = .ok (.iconst 0, 1) := by decide +kernel
theorem d_MO_plant_38 : decode b_MO_plant 38 = .ok (.putfield 102, 3) := by decide +kernel
theorem d_MO_plant_41 : decode b_MO_plant 41 = .ok (.aload_n 0, 1) := by decide +kernel
theorem d_MO_plant_42 : decode b_MO_plant 42 = .ok (.invokevirtual 228, 3) := by decide +kernel
theorem d_MO_plant_45 : decode b_MO_plant 45 = .ok (.ireturn, 1) := by decide +kernel
noncomputable def j_MO_plant_36  (M21 : Mem) : Option (Int32 × Mem) :=
  nx (st M21 26 5 (0 : Int32)) (fun M22 => bi (s_MO_execute M22) (fun r25 M23 => some (r25, M23)))
noncomputable def l_MO_plant_10  (v28 : Int32) (M29 : Mem) : Option ((Int32 × Mem) ⊕ (Int32 × Mem)) :=
  if (M29 26 5) ≤ v28 then (jw1 (j_MO_plant_36 M29)) else (ck v28 6 (ck v28 6 (nx (st M29 51 v28.toNatClampNeg (M29 30 v28.toNatClampNeg)) (fun M32 => nx (v28 + (1 : Int32)) (fun v33 => some (.inl (v33, M32)))))))
noncomputable def s_MO_plant  (M : Mem) : Option (Int32 × Mem) :=
  nx (st M 26 44 (M 26 5)) (fun M26 => nx ((0 : Int32)) (fun v27 => lp (fun q : Int32 × Mem => l_MO_plant_10 q.1 q.2) (v27, M26)))
set_option maxHeartbeats 4000000 in
set_option maxRecDepth 100000 in
theorem c_MO_plant (l : Launch) (x : Cx) (hJ : Inj x)  {M : Mem} {out : Int32 × Mem} (h : s_MO_plant M = some out) : Ci l x y_MO_plant (Cond.code y_MO_plant b_MO_plant 2 (some .int) :: tb) r_MO_plant [.ref (x.2.1 26)] M out := by
  refine ofCi (cc := b_MO_plant) (maxL := 2) (by decide) rfl (rfl) (Nat.le_of_ble_eq_true rfl) ?_
  intro p e s m args below meth c Q G0 ls g hx hb hml hown hts hK hZ hP hS hl hret
  have hown : s.vm.findClass R_MO = some m.cls := hown
  have hl : lv_has ls 2 [(0, .ref (x.2.1 26))] := hl
  obtain ⟨H, eH⟩ : ∃ z, z = s.heap := ⟨_, rfl⟩
  obtain ⟨locs, eL⟩ : ∃ z, z = ([] : List Loc) := ⟨_, rfl⟩
  rw [← eH] at hP
  have hS : va_S (A0 x) s.heap H locs := by rw [eH, eL]; exact hS
  rw [← eL]
  have key : W p l e r_MO_plant s m args below meth c H locs 0 0 Q (F0 m 0 ls []) := by
    clear eH eL
    unfold s_MO_plant at h
    have J36 : ∀  (M21 : Mem)  (res : Int32 × Mem) (h : j_MO_plant_36 M21 = some res) (g : G0 res) (H : Heap) (locs : List Loc) (ls : Array Slot) (hP : va_P x.1 vwCl (wld x M21) H) (hS : va_S (A0 x) s.heap H locs) (hl : lv_has ls 2 [(0, .ref (x.2.1 26))]), W p l e r_MO_plant s m args below meth c H locs 0 0 Q (F0 m 36 ls []) := by
      intro M21 res h g H locs ls hP hS hl
      unfold j_MO_plant_36 at h
      refine lv_aload_n hx hb d_MO_plant_36 rfl (lv_at hl 0 rfl) ?_
      refine lv_iconst (v := (0 : Int32)) hx hb d_MO_plant_37 (by decide) ?_
      obtain ⟨M22, eM22, h⟩ := nx_e h
      refine pf_MO_102 hx hb hts hown hK hJ hP hS eM22 d_MO_plant_38 (fun H locs hP hS => ?_)
      refine lv_aload_n hx hb d_MO_plant_41 rfl (lv_at hl 0 rfl) ?_
      obtain ⟨r25, M23, c24, h⟩ := bi_e h
      refine cl_MO_228 (rest := []) (R := r_MO_plant) (c_MO_execute l x hJ c24) hx hb hml hts hown hK hZ hP hS hl.1 (Nat.le_of_ble_eq_true rfl) (Nat.le_of_ble_eq_true rfl) (Nat.le_of_ble_eq_true rfl) ⟨rfl, rfl, Nat.zero_le _, Nat.zero_le _⟩ d_MO_plant_42 (fun H locs hP hS => ?_)
      obtain rfl := Option.some.inj h
      exact hret d_MO_plant_45 g hP hS
    refine lv_aload_n hx hb d_MO_plant_0 rfl (lv_at hl 0 rfl) ?_
    refine lv_aload_n hx hb d_MO_plant_1 rfl (lv_at hl 0 rfl) ?_
    refine gf_MO_102 hx hb hts hown hK hP d_MO_plant_2 ?_
    obtain ⟨M26, eM26, h⟩ := nx_e h
    refine pf_MO_139 hx hb hts hown hK hJ hP hS eM26 d_MO_plant_5 (fun H locs hP hS => ?_)
    refine lv_iconst (v := (0 : Int32)) hx hb d_MO_plant_8 (by decide) ?_
    obtain ⟨v27, ev27, h⟩ := nx_e h
    refine tp_i ev27 ?_
    refine lv_istore_n hx hb d_MO_plant_9 rfl hl (by decide) rfl (fun ls hl => ?_)
    have hl : lv_has ls 2 [(1, .int v27), (0, .ref (x.2.1 26))] := hl
    obtain ⟨P10, eP10⟩ : ∃ P : (Int32 × Mem) → Prop, P = (fun q => ∀ (H : Heap) (locs : List Loc) (ls : Array Slot), va_P x.1 vwCl (wld x (q.2)) H → va_S (A0 x) s.heap H locs → lv_has ls 2 [(0, .ref (x.2.1 26)), (1, .int (q.1))] → W p l e r_MO_plant s m args below meth c H locs 0 0 Q (F0 m 10 ls [])) := ⟨_, rfl⟩
    have L10 : P10 (v27, M26) := by
      refine lp_walk (G := G0) ?_ h g
      intro q res h g
      obtain ⟨v28, M29⟩ := q
      rw [eP10]
      intro H locs ls hP hS hl
      have hP : va_P x.1 vwCl (wld x M29) H := hP
      have hl : lv_has ls 2 [(0, .ref (x.2.1 26)), (1, .int v28)] := hl
      have h : l_MO_plant_10 v28 M29 = some res := h
      unfold l_MO_plant_10 at h
      refine lv_iload_n hx hb d_MO_plant_10 rfl (lv_at hl 1 rfl) ?_
      refine lv_aload_n hx hb d_MO_plant_11 rfl (lv_at hl 0 rfl) ?_
      refine gf_MO_102 hx hb hts hown hK hP d_MO_plant_12 ?_
      refine lv_icmp_ge (tgt := 36) hx hb d_MO_plant_15 rfl (fun hc => ?_) (fun hc => ?_)
      · have h := if_p hc h
        obtain ⟨res2, hres, h2⟩ := jw1_e h
        clear h
        subst hres
        have h := h2
        exact J36 M29 _ h g H locs ls hP hS (lv_sub hl [0] rfl)
      · have h := if_m hc h
        refine lv_aload_n hx hb d_MO_plant_18 rfl (lv_at hl 0 rfl) ?_
        refine gf_MO_82 hx hb hts hown hK hP d_MO_plant_19 ?_
        refine lv_iload_n hx hb d_MO_plant_22 rfl (lv_at hl 1 rfl) ?_
        refine lv_aload_n hx hb d_MO_plant_23 rfl (lv_at hl 0 rfl) ?_
        refine gf_MO_19 hx hb hts hown hK hP d_MO_plant_24 ?_
        refine lv_iload_n hx hb d_MO_plant_27 rfl (lv_at hl 1 rfl) ?_
        obtain ⟨b30, h⟩ := ck_e h
        refine m_ald hx hb hK hP ar_MO_draft b30 d_MO_plant_28 ?_
        obtain ⟨b31, h⟩ := ck_e h
        obtain ⟨M32, eM32, h⟩ := nx_e h
        refine m_ast hx hb hK hJ hP hS ar_MO_cur b31 eM32 d_MO_plant_29 (fun H locs hP hS => ?_)
        obtain ⟨v33, ev33, h⟩ := nx_e h
        refine lv_iinc (k := 1) hx hb d_MO_plant_30 hl rfl (iinc_v (k := (1 : Int32)) (by decide) ev33) (by decide) rfl (fun ls hl => ?_)
        have hl : lv_has ls 2 [(1, .int v33), (0, .ref (x.2.1 26))] := hl
        refine lv_goto (tgt := 10) hx hb d_MO_plant_33 rfl ?_
        obtain rfl := Option.some.inj h
        have g : P10 (v33, M32) := g
        rw [eP10] at g
        exact g H locs ls hP hS (lv_sub hl [1, 0] rfl)
    rw [eP10] at L10
    exact L10 H locs ls hP hS (lv_sub hl [1, 0] rfl)
  rw [eH] at key
  exact key
theorem d_MO_fuzz_0 : decode b_MO_fuzz 0 = .ok (.iload_n 1, 1) := by decide +kernel
theorem d_MO_fuzz_1 : decode b_MO_fuzz 1 = .ok (.iconst 1, 1) := by decide +kernel
theorem d_MO_fuzz_2 : decode b_MO_fuzz 2 = .ok (.if_icmp .lt 9, 3) := by decide +kernel
theorem d_MO_fuzz_5 : decode b_MO_fuzz 5 = .ok (.iload_n 1, 1) := by decide +kernel
theorem d_MO_fuzz_6 : decode b_MO_fuzz 6 = .ok (.bipush 20, 2) := by decide +kernel
theorem d_MO_fuzz_8 : decode b_MO_fuzz 8 = .ok (.if_icmp .le 5, 3) := by decide +kernel
theorem d_MO_fuzz_11 : decode b_MO_fuzz 11 = .ok (.iconst (-1), 1) := by decide +kernel
theorem d_MO_fuzz_12 : decode b_MO_fuzz 12 = .ok (.ireturn, 1) := by decide +kernel
theorem d_MO_fuzz_13 : decode b_MO_fuzz 13 = .ok (.aload_n 0, 1) := by decide +kernel
theorem d_MO_fuzz_14 : decode b_MO_fuzz 14 = .ok (.getfield 145, 3) := by decide +kernel
theorem d_MO_fuzz_17 : decode b_MO_fuzz 17 = .ok (.ifCond .ne 5, 3) := by decide +kernel
theorem d_MO_fuzz_20 : decode b_MO_fuzz 20 = .ok (.iconst 0, 1) := by decide +kernel
theorem d_MO_fuzz_21 : decode b_MO_fuzz 21 = .ok (.ireturn, 1) := by decide +kernel
theorem d_MO_fuzz_22 : decode b_MO_fuzz 22 = .ok (.iconst 0, 1) := by decide +kernel
theorem d_MO_fuzz_23 : decode b_MO_fuzz 23 = .ok (.istore_n 2, 1) := by decide +kernel
theorem d_MO_fuzz_24 : decode b_MO_fuzz 24 = .ok (.iload_n 2, 1) := by decide +kernel
theorem d_MO_fuzz_25 : decode b_MO_fuzz 25 = .ok (.iload_n 1, 1) := by decide +kernel
theorem d_MO_fuzz_26 : decode b_MO_fuzz 26 = .ok (.if_icmp .ge 13, 3) := by decide +kernel
theorem d_MO_fuzz_29 : decode b_MO_fuzz 29 = .ok (.aload_n 0, 1) := by decide +kernel
theorem d_MO_fuzz_30 : decode b_MO_fuzz 30 = .ok (.invokevirtual 244, 3) := by decide +kernel
theorem d_MO_fuzz_33 : decode b_MO_fuzz 33 = .ok (.iinc 2 1, 3) := by decide +kernel
theorem d_MO_fuzz_36 : decode b_MO_fuzz 36 = .ok (.goto (-12), 3) := by decide +kernel
theorem d_MO_fuzz_39 : decode b_MO_fuzz 39 = .ok (.iload_n 1, 1) := by decide +kernel
theorem d_MO_fuzz_40 : decode b_MO_fuzz 40 = .ok (.ireturn, 1) := by decide +kernel
noncomputable def l_MO_fuzz_24 (a1 : Int32) (v22 : Int32) (M23 : Mem) : Option ((Int32 × Mem) ⊕ (Int32 × Mem)) :=
  if a1 ≤ v22 then (some (.inr (a1, M23))) else (bv (s_MO_trial M23) (fun M24 => nx (v22 + (1 : Int32)) (fun v26 => some (.inl (v26, M24)))))
noncomputable def s_MO_fuzz (a1 : Int32) (M : Mem) : Option (Int32 × Mem) :=
  if a1 < (1 : Int32) then (some ((-1 : Int32), M)) else (if a1 ≤ (20 : Int32) then (if (M 26 18) = 0 then (some ((0 : Int32), M)) else (nx ((0 : Int32)) (fun v21 => lp (fun q : Int32 × Mem => l_MO_fuzz_24 a1 q.1 q.2) (v21, M)))) else (some ((-1 : Int32), M)))
set_option maxHeartbeats 4000000 in
set_option maxRecDepth 100000 in
theorem c_MO_fuzz (l : Launch) (x : Cx) (hJ : Inj x) (a1 : Int32) {M : Mem} {out : Int32 × Mem} (h : s_MO_fuzz a1 M = some out) : Ci l x y_MO_fuzz (Cond.code y_MO_fuzz b_MO_fuzz 3 (some .int) :: tb) r_MO_fuzz [.ref (x.2.1 26), .int a1] M out := by
  refine ofCi (cc := b_MO_fuzz) (maxL := 3) (by decide) rfl (rfl) (Nat.le_of_ble_eq_true rfl) ?_
  intro p e s m args below meth c Q G0 ls g hx hb hml hown hts hK hZ hP hS hl hret
  have hown : s.vm.findClass R_MO = some m.cls := hown
  have hl : lv_has ls 3 [(0, .ref (x.2.1 26)), (1, .int a1)] := hl
  obtain ⟨H, eH⟩ : ∃ z, z = s.heap := ⟨_, rfl⟩
  obtain ⟨locs, eL⟩ : ∃ z, z = ([] : List Loc) := ⟨_, rfl⟩
  rw [← eH] at hP
  have hS : va_S (A0 x) s.heap H locs := by rw [eH, eL]; exact hS
  rw [← eL]
  have key : W p l e r_MO_fuzz s m args below meth c H locs 0 0 Q (F0 m 0 ls []) := by
    clear eH eL
    unfold s_MO_fuzz at h
    refine lv_iload_n hx hb d_MO_fuzz_0 rfl (lv_at hl 1 rfl) ?_
    refine lv_iconst (v := (1 : Int32)) hx hb d_MO_fuzz_1 (by decide) ?_
    refine lv_icmp_lt (tgt := 11) hx hb d_MO_fuzz_2 rfl (fun hc => ?_) (fun hc => ?_)
    · have h := if_p hc h
      refine lv_iconst (v := (-1 : Int32)) hx hb d_MO_fuzz_11 (by decide) ?_
      obtain rfl := Option.some.inj h
      exact hret d_MO_fuzz_12 g hP hS
    · have h := if_m hc h
      refine lv_iload_n hx hb d_MO_fuzz_5 rfl (lv_at hl 1 rfl) ?_
      refine lv_bipush (v := (20 : Int32)) hx hb d_MO_fuzz_6 (by decide) ?_
      refine lv_icmp_le (tgt := 13) hx hb d_MO_fuzz_8 rfl (fun hc => ?_) (fun hc => ?_)
      · have h := if_p hc h
        refine lv_aload_n hx hb d_MO_fuzz_13 rfl (lv_at hl 0 rfl) ?_
        refine gf_MO_145 hx hb hts hown hK hP d_MO_fuzz_14 ?_
        refine lv_if_ne (tgt := 22) hx hb d_MO_fuzz_17 rfl (fun hc => ?_) (fun hc => ?_)
        · have h := if_m hc h
          refine lv_iconst (v := (0 : Int32)) hx hb d_MO_fuzz_22 (by decide) ?_
          obtain ⟨v21, ev21, h⟩ := nx_e h
          refine tp_i ev21 ?_
          refine lv_istore_n hx hb d_MO_fuzz_23 rfl hl (by decide) rfl (fun ls hl => ?_)
          have hl : lv_has ls 3 [(2, .int v21), (0, .ref (x.2.1 26)), (1, .int a1)] := hl
          obtain ⟨P24, eP24⟩ : ∃ P : (Int32 × Mem) → Prop, P = (fun q => ∀ (H : Heap) (locs : List Loc) (ls : Array Slot), va_P x.1 vwCl (wld x (q.2)) H → va_S (A0 x) s.heap H locs → lv_has ls 3 [(0, .ref (x.2.1 26)), (1, .int a1), (2, .int (q.1))] → W p l e r_MO_fuzz s m args below meth c H locs 0 0 Q (F0 m 24 ls [])) := ⟨_, rfl⟩
          have L24 : P24 (v21, M) := by
            refine lp_walk (G := G0) ?_ h g
            intro q res h g
            obtain ⟨v22, M23⟩ := q
            rw [eP24]
            intro H locs ls hP hS hl
            have hP : va_P x.1 vwCl (wld x M23) H := hP
            have hl : lv_has ls 3 [(0, .ref (x.2.1 26)), (1, .int a1), (2, .int v22)] := hl
            have h : l_MO_fuzz_24 a1 v22 M23 = some res := h
            unfold l_MO_fuzz_24 at h
            refine lv_iload_n hx hb d_MO_fuzz_24 rfl (lv_at hl 2 rfl) ?_
            refine lv_iload_n hx hb d_MO_fuzz_25 rfl (lv_at hl 1 rfl) ?_
            refine lv_icmp_ge (tgt := 39) hx hb d_MO_fuzz_26 rfl (fun hc => ?_) (fun hc => ?_)
            · have h := if_p hc h
              refine lv_iload_n hx hb d_MO_fuzz_39 rfl (lv_at hl 1 rfl) ?_
              obtain rfl := Option.some.inj h
              exact hret d_MO_fuzz_40 g hP hS
            · have h := if_m hc h
              refine lv_aload_n hx hb d_MO_fuzz_29 rfl (lv_at hl 0 rfl) ?_
              obtain ⟨M24, c25, h⟩ := bv_e h
              refine cl_MO_244 (rest := []) (R := r_MO_fuzz) (c_MO_trial l x hJ c25) hx hb hml hts hown hK hZ hP hS hl.1 (Nat.le_of_ble_eq_true rfl) (Nat.le_of_ble_eq_true rfl) (Nat.le_of_ble_eq_true rfl) ⟨rfl, rfl, Nat.zero_le _, Nat.zero_le _⟩ d_MO_fuzz_30 (fun H locs hP hS => ?_)
              obtain ⟨v26, ev26, h⟩ := nx_e h
              refine lv_iinc (k := 2) hx hb d_MO_fuzz_33 hl rfl (iinc_v (k := (1 : Int32)) (by decide) ev26) (by decide) rfl (fun ls hl => ?_)
              have hl : lv_has ls 3 [(2, .int v26), (0, .ref (x.2.1 26)), (1, .int a1)] := hl
              refine lv_goto (tgt := 24) hx hb d_MO_fuzz_36 rfl ?_
              obtain rfl := Option.some.inj h
              have g : P24 (v26, M24) := g
              rw [eP24] at g
              exact g H locs ls hP hS (lv_sub hl [1, 2, 0] rfl)
          rw [eP24] at L24
          exact L24 H locs ls hP hS (lv_sub hl [1, 2, 0] rfl)
        · have h := if_p hc h
          refine lv_iconst (v := (0 : Int32)) hx hb d_MO_fuzz_20 (by decide) ?_
          obtain rfl := Option.some.inj h
          exact hret d_MO_fuzz_21 g hP hS
      · have h := if_m hc h
        refine lv_iconst (v := (-1 : Int32)) hx hb d_MO_fuzz_11 (by decide) ?_
        obtain rfl := Option.some.inj h
        exact hret d_MO_fuzz_12 g hP hS
  rw [eH] at key
  exact key
theorem d_MO_seenEdges_0 : decode b_MO_seenEdges 0 = .ok (.iconst 0, 1) := by decide +kernel
theorem d_MO_seenEdges_1 : decode b_MO_seenEdges 1 = .ok (.istore_n 1, 1) := by decide +kernel
theorem d_MO_seenEdges_2 : decode b_MO_seenEdges 2 = .ok (.iconst 0, 1) := by decide +kernel
theorem d_MO_seenEdges_3 : decode b_MO_seenEdges 3 = .ok (.istore_n 2, 1) := by decide +kernel
theorem d_MO_seenEdges_4 : decode b_MO_seenEdges 4 = .ok (.iload_n 2, 1) := by decide +kernel
theorem d_MO_seenEdges_5 : decode b_MO_seenEdges 5 = .ok (.sipush 576, 3) := by decide +kernel
theorem d_MO_seenEdges_8 : decode b_MO_seenEdges 8 = .ok (.if_icmp .ge 26, 3) := by decide +kernel
theorem d_MO_seenEdges_11 : decode b_MO_seenEdges 11 = .ok (.aload_n 0, 1) := by decide +kernel
theorem d_MO_seenEdges_12 : decode b_MO_seenEdges 12 = .ok (.getfield 76, 3) := by decide +kernel
theorem d_MO_seenEdges_15 : decode b_MO_seenEdges 15 = .ok (.iload_n 2, 1) := by decide +kernel
theorem d_MO_seenEdges_16 : decode b_MO_seenEdges 16 = .ok (.iaload, 1) := by decide +kernel
theorem d_MO_seenEdges_17 : decode b_MO_seenEdges 17 = .ok (.ifCond .eq 9, 3) := by decide +kernel
theorem d_MO_seenEdges_20 : decode b_MO_seenEdges 20 = .ok (.iload_n 1, 1) := by decide +kernel
theorem d_MO_seenEdges_21 : decode b_MO_seenEdges 21 = .ok (.iconst 1, 1) := by decide +kernel
theorem d_MO_seenEdges_22 : decode b_MO_seenEdges 22 = .ok (.iadd, 1) := by decide +kernel
theorem d_MO_seenEdges_23 : decode b_MO_seenEdges 23 = .ok (.goto 4, 3) := by decide +kernel
theorem d_MO_seenEdges_26 : decode b_MO_seenEdges 26 = .ok (.iload_n 1, 1) := by decide +kernel
theorem d_MO_seenEdges_27 : decode b_MO_seenEdges 27 = .ok (.istore_n 1, 1) := by decide +kernel
theorem d_MO_seenEdges_28 : decode b_MO_seenEdges 28 = .ok (.iinc 2 1, 3) := by decide +kernel
theorem d_MO_seenEdges_31 : decode b_MO_seenEdges 31 = .ok (.goto (-27), 3) := by decide +kernel
theorem d_MO_seenEdges_34 : decode b_MO_seenEdges 34 = .ok (.iload_n 1, 1) := by decide +kernel
theorem d_MO_seenEdges_35 : decode b_MO_seenEdges 35 = .ok (.ireturn, 1) := by decide +kernel
noncomputable def j_MO_seenEdges_27 (a26 : Int32) (a27 : Int32) (M28 : Mem) : Option ((Int32 × Int32 × Mem) ⊕ (Int32 × Mem)) :=
  nx (a26 + (1 : Int32)) (fun v29 => some (.inl (a27, v29, M28)))
noncomputable def l_MO_seenEdges_4  (v23 : Int32) (v24 : Int32) (M25 : Mem) : Option ((Int32 × Int32 × Mem) ⊕ (Int32 × Mem)) :=
  if (576 : Int32) ≤ v24 then (some (.inr (v23, M25))) else (ck v24 576 (if (M25 49 v24.toNatClampNeg) = 0 then (j_MO_seenEdges_27 v24 v23 M25) else (j_MO_seenEdges_27 v24 (v23 + (1 : Int32)) M25)))
noncomputable def s_MO_seenEdges  (M : Mem) : Option (Int32 × Mem) :=
  nx ((0 : Int32)) (fun v21 => nx ((0 : Int32)) (fun v22 => lp (fun q : Int32 × Int32 × Mem => l_MO_seenEdges_4 q.1 q.2.1 q.2.2) (v21, v22, M)))
set_option maxHeartbeats 4000000 in
set_option maxRecDepth 100000 in
theorem c_MO_seenEdges (l : Launch) (x : Cx) (hJ : Inj x)  {M : Mem} {out : Int32 × Mem} (h : s_MO_seenEdges M = some out) : Ci l x y_MO_seenEdges (Cond.code y_MO_seenEdges b_MO_seenEdges 3 (some .int) :: tb) r_MO_seenEdges [.ref (x.2.1 26)] M out := by
  refine ofCi (cc := b_MO_seenEdges) (maxL := 3) (by decide) rfl (rfl) (Nat.le_of_ble_eq_true rfl) ?_
  intro p e s m args below meth c Q G0 ls g hx hb hml hown hts hK hZ hP hS hl hret
  have hown : s.vm.findClass R_MO = some m.cls := hown
  have hl : lv_has ls 3 [(0, .ref (x.2.1 26))] := hl
  obtain ⟨H, eH⟩ : ∃ z, z = s.heap := ⟨_, rfl⟩
  obtain ⟨locs, eL⟩ : ∃ z, z = ([] : List Loc) := ⟨_, rfl⟩
  rw [← eH] at hP
  have hS : va_S (A0 x) s.heap H locs := by rw [eH, eL]; exact hS
  rw [← eL]
  have key : W p l e r_MO_seenEdges s m args below meth c H locs 0 0 Q (F0 m 0 ls []) := by
    clear eH eL
    unfold s_MO_seenEdges at h
    refine lv_iconst (v := (0 : Int32)) hx hb d_MO_seenEdges_0 (by decide) ?_
    obtain ⟨v21, ev21, h⟩ := nx_e h
    refine tp_i ev21 ?_
    refine lv_istore_n hx hb d_MO_seenEdges_1 rfl hl (by decide) rfl (fun ls hl => ?_)
    have hl : lv_has ls 3 [(1, .int v21), (0, .ref (x.2.1 26))] := hl
    refine lv_iconst (v := (0 : Int32)) hx hb d_MO_seenEdges_2 (by decide) ?_
    obtain ⟨v22, ev22, h⟩ := nx_e h
    refine tp_i ev22 ?_
    refine lv_istore_n hx hb d_MO_seenEdges_3 rfl hl (by decide) rfl (fun ls hl => ?_)
    have hl : lv_has ls 3 [(2, .int v22), (1, .int v21), (0, .ref (x.2.1 26))] := hl
    obtain ⟨P4, eP4⟩ : ∃ P : (Int32 × Int32 × Mem) → Prop, P = (fun q => ∀ (H : Heap) (locs : List Loc) (ls : Array Slot), va_P x.1 vwCl (wld x (q.2.2)) H → va_S (A0 x) s.heap H locs → lv_has ls 3 [(0, .ref (x.2.1 26)), (1, .int (q.1)), (2, .int (q.2.1))] → W p l e r_MO_seenEdges s m args below meth c H locs 0 0 Q (F0 m 4 ls [])) := ⟨_, rfl⟩
    have L4 : P4 (v21, v22, M) := by
      refine lp_walk (G := G0) ?_ h g
      intro q res h g
      obtain ⟨v23, v24, M25⟩ := q
      rw [eP4]
      intro H locs ls hP hS hl
      have hP : va_P x.1 vwCl (wld x M25) H := hP
      have hl : lv_has ls 3 [(0, .ref (x.2.1 26)), (1, .int v23), (2, .int v24)] := hl
      have h : l_MO_seenEdges_4 v23 v24 M25 = some res := h
      unfold l_MO_seenEdges_4 at h
      have J27 : ∀ (a26 : Int32) (a27 : Int32) (M28 : Mem)  (res : (Int32 × Int32 × Mem) ⊕ (Int32 × Mem)) (h : j_MO_seenEdges_27 a26 a27 M28 = some res) (g : (lpG P4 G0) res) (H : Heap) (locs : List Loc) (ls : Array Slot) (hP : va_P x.1 vwCl (wld x M28) H) (hS : va_S (A0 x) s.heap H locs) (hl : lv_has ls 3 [(0, .ref (x.2.1 26)), (2, .int a26)]), W p l e r_MO_seenEdges s m args below meth c H locs 0 0 Q (F0 m 27 ls [.int a27]) := by
        intro a26 a27 M28 res h g H locs ls hP hS hl
        unfold j_MO_seenEdges_27 at h
        refine lv_istore_n hx hb d_MO_seenEdges_27 rfl hl (by decide) rfl (fun ls hl => ?_)
        have hl : lv_has ls 3 [(1, .int a27), (0, .ref (x.2.1 26)), (2, .int a26)] := hl
        obtain ⟨v29, ev29, h⟩ := nx_e h
        refine lv_iinc (k := 2) hx hb d_MO_seenEdges_28 hl rfl (iinc_v (k := (1 : Int32)) (by decide) ev29) (by decide) rfl (fun ls hl => ?_)
        have hl : lv_has ls 3 [(2, .int v29), (1, .int a27), (0, .ref (x.2.1 26))] := hl
        refine lv_goto (tgt := 4) hx hb d_MO_seenEdges_31 rfl ?_
        obtain rfl := Option.some.inj h
        have g : P4 (a27, v29, M28) := g
        rw [eP4] at g
        exact g H locs ls hP hS (lv_sub hl [2, 1, 0] rfl)
      refine lv_iload_n hx hb d_MO_seenEdges_4 rfl (lv_at hl 2 rfl) ?_
      refine lv_sipush (v := (576 : Int32)) hx hb d_MO_seenEdges_5 (by decide) ?_
      refine lv_icmp_ge (tgt := 34) hx hb d_MO_seenEdges_8 rfl (fun hc => ?_) (fun hc => ?_)
      · have h := if_p hc h
        refine lv_iload_n hx hb d_MO_seenEdges_34 rfl (lv_at hl 1 rfl) ?_
        obtain rfl := Option.some.inj h
        exact hret d_MO_seenEdges_35 g hP hS
      · have h := if_m hc h
        refine lv_aload_n hx hb d_MO_seenEdges_11 rfl (lv_at hl 0 rfl) ?_
        refine gf_MO_76 hx hb hts hown hK hP d_MO_seenEdges_12 ?_
        refine lv_iload_n hx hb d_MO_seenEdges_15 rfl (lv_at hl 2 rfl) ?_
        obtain ⟨b30, h⟩ := ck_e h
        refine m_ald hx hb hK hP ar_MO_went b30 d_MO_seenEdges_16 ?_
        refine lv_if_eq (tgt := 26) hx hb d_MO_seenEdges_17 rfl (fun hc => ?_) (fun hc => ?_)
        · have h := if_p hc h
          refine lv_iload_n hx hb d_MO_seenEdges_26 rfl (lv_at hl 1 rfl) ?_
          exact J27 v24 v23 M25 _ h g H locs ls hP hS (lv_sub hl [0, 2] rfl)
        · have h := if_m hc h
          refine lv_iload_n hx hb d_MO_seenEdges_20 rfl (lv_at hl 1 rfl) ?_
          refine lv_iconst (v := (1 : Int32)) hx hb d_MO_seenEdges_21 (by decide) ?_
          refine lv_iadd hx hb d_MO_seenEdges_22 ?_
          refine lv_goto (tgt := 27) hx hb d_MO_seenEdges_23 rfl ?_
          exact J27 v24 (v23 + (1 : Int32)) M25 _ h g H locs ls hP hS (lv_sub hl [0, 2] rfl)
    rw [eP4] at L4
    exact L4 H locs ls hP hS (lv_sub hl [2, 1, 0] rfl)
  rw [eH] at key
  exact key
theorem d_MO_seenPairs_0 : decode b_MO_seenPairs 0 = .ok (.iconst 0, 1) := by decide +kernel
theorem d_MO_seenPairs_1 : decode b_MO_seenPairs 1 = .ok (.istore_n 1, 1) := by decide +kernel
theorem d_MO_seenPairs_2 : decode b_MO_seenPairs 2 = .ok (.iconst 0, 1) := by decide +kernel
theorem d_MO_seenPairs_3 : decode b_MO_seenPairs 3 = .ok (.istore_n 2, 1) := by decide +kernel
theorem d_MO_seenPairs_4 : decode b_MO_seenPairs 4 = .ok (.iload_n 2, 1) := by decide +kernel
theorem d_MO_seenPairs_5 : decode b_MO_seenPairs 5 = .ok (.sipush 576, 3) := by decide +kernel
theorem d_MO_seenPairs_8 : decode b_MO_seenPairs 8 = .ok (.if_icmp .ge 36, 3) := by decide +kernel
theorem d_MO_seenPairs_11 : decode b_MO_seenPairs 11 = .ok (.iconst 0, 1) := by decide +kernel
theorem d_MO_seenPairs_12 : decode b_MO_seenPairs 12 = .ok (.istore_n 3, 1) := by decide +kernel
theorem d_MO_seenPairs_13 : decode b_MO_seenPairs 13 = .ok (.iload_n 3, 1) := by decide +kernel
theorem d_MO_seenPairs_14 : decode b_MO_seenPairs 14 = .ok (.bipush 6, 2) := by decide +kernel
theorem d_MO_seenPairs_16 : decode b_MO_seenPairs 16 = .ok (.if_icmp .ge 22, 3) := by decide +kernel
theorem d_MO_seenPairs_19 : decode b_MO_seenPairs 19 = .ok (.iload_n 1, 1) := by decide +kernel
theorem d_MO_seenPairs_20 : decode b_MO_seenPairs 20 = .ok (.aload_n 0, 1) := by decide +kernel
theorem d_MO_seenPairs_21 : decode b_MO_seenPairs 21 = .ok (.getfield 73, 3) := by decide +kernel
theorem d_MO_seenPairs_24 : decode b_MO_seenPairs 24 = .ok (.iload_n 2, 1) := by decide +kernel
theorem d_MO_seenPairs_25 : decode b_MO_seenPairs 25 = .ok (.iaload, 1) := by decide +kernel
theorem d_MO_seenPairs_26 : decode b_MO_seenPairs 26 = .ok (.iload_n 3, 1) := by decide +kernel
theorem d_MO_seenPairs_27 : decode b_MO_seenPairs 27 = .ok (.ishr, 1) := by decide +kernel
theorem d_MO_seenPairs_28 : decode b_MO_seenPairs 28 = .ok (.iconst 1, 1) := by decide +kernel
theorem d_MO_seenPairs_29 : decode b_MO_seenPairs 29 = .ok (.iand, 1) := by decide +kernel
theorem d_MO_seenPairs_30 : decode b_MO_seenPairs 30 = .ok (.iadd, 1) := by decide +kernel
theorem d_MO_seenPairs_31 : decode b_MO_seenPairs 31 = .ok (.istore_n 1, 1) := by decide +kernel
theorem d_MO_seenPairs_32 : decode b_MO_seenPairs 32 = .ok (.iinc 3 1, 3) := by decide +kernel
theorem d_MO_seenPairs_35 : decode b_MO_seenPairs 35 = .ok (.goto (-22), 3) := by decide +kernel
theorem d_MO_seenPairs_38 : decode b_MO_seenPairs 38 = .ok (.iinc 2 1, 3) := by decide +kernel
theorem d_MO_seenPairs_41 : decode b_MO_seenPairs 41 = .ok (.goto (-37), 3) := by decide +kernel
theorem d_MO_seenPairs_44 : decode b_MO_seenPairs 44 = .ok (.iload_n 1, 1) := by decide +kernel
theorem d_MO_seenPairs_45 : decode b_MO_seenPairs 45 = .ok (.ireturn, 1) := by decide +kernel
noncomputable def j_MO_seenPairs_38 (a26 : Int32) (a27 : Int32) (M28 : Mem) : Option ((Int32 × Int32 × Mem) ⊕ (Int32 × Mem)) :=
  nx (a27 + (1 : Int32)) (fun v29 => some (.inl (a26, v29, M28)))
noncomputable def l_MO_seenPairs_13 (v24 : Int32) (v31 : Int32) (v32 : Int32) (M33 : Mem) : Option ((Int32 × Int32 × Mem) ⊕ ((Int32 × Int32 × Mem) ⊕ (Int32 × Mem))) :=
  if (6 : Int32) ≤ v32 then (jw1 (j_MO_seenPairs_38 v31 v24 M33)) else (ck v24 576 (nx (v31 + (((M33 48 v24.toNatClampNeg) >>> (v32 &&& 31)) &&& (1 : Int32))) (fun v35 => nx (v32 + (1 : Int32)) (fun v36 => some (.inl (v35, v36, M33))))))
noncomputable def l_MO_seenPairs_4  (v23 : Int32) (v24 : Int32) (M25 : Mem) : Option ((Int32 × Int32 × Mem) ⊕ (Int32 × Mem)) :=
  if (576 : Int32) ≤ v24 then (some (.inr (v23, M25))) else (nx ((0 : Int32)) (fun v30 => lp (fun q : Int32 × Int32 × Mem => l_MO_seenPairs_13 v24 q.1 q.2.1 q.2.2) (v23, v30, M25)))
noncomputable def s_MO_seenPairs  (M : Mem) : Option (Int32 × Mem) :=
  nx ((0 : Int32)) (fun v21 => nx ((0 : Int32)) (fun v22 => lp (fun q : Int32 × Int32 × Mem => l_MO_seenPairs_4 q.1 q.2.1 q.2.2) (v21, v22, M)))
set_option maxHeartbeats 4000000 in
set_option maxRecDepth 100000 in
theorem c_MO_seenPairs (l : Launch) (x : Cx) (hJ : Inj x)  {M : Mem} {out : Int32 × Mem} (h : s_MO_seenPairs M = some out) : Ci l x y_MO_seenPairs (Cond.code y_MO_seenPairs b_MO_seenPairs 4 (some .int) :: tb) r_MO_seenPairs [.ref (x.2.1 26)] M out := by
  refine ofCi (cc := b_MO_seenPairs) (maxL := 4) (by decide) rfl (rfl) (Nat.le_of_ble_eq_true rfl) ?_
  intro p e s m args below meth c Q G0 ls g hx hb hml hown hts hK hZ hP hS hl hret
  have hown : s.vm.findClass R_MO = some m.cls := hown
  have hl : lv_has ls 4 [(0, .ref (x.2.1 26))] := hl
  obtain ⟨H, eH⟩ : ∃ z, z = s.heap := ⟨_, rfl⟩
  obtain ⟨locs, eL⟩ : ∃ z, z = ([] : List Loc) := ⟨_, rfl⟩
  rw [← eH] at hP
  have hS : va_S (A0 x) s.heap H locs := by rw [eH, eL]; exact hS
  rw [← eL]
  have key : W p l e r_MO_seenPairs s m args below meth c H locs 0 0 Q (F0 m 0 ls []) := by
    clear eH eL
    unfold s_MO_seenPairs at h
    refine lv_iconst (v := (0 : Int32)) hx hb d_MO_seenPairs_0 (by decide) ?_
    obtain ⟨v21, ev21, h⟩ := nx_e h
    refine tp_i ev21 ?_
    refine lv_istore_n hx hb d_MO_seenPairs_1 rfl hl (by decide) rfl (fun ls hl => ?_)
    have hl : lv_has ls 4 [(1, .int v21), (0, .ref (x.2.1 26))] := hl
    refine lv_iconst (v := (0 : Int32)) hx hb d_MO_seenPairs_2 (by decide) ?_
    obtain ⟨v22, ev22, h⟩ := nx_e h
    refine tp_i ev22 ?_
    refine lv_istore_n hx hb d_MO_seenPairs_3 rfl hl (by decide) rfl (fun ls hl => ?_)
    have hl : lv_has ls 4 [(2, .int v22), (1, .int v21), (0, .ref (x.2.1 26))] := hl
    obtain ⟨P4, eP4⟩ : ∃ P : (Int32 × Int32 × Mem) → Prop, P = (fun q => ∀ (H : Heap) (locs : List Loc) (ls : Array Slot), va_P x.1 vwCl (wld x (q.2.2)) H → va_S (A0 x) s.heap H locs → lv_has ls 4 [(0, .ref (x.2.1 26)), (1, .int (q.1)), (2, .int (q.2.1))] → W p l e r_MO_seenPairs s m args below meth c H locs 0 0 Q (F0 m 4 ls [])) := ⟨_, rfl⟩
    have L4 : P4 (v21, v22, M) := by
      refine lp_walk (G := G0) ?_ h g
      intro q res h g
      obtain ⟨v23, v24, M25⟩ := q
      rw [eP4]
      intro H locs ls hP hS hl
      have hP : va_P x.1 vwCl (wld x M25) H := hP
      have hl : lv_has ls 4 [(0, .ref (x.2.1 26)), (1, .int v23), (2, .int v24)] := hl
      have h : l_MO_seenPairs_4 v23 v24 M25 = some res := h
      unfold l_MO_seenPairs_4 at h
      have J38 : ∀ (a26 : Int32) (a27 : Int32) (M28 : Mem)  (res : (Int32 × Int32 × Mem) ⊕ (Int32 × Mem)) (h : j_MO_seenPairs_38 a26 a27 M28 = some res) (g : (lpG P4 G0) res) (H : Heap) (locs : List Loc) (ls : Array Slot) (hP : va_P x.1 vwCl (wld x M28) H) (hS : va_S (A0 x) s.heap H locs) (hl : lv_has ls 4 [(0, .ref (x.2.1 26)), (1, .int a26), (2, .int a27)]), W p l e r_MO_seenPairs s m args below meth c H locs 0 0 Q (F0 m 38 ls []) := by
        intro a26 a27 M28 res h g H locs ls hP hS hl
        unfold j_MO_seenPairs_38 at h
        obtain ⟨v29, ev29, h⟩ := nx_e h
        refine lv_iinc (k := 2) hx hb d_MO_seenPairs_38 hl rfl (iinc_v (k := (1 : Int32)) (by decide) ev29) (by decide) rfl (fun ls hl => ?_)
        have hl : lv_has ls 4 [(2, .int v29), (0, .ref (x.2.1 26)), (1, .int a26)] := hl
        refine lv_goto (tgt := 4) hx hb d_MO_seenPairs_41 rfl ?_
        obtain rfl := Option.some.inj h
        have g : P4 (a26, v29, M28) := g
        rw [eP4] at g
        exact g H locs ls hP hS (lv_sub hl [1, 2, 0] rfl)
      refine lv_iload_n hx hb d_MO_seenPairs_4 rfl (lv_at hl 2 rfl) ?_
      refine lv_sipush (v := (576 : Int32)) hx hb d_MO_seenPairs_5 (by decide) ?_
      refine lv_icmp_ge (tgt := 44) hx hb d_MO_seenPairs_8 rfl (fun hc => ?_) (fun hc => ?_)
      · have h := if_p hc h
        refine lv_iload_n hx hb d_MO_seenPairs_44 rfl (lv_at hl 1 rfl) ?_
        obtain rfl := Option.some.inj h
        exact hret d_MO_seenPairs_45 g hP hS
      · have h := if_m hc h
        refine lv_iconst (v := (0 : Int32)) hx hb d_MO_seenPairs_11 (by decide) ?_
        obtain ⟨v30, ev30, h⟩ := nx_e h
        refine tp_i ev30 ?_
        refine lv_istore_n hx hb d_MO_seenPairs_12 rfl hl (by decide) rfl (fun ls hl => ?_)
        have hl : lv_has ls 4 [(3, .int v30), (0, .ref (x.2.1 26)), (1, .int v23), (2, .int v24)] := hl
        obtain ⟨P13, eP13⟩ : ∃ P : (Int32 × Int32 × Mem) → Prop, P = (fun q => ∀ (H : Heap) (locs : List Loc) (ls : Array Slot), va_P x.1 vwCl (wld x (q.2.2)) H → va_S (A0 x) s.heap H locs → lv_has ls 4 [(0, .ref (x.2.1 26)), (1, .int (q.1)), (2, .int v24), (3, .int (q.2.1))] → W p l e r_MO_seenPairs s m args below meth c H locs 0 0 Q (F0 m 13 ls [])) := ⟨_, rfl⟩
        have L13 : P13 (v23, v30, M25) := by
          refine lp_walk (G := (lpG P4 G0)) ?_ h g
          intro q res h g
          obtain ⟨v31, v32, M33⟩ := q
          rw [eP13]
          intro H locs ls hP hS hl
          have hP : va_P x.1 vwCl (wld x M33) H := hP
          have hl : lv_has ls 4 [(0, .ref (x.2.1 26)), (1, .int v31), (2, .int v24), (3, .int v32)] := hl
          have h : l_MO_seenPairs_13 v24 v31 v32 M33 = some res := h
          unfold l_MO_seenPairs_13 at h
          refine lv_iload_n hx hb d_MO_seenPairs_13 rfl (lv_at hl 3 rfl) ?_
          refine lv_bipush (v := (6 : Int32)) hx hb d_MO_seenPairs_14 (by decide) ?_
          refine lv_icmp_ge (tgt := 38) hx hb d_MO_seenPairs_16 rfl (fun hc => ?_) (fun hc => ?_)
          · have h := if_p hc h
            obtain ⟨res2, hres, h2⟩ := jw1_e h
            clear h
            subst hres
            have h := h2
            exact J38 v31 v24 M33 _ h g H locs ls hP hS (lv_sub hl [0, 1, 2] rfl)
          · have h := if_m hc h
            refine lv_iload_n hx hb d_MO_seenPairs_19 rfl (lv_at hl 1 rfl) ?_
            refine lv_aload_n hx hb d_MO_seenPairs_20 rfl (lv_at hl 0 rfl) ?_
            refine gf_MO_73 hx hb hts hown hK hP d_MO_seenPairs_21 ?_
            refine lv_iload_n hx hb d_MO_seenPairs_24 rfl (lv_at hl 2 rfl) ?_
            obtain ⟨b34, h⟩ := ck_e h
            refine m_ald hx hb hK hP ar_MO_buckets b34 d_MO_seenPairs_25 ?_
            refine lv_iload_n hx hb d_MO_seenPairs_26 rfl (lv_at hl 3 rfl) ?_
            refine lv_ishr hx hb d_MO_seenPairs_27 ?_
            refine lv_iconst (v := (1 : Int32)) hx hb d_MO_seenPairs_28 (by decide) ?_
            refine lv_iand hx hb d_MO_seenPairs_29 ?_
            refine lv_iadd hx hb d_MO_seenPairs_30 ?_
            obtain ⟨v35, ev35, h⟩ := nx_e h
            refine tp_i ev35 ?_
            refine lv_istore_n hx hb d_MO_seenPairs_31 rfl hl (by decide) rfl (fun ls hl => ?_)
            have hl : lv_has ls 4 [(1, .int v35), (0, .ref (x.2.1 26)), (2, .int v24), (3, .int v32)] := hl
            obtain ⟨v36, ev36, h⟩ := nx_e h
            refine lv_iinc (k := 3) hx hb d_MO_seenPairs_32 hl rfl (iinc_v (k := (1 : Int32)) (by decide) ev36) (by decide) rfl (fun ls hl => ?_)
            have hl : lv_has ls 4 [(3, .int v36), (1, .int v35), (0, .ref (x.2.1 26)), (2, .int v24)] := hl
            refine lv_goto (tgt := 13) hx hb d_MO_seenPairs_35 rfl ?_
            obtain rfl := Option.some.inj h
            have g : P13 (v35, v36, M33) := g
            rw [eP13] at g
            exact g H locs ls hP hS (lv_sub hl [2, 1, 3, 0] rfl)
        rw [eP13] at L13
        exact L13 H locs ls hP hS (lv_sub hl [1, 2, 3, 0] rfl)
    rw [eP4] at L4
    exact L4 H locs ls hP hS (lv_sub hl [2, 1, 0] rfl)
  rw [eH] at key
  exact key
