theorem d_EC_emit_0 : decode b_EC_emit 0 = .ok (.aload_n 0, 1) := by decide +kernel
theorem d_EC_emit_1 : decode b_EC_emit 1 = .ok (.getfield 70, 3) := by decide +kernel
theorem d_EC_emit_4 : decode b_EC_emit 4 = .ok (.ifCond .ne 20, 3) := by decide +kernel
theorem d_EC_emit_7 : decode b_EC_emit 7 = .ok (.aload_n 0, 1) := by decide +kernel
theorem d_EC_emit_8 : decode b_EC_emit 8 = .ok (.getfield 10, 3) := by decide +kernel
theorem d_EC_emit_11 : decode b_EC_emit 11 = .ok (.iload_n 1, 1) := by decide +kernel
theorem d_EC_emit_12 : decode b_EC_emit 12 = .ok (.iload_n 2, 1) := by decide +kernel
theorem d_EC_emit_13 : decode b_EC_emit 13 = .ok (.iload_n 3, 1) := by decide +kernel
theorem d_EC_emit_14 : decode b_EC_emit 14 = .ok (.invokevirtual 80, 3) := by decide +kernel
theorem d_EC_emit_17 : decode b_EC_emit 17 = .ok (.ifCond .eq 7, 3) := by decide +kernel
theorem d_EC_emit_20 : decode b_EC_emit 20 = .ok (.iconst 1, 1) := by decide +kernel
theorem d_EC_emit_21 : decode b_EC_emit 21 = .ok (.goto 4, 3) := by decide +kernel
theorem d_EC_emit_24 : decode b_EC_emit 24 = .ok (.iconst 0, 1) := by decide +kernel
theorem d_EC_emit_25 : decode b_EC_emit 25 = .ok (.ireturn, 1) := by decide +kernel
noncomputable def s_EC_emit (a1 : Int32) (a2 : Int32) (a3 : Int32) (M : Mem) : Option (Int32 × Mem) :=
  if (M 0 9) = 0 then (bi (s_PR_append a1 a2 a3 M) (fun r23 M21 => if r23 = 0 then (some ((0 : Int32), M21)) else (some ((1 : Int32), M21)))) else (some ((0 : Int32), M))
set_option maxHeartbeats 4000000 in
set_option maxRecDepth 100000 in
theorem c_EC_emit (l : Launch) (x : Cx) (hJ : Inj x) (a1 : Int32) (a2 : Int32) (a3 : Int32) {M : Mem} {out : Int32 × Mem} (h : s_EC_emit a1 a2 a3 M = some out) : Ci l x y_EC_emit (Cond.code y_EC_emit b_EC_emit 4 (some .boolean) :: tb) r_EC_emit [.ref (x.2.1 0), .int a1, .int a2, .int a3] M out := by
  refine ofCz (cc := b_EC_emit) (maxL := 4) (by decide) rfl (rfl) (Nat.le_of_ble_eq_true rfl) ?_
  intro p e s m args below meth c Q G0 ls g hx hb hml hown hts hK hZ hP hS hl hret
  have hown : s.vm.findClass R_EC = some m.cls := hown
  have hl : lv_has ls 4 [(0, .ref (x.2.1 0)), (1, .int a1), (2, .int a2), (3, .int a3)] := hl
  obtain ⟨H, eH⟩ : ∃ z, z = s.heap := ⟨_, rfl⟩
  obtain ⟨locs, eL⟩ : ∃ z, z = ([] : List Loc) := ⟨_, rfl⟩
  rw [← eH] at hP
  have hS : va_S (A0 x) s.heap H locs := by rw [eH, eL]; exact hS
  rw [← eL]
  have key : W p l e r_EC_emit s m args below meth c H locs 0 0 Q (F0 m 0 ls []) := by
    clear eH eL
    unfold s_EC_emit at h
    refine lv_aload_n hx hb d_EC_emit_0 rfl (lv_at hl 0 rfl) ?_
    refine gf_EC_70 hx hb hts hown hK hP d_EC_emit_1 ?_
    refine lv_if_ne (tgt := 24) hx hb d_EC_emit_4 rfl (fun hc => ?_) (fun hc => ?_)
    · have h := if_m hc h
      refine lv_iconst (v := (0 : Int32)) hx hb d_EC_emit_24 (by decide) ?_
      obtain rfl := Option.some.inj h
      exact hret (by decide) d_EC_emit_25 g hP hS
    · have h := if_p hc h
      refine lv_aload_n hx hb d_EC_emit_7 rfl (lv_at hl 0 rfl) ?_
      refine gf_EC_10 hx hb hts hown hK hP d_EC_emit_8 ?_
      refine lv_iload_n hx hb d_EC_emit_11 rfl (lv_at hl 1 rfl) ?_
      refine lv_iload_n hx hb d_EC_emit_12 rfl (lv_at hl 2 rfl) ?_
      refine lv_iload_n hx hb d_EC_emit_13 rfl (lv_at hl 3 rfl) ?_
      obtain ⟨r23, M21, c22, h⟩ := bi_e h
      refine cl_EC_80 (rest := []) (R := r_EC_emit) (c_PR_append l x hJ a1 a2 a3 c22) hx hb hml hts hown hK hZ hP hS hl.1 (Nat.le_of_ble_eq_true rfl) (Nat.le_of_ble_eq_true rfl) (Nat.le_of_ble_eq_true rfl) ⟨rfl, rfl, Nat.zero_le _, Nat.zero_le _⟩ d_EC_emit_14 (fun H locs hP hS => ?_)
      refine lv_if_eq (tgt := 24) hx hb d_EC_emit_17 rfl (fun hc => ?_) (fun hc => ?_)
      · have h := if_p hc h
        refine lv_iconst (v := (0 : Int32)) hx hb d_EC_emit_24 (by decide) ?_
        obtain rfl := Option.some.inj h
        exact hret (by decide) d_EC_emit_25 g hP hS
      · have h := if_m hc h
        refine lv_iconst (v := (1 : Int32)) hx hb d_EC_emit_20 (by decide) ?_
        refine lv_goto (tgt := 25) hx hb d_EC_emit_21 rfl ?_
        obtain rfl := Option.some.inj h
        exact hret (by decide) d_EC_emit_25 g hP hS
  rw [eH] at key
  exact key
theorem d_EC_feed_0 : decode b_EC_feed 0 = .ok (.aload_n 0, 1) := by decide +kernel
theorem d_EC_feed_1 : decode b_EC_feed 1 = .ok (.getfield 19, 3) := by decide +kernel
theorem d_EC_feed_4 : decode b_EC_feed 4 = .ok (.iload_n 1, 1) := by decide +kernel
theorem d_EC_feed_5 : decode b_EC_feed 5 = .ok (.invokevirtual 84, 3) := by decide +kernel
theorem d_EC_feed_8 : decode b_EC_feed 8 = .ok (.ireturn, 1) := by decide +kernel
noncomputable def s_EC_feed (a1 : Int32) (M : Mem) : Option (Int32 × Mem) :=
  bi (s_IN_append 52 a1 M) (fun r23 M21 => cb r23 (some (r23, M21)))
set_option maxHeartbeats 4000000 in
set_option maxRecDepth 100000 in
theorem c_EC_feed (l : Launch) (x : Cx) (hJ : Inj x) (a1 : Int32) {M : Mem} {out : Int32 × Mem} (h : s_EC_feed a1 M = some out) : Ci l x y_EC_feed (Cond.code y_EC_feed b_EC_feed 2 (some .boolean) :: tb) r_EC_feed [.ref (x.2.1 0), .int a1] M out := by
  refine ofCz (cc := b_EC_feed) (maxL := 2) (by decide) rfl (rfl) (Nat.le_of_ble_eq_true rfl) ?_
  intro p e s m args below meth c Q G0 ls g hx hb hml hown hts hK hZ hP hS hl hret
  have hown : s.vm.findClass R_EC = some m.cls := hown
  have hl : lv_has ls 2 [(0, .ref (x.2.1 0)), (1, .int a1)] := hl
  obtain ⟨H, eH⟩ : ∃ z, z = s.heap := ⟨_, rfl⟩
  obtain ⟨locs, eL⟩ : ∃ z, z = ([] : List Loc) := ⟨_, rfl⟩
  rw [← eH] at hP
  have hS : va_S (A0 x) s.heap H locs := by rw [eH, eL]; exact hS
  rw [← eL]
  have key : W p l e r_EC_feed s m args below meth c H locs 0 0 Q (F0 m 0 ls []) := by
    clear eH eL
    unfold s_EC_feed at h
    refine lv_aload_n hx hb d_EC_feed_0 rfl (lv_at hl 0 rfl) ?_
    refine gf_EC_19 hx hb hts hown hK hP d_EC_feed_1 ?_
    refine lv_iload_n hx hb d_EC_feed_4 rfl (lv_at hl 1 rfl) ?_
    obtain ⟨r23, M21, c22, h⟩ := bi_e h
    refine cl_EC_84 (rest := []) (R := r_EC_feed) (c_IN_append l x hJ 52 kd_EC_draft a1 c22) kd_EC_draft hx hb hml hts hown hK hZ hP hS hl.1 (Nat.le_of_ble_eq_true rfl) (Nat.le_of_ble_eq_true rfl) (Nat.le_of_ble_eq_true rfl) ⟨rfl, rfl, Nat.zero_le _, Nat.zero_le _⟩ d_EC_feed_5 (fun H locs hP hS => ?_)
    obtain ⟨b24, h⟩ := cb_e h
    obtain rfl := Option.some.inj h
    exact hret b24 d_EC_feed_8 g hP hS
  rw [eH] at key
  exact key
theorem d_EC_execute_0 : decode b_EC_execute 0 = .ok (.aload_n 0, 1) := by decide +kernel
theorem d_EC_execute_1 : decode b_EC_execute 1 = .ok (.getfield 29, 3) := by decide +kernel
theorem d_EC_execute_4 : decode b_EC_execute 4 = .ok (.aload_n 0, 1) := by decide +kernel
theorem d_EC_execute_5 : decode b_EC_execute 5 = .ok (.getfield 10, 3) := by decide +kernel
theorem d_EC_execute_8 : decode b_EC_execute 8 = .ok (.aload_n 1, 1) := by decide +kernel
theorem d_EC_execute_9 : decode b_EC_execute 9 = .ok (.invokevirtual 186, 3) := by decide +kernel
theorem d_EC_execute_12 : decode b_EC_execute 12 = .ok (.aload_n 0, 1) := by decide +kernel
theorem d_EC_execute_13 : decode b_EC_execute 13 = .ok (.dup, 1) := by decide +kernel
theorem d_EC_execute_14 : decode b_EC_execute 14 = .ok (.getfield 70, 3) := by decide +kernel
theorem d_EC_execute_17 : decode b_EC_execute 17 = .ok (.iconst 1, 1) := by decide +kernel
theorem d_EC_execute_18 : decode b_EC_execute 18 = .ok (.iadd, 1) := by decide +kernel
theorem d_EC_execute_19 : decode b_EC_execute 19 = .ok (.putfield 70, 3) := by decide +kernel
theorem d_EC_execute_22 : decode b_EC_execute 22 = .ok (.aload_n 0, 1) := by decide +kernel
theorem d_EC_execute_23 : decode b_EC_execute 23 = .ok (.getfield 29, 3) := by decide +kernel
theorem d_EC_execute_26 : decode b_EC_execute 26 = .ok (.getfield 190, 3) := by decide +kernel
theorem d_EC_execute_29 : decode b_EC_execute 29 = .ok (.iconst 5, 1) := by decide +kernel
theorem d_EC_execute_30 : decode b_EC_execute 30 = .ok (.if_icmp .ne 13, 3) := by decide +kernel
theorem d_EC_execute_33 : decode b_EC_execute 33 = .ok (.aload_n 0, 1) := by decide +kernel
theorem d_EC_execute_34 : decode b_EC_execute 34 = .ok (.dup, 1) := by decide +kernel
theorem d_EC_execute_35 : decode b_EC_execute 35 = .ok (.getfield 74, 3) := by decide +kernel
theorem d_EC_execute_38 : decode b_EC_execute 38 = .ok (.iconst 1, 1) := by decide +kernel
theorem d_EC_execute_39 : decode b_EC_execute 39 = .ok (.iadd, 1) := by decide +kernel
theorem d_EC_execute_40 : decode b_EC_execute 40 = .ok (.putfield 74, 3) := by decide +kernel
theorem d_EC_execute_43 : decode b_EC_execute 43 = .ok (.aload_n 0, 1) := by decide +kernel
theorem d_EC_execute_44 : decode b_EC_execute 44 = .ok (.getfield 36, 3) := by decide +kernel
theorem d_EC_execute_47 : decode b_EC_execute 47 = .ok (.aload_n 0, 1) := by decide +kernel
theorem d_EC_execute_48 : decode b_EC_execute 48 = .ok (.getfield 29, 3) := by decide +kernel
theorem d_EC_execute_51 : decode b_EC_execute 51 = .ok (.invokevirtual 193, 3) := by decide +kernel
theorem d_EC_execute_54 : decode b_EC_execute 54 = .ok (.ifCond .eq 28, 3) := by decide +kernel
theorem d_EC_execute_57 : decode b_EC_execute 57 = .ok (.aload_n 0, 1) := by decide +kernel
theorem d_EC_execute_58 : decode b_EC_execute 58 = .ok (.getfield 36, 3) := by decide +kernel
theorem d_EC_execute_61 : decode b_EC_execute 61 = .ok (.aload_n 1, 1) := by decide +kernel
theorem d_EC_execute_62 : decode b_EC_execute 62 = .ok (.aload_n 0, 1) := by decide +kernel
theorem d_EC_execute_63 : decode b_EC_execute 63 = .ok (.getfield 29, 3) := by decide +kernel
theorem d_EC_execute_66 : decode b_EC_execute 66 = .ok (.invokevirtual 197, 3) := by decide +kernel
theorem d_EC_execute_69 : decode b_EC_execute 69 = .ok (.ifCond .ne 13, 3) := by decide +kernel
theorem d_EC_execute_72 : decode b_EC_execute 72 = .ok (.aload_n 0, 1) := by decide +kernel
theorem d_EC_execute_73 : decode b_EC_execute 73 = .ok (.dup, 1) := by decide +kernel
theorem d_EC_execute_74 : decode b_EC_execute 74 = .ok (.getfield 77, 3) := by decide +kernel
theorem d_EC_execute_77 : decode b_EC_execute 77 = .ok (.iconst 1, 1) := by decide +kernel
theorem d_EC_execute_78 : decode b_EC_execute 78 = .ok (.iadd, 1) := by decide +kernel
theorem d_EC_execute_79 : decode b_EC_execute 79 = .ok (.putfield 77, 3) := by decide +kernel
theorem d_EC_execute_82 : decode b_EC_execute 82 = .ok (.aload_n 0, 1) := by decide +kernel
theorem d_EC_execute_83 : decode b_EC_execute 83 = .ok (.getfield 29, 3) := by decide +kernel
theorem d_EC_execute_86 : decode b_EC_execute 86 = .ok (.invokevirtual 201, 3) := by decide +kernel
theorem d_EC_execute_89 : decode b_EC_execute 89 = .ok (.ifCond .eq 59, 3) := by decide +kernel
theorem d_EC_execute_92 : decode b_EC_execute 92 = .ok (.aload_n 0, 1) := by decide +kernel
theorem d_EC_execute_93 : decode b_EC_execute 93 = .ok (.getfield 43, 3) := by decide +kernel
theorem d_EC_execute_96 : decode b_EC_execute 96 = .ok (.aload_n 0, 1) := by decide +kernel
theorem d_EC_execute_97 : decode b_EC_execute 97 = .ok (.getfield 29, 3) := by decide +kernel
theorem d_EC_execute_100 : decode b_EC_execute 100 = .ok (.invokevirtual 205, 3) := by decide +kernel
theorem d_EC_execute_103 : decode b_EC_execute 103 = .ok (.ifCond .ne 45, 3) := by decide +kernel
theorem d_EC_execute_106 : decode b_EC_execute 106 = .ok (.aload_n 0, 1) := by decide +kernel
theorem d_EC_execute_107 : decode b_EC_execute 107 = .ok (.getfield 43, 3) := by decide +kernel
theorem d_EC_execute_110 : decode b_EC_execute 110 = .ok (.aload_n 1, 1) := by decide +kernel
theorem d_EC_execute_111 : decode b_EC_execute 111 = .ok (.aload_n 0, 1) := by decide +kernel
theorem d_EC_execute_112 : decode b_EC_execute 112 = .ok (.getfield 29, 3) := by decide +kernel
theorem d_EC_execute_115 : decode b_EC_execute 115 = .ok (.invokevirtual 208, 3) := by decide +kernel
theorem d_EC_execute_118 : decode b_EC_execute 118 = .ok (.astore_n 2, 1) := by decide +kernel
theorem d_EC_execute_119 : decode b_EC_execute 119 = .ok (.aload_n 2, 1) := by decide +kernel
theorem d_EC_execute_120 : decode b_EC_execute 120 = .ok (.ifnonnull 16, 3) := by decide +kernel
theorem d_EC_execute_123 : decode b_EC_execute 123 = .ok (.aload_n 0, 1) := by decide +kernel
theorem d_EC_execute_124 : decode b_EC_execute 124 = .ok (.dup, 1) := by decide +kernel
theorem d_EC_execute_125 : decode b_EC_execute 125 = .ok (.getfield 77, 3) := by decide +kernel
theorem d_EC_execute_128 : decode b_EC_execute 128 = .ok (.iconst 1, 1) := by decide +kernel
theorem d_EC_execute_129 : decode b_EC_execute 129 = .ok (.iadd, 1) := by decide +kernel
theorem d_EC_execute_130 : decode b_EC_execute 130 = .ok (.putfield 77, 3) := by decide +kernel
theorem d_EC_execute_133 : decode b_EC_execute 133 = .ok (.goto 15, 3) := by decide +kernel
theorem d_EC_execute_136 : decode b_EC_execute 136 = .ok (.aload_n 0, 1) := by decide +kernel
theorem d_EC_execute_137 : decode b_EC_execute 137 = .ok (.getfield 50, 3) := by decide +kernel
theorem d_EC_execute_140 : decode b_EC_execute 140 = .ok (.aload_n 2, 1) := by decide +kernel
theorem d_EC_execute_141 : decode b_EC_execute 141 = .ok (.aload_n 0, 1) := by decide +kernel
theorem d_EC_execute_142 : decode b_EC_execute 142 = .ok (.getfield 10, 3) := by decide +kernel
theorem d_EC_execute_145 : decode b_EC_execute 145 = .ok (.invokevirtual 212, 3) := by decide +kernel
theorem d_EC_execute_148 : decode b_EC_execute 148 = .ok (.aload_n 0, 1) := by decide +kernel
theorem d_EC_execute_149 : decode b_EC_execute 149 = .ok (.getfield 66, 3) := by decide +kernel
theorem d_EC_execute_152 : decode b_EC_execute 152 = .ok (.aload_n 0, 1) := by decide +kernel
theorem d_EC_execute_153 : decode b_EC_execute 153 = .ok (.getfield 36, 3) := by decide +kernel
theorem d_EC_execute_156 : decode b_EC_execute 156 = .ok (.invokevirtual 216, 3) := by decide +kernel
theorem d_EC_execute_159 : decode b_EC_execute 159 = .ok (.aload_n 0, 1) := by decide +kernel
theorem d_EC_execute_160 : decode b_EC_execute 160 = .ok (.getfield 29, 3) := by decide +kernel
theorem d_EC_execute_163 : decode b_EC_execute 163 = .ok (.getfield 190, 3) := by decide +kernel
theorem d_EC_execute_166 : decode b_EC_execute 166 = .ok (.ireturn, 1) := by decide +kernel
noncomputable def j_EC_execute_148  (M21 : Mem) : Option (Int32 × Mem) :=
  bv (s_TR_beginWithFirst M21) (fun M22 => some (M22 14 10, M22))
noncomputable def j_EC_execute_82 (j24 : Nat) (M26 : Mem) : Option (Int32 × Mem) :=
  bi (s_RU_hasTrapped 14 M26) (fun r29 M27 => if r29 = 0 then (j_EC_execute_148 M27) else (bi (s_FS_countHit 14 M27) (fun r32 M30 => if r32 = 0 then (bi (s_FS_begin j24 14 M30) (fun o35 M33 => mo o35 (nx (st M33 0 11 ((M33 0 11) + (1 : Int32))) (fun M38 => j_EC_execute_148 M38)) (fun j36 => cp (kd_fi j36) (bv (s_SH_shorten j36 M33) (fun M39 => j_EC_execute_148 M39))))) else (j_EC_execute_148 M30))))
noncomputable def j_EC_execute_43 (j41 : Nat) (M43 : Mem) : Option (Int32 × Mem) :=
  bi (s_ST_hasNews 14 M43) (fun r46 M44 => if r46 = 0 then (j_EC_execute_82 j41 M44) else (bi (s_ST_keep j41 14 M44) (fun r49 M47 => if r49 = 0 then (nx (st M47 0 11 ((M47 0 11) + (1 : Int32))) (fun M50 => j_EC_execute_82 j41 M50)) else (j_EC_execute_82 j41 M47))))
noncomputable def s_EC_execute (j1 : Nat) (M : Mem) : Option (Int32 × Mem) :=
  bv (s_RU_perform 14 j1 M) (fun M51 => nx (st M51 0 9 ((M51 0 9) + (1 : Int32))) (fun M53 => if (M53 14 10) = (5 : Int32) then (nx (st M53 0 10 ((M53 0 10) + (1 : Int32))) (fun M54 => j_EC_execute_43 j1 M54)) else (j_EC_execute_43 j1 M53)))
set_option maxHeartbeats 4000000 in
set_option maxRecDepth 100000 in
theorem c_EC_execute (l : Launch) (x : Cx) (hJ : Inj x) (j1 : Nat) (k1 : kd_in j1) {M : Mem} {out : Int32 × Mem} (h : s_EC_execute j1 M = some out) : Ci l x y_EC_execute (Cond.code y_EC_execute b_EC_execute 3 (some .int) :: tb) r_EC_execute [.ref (x.2.1 0), .ref (x.2.1 j1)] M out := by
  refine ofCi (cc := b_EC_execute) (maxL := 3) (by decide) rfl (rfl) (Nat.le_of_ble_eq_true rfl) ?_
  intro p e s m args below meth c Q G0 ls g hx hb hml hown hts hK hZ hP hS hl hret
  have hown : s.vm.findClass R_EC = some m.cls := hown
  have hl : lv_has ls 3 [(0, .ref (x.2.1 0)), (1, .ref (x.2.1 j1))] := hl
  obtain ⟨H, eH⟩ : ∃ z, z = s.heap := ⟨_, rfl⟩
  obtain ⟨locs, eL⟩ : ∃ z, z = ([] : List Loc) := ⟨_, rfl⟩
  rw [← eH] at hP
  have hS : va_S (A0 x) s.heap H locs := by rw [eH, eL]; exact hS
  rw [← eL]
  have key : W p l e r_EC_execute s m args below meth c H locs 0 0 Q (F0 m 0 ls []) := by
    clear eH eL
    unfold s_EC_execute at h
    have J148 : ∀  (M21 : Mem)  (res : Int32 × Mem) (h : j_EC_execute_148 M21 = some res) (g : G0 res) (H : Heap) (locs : List Loc) (ls : Array Slot) (hP : va_P x.1 vwCl (wld x M21) H) (hS : va_S (A0 x) s.heap H locs) (hl : lv_has ls 3 [(0, .ref (x.2.1 0))]), W p l e r_EC_execute s m args below meth c H locs 0 0 Q (F0 m 148 ls []) := by
      intro M21 res h g H locs ls hP hS hl
      unfold j_EC_execute_148 at h
      refine lv_aload_n hx hb d_EC_execute_148 rfl (lv_at hl 0 rfl) ?_
      refine gf_EC_66 hx hb hts hown hK hP d_EC_execute_149 ?_
      refine lv_aload_n hx hb d_EC_execute_152 rfl (lv_at hl 0 rfl) ?_
      refine gf_EC_36 hx hb hts hown hK hP d_EC_execute_153 ?_
      obtain ⟨M22, c23, h⟩ := bv_e h
      refine cl_EC_216 (rest := []) (R := r_EC_execute) (c_TR_beginWithFirst l x hJ c23) hx hb hml hts hown hK hZ hP hS hl.1 (Nat.le_of_ble_eq_true rfl) (Nat.le_of_ble_eq_true rfl) (Nat.le_of_ble_eq_true rfl) ⟨rfl, rfl, Nat.zero_le _, Nat.zero_le _⟩ d_EC_execute_156 (fun H locs hP hS => ?_)
      refine lv_aload_n hx hb d_EC_execute_159 rfl (lv_at hl 0 rfl) ?_
      refine gf_EC_29 hx hb hts hown hK hP d_EC_execute_160 ?_
      refine gf_EC_190 hx hb hts hown hK hP kd_EC_run d_EC_execute_163 ?_
      obtain rfl := Option.some.inj h
      exact hret d_EC_execute_166 g hP hS
    have J82 : ∀ (j24 : Nat) (M26 : Mem) (k25 : kd_in j24) (res : Int32 × Mem) (h : j_EC_execute_82 j24 M26 = some res) (g : G0 res) (H : Heap) (locs : List Loc) (ls : Array Slot) (hP : va_P x.1 vwCl (wld x M26) H) (hS : va_S (A0 x) s.heap H locs) (hl : lv_has ls 3 [(0, .ref (x.2.1 0)), (1, .ref (x.2.1 j24))]), W p l e r_EC_execute s m args below meth c H locs 0 0 Q (F0 m 82 ls []) := by
      intro j24 M26 k25 res h g H locs ls hP hS hl
      unfold j_EC_execute_82 at h
      refine lv_aload_n hx hb d_EC_execute_82 rfl (lv_at hl 0 rfl) ?_
      refine gf_EC_29 hx hb hts hown hK hP d_EC_execute_83 ?_
      obtain ⟨r29, M27, c28, h⟩ := bi_e h
      refine cl_EC_201 (rest := []) (R := r_EC_execute) (c_RU_hasTrapped l x hJ 14 kd_EC_run c28) kd_EC_run hx hb hml hts hown hK hZ hP hS hl.1 (Nat.le_of_ble_eq_true rfl) (Nat.le_of_ble_eq_true rfl) (Nat.le_of_ble_eq_true rfl) ⟨rfl, rfl, Nat.zero_le _, Nat.zero_le _⟩ d_EC_execute_86 (fun H locs hP hS => ?_)
      refine lv_if_eq (tgt := 148) hx hb d_EC_execute_89 rfl (fun hc => ?_) (fun hc => ?_)
      · have h := if_p hc h
        exact J148 M27 _ h g H locs ls hP hS (lv_sub hl [0] rfl)
      · have h := if_m hc h
        refine lv_aload_n hx hb d_EC_execute_92 rfl (lv_at hl 0 rfl) ?_
        refine gf_EC_43 hx hb hts hown hK hP d_EC_execute_93 ?_
        refine lv_aload_n hx hb d_EC_execute_96 rfl (lv_at hl 0 rfl) ?_
        refine gf_EC_29 hx hb hts hown hK hP d_EC_execute_97 ?_
        obtain ⟨r32, M30, c31, h⟩ := bi_e h
        refine cl_EC_205 (rest := []) (R := r_EC_execute) (c_FS_countHit l x hJ 14 kd_EC_run c31) hx hb hml hts hown hK hZ hP hS hl.1 (Nat.le_of_ble_eq_true rfl) (Nat.le_of_ble_eq_true rfl) (Nat.le_of_ble_eq_true rfl) ⟨rfl, rfl, Nat.zero_le _, Nat.zero_le _⟩ d_EC_execute_100 (fun H locs hP hS => ?_)
        refine lv_if_ne (tgt := 148) hx hb d_EC_execute_103 rfl (fun hc => ?_) (fun hc => ?_)
        · have h := if_m hc h
          exact J148 M30 _ h g H locs ls hP hS (lv_sub hl [0] rfl)
        · have h := if_p hc h
          refine lv_aload_n hx hb d_EC_execute_106 rfl (lv_at hl 0 rfl) ?_
          refine gf_EC_43 hx hb hts hown hK hP d_EC_execute_107 ?_
          refine lv_aload_n hx hb d_EC_execute_110 rfl (lv_at hl 1 rfl) ?_
          refine lv_aload_n hx hb d_EC_execute_111 rfl (lv_at hl 0 rfl) ?_
          refine gf_EC_29 hx hb hts hown hK hP d_EC_execute_112 ?_
          obtain ⟨o35, M33, c34, h⟩ := bi_e h
          refine cl_EC_208 (rest := []) (R := r_EC_execute) (c_FS_begin l x hJ j24 k25 14 kd_EC_run c34) hx hb hml hts hown hK hZ hP hS hl.1 (Nat.le_of_ble_eq_true rfl) (Nat.le_of_ble_eq_true rfl) (Nat.le_of_ble_eq_true rfl) ⟨rfl, rfl, Nat.zero_le _, Nat.zero_le _⟩ d_EC_execute_115 (fun H locs hP hS => ?_)
          cases o35 with
          | none =>
            have h := mo_n h
            refine lv_astore_nN hx hb d_EC_execute_118 rfl hl (by decide) rfl (fun ls hl => ?_)
            have hl : lv_has ls 3 [(2, .null), (0, .ref (x.2.1 0)), (1, .ref (x.2.1 j24))] := hl
            refine lv_aload_nN hx hb d_EC_execute_119 rfl (lv_at hl 0 rfl) ?_
            refine lv_ifnonnullN hx hb d_EC_execute_120 ?_
            refine lv_aload_n hx hb d_EC_execute_123 rfl (lv_at hl 1 rfl) ?_
            refine lv_dup hx hb d_EC_execute_124 rfl ?_
            refine gf_EC_77 hx hb hts hown hK hP d_EC_execute_125 ?_
            refine lv_iconst (v := (1 : Int32)) hx hb d_EC_execute_128 (by decide) ?_
            refine lv_iadd hx hb d_EC_execute_129 ?_
            obtain ⟨M38, eM38, h⟩ := nx_e h
            refine pf_EC_77 hx hb hts hown hK hJ hP hS eM38 d_EC_execute_130 (fun H locs hP hS => ?_)
            refine lv_goto (tgt := 148) hx hb d_EC_execute_133 rfl ?_
            exact J148 M38 _ h g H locs ls hP hS (lv_sub hl [1] rfl)
          | some j36 =>
            have h := mo_s h
            obtain ⟨k37, h⟩ := cp_e h
            refine lv_astore_n hx hb d_EC_execute_118 rfl hl (by decide) rfl (fun ls hl => ?_)
            have hl : lv_has ls 3 [(2, .ref (x.2.1 j36)), (0, .ref (x.2.1 0)), (1, .ref (x.2.1 j24))] := hl
            refine lv_aload_n hx hb d_EC_execute_119 rfl (lv_at hl 0 rfl) ?_
            refine lv_ifnonnull (tgt := 136) hx hb d_EC_execute_120 rfl ?_
            refine lv_aload_n hx hb d_EC_execute_136 rfl (lv_at hl 1 rfl) ?_
            refine gf_EC_50 hx hb hts hown hK hP d_EC_execute_137 ?_
            refine lv_aload_n hx hb d_EC_execute_140 rfl (lv_at hl 0 rfl) ?_
            refine lv_aload_n hx hb d_EC_execute_141 rfl (lv_at hl 1 rfl) ?_
            refine gf_EC_10 hx hb hts hown hK hP d_EC_execute_142 ?_
            obtain ⟨M39, c40, h⟩ := bv_e h
            refine cl_EC_212 (rest := []) (R := r_EC_execute) (c_SH_shorten l x hJ j36 k37 c40) hx hb hml hts hown hK hZ hP hS hl.1 (Nat.le_of_ble_eq_true rfl) (Nat.le_of_ble_eq_true rfl) (Nat.le_of_ble_eq_true rfl) ⟨rfl, rfl, Nat.zero_le _, Nat.zero_le _⟩ d_EC_execute_145 (fun H locs hP hS => ?_)
            exact J148 M39 _ h g H locs ls hP hS (lv_sub hl [1] rfl)
    have J43 : ∀ (j41 : Nat) (M43 : Mem) (k42 : kd_in j41) (res : Int32 × Mem) (h : j_EC_execute_43 j41 M43 = some res) (g : G0 res) (H : Heap) (locs : List Loc) (ls : Array Slot) (hP : va_P x.1 vwCl (wld x M43) H) (hS : va_S (A0 x) s.heap H locs) (hl : lv_has ls 3 [(0, .ref (x.2.1 0)), (1, .ref (x.2.1 j41))]), W p l e r_EC_execute s m args below meth c H locs 0 0 Q (F0 m 43 ls []) := by
      intro j41 M43 k42 res h g H locs ls hP hS hl
      unfold j_EC_execute_43 at h
      refine lv_aload_n hx hb d_EC_execute_43 rfl (lv_at hl 0 rfl) ?_
      refine gf_EC_36 hx hb hts hown hK hP d_EC_execute_44 ?_
      refine lv_aload_n hx hb d_EC_execute_47 rfl (lv_at hl 0 rfl) ?_
      refine gf_EC_29 hx hb hts hown hK hP d_EC_execute_48 ?_
      obtain ⟨r46, M44, c45, h⟩ := bi_e h
      refine cl_EC_193 (rest := []) (R := r_EC_execute) (c_ST_hasNews l x hJ 14 kd_EC_run c45) hx hb hml hts hown hK hZ hP hS hl.1 (Nat.le_of_ble_eq_true rfl) (Nat.le_of_ble_eq_true rfl) (Nat.le_of_ble_eq_true rfl) ⟨rfl, rfl, Nat.zero_le _, Nat.zero_le _⟩ d_EC_execute_51 (fun H locs hP hS => ?_)
      refine lv_if_eq (tgt := 82) hx hb d_EC_execute_54 rfl (fun hc => ?_) (fun hc => ?_)
      · have h := if_p hc h
        exact J82 j41 M44 k42 _ h g H locs ls hP hS (lv_sub hl [0, 1] rfl)
      · have h := if_m hc h
        refine lv_aload_n hx hb d_EC_execute_57 rfl (lv_at hl 0 rfl) ?_
        refine gf_EC_36 hx hb hts hown hK hP d_EC_execute_58 ?_
        refine lv_aload_n hx hb d_EC_execute_61 rfl (lv_at hl 1 rfl) ?_
        refine lv_aload_n hx hb d_EC_execute_62 rfl (lv_at hl 0 rfl) ?_
        refine gf_EC_29 hx hb hts hown hK hP d_EC_execute_63 ?_
        obtain ⟨r49, M47, c48, h⟩ := bi_e h
        refine cl_EC_197 (rest := []) (R := r_EC_execute) (c_ST_keep l x hJ j41 k42 14 kd_EC_run c48) hx hb hml hts hown hK hZ hP hS hl.1 (Nat.le_of_ble_eq_true rfl) (Nat.le_of_ble_eq_true rfl) (Nat.le_of_ble_eq_true rfl) ⟨rfl, rfl, Nat.zero_le _, Nat.zero_le _⟩ d_EC_execute_66 (fun H locs hP hS => ?_)
        refine lv_if_ne (tgt := 82) hx hb d_EC_execute_69 rfl (fun hc => ?_) (fun hc => ?_)
        · have h := if_m hc h
          exact J82 j41 M47 k42 _ h g H locs ls hP hS (lv_sub hl [0, 1] rfl)
        · have h := if_p hc h
          refine lv_aload_n hx hb d_EC_execute_72 rfl (lv_at hl 0 rfl) ?_
          refine lv_dup hx hb d_EC_execute_73 rfl ?_
          refine gf_EC_77 hx hb hts hown hK hP d_EC_execute_74 ?_
          refine lv_iconst (v := (1 : Int32)) hx hb d_EC_execute_77 (by decide) ?_
          refine lv_iadd hx hb d_EC_execute_78 ?_
          obtain ⟨M50, eM50, h⟩ := nx_e h
          refine pf_EC_77 hx hb hts hown hK hJ hP hS eM50 d_EC_execute_79 (fun H locs hP hS => ?_)
          exact J82 j41 M50 k42 _ h g H locs ls hP hS (lv_sub hl [0, 1] rfl)
    refine lv_aload_n hx hb d_EC_execute_0 rfl (lv_at hl 0 rfl) ?_
    refine gf_EC_29 hx hb hts hown hK hP d_EC_execute_1 ?_
    refine lv_aload_n hx hb d_EC_execute_4 rfl (lv_at hl 0 rfl) ?_
    refine gf_EC_10 hx hb hts hown hK hP d_EC_execute_5 ?_
    refine lv_aload_n hx hb d_EC_execute_8 rfl (lv_at hl 1 rfl) ?_
    obtain ⟨M51, c52, h⟩ := bv_e h
    refine cl_EC_186 (rest := []) (R := r_EC_execute) (c_RU_perform l x hJ 14 kd_EC_run j1 k1 c52) kd_EC_run hx hb hml hts hown hK hZ hP hS hl.1 (Nat.le_of_ble_eq_true rfl) (Nat.le_of_ble_eq_true rfl) (Nat.le_of_ble_eq_true rfl) ⟨rfl, rfl, Nat.zero_le _, Nat.zero_le _⟩ d_EC_execute_9 (fun H locs hP hS => ?_)
    refine lv_aload_n hx hb d_EC_execute_12 rfl (lv_at hl 0 rfl) ?_
    refine lv_dup hx hb d_EC_execute_13 rfl ?_
    refine gf_EC_70 hx hb hts hown hK hP d_EC_execute_14 ?_
    refine lv_iconst (v := (1 : Int32)) hx hb d_EC_execute_17 (by decide) ?_
    refine lv_iadd hx hb d_EC_execute_18 ?_
    obtain ⟨M53, eM53, h⟩ := nx_e h
    refine pf_EC_70 hx hb hts hown hK hJ hP hS eM53 d_EC_execute_19 (fun H locs hP hS => ?_)
    refine lv_aload_n hx hb d_EC_execute_22 rfl (lv_at hl 0 rfl) ?_
    refine gf_EC_29 hx hb hts hown hK hP d_EC_execute_23 ?_
    refine gf_EC_190 hx hb hts hown hK hP kd_EC_run d_EC_execute_26 ?_
    refine lv_iconst (v := (5 : Int32)) hx hb d_EC_execute_29 (by decide) ?_
    refine lv_icmp_ne (tgt := 43) hx hb d_EC_execute_30 rfl (fun hc => ?_) (fun hc => ?_)
    · have h := if_m hc h
      exact J43 j1 M53 k1 _ h g H locs ls hP hS (lv_sub hl [0, 1] rfl)
    · have h := if_p hc h
      refine lv_aload_n hx hb d_EC_execute_33 rfl (lv_at hl 0 rfl) ?_
      refine lv_dup hx hb d_EC_execute_34 rfl ?_
      refine gf_EC_74 hx hb hts hown hK hP d_EC_execute_35 ?_
      refine lv_iconst (v := (1 : Int32)) hx hb d_EC_execute_38 (by decide) ?_
      refine lv_iadd hx hb d_EC_execute_39 ?_
      obtain ⟨M54, eM54, h⟩ := nx_e h
      refine pf_EC_74 hx hb hts hown hK hJ hP hS eM54 d_EC_execute_40 (fun H locs hP hS => ?_)
      exact J43 j1 M54 k1 _ h g H locs ls hP hS (lv_sub hl [0, 1] rfl)
  rw [eH] at key
  exact key
theorem d_EC_plant_0 : decode b_EC_plant 0 = .ok (.aload_n 0, 1) := by decide +kernel
theorem d_EC_plant_1 : decode b_EC_plant 1 = .ok (.aload_n 0, 1) := by decide +kernel
theorem d_EC_plant_2 : decode b_EC_plant 2 = .ok (.getfield 19, 3) := by decide +kernel
theorem d_EC_plant_5 : decode b_EC_plant 5 = .ok (.invokevirtual 87, 3) := by decide +kernel
theorem d_EC_plant_8 : decode b_EC_plant 8 = .ok (.istore_n 1, 1) := by decide +kernel
theorem d_EC_plant_9 : decode b_EC_plant 9 = .ok (.aload_n 0, 1) := by decide +kernel
theorem d_EC_plant_10 : decode b_EC_plant 10 = .ok (.getfield 19, 3) := by decide +kernel
theorem d_EC_plant_13 : decode b_EC_plant 13 = .ok (.iconst 0, 1) := by decide +kernel
theorem d_EC_plant_14 : decode b_EC_plant 14 = .ok (.invokevirtual 91, 3) := by decide +kernel
theorem d_EC_plant_17 : decode b_EC_plant 17 = .ok (.iload_n 1, 1) := by decide +kernel
theorem d_EC_plant_18 : decode b_EC_plant 18 = .ok (.ireturn, 1) := by decide +kernel
noncomputable def s_EC_plant  (M : Mem) : Option (Int32 × Mem) :=
  bi (s_EC_execute 52 M) (fun r23 M21 => bv (s_IN_cutTo 52 (0 : Int32) M21) (fun M24 => some (r23, M24)))
set_option maxHeartbeats 4000000 in
set_option maxRecDepth 100000 in
theorem c_EC_plant (l : Launch) (x : Cx) (hJ : Inj x)  {M : Mem} {out : Int32 × Mem} (h : s_EC_plant M = some out) : Ci l x y_EC_plant (Cond.code y_EC_plant b_EC_plant 2 (some .int) :: tb) r_EC_plant [.ref (x.2.1 0)] M out := by
  refine ofCi (cc := b_EC_plant) (maxL := 2) (by decide) rfl (rfl) (Nat.le_of_ble_eq_true rfl) ?_
  intro p e s m args below meth c Q G0 ls g hx hb hml hown hts hK hZ hP hS hl hret
  have hown : s.vm.findClass R_EC = some m.cls := hown
  have hl : lv_has ls 2 [(0, .ref (x.2.1 0))] := hl
  obtain ⟨H, eH⟩ : ∃ z, z = s.heap := ⟨_, rfl⟩
  obtain ⟨locs, eL⟩ : ∃ z, z = ([] : List Loc) := ⟨_, rfl⟩
  rw [← eH] at hP
  have hS : va_S (A0 x) s.heap H locs := by rw [eH, eL]; exact hS
  rw [← eL]
  have key : W p l e r_EC_plant s m args below meth c H locs 0 0 Q (F0 m 0 ls []) := by
    clear eH eL
    unfold s_EC_plant at h
    refine lv_aload_n hx hb d_EC_plant_0 rfl (lv_at hl 0 rfl) ?_
    refine lv_aload_n hx hb d_EC_plant_1 rfl (lv_at hl 0 rfl) ?_
    refine gf_EC_19 hx hb hts hown hK hP d_EC_plant_2 ?_
    obtain ⟨r23, M21, c22, h⟩ := bi_e h
    refine cl_EC_87 (rest := []) (R := r_EC_plant) (c_EC_execute l x hJ 52 kd_EC_draft c22) hx hb hml hts hown hK hZ hP hS hl.1 (Nat.le_of_ble_eq_true rfl) (Nat.le_of_ble_eq_true rfl) (Nat.le_of_ble_eq_true rfl) ⟨rfl, rfl, Nat.zero_le _, Nat.zero_le _⟩ d_EC_plant_5 (fun H locs hP hS => ?_)
    refine lv_istore_n hx hb d_EC_plant_8 rfl hl (by decide) rfl (fun ls hl => ?_)
    have hl : lv_has ls 2 [(1, .int r23), (0, .ref (x.2.1 0))] := hl
    refine lv_aload_n hx hb d_EC_plant_9 rfl (lv_at hl 1 rfl) ?_
    refine gf_EC_19 hx hb hts hown hK hP d_EC_plant_10 ?_
    refine lv_iconst (v := (0 : Int32)) hx hb d_EC_plant_13 (by decide) ?_
    obtain ⟨M24, c25, h⟩ := bv_e h
    refine cl_EC_91 (rest := []) (R := r_EC_plant) (c_IN_cutTo l x hJ 52 kd_EC_draft (0 : Int32) c25) kd_EC_draft hx hb hml hts hown hK hZ hP hS hl.1 (Nat.le_of_ble_eq_true rfl) (Nat.le_of_ble_eq_true rfl) (Nat.le_of_ble_eq_true rfl) ⟨rfl, rfl, Nat.zero_le _, Nat.zero_le _⟩ d_EC_plant_14 (fun H locs hP hS => ?_)
    refine lv_iload_n hx hb d_EC_plant_17 rfl (lv_at hl 0 rfl) ?_
    obtain rfl := Option.some.inj h
    exact hret d_EC_plant_18 g hP hS
  rw [eH] at key
  exact key
theorem d_EC_fuzz_0 : decode b_EC_fuzz 0 = .ok (.iload_n 1, 1) := by decide +kernel
theorem d_EC_fuzz_1 : decode b_EC_fuzz 1 = .ok (.iconst 1, 1) := by decide +kernel
theorem d_EC_fuzz_2 : decode b_EC_fuzz 2 = .ok (.if_icmp .lt 9, 3) := by decide +kernel
theorem d_EC_fuzz_5 : decode b_EC_fuzz 5 = .ok (.iload_n 1, 1) := by decide +kernel
theorem d_EC_fuzz_6 : decode b_EC_fuzz 6 = .ok (.bipush 20, 2) := by decide +kernel
theorem d_EC_fuzz_8 : decode b_EC_fuzz 8 = .ok (.if_icmp .le 5, 3) := by decide +kernel
theorem d_EC_fuzz_11 : decode b_EC_fuzz 11 = .ok (.iconst (-1), 1) := by decide +kernel
theorem d_EC_fuzz_12 : decode b_EC_fuzz 12 = .ok (.ireturn, 1) := by decide +kernel
theorem d_EC_fuzz_13 : decode b_EC_fuzz 13 = .ok (.aload_n 0, 1) := by decide +kernel
theorem d_EC_fuzz_14 : decode b_EC_fuzz 14 = .ok (.getfield 36, 3) := by decide +kernel
theorem d_EC_fuzz_17 : decode b_EC_fuzz 17 = .ok (.getfield 94, 3) := by decide +kernel
theorem d_EC_fuzz_20 : decode b_EC_fuzz 20 = .ok (.ifCond .ne 5, 3) := by decide +kernel
theorem d_EC_fuzz_23 : decode b_EC_fuzz 23 = .ok (.iconst 0, 1) := by decide +kernel
theorem d_EC_fuzz_24 : decode b_EC_fuzz 24 = .ok (.ireturn, 1) := by decide +kernel
theorem d_EC_fuzz_25 : decode b_EC_fuzz 25 = .ok (.iconst 0, 1) := by decide +kernel
theorem d_EC_fuzz_26 : decode b_EC_fuzz 26 = .ok (.istore_n 2, 1) := by decide +kernel
theorem d_EC_fuzz_27 : decode b_EC_fuzz 27 = .ok (.iload_n 2, 1) := by decide +kernel
theorem d_EC_fuzz_28 : decode b_EC_fuzz 28 = .ok (.iload_n 1, 1) := by decide +kernel
theorem d_EC_fuzz_29 : decode b_EC_fuzz 29 = .ok (.if_icmp .ge 48, 3) := by decide +kernel
theorem d_EC_fuzz_32 : decode b_EC_fuzz 32 = .ok (.aload_n 0, 1) := by decide +kernel
theorem d_EC_fuzz_33 : decode b_EC_fuzz 33 = .ok (.getfield 66, 3) := by decide +kernel
theorem d_EC_fuzz_36 : decode b_EC_fuzz 36 = .ok (.aload_n 0, 1) := by decide +kernel
theorem d_EC_fuzz_37 : decode b_EC_fuzz 37 = .ok (.getfield 23, 3) := by decide +kernel
theorem d_EC_fuzz_40 : decode b_EC_fuzz 40 = .ok (.aload_n 0, 1) := by decide +kernel
theorem d_EC_fuzz_41 : decode b_EC_fuzz 41 = .ok (.getfield 36, 3) := by decide +kernel
theorem d_EC_fuzz_44 : decode b_EC_fuzz 44 = .ok (.aload_n 0, 1) := by decide +kernel
theorem d_EC_fuzz_45 : decode b_EC_fuzz 45 = .ok (.getfield 59, 3) := by decide +kernel
theorem d_EC_fuzz_48 : decode b_EC_fuzz 48 = .ok (.invokevirtual 97, 3) := by decide +kernel
theorem d_EC_fuzz_51 : decode b_EC_fuzz 51 = .ok (.aload_n 0, 1) := by decide +kernel
theorem d_EC_fuzz_52 : decode b_EC_fuzz 52 = .ok (.aload_n 0, 1) := by decide +kernel
theorem d_EC_fuzz_53 : decode b_EC_fuzz 53 = .ok (.getfield 23, 3) := by decide +kernel
theorem d_EC_fuzz_56 : decode b_EC_fuzz 56 = .ok (.invokevirtual 87, 3) := by decide +kernel
theorem d_EC_fuzz_59 : decode b_EC_fuzz 59 = .ok (.pop, 1) := by decide +kernel
theorem d_EC_fuzz_60 : decode b_EC_fuzz 60 = .ok (.aload_n 0, 1) := by decide +kernel
theorem d_EC_fuzz_61 : decode b_EC_fuzz 61 = .ok (.getfield 66, 3) := by decide +kernel
theorem d_EC_fuzz_64 : decode b_EC_fuzz 64 = .ok (.aload_n 0, 1) := by decide +kernel
theorem d_EC_fuzz_65 : decode b_EC_fuzz 65 = .ok (.getfield 36, 3) := by decide +kernel
theorem d_EC_fuzz_68 : decode b_EC_fuzz 68 = .ok (.invokevirtual 101, 3) := by decide +kernel
theorem d_EC_fuzz_71 : decode b_EC_fuzz 71 = .ok (.iinc 2 1, 3) := by decide +kernel
theorem d_EC_fuzz_74 : decode b_EC_fuzz 74 = .ok (.goto (-47), 3) := by decide +kernel
theorem d_EC_fuzz_77 : decode b_EC_fuzz 77 = .ok (.iload_n 1, 1) := by decide +kernel
theorem d_EC_fuzz_78 : decode b_EC_fuzz 78 = .ok (.ireturn, 1) := by decide +kernel
noncomputable def l_EC_fuzz_27 (a1 : Int32) (v22 : Int32) (M23 : Mem) : Option ((Int32 × Mem) ⊕ (Int32 × Mem)) :=
  if a1 ≤ v22 then (some (.inr (a1, M23))) else (bv (s_TR_change 54 M23) (fun M24 => bi (s_EC_execute 54 M24) (fun r28 M26 => bv (s_TR_advance M26) (fun M29 => nx (v22 + (1 : Int32)) (fun v31 => some (.inl (v31, M29)))))))
noncomputable def s_EC_fuzz (a1 : Int32) (M : Mem) : Option (Int32 × Mem) :=
  if a1 < (1 : Int32) then (some ((-1 : Int32), M)) else (if a1 ≤ (20 : Int32) then (if (M 5 3) = 0 then (some ((0 : Int32), M)) else (nx ((0 : Int32)) (fun v21 => lp (fun q : Int32 × Mem => l_EC_fuzz_27 a1 q.1 q.2) (v21, M)))) else (some ((-1 : Int32), M)))
set_option maxHeartbeats 4000000 in
set_option maxRecDepth 100000 in
theorem c_EC_fuzz (l : Launch) (x : Cx) (hJ : Inj x) (a1 : Int32) {M : Mem} {out : Int32 × Mem} (h : s_EC_fuzz a1 M = some out) : Ci l x y_EC_fuzz (Cond.code y_EC_fuzz b_EC_fuzz 3 (some .int) :: tb) r_EC_fuzz [.ref (x.2.1 0), .int a1] M out := by
  refine ofCi (cc := b_EC_fuzz) (maxL := 3) (by decide) rfl (rfl) (Nat.le_of_ble_eq_true rfl) ?_
  intro p e s m args below meth c Q G0 ls g hx hb hml hown hts hK hZ hP hS hl hret
  have hown : s.vm.findClass R_EC = some m.cls := hown
  have hl : lv_has ls 3 [(0, .ref (x.2.1 0)), (1, .int a1)] := hl
  obtain ⟨H, eH⟩ : ∃ z, z = s.heap := ⟨_, rfl⟩
  obtain ⟨locs, eL⟩ : ∃ z, z = ([] : List Loc) := ⟨_, rfl⟩
  rw [← eH] at hP
  have hS : va_S (A0 x) s.heap H locs := by rw [eH, eL]; exact hS
  rw [← eL]
  have key : W p l e r_EC_fuzz s m args below meth c H locs 0 0 Q (F0 m 0 ls []) := by
    clear eH eL
    unfold s_EC_fuzz at h
    refine lv_iload_n hx hb d_EC_fuzz_0 rfl (lv_at hl 1 rfl) ?_
    refine lv_iconst (v := (1 : Int32)) hx hb d_EC_fuzz_1 (by decide) ?_
    refine lv_icmp_lt (tgt := 11) hx hb d_EC_fuzz_2 rfl (fun hc => ?_) (fun hc => ?_)
    · have h := if_p hc h
      refine lv_iconst (v := (-1 : Int32)) hx hb d_EC_fuzz_11 (by decide) ?_
      obtain rfl := Option.some.inj h
      exact hret d_EC_fuzz_12 g hP hS
    · have h := if_m hc h
      refine lv_iload_n hx hb d_EC_fuzz_5 rfl (lv_at hl 1 rfl) ?_
      refine lv_bipush (v := (20 : Int32)) hx hb d_EC_fuzz_6 (by decide) ?_
      refine lv_icmp_le (tgt := 13) hx hb d_EC_fuzz_8 rfl (fun hc => ?_) (fun hc => ?_)
      · have h := if_p hc h
        refine lv_aload_n hx hb d_EC_fuzz_13 rfl (lv_at hl 0 rfl) ?_
        refine gf_EC_36 hx hb hts hown hK hP d_EC_fuzz_14 ?_
        refine gf_EC_94 hx hb hts hown hK hP d_EC_fuzz_17 ?_
        refine lv_if_ne (tgt := 25) hx hb d_EC_fuzz_20 rfl (fun hc => ?_) (fun hc => ?_)
        · have h := if_m hc h
          refine lv_iconst (v := (0 : Int32)) hx hb d_EC_fuzz_25 (by decide) ?_
          obtain ⟨v21, ev21, h⟩ := nx_e h
          refine tp_i ev21 ?_
          refine lv_istore_n hx hb d_EC_fuzz_26 rfl hl (by decide) rfl (fun ls hl => ?_)
          have hl : lv_has ls 3 [(2, .int v21), (0, .ref (x.2.1 0)), (1, .int a1)] := hl
          obtain ⟨P27, eP27⟩ : ∃ P : (Int32 × Mem) → Prop, P = (fun q => ∀ (H : Heap) (locs : List Loc) (ls : Array Slot), va_P x.1 vwCl (wld x (q.2)) H → va_S (A0 x) s.heap H locs → lv_has ls 3 [(0, .ref (x.2.1 0)), (1, .int a1), (2, .int (q.1))] → W p l e r_EC_fuzz s m args below meth c H locs 0 0 Q (F0 m 27 ls [])) := ⟨_, rfl⟩
          have L27 : P27 (v21, M) := by
            refine lp_walk (G := G0) ?_ h g
            intro q res h g
            obtain ⟨v22, M23⟩ := q
            rw [eP27]
            intro H locs ls hP hS hl
            have hP : va_P x.1 vwCl (wld x M23) H := hP
            have hl : lv_has ls 3 [(0, .ref (x.2.1 0)), (1, .int a1), (2, .int v22)] := hl
            have h : l_EC_fuzz_27 a1 v22 M23 = some res := h
            unfold l_EC_fuzz_27 at h
            refine lv_iload_n hx hb d_EC_fuzz_27 rfl (lv_at hl 2 rfl) ?_
            refine lv_iload_n hx hb d_EC_fuzz_28 rfl (lv_at hl 1 rfl) ?_
            refine lv_icmp_ge (tgt := 77) hx hb d_EC_fuzz_29 rfl (fun hc => ?_) (fun hc => ?_)
            · have h := if_p hc h
              refine lv_iload_n hx hb d_EC_fuzz_77 rfl (lv_at hl 1 rfl) ?_
              obtain rfl := Option.some.inj h
              exact hret d_EC_fuzz_78 g hP hS
            · have h := if_m hc h
              refine lv_aload_n hx hb d_EC_fuzz_32 rfl (lv_at hl 0 rfl) ?_
              refine gf_EC_66 hx hb hts hown hK hP d_EC_fuzz_33 ?_
              refine lv_aload_n hx hb d_EC_fuzz_36 rfl (lv_at hl 0 rfl) ?_
              refine gf_EC_23 hx hb hts hown hK hP d_EC_fuzz_37 ?_
              refine lv_aload_n hx hb d_EC_fuzz_40 rfl (lv_at hl 0 rfl) ?_
              refine gf_EC_36 hx hb hts hown hK hP d_EC_fuzz_41 ?_
              refine lv_aload_n hx hb d_EC_fuzz_44 rfl (lv_at hl 0 rfl) ?_
              refine gf_EC_59 hx hb hts hown hK hP d_EC_fuzz_45 ?_
              obtain ⟨M24, c25, h⟩ := bv_e h
              refine cl_EC_97 (rest := []) (R := r_EC_fuzz) (c_TR_change l x hJ 54 kd_EC_changed c25) hx hb hml hts hown hK hZ hP hS hl.1 (Nat.le_of_ble_eq_true rfl) (Nat.le_of_ble_eq_true rfl) (Nat.le_of_ble_eq_true rfl) ⟨rfl, rfl, Nat.zero_le _, Nat.zero_le _⟩ d_EC_fuzz_48 (fun H locs hP hS => ?_)
              refine lv_aload_n hx hb d_EC_fuzz_51 rfl (lv_at hl 0 rfl) ?_
              refine lv_aload_n hx hb d_EC_fuzz_52 rfl (lv_at hl 0 rfl) ?_
              refine gf_EC_23 hx hb hts hown hK hP d_EC_fuzz_53 ?_
              obtain ⟨r28, M26, c27, h⟩ := bi_e h
              refine cl_EC_87 (rest := []) (R := r_EC_fuzz) (c_EC_execute l x hJ 54 kd_EC_changed c27) hx hb hml hts hown hK hZ hP hS hl.1 (Nat.le_of_ble_eq_true rfl) (Nat.le_of_ble_eq_true rfl) (Nat.le_of_ble_eq_true rfl) ⟨rfl, rfl, Nat.zero_le _, Nat.zero_le _⟩ d_EC_fuzz_56 (fun H locs hP hS => ?_)
              refine lv_pop hx hb d_EC_fuzz_59 rfl ?_
              refine lv_aload_n hx hb d_EC_fuzz_60 rfl (lv_at hl 0 rfl) ?_
              refine gf_EC_66 hx hb hts hown hK hP d_EC_fuzz_61 ?_
              refine lv_aload_n hx hb d_EC_fuzz_64 rfl (lv_at hl 0 rfl) ?_
              refine gf_EC_36 hx hb hts hown hK hP d_EC_fuzz_65 ?_
              obtain ⟨M29, c30, h⟩ := bv_e h
              refine cl_EC_101 (rest := []) (R := r_EC_fuzz) (c_TR_advance l x hJ c30) hx hb hml hts hown hK hZ hP hS hl.1 (Nat.le_of_ble_eq_true rfl) (Nat.le_of_ble_eq_true rfl) (Nat.le_of_ble_eq_true rfl) ⟨rfl, rfl, Nat.zero_le _, Nat.zero_le _⟩ d_EC_fuzz_68 (fun H locs hP hS => ?_)
              obtain ⟨v31, ev31, h⟩ := nx_e h
              refine lv_iinc (k := 2) hx hb d_EC_fuzz_71 hl rfl (iinc_v (k := (1 : Int32)) (by decide) ev31) (by decide) rfl (fun ls hl => ?_)
              have hl : lv_has ls 3 [(2, .int v31), (0, .ref (x.2.1 0)), (1, .int a1)] := hl
              refine lv_goto (tgt := 27) hx hb d_EC_fuzz_74 rfl ?_
              obtain rfl := Option.some.inj h
              have g : P27 (v31, M29) := g
              rw [eP27] at g
              exact g H locs ls hP hS (lv_sub hl [1, 2, 0] rfl)
          rw [eP27] at L27
          exact L27 H locs ls hP hS (lv_sub hl [1, 2, 0] rfl)
        · have h := if_p hc h
          refine lv_iconst (v := (0 : Int32)) hx hb d_EC_fuzz_23 (by decide) ?_
          obtain rfl := Option.some.inj h
          exact hret d_EC_fuzz_24 g hP hS
      · have h := if_m hc h
        refine lv_iconst (v := (-1 : Int32)) hx hb d_EC_fuzz_11 (by decide) ?_
        obtain rfl := Option.some.inj h
        exact hret d_EC_fuzz_12 g hP hS
  rw [eH] at key
  exact key
theorem d_EC_count_0 : decode b_EC_count 0 = .ok (.iload_n 1, 1) := by decide +kernel
theorem d_EC_count_1 : decode b_EC_count 1 = .ok (.tableswitch 104 0 6 #[43, 50, 57, 64, 74, 84, 94], 43) := by decide +kernel
theorem d_EC_count_44 : decode b_EC_count 44 = .ok (.aload_n 0, 1) := by decide +kernel
theorem d_EC_count_45 : decode b_EC_count 45 = .ok (.getfield 70, 3) := by decide +kernel
theorem d_EC_count_48 : decode b_EC_count 48 = .ok (.goto 58, 3) := by decide +kernel
theorem d_EC_count_51 : decode b_EC_count 51 = .ok (.aload_n 0, 1) := by decide +kernel
theorem d_EC_count_52 : decode b_EC_count 52 = .ok (.getfield 74, 3) := by decide +kernel
theorem d_EC_count_55 : decode b_EC_count 55 = .ok (.goto 51, 3) := by decide +kernel
theorem d_EC_count_58 : decode b_EC_count 58 = .ok (.aload_n 0, 1) := by decide +kernel
theorem d_EC_count_59 : decode b_EC_count 59 = .ok (.getfield 77, 3) := by decide +kernel
theorem d_EC_count_62 : decode b_EC_count 62 = .ok (.goto 44, 3) := by decide +kernel
theorem d_EC_count_65 : decode b_EC_count 65 = .ok (.aload_n 0, 1) := by decide +kernel
theorem d_EC_count_66 : decode b_EC_count 66 = .ok (.getfield 36, 3) := by decide +kernel
theorem d_EC_count_69 : decode b_EC_count 69 = .ok (.getfield 94, 3) := by decide +kernel
theorem d_EC_count_72 : decode b_EC_count 72 = .ok (.goto 34, 3) := by decide +kernel
theorem d_EC_count_75 : decode b_EC_count 75 = .ok (.aload_n 0, 1) := by decide +kernel
theorem d_EC_count_76 : decode b_EC_count 76 = .ok (.getfield 43, 3) := by decide +kernel
theorem d_EC_count_79 : decode b_EC_count 79 = .ok (.getfield 105, 3) := by decide +kernel
theorem d_EC_count_82 : decode b_EC_count 82 = .ok (.goto 24, 3) := by decide +kernel
theorem d_EC_count_85 : decode b_EC_count 85 = .ok (.aload_n 0, 1) := by decide +kernel
theorem d_EC_count_86 : decode b_EC_count 86 = .ok (.getfield 36, 3) := by decide +kernel
theorem d_EC_count_89 : decode b_EC_count 89 = .ok (.getfield 106, 3) := by decide +kernel
theorem d_EC_count_92 : decode b_EC_count 92 = .ok (.goto 14, 3) := by decide +kernel
theorem d_EC_count_95 : decode b_EC_count 95 = .ok (.aload_n 0, 1) := by decide +kernel
theorem d_EC_count_96 : decode b_EC_count 96 = .ok (.getfield 36, 3) := by decide +kernel
theorem d_EC_count_99 : decode b_EC_count 99 = .ok (.getfield 109, 3) := by decide +kernel
theorem d_EC_count_102 : decode b_EC_count 102 = .ok (.goto 4, 3) := by decide +kernel
theorem d_EC_count_105 : decode b_EC_count 105 = .ok (.iconst (-1), 1) := by decide +kernel
theorem d_EC_count_106 : decode b_EC_count 106 = .ok (.ireturn, 1) := by decide +kernel
noncomputable def s_EC_count (a1 : Int32) (M : Mem) : Option (Int32 × Mem) :=
  if a1 = (0 : Int32) then (some (M 0 9, M)) else (if a1 = (1 : Int32) then (some (M 0 10, M)) else (if a1 = (2 : Int32) then (some (M 0 11, M)) else (if a1 = (3 : Int32) then (some (M 5 3, M)) else (if a1 = (4 : Int32) then (some (M 9 1, M)) else (if a1 = (5 : Int32) then (some (M 5 5, M)) else (if a1 = (6 : Int32) then (some (M 5 6, M)) else (some ((-1 : Int32), M))))))))
set_option maxHeartbeats 4000000 in
set_option maxRecDepth 100000 in
theorem c_EC_count (l : Launch) (x : Cx) (hJ : Inj x) (a1 : Int32) {M : Mem} {out : Int32 × Mem} (h : s_EC_count a1 M = some out) : Ci l x y_EC_count (Cond.code y_EC_count b_EC_count 2 (some .int) :: tb) r_EC_count [.ref (x.2.1 0), .int a1] M out := by
  refine ofCi (cc := b_EC_count) (maxL := 2) (by decide) rfl (rfl) (Nat.le_of_ble_eq_true rfl) ?_
  intro p e s m args below meth c Q G0 ls g hx hb hml hown hts hK hZ hP hS hl hret
  have hown : s.vm.findClass R_EC = some m.cls := hown
  have hl : lv_has ls 2 [(0, .ref (x.2.1 0)), (1, .int a1)] := hl
  obtain ⟨H, eH⟩ : ∃ z, z = s.heap := ⟨_, rfl⟩
  obtain ⟨locs, eL⟩ : ∃ z, z = ([] : List Loc) := ⟨_, rfl⟩
  rw [← eH] at hP
  have hS : va_S (A0 x) s.heap H locs := by rw [eH, eL]; exact hS
  rw [← eL]
  have key : W p l e r_EC_count s m args below meth c H locs 0 0 Q (F0 m 0 ls []) := by
    clear eH eL
    unfold s_EC_count at h
    refine lv_iload_n hx hb d_EC_count_0 rfl (lv_at hl 1 rfl) ?_
    by_cases n21 : a1 = (0 : Int32)
    · have h := if_p n21 h
      refine sw_in (k := (0 : Int32)) (tgt := 44) hx hb n21 d_EC_count_1 (by decide) (by decide) rfl rfl ?_
      refine lv_aload_n hx hb d_EC_count_44 rfl (lv_at hl 0 rfl) ?_
      refine gf_EC_70 hx hb hts hown hK hP d_EC_count_45 ?_
      refine lv_goto (tgt := 106) hx hb d_EC_count_48 rfl ?_
      obtain rfl := Option.some.inj h
      exact hret d_EC_count_106 g hP hS
    have h := if_m n21 h
    by_cases n22 : a1 = (1 : Int32)
    · have h := if_p n22 h
      refine sw_in (k := (1 : Int32)) (tgt := 51) hx hb n22 d_EC_count_1 (by decide) (by decide) rfl rfl ?_
      refine lv_aload_n hx hb d_EC_count_51 rfl (lv_at hl 0 rfl) ?_
      refine gf_EC_74 hx hb hts hown hK hP d_EC_count_52 ?_
      refine lv_goto (tgt := 106) hx hb d_EC_count_55 rfl ?_
      obtain rfl := Option.some.inj h
      exact hret d_EC_count_106 g hP hS
    have h := if_m n22 h
    by_cases n23 : a1 = (2 : Int32)
    · have h := if_p n23 h
      refine sw_in (k := (2 : Int32)) (tgt := 58) hx hb n23 d_EC_count_1 (by decide) (by decide) rfl rfl ?_
      refine lv_aload_n hx hb d_EC_count_58 rfl (lv_at hl 0 rfl) ?_
      refine gf_EC_77 hx hb hts hown hK hP d_EC_count_59 ?_
      refine lv_goto (tgt := 106) hx hb d_EC_count_62 rfl ?_
      obtain rfl := Option.some.inj h
      exact hret d_EC_count_106 g hP hS
    have h := if_m n23 h
    by_cases n24 : a1 = (3 : Int32)
    · have h := if_p n24 h
      refine sw_in (k := (3 : Int32)) (tgt := 65) hx hb n24 d_EC_count_1 (by decide) (by decide) rfl rfl ?_
      refine lv_aload_n hx hb d_EC_count_65 rfl (lv_at hl 0 rfl) ?_
      refine gf_EC_36 hx hb hts hown hK hP d_EC_count_66 ?_
      refine gf_EC_94 hx hb hts hown hK hP d_EC_count_69 ?_
      refine lv_goto (tgt := 106) hx hb d_EC_count_72 rfl ?_
      obtain rfl := Option.some.inj h
      exact hret d_EC_count_106 g hP hS
    have h := if_m n24 h
    by_cases n25 : a1 = (4 : Int32)
    · have h := if_p n25 h
      refine sw_in (k := (4 : Int32)) (tgt := 75) hx hb n25 d_EC_count_1 (by decide) (by decide) rfl rfl ?_
      refine lv_aload_n hx hb d_EC_count_75 rfl (lv_at hl 0 rfl) ?_
      refine gf_EC_43 hx hb hts hown hK hP d_EC_count_76 ?_
      refine gf_EC_105 hx hb hts hown hK hP d_EC_count_79 ?_
      refine lv_goto (tgt := 106) hx hb d_EC_count_82 rfl ?_
      obtain rfl := Option.some.inj h
      exact hret d_EC_count_106 g hP hS
    have h := if_m n25 h
    by_cases n26 : a1 = (5 : Int32)
    · have h := if_p n26 h
      refine sw_in (k := (5 : Int32)) (tgt := 85) hx hb n26 d_EC_count_1 (by decide) (by decide) rfl rfl ?_
      refine lv_aload_n hx hb d_EC_count_85 rfl (lv_at hl 0 rfl) ?_
      refine gf_EC_36 hx hb hts hown hK hP d_EC_count_86 ?_
      refine gf_EC_106 hx hb hts hown hK hP d_EC_count_89 ?_
      refine lv_goto (tgt := 106) hx hb d_EC_count_92 rfl ?_
      obtain rfl := Option.some.inj h
      exact hret d_EC_count_106 g hP hS
    have h := if_m n26 h
    by_cases n27 : a1 = (6 : Int32)
    · have h := if_p n27 h
      refine sw_in (k := (6 : Int32)) (tgt := 95) hx hb n27 d_EC_count_1 (by decide) (by decide) rfl rfl ?_
      refine lv_aload_n hx hb d_EC_count_95 rfl (lv_at hl 0 rfl) ?_
      refine gf_EC_36 hx hb hts hown hK hP d_EC_count_96 ?_
      refine gf_EC_109 hx hb hts hown hK hP d_EC_count_99 ?_
      refine lv_goto (tgt := 106) hx hb d_EC_count_102 rfl ?_
      obtain rfl := Option.some.inj h
      exact hret d_EC_count_106 g hP hS
    have h := if_m n27 h
    have b0 := sw_ne (k := (0 : Int32)) (z := 0) (by decide) n21
    have b1 := sw_ne (k := (1 : Int32)) (z := 1) (by decide) n22
    have b2 := sw_ne (k := (2 : Int32)) (z := 2) (by decide) n23
    have b3 := sw_ne (k := (3 : Int32)) (z := 3) (by decide) n24
    have b4 := sw_ne (k := (4 : Int32)) (z := 4) (by decide) n25
    have b5 := sw_ne (k := (5 : Int32)) (z := 5) (by decide) n26
    have b6 := sw_ne (k := (6 : Int32)) (z := 6) (by decide) n27
    refine lv_tableOut (tgt := 105) hx hb d_EC_count_1 (by omega) rfl ?_
    refine lv_iconst (v := (-1 : Int32)) hx hb d_EC_count_105 (by decide) ?_
    obtain rfl := Option.some.inj h
    exact hret d_EC_count_106 g hP hS
  rw [eH] at key
  exact key
theorem d_EC_entry_0 : decode b_EC_entry 0 = .ok (.aload_n 0, 1) := by decide +kernel
theorem d_EC_entry_1 : decode b_EC_entry 1 = .ok (.getfield 36, 3) := by decide +kernel
theorem d_EC_entry_4 : decode b_EC_entry 4 = .ok (.iload_n 1, 1) := by decide +kernel
theorem d_EC_entry_5 : decode b_EC_entry 5 = .ok (.invokevirtual 112, 3) := by decide +kernel
theorem d_EC_entry_8 : decode b_EC_entry 8 = .ok (.ifCond .ne 5, 3) := by decide +kernel
theorem d_EC_entry_11 : decode b_EC_entry 11 = .ok (.iconst (-1), 1) := by decide +kernel
theorem d_EC_entry_12 : decode b_EC_entry 12 = .ok (.ireturn, 1) := by decide +kernel
theorem d_EC_entry_13 : decode b_EC_entry 13 = .ok (.aload_n 0, 1) := by decide +kernel
theorem d_EC_entry_14 : decode b_EC_entry 14 = .ok (.getfield 36, 3) := by decide +kernel
theorem d_EC_entry_17 : decode b_EC_entry 17 = .ok (.getfield 115, 3) := by decide +kernel
theorem d_EC_entry_20 : decode b_EC_entry 20 = .ok (.iload_n 1, 1) := by decide +kernel
theorem d_EC_entry_21 : decode b_EC_entry 21 = .ok (.aaload, 1) := by decide +kernel
theorem d_EC_entry_22 : decode b_EC_entry 22 = .ok (.astore_n 3, 1) := by decide +kernel
theorem d_EC_entry_23 : decode b_EC_entry 23 = .ok (.iload_n 2, 1) := by decide +kernel
theorem d_EC_entry_24 : decode b_EC_entry 24 = .ok (.tableswitch 86 0 4 #[36, 46, 53, 60, 67], 36) := by decide +kernel
theorem d_EC_entry_60 : decode b_EC_entry 60 = .ok (.aload_n 3, 1) := by decide +kernel
theorem d_EC_entry_61 : decode b_EC_entry 61 = .ok (.getfield 119, 3) := by decide +kernel
theorem d_EC_entry_64 : decode b_EC_entry 64 = .ok (.getfield 124, 3) := by decide +kernel
theorem d_EC_entry_67 : decode b_EC_entry 67 = .ok (.goto 44, 3) := by decide +kernel
theorem d_EC_entry_70 : decode b_EC_entry 70 = .ok (.aload_n 3, 1) := by decide +kernel
theorem d_EC_entry_71 : decode b_EC_entry 71 = .ok (.getfield 125, 3) := by decide +kernel
theorem d_EC_entry_74 : decode b_EC_entry 74 = .ok (.goto 37, 3) := by decide +kernel
theorem d_EC_entry_77 : decode b_EC_entry 77 = .ok (.aload_n 3, 1) := by decide +kernel
theorem d_EC_entry_78 : decode b_EC_entry 78 = .ok (.getfield 128, 3) := by decide +kernel
theorem d_EC_entry_81 : decode b_EC_entry 81 = .ok (.goto 30, 3) := by decide +kernel
theorem d_EC_entry_84 : decode b_EC_entry 84 = .ok (.aload_n 3, 1) := by decide +kernel
theorem d_EC_entry_85 : decode b_EC_entry 85 = .ok (.getfield 131, 3) := by decide +kernel
theorem d_EC_entry_88 : decode b_EC_entry 88 = .ok (.goto 23, 3) := by decide +kernel
theorem d_EC_entry_91 : decode b_EC_entry 91 = .ok (.aload_n 0, 1) := by decide +kernel
theorem d_EC_entry_92 : decode b_EC_entry 92 = .ok (.getfield 36, 3) := by decide +kernel
theorem d_EC_entry_95 : decode b_EC_entry 95 = .ok (.iload_n 1, 1) := by decide +kernel
theorem d_EC_entry_96 : decode b_EC_entry 96 = .ok (.invokevirtual 134, 3) := by decide +kernel
theorem d_EC_entry_99 : decode b_EC_entry 99 = .ok (.ifCond .eq 7, 3) := by decide +kernel
theorem d_EC_entry_102 : decode b_EC_entry 102 = .ok (.iconst 1, 1) := by decide +kernel
theorem d_EC_entry_103 : decode b_EC_entry 103 = .ok (.goto 8, 3) := by decide +kernel
theorem d_EC_entry_106 : decode b_EC_entry 106 = .ok (.iconst 0, 1) := by decide +kernel
theorem d_EC_entry_107 : decode b_EC_entry 107 = .ok (.goto 4, 3) := by decide +kernel
theorem d_EC_entry_110 : decode b_EC_entry 110 = .ok (.iconst (-1), 1) := by decide +kernel
theorem d_EC_entry_111 : decode b_EC_entry 111 = .ok (.ireturn, 1) := by decide +kernel
noncomputable def s_EC_entry (a1 : Int32) (a2 : Int32) (M : Mem) : Option (Int32 × Mem) :=
  bi (s_ST_has a1 M) (fun r23 M21 => if r23 = 0 then (some ((-1 : Int32), M21)) else (ck a1 16 (nx (122 + a1.toNatClampNeg) (fun j25 => if a2 = (0 : Int32) then (some (M21 (2 * j25 - 186) 1, M21)) else (if a2 = (1 : Int32) then (some (M21 j25 1, M21)) else (if a2 = (2 : Int32) then (some (M21 j25 2, M21)) else (if a2 = (3 : Int32) then (some (M21 j25 3, M21)) else (if a2 = (4 : Int32) then (bi (s_ST_isFavoured a1 M21) (fun r32 M30 => if r32 = 0 then (some ((0 : Int32), M30)) else (some ((1 : Int32), M30)))) else (some ((-1 : Int32), M21))))))))))
set_option maxHeartbeats 4000000 in
set_option maxRecDepth 100000 in
theorem c_EC_entry (l : Launch) (x : Cx) (hJ : Inj x) (a1 : Int32) (a2 : Int32) {M : Mem} {out : Int32 × Mem} (h : s_EC_entry a1 a2 M = some out) : Ci l x y_EC_entry (Cond.code y_EC_entry b_EC_entry 4 (some .int) :: tb) r_EC_entry [.ref (x.2.1 0), .int a1, .int a2] M out := by
  refine ofCi (cc := b_EC_entry) (maxL := 4) (by decide) rfl (rfl) (Nat.le_of_ble_eq_true rfl) ?_
  intro p e s m args below meth c Q G0 ls g hx hb hml hown hts hK hZ hP hS hl hret
  have hown : s.vm.findClass R_EC = some m.cls := hown
  have hl : lv_has ls 4 [(0, .ref (x.2.1 0)), (1, .int a1), (2, .int a2)] := hl
  obtain ⟨H, eH⟩ : ∃ z, z = s.heap := ⟨_, rfl⟩
  obtain ⟨locs, eL⟩ : ∃ z, z = ([] : List Loc) := ⟨_, rfl⟩
  rw [← eH] at hP
  have hS : va_S (A0 x) s.heap H locs := by rw [eH, eL]; exact hS
  rw [← eL]
  have key : W p l e r_EC_entry s m args below meth c H locs 0 0 Q (F0 m 0 ls []) := by
    clear eH eL
    unfold s_EC_entry at h
    refine lv_aload_n hx hb d_EC_entry_0 rfl (lv_at hl 0 rfl) ?_
    refine gf_EC_36 hx hb hts hown hK hP d_EC_entry_1 ?_
    refine lv_iload_n hx hb d_EC_entry_4 rfl (lv_at hl 1 rfl) ?_
    obtain ⟨r23, M21, c22, h⟩ := bi_e h
    refine cl_EC_112 (rest := []) (R := r_EC_entry) (c_ST_has l x hJ a1 c22) hx hb hml hts hown hK hZ hP hS hl.1 (Nat.le_of_ble_eq_true rfl) (Nat.le_of_ble_eq_true rfl) (Nat.le_of_ble_eq_true rfl) ⟨rfl, rfl, Nat.zero_le _, Nat.zero_le _⟩ d_EC_entry_5 (fun H locs hP hS => ?_)
    refine lv_if_ne (tgt := 13) hx hb d_EC_entry_8 rfl (fun hc => ?_) (fun hc => ?_)
    · have h := if_m hc h
      refine lv_aload_n hx hb d_EC_entry_13 rfl (lv_at hl 0 rfl) ?_
      refine gf_EC_36 hx hb hts hown hK hP d_EC_entry_14 ?_
      refine gf_EC_115 hx hb hts hown hK hP d_EC_entry_17 ?_
      refine lv_iload_n hx hb d_EC_entry_20 rfl (lv_at hl 1 rfl) ?_
      obtain ⟨b24, h⟩ := ck_e h
      refine m_aaE hx hb hK hP b24 d_EC_entry_21 ?_
      obtain ⟨j25, ej25, h⟩ := nx_e h
      have kj25 : kd_en j25 := by rw [ej25]; exact kd_en_at b24
      refine tp_r ej25 ?_
      refine lv_astore_n hx hb d_EC_entry_22 rfl hl (by decide) rfl (fun ls hl => ?_)
      have hl : lv_has ls 4 [(3, .ref (x.2.1 j25)), (0, .ref (x.2.1 0)), (1, .int a1), (2, .int a2)] := hl
      refine lv_iload_n hx hb d_EC_entry_23 rfl (lv_at hl 3 rfl) ?_
      by_cases n26 : a2 = (0 : Int32)
      · have h := if_p n26 h
        refine sw_in (k := (0 : Int32)) (tgt := 60) hx hb n26 d_EC_entry_24 (by decide) (by decide) rfl rfl ?_
        refine lv_aload_n hx hb d_EC_entry_60 rfl (lv_at hl 0 rfl) ?_
        refine gf_EC_119 hx hb hts hown hK hP kj25 d_EC_entry_61 ?_
        refine gf_EC_124 hx hb hts hown hK hP (kd_EN_input kj25) d_EC_entry_64 ?_
        refine lv_goto (tgt := 111) hx hb d_EC_entry_67 rfl ?_
        obtain rfl := Option.some.inj h
        exact hret d_EC_entry_111 g hP hS
      have h := if_m n26 h
      by_cases n27 : a2 = (1 : Int32)
      · have h := if_p n27 h
        refine sw_in (k := (1 : Int32)) (tgt := 70) hx hb n27 d_EC_entry_24 (by decide) (by decide) rfl rfl ?_
        refine lv_aload_n hx hb d_EC_entry_70 rfl (lv_at hl 0 rfl) ?_
        refine gf_EC_125 hx hb hts hown hK hP kj25 d_EC_entry_71 ?_
        refine lv_goto (tgt := 111) hx hb d_EC_entry_74 rfl ?_
        obtain rfl := Option.some.inj h
        exact hret d_EC_entry_111 g hP hS
      have h := if_m n27 h
      by_cases n28 : a2 = (2 : Int32)
      · have h := if_p n28 h
        refine sw_in (k := (2 : Int32)) (tgt := 77) hx hb n28 d_EC_entry_24 (by decide) (by decide) rfl rfl ?_
        refine lv_aload_n hx hb d_EC_entry_77 rfl (lv_at hl 0 rfl) ?_
        refine gf_EC_128 hx hb hts hown hK hP kj25 d_EC_entry_78 ?_
        refine lv_goto (tgt := 111) hx hb d_EC_entry_81 rfl ?_
        obtain rfl := Option.some.inj h
        exact hret d_EC_entry_111 g hP hS
      have h := if_m n28 h
      by_cases n29 : a2 = (3 : Int32)
      · have h := if_p n29 h
        refine sw_in (k := (3 : Int32)) (tgt := 84) hx hb n29 d_EC_entry_24 (by decide) (by decide) rfl rfl ?_
        refine lv_aload_n hx hb d_EC_entry_84 rfl (lv_at hl 0 rfl) ?_
        refine gf_EC_131 hx hb hts hown hK hP kj25 d_EC_entry_85 ?_
        refine lv_goto (tgt := 111) hx hb d_EC_entry_88 rfl ?_
        obtain rfl := Option.some.inj h
        exact hret d_EC_entry_111 g hP hS
      have h := if_m n29 h
      by_cases n33 : a2 = (4 : Int32)
      · have h := if_p n33 h
        refine sw_in (k := (4 : Int32)) (tgt := 91) hx hb n33 d_EC_entry_24 (by decide) (by decide) rfl rfl ?_
        refine lv_aload_n hx hb d_EC_entry_91 rfl (lv_at hl 1 rfl) ?_
        refine gf_EC_36 hx hb hts hown hK hP d_EC_entry_92 ?_
        refine lv_iload_n hx hb d_EC_entry_95 rfl (lv_at hl 2 rfl) ?_
        obtain ⟨r32, M30, c31, h⟩ := bi_e h
        refine cl_EC_134 (rest := []) (R := r_EC_entry) (c_ST_isFavoured l x hJ a1 c31) hx hb hml hts hown hK hZ hP hS hl.1 (Nat.le_of_ble_eq_true rfl) (Nat.le_of_ble_eq_true rfl) (Nat.le_of_ble_eq_true rfl) ⟨rfl, rfl, Nat.zero_le _, Nat.zero_le _⟩ d_EC_entry_96 (fun H locs hP hS => ?_)
        refine lv_if_eq (tgt := 106) hx hb d_EC_entry_99 rfl (fun hc => ?_) (fun hc => ?_)
        · have h := if_p hc h
          refine lv_iconst (v := (0 : Int32)) hx hb d_EC_entry_106 (by decide) ?_
          refine lv_goto (tgt := 111) hx hb d_EC_entry_107 rfl ?_
          obtain rfl := Option.some.inj h
          exact hret d_EC_entry_111 g hP hS
        · have h := if_m hc h
          refine lv_iconst (v := (1 : Int32)) hx hb d_EC_entry_102 (by decide) ?_
          refine lv_goto (tgt := 111) hx hb d_EC_entry_103 rfl ?_
          obtain rfl := Option.some.inj h
          exact hret d_EC_entry_111 g hP hS
      have h := if_m n33 h
      have b0 := sw_ne (k := (0 : Int32)) (z := 0) (by decide) n26
      have b1 := sw_ne (k := (1 : Int32)) (z := 1) (by decide) n27
      have b2 := sw_ne (k := (2 : Int32)) (z := 2) (by decide) n28
      have b3 := sw_ne (k := (3 : Int32)) (z := 3) (by decide) n29
      have b4 := sw_ne (k := (4 : Int32)) (z := 4) (by decide) n33
      refine lv_tableOut (tgt := 110) hx hb d_EC_entry_24 (by omega) rfl ?_
      refine lv_iconst (v := (-1 : Int32)) hx hb d_EC_entry_110 (by decide) ?_
      obtain rfl := Option.some.inj h
      exact hret d_EC_entry_111 g hP hS
    · have h := if_p hc h
      refine lv_iconst (v := (-1 : Int32)) hx hb d_EC_entry_11 (by decide) ?_
      obtain rfl := Option.some.inj h
      exact hret d_EC_entry_12 g hP hS
  rw [eH] at key
  exact key
theorem d_EC_entryByte_0 : decode b_EC_entryByte 0 = .ok (.aload_n 0, 1) := by decide +kernel
theorem d_EC_entryByte_1 : decode b_EC_entryByte 1 = .ok (.getfield 36, 3) := by decide +kernel
theorem d_EC_entryByte_4 : decode b_EC_entryByte 4 = .ok (.iload_n 1, 1) := by decide +kernel
theorem d_EC_entryByte_5 : decode b_EC_entryByte 5 = .ok (.invokevirtual 112, 3) := by decide +kernel
theorem d_EC_entryByte_8 : decode b_EC_entryByte 8 = .ok (.ifCond .eq 22, 3) := by decide +kernel
theorem d_EC_entryByte_11 : decode b_EC_entryByte 11 = .ok (.aload_n 0, 1) := by decide +kernel
theorem d_EC_entryByte_12 : decode b_EC_entryByte 12 = .ok (.getfield 36, 3) := by decide +kernel
theorem d_EC_entryByte_15 : decode b_EC_entryByte 15 = .ok (.getfield 115, 3) := by decide +kernel
theorem d_EC_entryByte_18 : decode b_EC_entryByte 18 = .ok (.iload_n 1, 1) := by decide +kernel
theorem d_EC_entryByte_19 : decode b_EC_entryByte 19 = .ok (.aaload, 1) := by decide +kernel
theorem d_EC_entryByte_20 : decode b_EC_entryByte 20 = .ok (.getfield 119, 3) := by decide +kernel
theorem d_EC_entryByte_23 : decode b_EC_entryByte 23 = .ok (.iload_n 2, 1) := by decide +kernel
theorem d_EC_entryByte_24 : decode b_EC_entryByte 24 = .ok (.invokevirtual 137, 3) := by decide +kernel
theorem d_EC_entryByte_27 : decode b_EC_entryByte 27 = .ok (.goto 4, 3) := by decide +kernel
theorem d_EC_entryByte_30 : decode b_EC_entryByte 30 = .ok (.iconst (-1), 1) := by decide +kernel
theorem d_EC_entryByte_31 : decode b_EC_entryByte 31 = .ok (.ireturn, 1) := by decide +kernel
noncomputable def s_EC_entryByte (a1 : Int32) (a2 : Int32) (M : Mem) : Option (Int32 × Mem) :=
  bi (s_ST_has a1 M) (fun r23 M21 => if r23 = 0 then (some ((-1 : Int32), M21)) else (ck a1 16 (bi (s_IN_at (2 * (122 + a1.toNatClampNeg) - 186) a2 M21) (fun r27 M25 => some (r27, M25)))))
set_option maxHeartbeats 4000000 in
set_option maxRecDepth 100000 in
theorem c_EC_entryByte (l : Launch) (x : Cx) (hJ : Inj x) (a1 : Int32) (a2 : Int32) {M : Mem} {out : Int32 × Mem} (h : s_EC_entryByte a1 a2 M = some out) : Ci l x y_EC_entryByte (Cond.code y_EC_entryByte b_EC_entryByte 3 (some .int) :: tb) r_EC_entryByte [.ref (x.2.1 0), .int a1, .int a2] M out := by
  refine ofCi (cc := b_EC_entryByte) (maxL := 3) (by decide) rfl (rfl) (Nat.le_of_ble_eq_true rfl) ?_
  intro p e s m args below meth c Q G0 ls g hx hb hml hown hts hK hZ hP hS hl hret
  have hown : s.vm.findClass R_EC = some m.cls := hown
  have hl : lv_has ls 3 [(0, .ref (x.2.1 0)), (1, .int a1), (2, .int a2)] := hl
  obtain ⟨H, eH⟩ : ∃ z, z = s.heap := ⟨_, rfl⟩
  obtain ⟨locs, eL⟩ : ∃ z, z = ([] : List Loc) := ⟨_, rfl⟩
  rw [← eH] at hP
  have hS : va_S (A0 x) s.heap H locs := by rw [eH, eL]; exact hS
  rw [← eL]
  have key : W p l e r_EC_entryByte s m args below meth c H locs 0 0 Q (F0 m 0 ls []) := by
    clear eH eL
    unfold s_EC_entryByte at h
    refine lv_aload_n hx hb d_EC_entryByte_0 rfl (lv_at hl 0 rfl) ?_
    refine gf_EC_36 hx hb hts hown hK hP d_EC_entryByte_1 ?_
    refine lv_iload_n hx hb d_EC_entryByte_4 rfl (lv_at hl 1 rfl) ?_
    obtain ⟨r23, M21, c22, h⟩ := bi_e h
    refine cl_EC_112 (rest := []) (R := r_EC_entryByte) (c_ST_has l x hJ a1 c22) hx hb hml hts hown hK hZ hP hS hl.1 (Nat.le_of_ble_eq_true rfl) (Nat.le_of_ble_eq_true rfl) (Nat.le_of_ble_eq_true rfl) ⟨rfl, rfl, Nat.zero_le _, Nat.zero_le _⟩ d_EC_entryByte_5 (fun H locs hP hS => ?_)
    refine lv_if_eq (tgt := 30) hx hb d_EC_entryByte_8 rfl (fun hc => ?_) (fun hc => ?_)
    · have h := if_p hc h
      refine lv_iconst (v := (-1 : Int32)) hx hb d_EC_entryByte_30 (by decide) ?_
      obtain rfl := Option.some.inj h
      exact hret d_EC_entryByte_31 g hP hS
    · have h := if_m hc h
      refine lv_aload_n hx hb d_EC_entryByte_11 rfl (lv_at hl 0 rfl) ?_
      refine gf_EC_36 hx hb hts hown hK hP d_EC_entryByte_12 ?_
      refine gf_EC_115 hx hb hts hown hK hP d_EC_entryByte_15 ?_
      refine lv_iload_n hx hb d_EC_entryByte_18 rfl (lv_at hl 1 rfl) ?_
      obtain ⟨b24, h⟩ := ck_e h
      refine m_aaE hx hb hK hP b24 d_EC_entryByte_19 ?_
      refine gf_EC_119 hx hb hts hown hK hP (kd_en_at b24) d_EC_entryByte_20 ?_
      refine lv_iload_n hx hb d_EC_entryByte_23 rfl (lv_at hl 2 rfl) ?_
      obtain ⟨r27, M25, c26, h⟩ := bi_e h
      refine cl_EC_137 (rest := []) (R := r_EC_entryByte) (c_IN_at l x hJ (2 * (122 + a1.toNatClampNeg) - 186) (kd_EN_input (kd_en_at b24)) a2 c26) (kd_EN_input (kd_en_at b24)) hx hb hml hts hown hK hZ hP hS hl.1 (Nat.le_of_ble_eq_true rfl) (Nat.le_of_ble_eq_true rfl) (Nat.le_of_ble_eq_true rfl) ⟨rfl, rfl, Nat.zero_le _, Nat.zero_le _⟩ d_EC_entryByte_24 (fun H locs hP hS => ?_)
      refine lv_goto (tgt := 31) hx hb d_EC_entryByte_27 rfl ?_
      obtain rfl := Option.some.inj h
      exact hret d_EC_entryByte_31 g hP hS
  rw [eH] at key
  exact key
theorem d_EC_seen_0 : decode b_EC_seen 0 = .ok (.iload_n 1, 1) := by decide +kernel
theorem d_EC_seen_1 : decode b_EC_seen 1 = .ok (.invokestatic 141, 3) := by decide +kernel
theorem d_EC_seen_4 : decode b_EC_seen 4 = .ok (.ifCond .eq 10, 3) := by decide +kernel
theorem d_EC_seen_7 : decode b_EC_seen 7 = .ok (.iload_n 2, 1) := by decide +kernel
theorem d_EC_seen_8 : decode b_EC_seen 8 = .ok (.invokestatic 141, 3) := by decide +kernel
theorem d_EC_seen_11 : decode b_EC_seen 11 = .ok (.ifCond .ne 5, 3) := by decide +kernel
theorem d_EC_seen_14 : decode b_EC_seen 14 = .ok (.iconst 0, 1) := by decide +kernel
theorem d_EC_seen_15 : decode b_EC_seen 15 = .ok (.ireturn, 1) := by decide +kernel
theorem d_EC_seen_16 : decode b_EC_seen 16 = .ok (.aload_n 0, 1) := by decide +kernel
theorem d_EC_seen_17 : decode b_EC_seen 17 = .ok (.getfield 36, 3) := by decide +kernel
theorem d_EC_seen_20 : decode b_EC_seen 20 = .ok (.getfield 144, 3) := by decide +kernel
theorem d_EC_seen_23 : decode b_EC_seen 23 = .ok (.bipush 24, 2) := by decide +kernel
theorem d_EC_seen_25 : decode b_EC_seen 25 = .ok (.iload_n 1, 1) := by decide +kernel
theorem d_EC_seen_26 : decode b_EC_seen 26 = .ok (.imul, 1) := by decide +kernel
theorem d_EC_seen_27 : decode b_EC_seen 27 = .ok (.iload_n 2, 1) := by decide +kernel
theorem d_EC_seen_28 : decode b_EC_seen 28 = .ok (.iadd, 1) := by decide +kernel
theorem d_EC_seen_29 : decode b_EC_seen 29 = .ok (.iaload, 1) := by decide +kernel
theorem d_EC_seen_30 : decode b_EC_seen 30 = .ok (.ireturn, 1) := by decide +kernel
noncomputable def s_EC_seen (a1 : Int32) (a2 : Int32) (M : Mem) : Option (Int32 × Mem) :=
  bi (s_PR_isPlace a1 M) (fun r23 M21 => if r23 = 0 then (some ((0 : Int32), M21)) else (bi (s_PR_isPlace a2 M21) (fun r26 M24 => if r26 = 0 then (some ((0 : Int32), M24)) else (ck (((24 : Int32) * a1) + a2) 576 (some (M24 7 (((24 : Int32) * a1) + a2).toNatClampNeg, M24))))))
set_option maxHeartbeats 4000000 in
set_option maxRecDepth 100000 in
theorem c_EC_seen (l : Launch) (x : Cx) (hJ : Inj x) (a1 : Int32) (a2 : Int32) {M : Mem} {out : Int32 × Mem} (h : s_EC_seen a1 a2 M = some out) : Ci l x y_EC_seen (Cond.code y_EC_seen b_EC_seen 3 (some .int) :: tb) r_EC_seen [.ref (x.2.1 0), .int a1, .int a2] M out := by
  refine ofCi (cc := b_EC_seen) (maxL := 3) (by decide) rfl (rfl) (Nat.le_of_ble_eq_true rfl) ?_
  intro p e s m args below meth c Q G0 ls g hx hb hml hown hts hK hZ hP hS hl hret
  have hown : s.vm.findClass R_EC = some m.cls := hown
  have hl : lv_has ls 3 [(0, .ref (x.2.1 0)), (1, .int a1), (2, .int a2)] := hl
  obtain ⟨H, eH⟩ : ∃ z, z = s.heap := ⟨_, rfl⟩
  obtain ⟨locs, eL⟩ : ∃ z, z = ([] : List Loc) := ⟨_, rfl⟩
  rw [← eH] at hP
  have hS : va_S (A0 x) s.heap H locs := by rw [eH, eL]; exact hS
  rw [← eL]
  have key : W p l e r_EC_seen s m args below meth c H locs 0 0 Q (F0 m 0 ls []) := by
    clear eH eL
    unfold s_EC_seen at h
    refine lv_iload_n hx hb d_EC_seen_0 rfl (lv_at hl 1 rfl) ?_
    obtain ⟨r23, M21, c22, h⟩ := bi_e h
    refine cl_EC_141 (rest := []) (R := r_EC_seen) (c_PR_isPlace l x hJ a1 c22) hx hb hml hts hown hK hZ hP hS hl.1 (Nat.le_of_ble_eq_true rfl) (Nat.le_of_ble_eq_true rfl) (Nat.le_of_ble_eq_true rfl) ⟨rfl, rfl, Nat.zero_le _, Nat.zero_le _⟩ d_EC_seen_1 (fun H locs hP hS => ?_)
    refine lv_if_eq (tgt := 14) hx hb d_EC_seen_4 rfl (fun hc => ?_) (fun hc => ?_)
    · have h := if_p hc h
      refine lv_iconst (v := (0 : Int32)) hx hb d_EC_seen_14 (by decide) ?_
      obtain rfl := Option.some.inj h
      exact hret d_EC_seen_15 g hP hS
    · have h := if_m hc h
      refine lv_iload_n hx hb d_EC_seen_7 rfl (lv_at hl 2 rfl) ?_
      obtain ⟨r26, M24, c25, h⟩ := bi_e h
      refine cl_EC_141 (rest := []) (R := r_EC_seen) (c_PR_isPlace l x hJ a2 c25) hx hb hml hts hown hK hZ hP hS hl.1 (Nat.le_of_ble_eq_true rfl) (Nat.le_of_ble_eq_true rfl) (Nat.le_of_ble_eq_true rfl) ⟨rfl, rfl, Nat.zero_le _, Nat.zero_le _⟩ d_EC_seen_8 (fun H locs hP hS => ?_)
      refine lv_if_ne (tgt := 16) hx hb d_EC_seen_11 rfl (fun hc => ?_) (fun hc => ?_)
      · have h := if_m hc h
        refine lv_aload_n hx hb d_EC_seen_16 rfl (lv_at hl 0 rfl) ?_
        refine gf_EC_36 hx hb hts hown hK hP d_EC_seen_17 ?_
        refine gf_EC_144 hx hb hts hown hK hP d_EC_seen_20 ?_
        refine lv_bipush (v := (24 : Int32)) hx hb d_EC_seen_23 (by decide) ?_
        refine lv_iload_n hx hb d_EC_seen_25 rfl (lv_at hl 1 rfl) ?_
        refine lv_imul hx hb d_EC_seen_26 ?_
        refine lv_iload_n hx hb d_EC_seen_27 rfl (lv_at hl 2 rfl) ?_
        refine lv_iadd hx hb d_EC_seen_28 ?_
        obtain ⟨b27, h⟩ := ck_e h
        refine m_ald hx hb hK hP ar_ST_buckets b27 d_EC_seen_29 ?_
        obtain rfl := Option.some.inj h
        exact hret d_EC_seen_30 g hP hS
      · have h := if_p hc h
        refine lv_iconst (v := (0 : Int32)) hx hb d_EC_seen_14 (by decide) ?_
        obtain rfl := Option.some.inj h
        exact hret d_EC_seen_15 g hP hS
  rw [eH] at key
  exact key
theorem d_EC_finding_0 : decode b_EC_finding 0 = .ok (.aload_n 0, 1) := by decide +kernel
theorem d_EC_finding_1 : decode b_EC_finding 1 = .ok (.getfield 43, 3) := by decide +kernel
theorem d_EC_finding_4 : decode b_EC_finding 4 = .ok (.iload_n 1, 1) := by decide +kernel
theorem d_EC_finding_5 : decode b_EC_finding 5 = .ok (.invokevirtual 148, 3) := by decide +kernel
theorem d_EC_finding_8 : decode b_EC_finding 8 = .ok (.ifCond .ne 5, 3) := by decide +kernel
theorem d_EC_finding_11 : decode b_EC_finding 11 = .ok (.iconst (-1), 1) := by decide +kernel
theorem d_EC_finding_12 : decode b_EC_finding 12 = .ok (.ireturn, 1) := by decide +kernel
theorem d_EC_finding_13 : decode b_EC_finding 13 = .ok (.aload_n 0, 1) := by decide +kernel
theorem d_EC_finding_14 : decode b_EC_finding 14 = .ok (.getfield 43, 3) := by decide +kernel
theorem d_EC_finding_17 : decode b_EC_finding 17 = .ok (.getfield 149, 3) := by decide +kernel
theorem d_EC_finding_20 : decode b_EC_finding 20 = .ok (.iload_n 1, 1) := by decide +kernel
theorem d_EC_finding_21 : decode b_EC_finding 21 = .ok (.aaload, 1) := by decide +kernel
theorem d_EC_finding_22 : decode b_EC_finding 22 = .ok (.astore_n 3, 1) := by decide +kernel
theorem d_EC_finding_23 : decode b_EC_finding 23 = .ok (.iload_n 2, 1) := by decide +kernel
theorem d_EC_finding_24 : decode b_EC_finding 24 = .ok (.tableswitch 111 0 8 #[52, 59, 66, 73, 73, 73, 84, 91, 101], 52) := by decide +kernel
theorem d_EC_finding_76 : decode b_EC_finding 76 = .ok (.aload_n 3, 1) := by decide +kernel
theorem d_EC_finding_77 : decode b_EC_finding 77 = .ok (.getfield 153, 3) := by decide +kernel
theorem d_EC_finding_80 : decode b_EC_finding 80 = .ok (.goto 56, 3) := by decide +kernel
theorem d_EC_finding_83 : decode b_EC_finding 83 = .ok (.aload_n 3, 1) := by decide +kernel
theorem d_EC_finding_84 : decode b_EC_finding 84 = .ok (.getfield 158, 3) := by decide +kernel
theorem d_EC_finding_87 : decode b_EC_finding 87 = .ok (.goto 49, 3) := by decide +kernel
theorem d_EC_finding_90 : decode b_EC_finding 90 = .ok (.aload_n 3, 1) := by decide +kernel
theorem d_EC_finding_91 : decode b_EC_finding 91 = .ok (.getfield 161, 3) := by decide +kernel
theorem d_EC_finding_94 : decode b_EC_finding 94 = .ok (.goto 42, 3) := by decide +kernel
theorem d_EC_finding_97 : decode b_EC_finding 97 = .ok (.aload_n 3, 1) := by decide +kernel
theorem d_EC_finding_98 : decode b_EC_finding 98 = .ok (.getfield 164, 3) := by decide +kernel
theorem d_EC_finding_101 : decode b_EC_finding 101 = .ok (.iload_n 2, 1) := by decide +kernel
theorem d_EC_finding_102 : decode b_EC_finding 102 = .ok (.iconst 3, 1) := by decide +kernel
theorem d_EC_finding_103 : decode b_EC_finding 103 = .ok (.isub, 1) := by decide +kernel
theorem d_EC_finding_104 : decode b_EC_finding 104 = .ok (.iaload, 1) := by decide +kernel
theorem d_EC_finding_105 : decode b_EC_finding 105 = .ok (.goto 31, 3) := by decide +kernel
theorem d_EC_finding_108 : decode b_EC_finding 108 = .ok (.aload_n 3, 1) := by decide +kernel
theorem d_EC_finding_109 : decode b_EC_finding 109 = .ok (.getfield 167, 3) := by decide +kernel
theorem d_EC_finding_112 : decode b_EC_finding 112 = .ok (.goto 24, 3) := by decide +kernel
theorem d_EC_finding_115 : decode b_EC_finding 115 = .ok (.aload_n 3, 1) := by decide +kernel
theorem d_EC_finding_116 : decode b_EC_finding 116 = .ok (.getfield 170, 3) := by decide +kernel
theorem d_EC_finding_119 : decode b_EC_finding 119 = .ok (.getfield 124, 3) := by decide +kernel
theorem d_EC_finding_122 : decode b_EC_finding 122 = .ok (.goto 14, 3) := by decide +kernel
theorem d_EC_finding_125 : decode b_EC_finding 125 = .ok (.aload_n 3, 1) := by decide +kernel
theorem d_EC_finding_126 : decode b_EC_finding 126 = .ok (.getfield 171, 3) := by decide +kernel
theorem d_EC_finding_129 : decode b_EC_finding 129 = .ok (.getfield 124, 3) := by decide +kernel
theorem d_EC_finding_132 : decode b_EC_finding 132 = .ok (.goto 4, 3) := by decide +kernel
theorem d_EC_finding_135 : decode b_EC_finding 135 = .ok (.iconst (-1), 1) := by decide +kernel
theorem d_EC_finding_136 : decode b_EC_finding 136 = .ok (.ireturn, 1) := by decide +kernel
noncomputable def j_EC_finding_97 (a21 : Int32) (j22 : Nat) (M24 : Mem) : Option (Int32 × Mem) :=
  ck (a21 - (3 : Int32)) 3 (some (M24 (j22 + 1) (a21 - (3 : Int32)).toNatClampNeg, M24))
noncomputable def s_EC_finding (a1 : Int32) (a2 : Int32) (M : Mem) : Option (Int32 × Mem) :=
  bi (s_FS_has a1 M) (fun r28 M26 => if r28 = 0 then (some ((-1 : Int32), M26)) else (ck a1 8 (nx (138 + 2 * a1.toNatClampNeg) (fun j30 => if a2 = (0 : Int32) then (some (M26 j30 3, M26)) else (if a2 = (1 : Int32) then (some (M26 j30 4, M26)) else (if a2 = (2 : Int32) then (some (M26 j30 5, M26)) else (if a2 = (3 : Int32) then (j_EC_finding_97 a2 j30 M26) else (if a2 = (4 : Int32) then (j_EC_finding_97 a2 j30 M26) else (if a2 = (5 : Int32) then (j_EC_finding_97 a2 j30 M26) else (if a2 = (6 : Int32) then (some (M26 j30 6, M26)) else (if a2 = (7 : Int32) then (some (M26 (2 * j30 - 186) 1, M26)) else (if a2 = (8 : Int32) then (some (M26 (2 * j30 - 184) 1, M26)) else (some ((-1 : Int32), M26))))))))))))))
set_option maxHeartbeats 4000000 in
set_option maxRecDepth 100000 in
theorem c_EC_finding (l : Launch) (x : Cx) (hJ : Inj x) (a1 : Int32) (a2 : Int32) {M : Mem} {out : Int32 × Mem} (h : s_EC_finding a1 a2 M = some out) : Ci l x y_EC_finding (Cond.code y_EC_finding b_EC_finding 4 (some .int) :: tb) r_EC_finding [.ref (x.2.1 0), .int a1, .int a2] M out := by
  refine ofCi (cc := b_EC_finding) (maxL := 4) (by decide) rfl (rfl) (Nat.le_of_ble_eq_true rfl) ?_
  intro p e s m args below meth c Q G0 ls g hx hb hml hown hts hK hZ hP hS hl hret
  have hown : s.vm.findClass R_EC = some m.cls := hown
  have hl : lv_has ls 4 [(0, .ref (x.2.1 0)), (1, .int a1), (2, .int a2)] := hl
  obtain ⟨H, eH⟩ : ∃ z, z = s.heap := ⟨_, rfl⟩
  obtain ⟨locs, eL⟩ : ∃ z, z = ([] : List Loc) := ⟨_, rfl⟩
  rw [← eH] at hP
  have hS : va_S (A0 x) s.heap H locs := by rw [eH, eL]; exact hS
  rw [← eL]
  have key : W p l e r_EC_finding s m args below meth c H locs 0 0 Q (F0 m 0 ls []) := by
    clear eH eL
    unfold s_EC_finding at h
    have J97 : ∀ (a21 : Int32) (j22 : Nat) (M24 : Mem) (k23 : kd_fi j22) (res : Int32 × Mem) (h : j_EC_finding_97 a21 j22 M24 = some res) (g : G0 res) (H : Heap) (locs : List Loc) (ls : Array Slot) (hP : va_P x.1 vwCl (wld x M24) H) (hS : va_S (A0 x) s.heap H locs) (hl : lv_has ls 4 [(2, .int a21), (3, .ref (x.2.1 j22))]), W p l e r_EC_finding s m args below meth c H locs 0 0 Q (F0 m 97 ls []) := by
      intro a21 j22 M24 k23 res h g H locs ls hP hS hl
      unfold j_EC_finding_97 at h
      refine lv_aload_n hx hb d_EC_finding_97 rfl (lv_at hl 1 rfl) ?_
      refine gf_EC_164 hx hb hts hown hK hP k23 d_EC_finding_98 ?_
      refine lv_iload_n hx hb d_EC_finding_101 rfl (lv_at hl 0 rfl) ?_
      refine lv_iconst (v := (3 : Int32)) hx hb d_EC_finding_102 (by decide) ?_
      refine lv_isub hx hb d_EC_finding_103 ?_
      obtain ⟨b25, h⟩ := ck_e h
      refine m_ald hx hb hK hP (ar_FI_latestFirst k23) b25 d_EC_finding_104 ?_
      refine lv_goto (tgt := 136) hx hb d_EC_finding_105 rfl ?_
      obtain rfl := Option.some.inj h
      exact hret d_EC_finding_136 g hP hS
    refine lv_aload_n hx hb d_EC_finding_0 rfl (lv_at hl 0 rfl) ?_
    refine gf_EC_43 hx hb hts hown hK hP d_EC_finding_1 ?_
    refine lv_iload_n hx hb d_EC_finding_4 rfl (lv_at hl 1 rfl) ?_
    obtain ⟨r28, M26, c27, h⟩ := bi_e h
    refine cl_EC_148 (rest := []) (R := r_EC_finding) (c_FS_has l x hJ a1 c27) hx hb hml hts hown hK hZ hP hS hl.1 (Nat.le_of_ble_eq_true rfl) (Nat.le_of_ble_eq_true rfl) (Nat.le_of_ble_eq_true rfl) ⟨rfl, rfl, Nat.zero_le _, Nat.zero_le _⟩ d_EC_finding_5 (fun H locs hP hS => ?_)
    refine lv_if_ne (tgt := 13) hx hb d_EC_finding_8 rfl (fun hc => ?_) (fun hc => ?_)
    · have h := if_m hc h
      refine lv_aload_n hx hb d_EC_finding_13 rfl (lv_at hl 0 rfl) ?_
      refine gf_EC_43 hx hb hts hown hK hP d_EC_finding_14 ?_
      refine gf_EC_149 hx hb hts hown hK hP d_EC_finding_17 ?_
      refine lv_iload_n hx hb d_EC_finding_20 rfl (lv_at hl 1 rfl) ?_
      obtain ⟨b29, h⟩ := ck_e h
      refine m_aaF hx hb hK hP b29 d_EC_finding_21 ?_
      obtain ⟨j30, ej30, h⟩ := nx_e h
      have kj30 : kd_fi j30 := by rw [ej30]; exact kd_fi_at b29
      refine tp_r ej30 ?_
      refine lv_astore_n hx hb d_EC_finding_22 rfl hl (by decide) rfl (fun ls hl => ?_)
      have hl : lv_has ls 4 [(3, .ref (x.2.1 j30)), (0, .ref (x.2.1 0)), (1, .int a1), (2, .int a2)] := hl
      refine lv_iload_n hx hb d_EC_finding_23 rfl (lv_at hl 3 rfl) ?_
      by_cases n31 : a2 = (0 : Int32)
      · have h := if_p n31 h
        refine sw_in (k := (0 : Int32)) (tgt := 76) hx hb n31 d_EC_finding_24 (by decide) (by decide) rfl rfl ?_
        refine lv_aload_n hx hb d_EC_finding_76 rfl (lv_at hl 0 rfl) ?_
        refine gf_EC_153 hx hb hts hown hK hP kj30 d_EC_finding_77 ?_
        refine lv_goto (tgt := 136) hx hb d_EC_finding_80 rfl ?_
        obtain rfl := Option.some.inj h
        exact hret d_EC_finding_136 g hP hS
      have h := if_m n31 h
      by_cases n32 : a2 = (1 : Int32)
      · have h := if_p n32 h
        refine sw_in (k := (1 : Int32)) (tgt := 83) hx hb n32 d_EC_finding_24 (by decide) (by decide) rfl rfl ?_
        refine lv_aload_n hx hb d_EC_finding_83 rfl (lv_at hl 0 rfl) ?_
        refine gf_EC_158 hx hb hts hown hK hP kj30 d_EC_finding_84 ?_
        refine lv_goto (tgt := 136) hx hb d_EC_finding_87 rfl ?_
        obtain rfl := Option.some.inj h
        exact hret d_EC_finding_136 g hP hS
      have h := if_m n32 h
      by_cases n33 : a2 = (2 : Int32)
      · have h := if_p n33 h
        refine sw_in (k := (2 : Int32)) (tgt := 90) hx hb n33 d_EC_finding_24 (by decide) (by decide) rfl rfl ?_
        refine lv_aload_n hx hb d_EC_finding_90 rfl (lv_at hl 0 rfl) ?_
        refine gf_EC_161 hx hb hts hown hK hP kj30 d_EC_finding_91 ?_
        refine lv_goto (tgt := 136) hx hb d_EC_finding_94 rfl ?_
        obtain rfl := Option.some.inj h
        exact hret d_EC_finding_136 g hP hS
      have h := if_m n33 h
      by_cases n34 : a2 = (3 : Int32)
      · have h := if_p n34 h
        refine sw_in (k := (3 : Int32)) (tgt := 97) hx hb n34 d_EC_finding_24 (by decide) (by decide) rfl rfl ?_
        exact J97 a2 j30 M26 kj30 _ h g H locs ls hP hS (lv_sub hl [3, 0] rfl)
      have h := if_m n34 h
      by_cases n35 : a2 = (4 : Int32)
      · have h := if_p n35 h
        refine sw_in (k := (4 : Int32)) (tgt := 97) hx hb n35 d_EC_finding_24 (by decide) (by decide) rfl rfl ?_
        exact J97 a2 j30 M26 kj30 _ h g H locs ls hP hS (lv_sub hl [3, 0] rfl)
      have h := if_m n35 h
      by_cases n36 : a2 = (5 : Int32)
      · have h := if_p n36 h
        refine sw_in (k := (5 : Int32)) (tgt := 97) hx hb n36 d_EC_finding_24 (by decide) (by decide) rfl rfl ?_
        exact J97 a2 j30 M26 kj30 _ h g H locs ls hP hS (lv_sub hl [3, 0] rfl)
      have h := if_m n36 h
      by_cases n37 : a2 = (6 : Int32)
      · have h := if_p n37 h
        refine sw_in (k := (6 : Int32)) (tgt := 108) hx hb n37 d_EC_finding_24 (by decide) (by decide) rfl rfl ?_
        refine lv_aload_n hx hb d_EC_finding_108 rfl (lv_at hl 0 rfl) ?_
        refine gf_EC_167 hx hb hts hown hK hP kj30 d_EC_finding_109 ?_
        refine lv_goto (tgt := 136) hx hb d_EC_finding_112 rfl ?_
        obtain rfl := Option.some.inj h
        exact hret d_EC_finding_136 g hP hS
      have h := if_m n37 h
      by_cases n38 : a2 = (7 : Int32)
      · have h := if_p n38 h
        refine sw_in (k := (7 : Int32)) (tgt := 115) hx hb n38 d_EC_finding_24 (by decide) (by decide) rfl rfl ?_
        refine lv_aload_n hx hb d_EC_finding_115 rfl (lv_at hl 0 rfl) ?_
        refine gf_EC_170 hx hb hts hown hK hP kj30 d_EC_finding_116 ?_
        refine gf_EC_124 hx hb hts hown hK hP (kd_FI_input kj30) d_EC_finding_119 ?_
        refine lv_goto (tgt := 136) hx hb d_EC_finding_122 rfl ?_
        obtain rfl := Option.some.inj h
        exact hret d_EC_finding_136 g hP hS
      have h := if_m n38 h
      by_cases n39 : a2 = (8 : Int32)
      · have h := if_p n39 h
        refine sw_in (k := (8 : Int32)) (tgt := 125) hx hb n39 d_EC_finding_24 (by decide) (by decide) rfl rfl ?_
        refine lv_aload_n hx hb d_EC_finding_125 rfl (lv_at hl 0 rfl) ?_
        refine gf_EC_171 hx hb hts hown hK hP kj30 d_EC_finding_126 ?_
        refine gf_EC_124 hx hb hts hown hK hP (kd_FI_shortest kj30) d_EC_finding_129 ?_
        refine lv_goto (tgt := 136) hx hb d_EC_finding_132 rfl ?_
        obtain rfl := Option.some.inj h
        exact hret d_EC_finding_136 g hP hS
      have h := if_m n39 h
      have b0 := sw_ne (k := (0 : Int32)) (z := 0) (by decide) n31
      have b1 := sw_ne (k := (1 : Int32)) (z := 1) (by decide) n32
      have b2 := sw_ne (k := (2 : Int32)) (z := 2) (by decide) n33
      have b3 := sw_ne (k := (3 : Int32)) (z := 3) (by decide) n34
      have b4 := sw_ne (k := (4 : Int32)) (z := 4) (by decide) n35
      have b5 := sw_ne (k := (5 : Int32)) (z := 5) (by decide) n36
      have b6 := sw_ne (k := (6 : Int32)) (z := 6) (by decide) n37
      have b7 := sw_ne (k := (7 : Int32)) (z := 7) (by decide) n38
      have b8 := sw_ne (k := (8 : Int32)) (z := 8) (by decide) n39
      refine lv_tableOut (tgt := 135) hx hb d_EC_finding_24 (by omega) rfl ?_
      refine lv_iconst (v := (-1 : Int32)) hx hb d_EC_finding_135 (by decide) ?_
      obtain rfl := Option.some.inj h
      exact hret d_EC_finding_136 g hP hS
    · have h := if_p hc h
      refine lv_iconst (v := (-1 : Int32)) hx hb d_EC_finding_11 (by decide) ?_
      obtain rfl := Option.some.inj h
      exact hret d_EC_finding_12 g hP hS
  rw [eH] at key
  exact key
theorem d_EC_findingByte_0 : decode b_EC_findingByte 0 = .ok (.aload_n 0, 1) := by decide +kernel
theorem d_EC_findingByte_1 : decode b_EC_findingByte 1 = .ok (.getfield 43, 3) := by decide +kernel
theorem d_EC_findingByte_4 : decode b_EC_findingByte 4 = .ok (.iload_n 1, 1) := by decide +kernel
theorem d_EC_findingByte_5 : decode b_EC_findingByte 5 = .ok (.invokevirtual 148, 3) := by decide +kernel
theorem d_EC_findingByte_8 : decode b_EC_findingByte 8 = .ok (.ifCond .ne 5, 3) := by decide +kernel
theorem d_EC_findingByte_11 : decode b_EC_findingByte 11 = .ok (.iconst (-1), 1) := by decide +kernel
theorem d_EC_findingByte_12 : decode b_EC_findingByte 12 = .ok (.ireturn, 1) := by decide +kernel
theorem d_EC_findingByte_13 : decode b_EC_findingByte 13 = .ok (.aload_n 0, 1) := by decide +kernel
theorem d_EC_findingByte_14 : decode b_EC_findingByte 14 = .ok (.getfield 43, 3) := by decide +kernel
theorem d_EC_findingByte_17 : decode b_EC_findingByte 17 = .ok (.getfield 149, 3) := by decide +kernel
theorem d_EC_findingByte_20 : decode b_EC_findingByte 20 = .ok (.iload_n 1, 1) := by decide +kernel
theorem d_EC_findingByte_21 : decode b_EC_findingByte 21 = .ok (.aaload, 1) := by decide +kernel
theorem d_EC_findingByte_22 : decode b_EC_findingByte 22 = .ok (.astore 4, 2) := by decide +kernel
theorem d_EC_findingByte_24 : decode b_EC_findingByte 24 = .ok (.iload_n 2, 1) := by decide +kernel
theorem d_EC_findingByte_25 : decode b_EC_findingByte 25 = .ok (.ifCond .eq 15, 3) := by decide +kernel
theorem d_EC_findingByte_28 : decode b_EC_findingByte 28 = .ok (.aload 4, 2) := by decide +kernel
theorem d_EC_findingByte_30 : decode b_EC_findingByte 30 = .ok (.getfield 171, 3) := by decide +kernel
theorem d_EC_findingByte_33 : decode b_EC_findingByte 33 = .ok (.iload_n 3, 1) := by decide +kernel
theorem d_EC_findingByte_34 : decode b_EC_findingByte 34 = .ok (.invokevirtual 137, 3) := by decide +kernel
theorem d_EC_findingByte_37 : decode b_EC_findingByte 37 = .ok (.goto 12, 3) := by decide +kernel
theorem d_EC_findingByte_40 : decode b_EC_findingByte 40 = .ok (.aload 4, 2) := by decide +kernel
theorem d_EC_findingByte_42 : decode b_EC_findingByte 42 = .ok (.getfield 170, 3) := by decide +kernel
theorem d_EC_findingByte_45 : decode b_EC_findingByte 45 = .ok (.iload_n 3, 1) := by decide +kernel
theorem d_EC_findingByte_46 : decode b_EC_findingByte 46 = .ok (.invokevirtual 137, 3) := by decide +kernel
theorem d_EC_findingByte_49 : decode b_EC_findingByte 49 = .ok (.ireturn, 1) := by decide +kernel
noncomputable def s_EC_findingByte (a1 : Int32) (a2 : Int32) (a3 : Int32) (M : Mem) : Option (Int32 × Mem) :=
  bi (s_FS_has a1 M) (fun r23 M21 => if r23 = 0 then (some ((-1 : Int32), M21)) else (ck a1 8 (nx (138 + 2 * a1.toNatClampNeg) (fun j25 => if a2 = 0 then (bi (s_IN_at (2 * j25 - 186) a3 M21) (fun r28 M26 => some (r28, M26))) else (bi (s_IN_at (2 * j25 - 184) a3 M21) (fun r31 M29 => some (r31, M29)))))))
set_option maxHeartbeats 4000000 in
set_option maxRecDepth 100000 in
theorem c_EC_findingByte (l : Launch) (x : Cx) (hJ : Inj x) (a1 : Int32) (a2 : Int32) (a3 : Int32) {M : Mem} {out : Int32 × Mem} (h : s_EC_findingByte a1 a2 a3 M = some out) : Ci l x y_EC_findingByte (Cond.code y_EC_findingByte b_EC_findingByte 5 (some .int) :: tb) r_EC_findingByte [.ref (x.2.1 0), .int a1, .int a2, .int a3] M out := by
  refine ofCi (cc := b_EC_findingByte) (maxL := 5) (by decide) rfl (rfl) (Nat.le_of_ble_eq_true rfl) ?_
  intro p e s m args below meth c Q G0 ls g hx hb hml hown hts hK hZ hP hS hl hret
  have hown : s.vm.findClass R_EC = some m.cls := hown
  have hl : lv_has ls 5 [(0, .ref (x.2.1 0)), (1, .int a1), (2, .int a2), (3, .int a3)] := hl
  obtain ⟨H, eH⟩ : ∃ z, z = s.heap := ⟨_, rfl⟩
  obtain ⟨locs, eL⟩ : ∃ z, z = ([] : List Loc) := ⟨_, rfl⟩
  rw [← eH] at hP
  have hS : va_S (A0 x) s.heap H locs := by rw [eH, eL]; exact hS
  rw [← eL]
  have key : W p l e r_EC_findingByte s m args below meth c H locs 0 0 Q (F0 m 0 ls []) := by
    clear eH eL
    unfold s_EC_findingByte at h
    refine lv_aload_n hx hb d_EC_findingByte_0 rfl (lv_at hl 0 rfl) ?_
    refine gf_EC_43 hx hb hts hown hK hP d_EC_findingByte_1 ?_
    refine lv_iload_n hx hb d_EC_findingByte_4 rfl (lv_at hl 1 rfl) ?_
    obtain ⟨r23, M21, c22, h⟩ := bi_e h
    refine cl_EC_148 (rest := []) (R := r_EC_findingByte) (c_FS_has l x hJ a1 c22) hx hb hml hts hown hK hZ hP hS hl.1 (Nat.le_of_ble_eq_true rfl) (Nat.le_of_ble_eq_true rfl) (Nat.le_of_ble_eq_true rfl) ⟨rfl, rfl, Nat.zero_le _, Nat.zero_le _⟩ d_EC_findingByte_5 (fun H locs hP hS => ?_)
    refine lv_if_ne (tgt := 13) hx hb d_EC_findingByte_8 rfl (fun hc => ?_) (fun hc => ?_)
    · have h := if_m hc h
      refine lv_aload_n hx hb d_EC_findingByte_13 rfl (lv_at hl 0 rfl) ?_
      refine gf_EC_43 hx hb hts hown hK hP d_EC_findingByte_14 ?_
      refine gf_EC_149 hx hb hts hown hK hP d_EC_findingByte_17 ?_
      refine lv_iload_n hx hb d_EC_findingByte_20 rfl (lv_at hl 1 rfl) ?_
      obtain ⟨b24, h⟩ := ck_e h
      refine m_aaF hx hb hK hP b24 d_EC_findingByte_21 ?_
      obtain ⟨j25, ej25, h⟩ := nx_e h
      have kj25 : kd_fi j25 := by rw [ej25]; exact kd_fi_at b24
      refine tp_r ej25 ?_
      refine lv_astore hx hb d_EC_findingByte_22 hl (by decide) rfl (fun ls hl => ?_)
      have hl : lv_has ls 5 [(4, .ref (x.2.1 j25)), (0, .ref (x.2.1 0)), (1, .int a1), (2, .int a2), (3, .int a3)] := hl
      refine lv_iload_n hx hb d_EC_findingByte_24 rfl (lv_at hl 3 rfl) ?_
      refine lv_if_eq (tgt := 40) hx hb d_EC_findingByte_25 rfl (fun hc => ?_) (fun hc => ?_)
      · have h := if_p hc h
        refine lv_aload hx hb d_EC_findingByte_40 (lv_at hl 0 rfl) ?_
        refine gf_EC_170 hx hb hts hown hK hP kj25 d_EC_findingByte_42 ?_
        refine lv_iload_n hx hb d_EC_findingByte_45 rfl (lv_at hl 4 rfl) ?_
        obtain ⟨r28, M26, c27, h⟩ := bi_e h
        refine cl_EC_137 (rest := []) (R := r_EC_findingByte) (c_IN_at l x hJ (2 * j25 - 186) (kd_FI_input kj25) a3 c27) (kd_FI_input kj25) hx hb hml hts hown hK hZ hP hS hl.1 (Nat.le_of_ble_eq_true rfl) (Nat.le_of_ble_eq_true rfl) (Nat.le_of_ble_eq_true rfl) ⟨rfl, rfl, Nat.zero_le _, Nat.zero_le _⟩ d_EC_findingByte_46 (fun H locs hP hS => ?_)
        obtain rfl := Option.some.inj h
        exact hret d_EC_findingByte_49 g hP hS
      · have h := if_m hc h
        refine lv_aload hx hb d_EC_findingByte_28 (lv_at hl 0 rfl) ?_
        refine gf_EC_171 hx hb hts hown hK hP kj25 d_EC_findingByte_30 ?_
        refine lv_iload_n hx hb d_EC_findingByte_33 rfl (lv_at hl 4 rfl) ?_
        obtain ⟨r31, M29, c30, h⟩ := bi_e h
        refine cl_EC_137 (rest := []) (R := r_EC_findingByte) (c_IN_at l x hJ (2 * j25 - 184) (kd_FI_shortest kj25) a3 c30) (kd_FI_shortest kj25) hx hb hml hts hown hK hZ hP hS hl.1 (Nat.le_of_ble_eq_true rfl) (Nat.le_of_ble_eq_true rfl) (Nat.le_of_ble_eq_true rfl) ⟨rfl, rfl, Nat.zero_le _, Nat.zero_le _⟩ d_EC_findingByte_34 (fun H locs hP hS => ?_)
        refine lv_goto (tgt := 49) hx hb d_EC_findingByte_37 rfl ?_
        obtain rfl := Option.some.inj h
        exact hret d_EC_findingByte_49 g hP hS
    · have h := if_p hc h
      refine lv_iconst (v := (-1 : Int32)) hx hb d_EC_findingByte_11 (by decide) ?_
      obtain rfl := Option.some.inj h
      exact hret d_EC_findingByte_12 g hP hS
  rw [eH] at key
  exact key
theorem d_EC_current_0 : decode b_EC_current 0 = .ok (.aload_n 0, 1) := by decide +kernel
theorem d_EC_current_1 : decode b_EC_current 1 = .ok (.getfield 36, 3) := by decide +kernel
theorem d_EC_current_4 : decode b_EC_current 4 = .ok (.getfield 94, 3) := by decide +kernel
theorem d_EC_current_7 : decode b_EC_current 7 = .ok (.ifCond .ne 5, 3) := by decide +kernel
theorem d_EC_current_10 : decode b_EC_current 10 = .ok (.iconst (-1), 1) := by decide +kernel
theorem d_EC_current_11 : decode b_EC_current 11 = .ok (.ireturn, 1) := by decide +kernel
theorem d_EC_current_12 : decode b_EC_current 12 = .ok (.iload_n 1, 1) := by decide +kernel
theorem d_EC_current_13 : decode b_EC_current 13 = .ok (.tableswitch 57 0 2 #[27, 37, 47], 27) := by decide +kernel
theorem d_EC_current_40 : decode b_EC_current 40 = .ok (.aload_n 0, 1) := by decide +kernel
theorem d_EC_current_41 : decode b_EC_current 41 = .ok (.getfield 66, 3) := by decide +kernel
theorem d_EC_current_44 : decode b_EC_current 44 = .ok (.getfield 174, 3) := by decide +kernel
theorem d_EC_current_47 : decode b_EC_current 47 = .ok (.goto 24, 3) := by decide +kernel
theorem d_EC_current_50 : decode b_EC_current 50 = .ok (.aload_n 0, 1) := by decide +kernel
theorem d_EC_current_51 : decode b_EC_current 51 = .ok (.getfield 66, 3) := by decide +kernel
theorem d_EC_current_54 : decode b_EC_current 54 = .ok (.getfield 177, 3) := by decide +kernel
theorem d_EC_current_57 : decode b_EC_current 57 = .ok (.goto 14, 3) := by decide +kernel
theorem d_EC_current_60 : decode b_EC_current 60 = .ok (.aload_n 0, 1) := by decide +kernel
theorem d_EC_current_61 : decode b_EC_current 61 = .ok (.getfield 66, 3) := by decide +kernel
theorem d_EC_current_64 : decode b_EC_current 64 = .ok (.getfield 180, 3) := by decide +kernel
theorem d_EC_current_67 : decode b_EC_current 67 = .ok (.goto 4, 3) := by decide +kernel
theorem d_EC_current_70 : decode b_EC_current 70 = .ok (.iconst (-1), 1) := by decide +kernel
theorem d_EC_current_71 : decode b_EC_current 71 = .ok (.ireturn, 1) := by decide +kernel
noncomputable def s_EC_current (a1 : Int32) (M : Mem) : Option (Int32 × Mem) :=
  if (M 5 3) = 0 then (some ((-1 : Int32), M)) else (if a1 = (0 : Int32) then (some (M 13 0, M)) else (if a1 = (1 : Int32) then (some (M 13 1, M)) else (if a1 = (2 : Int32) then (some (M 13 2, M)) else (some ((-1 : Int32), M)))))
set_option maxHeartbeats 4000000 in
set_option maxRecDepth 100000 in
theorem c_EC_current (l : Launch) (x : Cx) (hJ : Inj x) (a1 : Int32) {M : Mem} {out : Int32 × Mem} (h : s_EC_current a1 M = some out) : Ci l x y_EC_current (Cond.code y_EC_current b_EC_current 2 (some .int) :: tb) r_EC_current [.ref (x.2.1 0), .int a1] M out := by
  refine ofCi (cc := b_EC_current) (maxL := 2) (by decide) rfl (rfl) (Nat.le_of_ble_eq_true rfl) ?_
  intro p e s m args below meth c Q G0 ls g hx hb hml hown hts hK hZ hP hS hl hret
  have hown : s.vm.findClass R_EC = some m.cls := hown
  have hl : lv_has ls 2 [(0, .ref (x.2.1 0)), (1, .int a1)] := hl
  obtain ⟨H, eH⟩ : ∃ z, z = s.heap := ⟨_, rfl⟩
  obtain ⟨locs, eL⟩ : ∃ z, z = ([] : List Loc) := ⟨_, rfl⟩
  rw [← eH] at hP
  have hS : va_S (A0 x) s.heap H locs := by rw [eH, eL]; exact hS
  rw [← eL]
  have key : W p l e r_EC_current s m args below meth c H locs 0 0 Q (F0 m 0 ls []) := by
    clear eH eL
    unfold s_EC_current at h
    refine lv_aload_n hx hb d_EC_current_0 rfl (lv_at hl 0 rfl) ?_
    refine gf_EC_36 hx hb hts hown hK hP d_EC_current_1 ?_
    refine gf_EC_94 hx hb hts hown hK hP d_EC_current_4 ?_
    refine lv_if_ne (tgt := 12) hx hb d_EC_current_7 rfl (fun hc => ?_) (fun hc => ?_)
    · have h := if_m hc h
      refine lv_iload_n hx hb d_EC_current_12 rfl (lv_at hl 1 rfl) ?_
      by_cases n21 : a1 = (0 : Int32)
      · have h := if_p n21 h
        refine sw_in (k := (0 : Int32)) (tgt := 40) hx hb n21 d_EC_current_13 (by decide) (by decide) rfl rfl ?_
        refine lv_aload_n hx hb d_EC_current_40 rfl (lv_at hl 0 rfl) ?_
        refine gf_EC_66 hx hb hts hown hK hP d_EC_current_41 ?_
        refine gf_EC_174 hx hb hts hown hK hP d_EC_current_44 ?_
        refine lv_goto (tgt := 71) hx hb d_EC_current_47 rfl ?_
        obtain rfl := Option.some.inj h
        exact hret d_EC_current_71 g hP hS
      have h := if_m n21 h
      by_cases n22 : a1 = (1 : Int32)
      · have h := if_p n22 h
        refine sw_in (k := (1 : Int32)) (tgt := 50) hx hb n22 d_EC_current_13 (by decide) (by decide) rfl rfl ?_
        refine lv_aload_n hx hb d_EC_current_50 rfl (lv_at hl 0 rfl) ?_
        refine gf_EC_66 hx hb hts hown hK hP d_EC_current_51 ?_
        refine gf_EC_177 hx hb hts hown hK hP d_EC_current_54 ?_
        refine lv_goto (tgt := 71) hx hb d_EC_current_57 rfl ?_
        obtain rfl := Option.some.inj h
        exact hret d_EC_current_71 g hP hS
      have h := if_m n22 h
      by_cases n23 : a1 = (2 : Int32)
      · have h := if_p n23 h
        refine sw_in (k := (2 : Int32)) (tgt := 60) hx hb n23 d_EC_current_13 (by decide) (by decide) rfl rfl ?_
        refine lv_aload_n hx hb d_EC_current_60 rfl (lv_at hl 0 rfl) ?_
        refine gf_EC_66 hx hb hts hown hK hP d_EC_current_61 ?_
        refine gf_EC_180 hx hb hts hown hK hP d_EC_current_64 ?_
        refine lv_goto (tgt := 71) hx hb d_EC_current_67 rfl ?_
        obtain rfl := Option.some.inj h
        exact hret d_EC_current_71 g hP hS
      have h := if_m n23 h
      have b0 := sw_ne (k := (0 : Int32)) (z := 0) (by decide) n21
      have b1 := sw_ne (k := (1 : Int32)) (z := 1) (by decide) n22
      have b2 := sw_ne (k := (2 : Int32)) (z := 2) (by decide) n23
      refine lv_tableOut (tgt := 70) hx hb d_EC_current_13 (by omega) rfl ?_
      refine lv_iconst (v := (-1 : Int32)) hx hb d_EC_current_70 (by decide) ?_
      obtain rfl := Option.some.inj h
      exact hret d_EC_current_71 g hP hS
    · have h := if_p hc h
      refine lv_iconst (v := (-1 : Int32)) hx hb d_EC_current_10 (by decide) ?_
      obtain rfl := Option.some.inj h
      exact hret d_EC_current_11 g hP hS
  rw [eH] at key
  exact key
theorem d_EC_state_0 : decode b_EC_state 0 = .ok (.aload_n 0, 1) := by decide +kernel
theorem d_EC_state_1 : decode b_EC_state 1 = .ok (.getfield 59, 3) := by decide +kernel
theorem d_EC_state_4 : decode b_EC_state 4 = .ok (.getfield 183, 3) := by decide +kernel
theorem d_EC_state_7 : decode b_EC_state 7 = .ok (.ireturn, 1) := by decide +kernel
noncomputable def s_EC_state  (M : Mem) : Option (Int32 × Mem) :=
  some (M 12 0, M)
set_option maxHeartbeats 4000000 in
set_option maxRecDepth 100000 in
theorem c_EC_state (l : Launch) (x : Cx) (hJ : Inj x)  {M : Mem} {out : Int32 × Mem} (h : s_EC_state M = some out) : Ci l x y_EC_state (Cond.code y_EC_state b_EC_state 1 (some .int) :: tb) r_EC_state [.ref (x.2.1 0)] M out := by
  refine ofCi (cc := b_EC_state) (maxL := 1) (by decide) rfl (rfl) (Nat.le_of_ble_eq_true rfl) ?_
  intro p e s m args below meth c Q G0 ls g hx hb hml hown hts hK hZ hP hS hl hret
  have hown : s.vm.findClass R_EC = some m.cls := hown
  have hl : lv_has ls 1 [(0, .ref (x.2.1 0))] := hl
  obtain ⟨H, eH⟩ : ∃ z, z = s.heap := ⟨_, rfl⟩
  obtain ⟨locs, eL⟩ : ∃ z, z = ([] : List Loc) := ⟨_, rfl⟩
  rw [← eH] at hP
  have hS : va_S (A0 x) s.heap H locs := by rw [eH, eL]; exact hS
  rw [← eL]
  have key : W p l e r_EC_state s m args below meth c H locs 0 0 Q (F0 m 0 ls []) := by
    clear eH eL
    unfold s_EC_state at h
    refine lv_aload_n hx hb d_EC_state_0 rfl (lv_at hl 0 rfl) ?_
    refine gf_EC_59 hx hb hts hown hK hP d_EC_state_1 ?_
    refine gf_EC_183 hx hb hts hown hK hP d_EC_state_4 ?_
    obtain rfl := Option.some.inj h
    exact hret d_EC_state_7 g hP hS
  rw [eH] at key
  exact key
