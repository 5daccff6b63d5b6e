theorem d_MO_draw_0 : decode b_MO_draw 0 = .ok (.aload_n 0, 1) := by decide +kernel
theorem d_MO_draw_1 : decode b_MO_draw 1 = .ok (.aload_n 0, 1) := by decide +kernel
theorem d_MO_draw_2 : decode b_MO_draw 2 = .ok (.getfield 85, 3) := by decide +kernel
theorem d_MO_draw_5 : decode b_MO_draw 5 = .ok (.aload_n 0, 1) := by decide +kernel
theorem d_MO_draw_6 : decode b_MO_draw 6 = .ok (.getfield 85, 3) := by decide +kernel
theorem d_MO_draw_9 : decode b_MO_draw 9 = .ok (.bipush 13, 2) := by decide +kernel
theorem d_MO_draw_11 : decode b_MO_draw 11 = .ok (.ishl, 1) := by decide +kernel
theorem d_MO_draw_12 : decode b_MO_draw 12 = .ok (.ixor, 1) := by decide +kernel
theorem d_MO_draw_13 : decode b_MO_draw 13 = .ok (.putfield 85, 3) := by decide +kernel
theorem d_MO_draw_16 : decode b_MO_draw 16 = .ok (.aload_n 0, 1) := by decide +kernel
theorem d_MO_draw_17 : decode b_MO_draw 17 = .ok (.aload_n 0, 1) := by decide +kernel
theorem d_MO_draw_18 : decode b_MO_draw 18 = .ok (.getfield 85, 3) := by decide +kernel
theorem d_MO_draw_21 : decode b_MO_draw 21 = .ok (.aload_n 0, 1) := by decide +kernel
theorem d_MO_draw_22 : decode b_MO_draw 22 = .ok (.getfield 85, 3) := by decide +kernel
theorem d_MO_draw_25 : decode b_MO_draw 25 = .ok (.bipush 17, 2) := by decide +kernel
theorem d_MO_draw_27 : decode b_MO_draw 27 = .ok (.iushr, 1) := by decide +kernel
theorem d_MO_draw_28 : decode b_MO_draw 28 = .ok (.ixor, 1) := by decide +kernel
theorem d_MO_draw_29 : decode b_MO_draw 29 = .ok (.putfield 85, 3) := by decide +kernel
theorem d_MO_draw_32 : decode b_MO_draw 32 = .ok (.aload_n 0, 1) := by decide +kernel
theorem d_MO_draw_33 : decode b_MO_draw 33 = .ok (.aload_n 0, 1) := by decide +kernel
theorem d_MO_draw_34 : decode b_MO_draw 34 = .ok (.getfield 85, 3) := by decide +kernel
theorem d_MO_draw_37 : decode b_MO_draw 37 = .ok (.aload_n 0, 1) := by decide +kernel
theorem d_MO_draw_38 : decode b_MO_draw 38 = .ok (.getfield 85, 3) := by decide +kernel
theorem d_MO_draw_41 : decode b_MO_draw 41 = .ok (.iconst 5, 1) := by decide +kernel
theorem d_MO_draw_42 : decode b_MO_draw 42 = .ok (.ishl, 1) := by decide +kernel
theorem d_MO_draw_43 : decode b_MO_draw 43 = .ok (.ixor, 1) := by decide +kernel
theorem d_MO_draw_44 : decode b_MO_draw 44 = .ok (.putfield 85, 3) := by decide +kernel
theorem d_MO_draw_47 : decode b_MO_draw 47 = .ok (.aload_n 0, 1) := by decide +kernel
theorem d_MO_draw_48 : decode b_MO_draw 48 = .ok (.getfield 85, 3) := by decide +kernel
theorem d_MO_draw_51 : decode b_MO_draw 51 = .ok (.ldc 205, 2) := by decide +kernel
theorem d_MO_draw_53 : decode b_MO_draw 53 = .ok (.iand, 1) := by decide +kernel
theorem d_MO_draw_54 : decode b_MO_draw 54 = .ok (.iload_n 1, 1) := by decide +kernel
theorem d_MO_draw_55 : decode b_MO_draw 55 = .ok (.irem, 1) := by decide +kernel
theorem d_MO_draw_56 : decode b_MO_draw 56 = .ok (.ireturn, 1) := by decide +kernel
noncomputable def s_MO_draw (a1 : Int32) (M : Mem) : Option (Int32 × Mem) :=
  nx (st M 26 6 ((M 26 6) ^^^ ((M 26 6) <<< ((13 : Int32) &&& 31)))) (fun M21 => nx (st M21 26 6 ((M21 26 6) ^^^ (((M21 26 6).toUInt32 >>> ((17 : Int32).toUInt32 &&& Int32.toUInt32 31)).toInt32))) (fun M22 => nx (st M22 26 6 ((M22 26 6) ^^^ ((M22 26 6) <<< ((5 : Int32) &&& 31)))) (fun M23 => cz a1 (some (((M23 26 6) &&& (2147483647 : Int32)) - ((M23 26 6) &&& (2147483647 : Int32)) / a1 * a1, M23)))))
set_option maxHeartbeats 4000000 in
set_option maxRecDepth 100000 in
theorem c_MO_draw (l : Launch) (x : Cx) (hJ : Inj x) (a1 : Int32) {M : Mem} {out : Int32 × Mem} (h : s_MO_draw a1 M = some out) : Ci l x y_MO_draw (Cond.code y_MO_draw b_MO_draw 2 (some .int) :: tb) r_MO_draw [.ref (x.2.1 26), .int a1] M out := by
  refine ofCi (cc := b_MO_draw) (maxL := 2) (by decide) rfl (rfl) (Nat.le_of_ble_eq_true rfl) ?_
  intro p e s m args below meth c Q G0 ls g hx hb hml hown hts hK hZ hP hS hl hret
  have hown : s.vm.findClass R_MO = some m.cls := hown
  have hl : lv_has ls 2 [(0, .ref (x.2.1 26)), (1, .int a1)] := hl
  obtain ⟨H, eH⟩ : ∃ z, z = s.heap := ⟨_, rfl⟩
  obtain ⟨locs, eL⟩ : ∃ z, z = ([] : List Loc) := ⟨_, rfl⟩
  rw [← eH] at hP
  have hS : va_S (A0 x) s.heap H locs := by rw [eH, eL]; exact hS
  rw [← eL]
  have key : W p l e r_MO_draw s m args below meth c H locs 0 0 Q (F0 m 0 ls []) := by
    clear eH eL
    unfold s_MO_draw at h
    refine lv_aload_n hx hb d_MO_draw_0 rfl (lv_at hl 0 rfl) ?_
    refine lv_aload_n hx hb d_MO_draw_1 rfl (lv_at hl 0 rfl) ?_
    refine gf_MO_85 hx hb hts hown hK hP d_MO_draw_2 ?_
    refine lv_aload_n hx hb d_MO_draw_5 rfl (lv_at hl 0 rfl) ?_
    refine gf_MO_85 hx hb hts hown hK hP d_MO_draw_6 ?_
    refine lv_bipush (v := (13 : Int32)) hx hb d_MO_draw_9 (by decide) ?_
    refine lv_ishl hx hb d_MO_draw_11 ?_
    refine lv_ixor hx hb d_MO_draw_12 ?_
    obtain ⟨M21, eM21, h⟩ := nx_e h
    refine pf_MO_85 hx hb hts hown hK hJ hP hS eM21 d_MO_draw_13 (fun H locs hP hS => ?_)
    refine lv_aload_n hx hb d_MO_draw_16 rfl (lv_at hl 0 rfl) ?_
    refine lv_aload_n hx hb d_MO_draw_17 rfl (lv_at hl 0 rfl) ?_
    refine gf_MO_85 hx hb hts hown hK hP d_MO_draw_18 ?_
    refine lv_aload_n hx hb d_MO_draw_21 rfl (lv_at hl 0 rfl) ?_
    refine gf_MO_85 hx hb hts hown hK hP d_MO_draw_22 ?_
    refine lv_bipush (v := (17 : Int32)) hx hb d_MO_draw_25 (by decide) ?_
    refine lv_iushr hx hb d_MO_draw_27 rfl ?_
    refine lv_ixor hx hb d_MO_draw_28 ?_
    obtain ⟨M22, eM22, h⟩ := nx_e h
    refine pf_MO_85 hx hb hts hown hK hJ hP hS eM22 d_MO_draw_29 (fun H locs hP hS => ?_)
    refine lv_aload_n hx hb d_MO_draw_32 rfl (lv_at hl 0 rfl) ?_
    refine lv_aload_n hx hb d_MO_draw_33 rfl (lv_at hl 0 rfl) ?_
    refine gf_MO_85 hx hb hts hown hK hP d_MO_draw_34 ?_
    refine lv_aload_n hx hb d_MO_draw_37 rfl (lv_at hl 0 rfl) ?_
    refine gf_MO_85 hx hb hts hown hK hP d_MO_draw_38 ?_
    refine lv_iconst (v := (5 : Int32)) hx hb d_MO_draw_41 (by decide) ?_
    refine lv_ishl hx hb d_MO_draw_42 ?_
    refine lv_ixor hx hb d_MO_draw_43 ?_
    obtain ⟨M23, eM23, h⟩ := nx_e h
    refine pf_MO_85 hx hb hts hown hK hJ hP hS eM23 d_MO_draw_44 (fun H locs hP hS => ?_)
    refine lv_aload_n hx hb d_MO_draw_47 rfl (lv_at hl 0 rfl) ?_
    refine gf_MO_85 hx hb hts hown hK hP d_MO_draw_48 ?_
    refine lv_ldc hx hb hown (hts.1 _ q_448) d_MO_draw_51 ?_
    refine lv_iand hx hb d_MO_draw_53 ?_
    refine lv_iload_n hx hb d_MO_draw_54 rfl (lv_at hl 1 rfl) ?_
    obtain ⟨z24, h⟩ := cz_e h
    refine lv_irem hx hb d_MO_draw_55 z24 ?_
    obtain rfl := Option.some.inj h
    exact hret d_MO_draw_56 g hP hS
  rw [eH] at key
  exact key
theorem d_MO_takeNext_0 : decode b_MO_takeNext 0 = .ok (.aload_n 0, 1) := by decide +kernel
theorem d_MO_takeNext_1 : decode b_MO_takeNext 1 = .ok (.invokevirtual 162, 3) := by decide +kernel
theorem d_MO_takeNext_4 : decode b_MO_takeNext 4 = .ok (.aload_n 0, 1) := by decide +kernel
theorem d_MO_takeNext_5 : decode b_MO_takeNext 5 = .ok (.getfield 209, 3) := by decide +kernel
theorem d_MO_takeNext_8 : decode b_MO_takeNext 8 = .ok (.istore_n 1, 1) := by decide +kernel
theorem d_MO_takeNext_9 : decode b_MO_takeNext 9 = .ok (.aload_n 0, 1) := by decide +kernel
theorem d_MO_takeNext_10 : decode b_MO_takeNext 10 = .ok (.getfield 43, 3) := by decide +kernel
theorem d_MO_takeNext_13 : decode b_MO_takeNext 13 = .ok (.iload_n 1, 1) := by decide +kernel
theorem d_MO_takeNext_14 : decode b_MO_takeNext 14 = .ok (.dup2, 1) := by decide +kernel
theorem d_MO_takeNext_15 : decode b_MO_takeNext 15 = .ok (.iaload, 1) := by decide +kernel
theorem d_MO_takeNext_16 : decode b_MO_takeNext 16 = .ok (.iconst 1, 1) := by decide +kernel
theorem d_MO_takeNext_17 : decode b_MO_takeNext 17 = .ok (.iadd, 1) := by decide +kernel
theorem d_MO_takeNext_18 : decode b_MO_takeNext 18 = .ok (.iastore, 1) := by decide +kernel
theorem d_MO_takeNext_19 : decode b_MO_takeNext 19 = .ok (.iload_n 1, 1) := by decide +kernel
theorem d_MO_takeNext_20 : decode b_MO_takeNext 20 = .ok (.iconst 1, 1) := by decide +kernel
theorem d_MO_takeNext_21 : decode b_MO_takeNext 21 = .ok (.iadd, 1) := by decide +kernel
theorem d_MO_takeNext_22 : decode b_MO_takeNext 22 = .ok (.aload_n 0, 1) := by decide +kernel
theorem d_MO_takeNext_23 : decode b_MO_takeNext 23 = .ok (.getfield 145, 3) := by decide +kernel
theorem d_MO_takeNext_26 : decode b_MO_takeNext 26 = .ok (.irem, 1) := by decide +kernel
theorem d_MO_takeNext_27 : decode b_MO_takeNext 27 = .ok (.istore_n 2, 1) := by decide +kernel
theorem d_MO_takeNext_28 : decode b_MO_takeNext 28 = .ok (.iconst 0, 1) := by decide +kernel
theorem d_MO_takeNext_29 : decode b_MO_takeNext 29 = .ok (.istore_n 3, 1) := by decide +kernel
theorem d_MO_takeNext_30 : decode b_MO_takeNext 30 = .ok (.iconst 1, 1) := by decide +kernel
theorem d_MO_takeNext_31 : decode b_MO_takeNext 31 = .ok (.istore 4, 2) := by decide +kernel
theorem d_MO_takeNext_33 : decode b_MO_takeNext 33 = .ok (.iload 4, 2) := by decide +kernel
theorem d_MO_takeNext_35 : decode b_MO_takeNext 35 = .ok (.aload_n 0, 1) := by decide +kernel
theorem d_MO_takeNext_36 : decode b_MO_takeNext 36 = .ok (.getfield 145, 3) := by decide +kernel
theorem d_MO_takeNext_39 : decode b_MO_takeNext 39 = .ok (.if_icmp .gt 64, 3) := by decide +kernel
theorem d_MO_takeNext_42 : decode b_MO_takeNext 42 = .ok (.iload_n 3, 1) := by decide +kernel
theorem d_MO_takeNext_43 : decode b_MO_takeNext 43 = .ok (.ifCond .ne 60, 3) := by decide +kernel
theorem d_MO_takeNext_46 : decode b_MO_takeNext 46 = .ok (.iload_n 1, 1) := by decide +kernel
theorem d_MO_takeNext_47 : decode b_MO_takeNext 47 = .ok (.iload 4, 2) := by decide +kernel
theorem d_MO_takeNext_49 : decode b_MO_takeNext 49 = .ok (.iadd, 1) := by decide +kernel
theorem d_MO_takeNext_50 : decode b_MO_takeNext 50 = .ok (.aload_n 0, 1) := by decide +kernel
theorem d_MO_takeNext_51 : decode b_MO_takeNext 51 = .ok (.getfield 145, 3) := by decide +kernel
theorem d_MO_takeNext_54 : decode b_MO_takeNext 54 = .ok (.irem, 1) := by decide +kernel
theorem d_MO_takeNext_55 : decode b_MO_takeNext 55 = .ok (.istore 5, 2) := by decide +kernel
theorem d_MO_takeNext_57 : decode b_MO_takeNext 57 = .ok (.aload_n 0, 1) := by decide +kernel
theorem d_MO_takeNext_58 : decode b_MO_takeNext 58 = .ok (.getfield 156, 3) := by decide +kernel
theorem d_MO_takeNext_61 : decode b_MO_takeNext 61 = .ok (.iload 5, 2) := by decide +kernel
theorem d_MO_takeNext_63 : decode b_MO_takeNext 63 = .ok (.ishr, 1) := by decide +kernel
theorem d_MO_takeNext_64 : decode b_MO_takeNext 64 = .ok (.iconst 1, 1) := by decide +kernel
theorem d_MO_takeNext_65 : decode b_MO_takeNext 65 = .ok (.iand, 1) := by decide +kernel
theorem d_MO_takeNext_66 : decode b_MO_takeNext 66 = .ok (.iconst 1, 1) := by decide +kernel
theorem d_MO_takeNext_67 : decode b_MO_takeNext 67 = .ok (.if_icmp .eq 13, 3) := by decide +kernel
theorem d_MO_takeNext_70 : decode b_MO_takeNext 70 = .ok (.aload_n 0, 1) := by decide +kernel
theorem d_MO_takeNext_71 : decode b_MO_takeNext 71 = .ok (.getfield 43, 3) := by decide +kernel
theorem d_MO_takeNext_74 : decode b_MO_takeNext 74 = .ok (.iload 5, 2) := by decide +kernel
theorem d_MO_takeNext_76 : decode b_MO_takeNext 76 = .ok (.iaload, 1) := by decide +kernel
theorem d_MO_takeNext_77 : decode b_MO_takeNext 77 = .ok (.ifCond .ne 7, 3) := by decide +kernel
theorem d_MO_takeNext_80 : decode b_MO_takeNext 80 = .ok (.iconst 1, 1) := by decide +kernel
theorem d_MO_takeNext_81 : decode b_MO_takeNext 81 = .ok (.goto 4, 3) := by decide +kernel
theorem d_MO_takeNext_84 : decode b_MO_takeNext 84 = .ok (.iconst 0, 1) := by decide +kernel
theorem d_MO_takeNext_85 : decode b_MO_takeNext 85 = .ok (.istore_n 3, 1) := by decide +kernel
theorem d_MO_takeNext_86 : decode b_MO_takeNext 86 = .ok (.iload_n 3, 1) := by decide +kernel
theorem d_MO_takeNext_87 : decode b_MO_takeNext 87 = .ok (.ifCond .eq 8, 3) := by decide +kernel
theorem d_MO_takeNext_90 : decode b_MO_takeNext 90 = .ok (.iload 5, 2) := by decide +kernel
theorem d_MO_takeNext_92 : decode b_MO_takeNext 92 = .ok (.goto 4, 3) := by decide +kernel
theorem d_MO_takeNext_95 : decode b_MO_takeNext 95 = .ok (.iload_n 2, 1) := by decide +kernel
theorem d_MO_takeNext_96 : decode b_MO_takeNext 96 = .ok (.istore_n 2, 1) := by decide +kernel
theorem d_MO_takeNext_97 : decode b_MO_takeNext 97 = .ok (.iinc 4 1, 3) := by decide +kernel
theorem d_MO_takeNext_100 : decode b_MO_takeNext 100 = .ok (.goto (-67), 3) := by decide +kernel
theorem d_MO_takeNext_103 : decode b_MO_takeNext 103 = .ok (.aload_n 0, 1) := by decide +kernel
theorem d_MO_takeNext_104 : decode b_MO_takeNext 104 = .ok (.iload_n 2, 1) := by decide +kernel
theorem d_MO_takeNext_105 : decode b_MO_takeNext 105 = .ok (.invokevirtual 181, 3) := by decide +kernel
theorem d_MO_takeNext_108 : decode b_MO_takeNext 108 = .ok (.return_, 1) := by decide +kernel
noncomputable def j_MO_takeNext_103 (a21 : Int32) (M22 : Mem) : Option (Mem) :=
  bv (s_MO_takeUp a21 M22) (fun M23 => some M23)
noncomputable def j_MO_takeNext_96 (v27 : Int32) (a39 : Int32) (a40 : Int32) (a41 : Int32) (M42 : Mem) : Option ((Int32 × Int32 × Int32 × Mem) ⊕ Mem) :=
  nx (a40 + (1 : Int32)) (fun v43 => some (.inl (a41, a39, v43, M42)))
noncomputable def j_MO_takeNext_85 (v27 : Int32) (a44 : Int32) (a45 : Int32) (a46 : Int32) (a47 : Int32) (M48 : Mem) : Option ((Int32 × Int32 × Int32 × Mem) ⊕ Mem) :=
  if a47 = 0 then (j_MO_takeNext_96 v27 a47 a45 a44 M48) else (j_MO_takeNext_96 v27 a47 a45 a46 M48)
noncomputable def j_MO_takeNext_80 (v27 : Int32) (a49 : Int32) (a50 : Int32) (a51 : Int32) (M52 : Mem) : Option ((Int32 × Int32 × Int32 × Mem) ⊕ Mem) :=
  j_MO_takeNext_85 v27 a49 a50 a51 (1 : Int32) M52
noncomputable def l_MO_takeNext_33 (v27 : Int32) (v35 : Int32) (v36 : Int32) (v37 : Int32) (M38 : Mem) : Option ((Int32 × Int32 × Int32 × Mem) ⊕ (Mem)) :=
  if (M38 26 18) < v37 then (jw1 (j_MO_takeNext_103 v35 M38)) else (if v36 = 0 then (cz (M38 26 18) (nx ((v27 + v37) - (v27 + v37) / (M38 26 18) * (M38 26 18)) (fun v54 => if (((M38 26 39) >>> (v54 &&& 31)) &&& (1 : Int32)) = (1 : Int32) then (j_MO_takeNext_80 v27 v35 v37 v54 M38) else (ck v54 16 (if (M38 38 v54.toNatClampNeg) = 0 then (j_MO_takeNext_80 v27 v35 v37 v54 M38) else (j_MO_takeNext_85 v27 v35 v37 v54 (0 : Int32) M38)))))) else (jw1 (j_MO_takeNext_103 v35 M38)))
noncomputable def s_MO_takeNext  (M : Mem) : Option (Mem) :=
  bv (s_MO_survey M) (fun M25 => nx (M25 26 40) (fun v27 => ck v27 16 (ck v27 16 (nx (st M25 38 v27.toNatClampNeg ((M25 38 v27.toNatClampNeg) + (1 : Int32))) (fun M30 => cz (M30 26 18) (nx ((v27 + (1 : Int32)) - (v27 + (1 : Int32)) / (M30 26 18) * (M30 26 18)) (fun v32 => nx ((0 : Int32)) (fun v33 => nx ((1 : Int32)) (fun v34 => lp (fun q : Int32 × Int32 × Int32 × Mem => l_MO_takeNext_33 v27 q.1 q.2.1 q.2.2.1 q.2.2.2) (v32, v33, v34, M30))))))))))
set_option maxHeartbeats 4000000 in
set_option maxRecDepth 100000 in
theorem c_MO_takeNext (l : Launch) (x : Cx) (hJ : Inj x)  {M : Mem} {out : Mem} (h : s_MO_takeNext M = some out) : Cv l x y_MO_takeNext (Cond.code y_MO_takeNext b_MO_takeNext 6 none :: tb) r_MO_takeNext [.ref (x.2.1 26)] M out := by
  refine ofCv (cc := b_MO_takeNext) (maxL := 6) (by decide) rfl (rfl) (Nat.le_of_ble_eq_true rfl) ?_
  intro p e s m args below meth c Q G0 ls g hx hb hml hown hts hK hZ hP hS hl hret
  have hown : s.vm.findClass R_MO = some m.cls := hown
  have hl : lv_has ls 6 [(0, .ref (x.2.1 26))] := hl
  obtain ⟨H, eH⟩ : ∃ z, z = s.heap := ⟨_, rfl⟩
  obtain ⟨locs, eL⟩ : ∃ z, z = ([] : List Loc) := ⟨_, rfl⟩
  rw [← eH] at hP
  have hS : va_S (A0 x) s.heap H locs := by rw [eH, eL]; exact hS
  rw [← eL]
  have key : W p l e r_MO_takeNext s m args below meth c H locs 0 0 Q (F0 m 0 ls []) := by
    clear eH eL
    unfold s_MO_takeNext at h
    have J103 : ∀ (a21 : Int32) (M22 : Mem)  (res : Mem) (h : j_MO_takeNext_103 a21 M22 = some res) (g : G0 res) (H : Heap) (locs : List Loc) (ls : Array Slot) (hP : va_P x.1 vwCl (wld x M22) H) (hS : va_S (A0 x) s.heap H locs) (hl : lv_has ls 6 [(0, .ref (x.2.1 26)), (2, .int a21)]), W p l e r_MO_takeNext s m args below meth c H locs 0 0 Q (F0 m 103 ls []) := by
      intro a21 M22 res h g H locs ls hP hS hl
      unfold j_MO_takeNext_103 at h
      refine lv_aload_n hx hb d_MO_takeNext_103 rfl (lv_at hl 0 rfl) ?_
      refine lv_iload_n hx hb d_MO_takeNext_104 rfl (lv_at hl 1 rfl) ?_
      obtain ⟨M23, c24, h⟩ := bv_e h
      refine cl_MO_181 (rest := []) (R := r_MO_takeNext) (c_MO_takeUp l x hJ a21 c24) hx hb hml hts hown hK hZ hP hS hl.1 (Nat.le_of_ble_eq_true rfl) (Nat.le_of_ble_eq_true rfl) (Nat.le_of_ble_eq_true rfl) ⟨rfl, rfl, Nat.zero_le _, Nat.zero_le _⟩ d_MO_takeNext_105 (fun H locs hP hS => ?_)
      obtain rfl := Option.some.inj h
      exact hret d_MO_takeNext_108 g hP hS
    refine lv_aload_n hx hb d_MO_takeNext_0 rfl (lv_at hl 0 rfl) ?_
    obtain ⟨M25, c26, h⟩ := bv_e h
    refine cl_MO_162 (rest := []) (R := r_MO_takeNext) (c_MO_survey l x hJ c26) hx hb hml hts hown hK hZ hP hS hl.1 (Nat.le_of_ble_eq_true rfl) (Nat.le_of_ble_eq_true rfl) (Nat.le_of_ble_eq_true rfl) ⟨rfl, rfl, Nat.zero_le _, Nat.zero_le _⟩ d_MO_takeNext_1 (fun H locs hP hS => ?_)
    refine lv_aload_n hx hb d_MO_takeNext_4 rfl (lv_at hl 0 rfl) ?_
    refine gf_MO_209 hx hb hts hown hK hP d_MO_takeNext_5 ?_
    obtain ⟨v27, ev27, h⟩ := nx_e h
    refine tp_i ev27 ?_
    refine lv_istore_n hx hb d_MO_takeNext_8 rfl hl (by decide) rfl (fun ls hl => ?_)
    have hl : lv_has ls 6 [(1, .int v27), (0, .ref (x.2.1 26))] := hl
    refine lv_aload_n hx hb d_MO_takeNext_9 rfl (lv_at hl 1 rfl) ?_
    refine gf_MO_43 hx hb hts hown hK hP d_MO_takeNext_10 ?_
    refine lv_iload_n hx hb d_MO_takeNext_13 rfl (lv_at hl 0 rfl) ?_
    refine lv_dup2_11 hx hb d_MO_takeNext_14 rfl rfl ?_
    obtain ⟨b28, h⟩ := ck_e h
    refine m_ald hx hb hK hP ar_MO_finished b28 d_MO_takeNext_15 ?_
    refine lv_iconst (v := (1 : Int32)) hx hb d_MO_takeNext_16 (by decide) ?_
    refine lv_iadd hx hb d_MO_takeNext_17 ?_
    obtain ⟨b29, h⟩ := ck_e h
    obtain ⟨M30, eM30, h⟩ := nx_e h
    refine m_ast hx hb hK hJ hP hS ar_MO_finished b29 eM30 d_MO_takeNext_18 (fun H locs hP hS => ?_)
    refine lv_iload_n hx hb d_MO_takeNext_19 rfl (lv_at hl 0 rfl) ?_
    refine lv_iconst (v := (1 : Int32)) hx hb d_MO_takeNext_20 (by decide) ?_
    refine lv_iadd hx hb d_MO_takeNext_21 ?_
    refine lv_aload_n hx hb d_MO_takeNext_22 rfl (lv_at hl 1 rfl) ?_
    refine gf_MO_145 hx hb hts hown hK hP d_MO_takeNext_23 ?_
    obtain ⟨z31, h⟩ := cz_e h
    refine lv_irem hx hb d_MO_takeNext_26 z31 ?_
    obtain ⟨v32, ev32, h⟩ := nx_e h
    refine tp_i ev32 ?_
    refine lv_istore_n hx hb d_MO_takeNext_27 rfl hl (by decide) rfl (fun ls hl => ?_)
    have hl : lv_has ls 6 [(2, .int v32), (1, .int v27), (0, .ref (x.2.1 26))] := hl
    refine lv_iconst (v := (0 : Int32)) hx hb d_MO_takeNext_28 (by decide) ?_
    obtain ⟨v33, ev33, h⟩ := nx_e h
    refine tp_i ev33 ?_
    refine lv_istore_n hx hb d_MO_takeNext_29 rfl hl (by decide) rfl (fun ls hl => ?_)
    have hl : lv_has ls 6 [(3, .int v33), (2, .int v32), (1, .int v27), (0, .ref (x.2.1 26))] := hl
    refine lv_iconst (v := (1 : Int32)) hx hb d_MO_takeNext_30 (by decide) ?_
    obtain ⟨v34, ev34, h⟩ := nx_e h
    refine tp_i ev34 ?_
    refine lv_istore hx hb d_MO_takeNext_31 hl (by decide) rfl (fun ls hl => ?_)
    have hl : lv_has ls 6 [(4, .int v34), (3, .int v33), (2, .int v32), (1, .int v27), (0, .ref (x.2.1 26))] := hl
    obtain ⟨P33, eP33⟩ : ∃ P : (Int32 × Int32 × Int32 × Mem) → Prop, P = (fun q => ∀ (H : Heap) (locs : List Loc) (ls : Array Slot), va_P x.1 vwCl (wld x (q.2.2.2)) H → va_S (A0 x) s.heap H locs → lv_has ls 6 [(0, .ref (x.2.1 26)), (1, .int v27), (2, .int (q.1)), (3, .int (q.2.1)), (4, .int (q.2.2.1))] → W p l e r_MO_takeNext s m args below meth c H locs 0 0 Q (F0 m 33 ls [])) := ⟨_, rfl⟩
    have L33 : P33 (v32, v33, v34, M30) := by
      refine lp_walk (G := G0) ?_ h g
      intro q res h g
      obtain ⟨v35, v36, v37, M38⟩ := q
      rw [eP33]
      intro H locs ls hP hS hl
      have hP : va_P x.1 vwCl (wld x M38) H := hP
      have hl : lv_has ls 6 [(0, .ref (x.2.1 26)), (1, .int v27), (2, .int v35), (3, .int v36), (4, .int v37)] := hl
      have h : l_MO_takeNext_33 v27 v35 v36 v37 M38 = some res := h
      unfold l_MO_takeNext_33 at h
      have J96 : ∀ (a39 : Int32) (a40 : Int32) (a41 : Int32) (M42 : Mem)  (res : (Int32 × Int32 × Int32 × Mem) ⊕ Mem) (h : j_MO_takeNext_96 v27 a39 a40 a41 M42 = some res) (g : (lpG P33 G0) res) (H : Heap) (locs : List Loc) (ls : Array Slot) (hP : va_P x.1 vwCl (wld x M42) H) (hS : va_S (A0 x) s.heap H locs) (hl : lv_has ls 6 [(0, .ref (x.2.1 26)), (1, .int v27), (3, .int a39), (4, .int a40)]), W p l e r_MO_takeNext s m args below meth c H locs 0 0 Q (F0 m 96 ls [.int a41]) := by
        intro a39 a40 a41 M42 res h g H locs ls hP hS hl
        unfold j_MO_takeNext_96 at h
        refine lv_istore_n hx hb d_MO_takeNext_96 rfl hl (by decide) rfl (fun ls hl => ?_)
        have hl : lv_has ls 6 [(2, .int a41), (0, .ref (x.2.1 26)), (1, .int v27), (3, .int a39), (4, .int a40)] := hl
        obtain ⟨v43, ev43, h⟩ := nx_e h
        refine lv_iinc (k := 4) hx hb d_MO_takeNext_97 hl rfl (iinc_v (k := (1 : Int32)) (by decide) ev43) (by decide) rfl (fun ls hl => ?_)
        have hl : lv_has ls 6 [(4, .int v43), (2, .int a41), (0, .ref (x.2.1 26)), (1, .int v27), (3, .int a39)] := hl
        refine lv_goto (tgt := 33) hx hb d_MO_takeNext_100 rfl ?_
        obtain rfl := Option.some.inj h
        have g : P33 (a41, a39, v43, M42) := g
        rw [eP33] at g
        exact g H locs ls hP hS (lv_sub hl [2, 3, 1, 4, 0] rfl)
      have J85 : ∀ (a44 : Int32) (a45 : Int32) (a46 : Int32) (a47 : Int32) (M48 : Mem)  (res : (Int32 × Int32 × Int32 × Mem) ⊕ Mem) (h : j_MO_takeNext_85 v27 a44 a45 a46 a47 M48 = some res) (g : (lpG P33 G0) res) (H : Heap) (locs : List Loc) (ls : Array Slot) (hP : va_P x.1 vwCl (wld x M48) H) (hS : va_S (A0 x) s.heap H locs) (hl : lv_has ls 6 [(0, .ref (x.2.1 26)), (1, .int v27), (2, .int a44), (4, .int a45), (5, .int a46)]), W p l e r_MO_takeNext s m args below meth c H locs 0 0 Q (F0 m 85 ls [.int a47]) := by
        intro a44 a45 a46 a47 M48 res h g H locs ls hP hS hl
        unfold j_MO_takeNext_85 at h
        refine lv_istore_n hx hb d_MO_takeNext_85 rfl hl (by decide) rfl (fun ls hl => ?_)
        have hl : lv_has ls 6 [(3, .int a47), (0, .ref (x.2.1 26)), (1, .int v27), (2, .int a44), (4, .int a45), (5, .int a46)] := hl
        refine lv_iload_n hx hb d_MO_takeNext_86 rfl (lv_at hl 0 rfl) ?_
        refine lv_if_eq (tgt := 95) hx hb d_MO_takeNext_87 rfl (fun hc => ?_) (fun hc => ?_)
        · have h := if_p hc h
          refine lv_iload_n hx hb d_MO_takeNext_95 rfl (lv_at hl 3 rfl) ?_
          exact J96 a47 a45 a44 M48 _ h g H locs ls hP hS (lv_sub hl [1, 2, 0, 4] rfl)
        · have h := if_m hc h
          refine lv_iload hx hb d_MO_takeNext_90 (lv_at hl 5 rfl) ?_
          refine lv_goto (tgt := 96) hx hb d_MO_takeNext_92 rfl ?_
          exact J96 a47 a45 a46 M48 _ h g H locs ls hP hS (lv_sub hl [1, 2, 0, 4] rfl)
      have J80 : ∀ (a49 : Int32) (a50 : Int32) (a51 : Int32) (M52 : Mem)  (res : (Int32 × Int32 × Int32 × Mem) ⊕ Mem) (h : j_MO_takeNext_80 v27 a49 a50 a51 M52 = some res) (g : (lpG P33 G0) res) (H : Heap) (locs : List Loc) (ls : Array Slot) (hP : va_P x.1 vwCl (wld x M52) H) (hS : va_S (A0 x) s.heap H locs) (hl : lv_has ls 6 [(0, .ref (x.2.1 26)), (1, .int v27), (2, .int a49), (4, .int a50), (5, .int a51)]), W p l e r_MO_takeNext s m args below meth c H locs 0 0 Q (F0 m 80 ls []) := by
        intro a49 a50 a51 M52 res h g H locs ls hP hS hl
        unfold j_MO_takeNext_80 at h
        refine lv_iconst (v := (1 : Int32)) hx hb d_MO_takeNext_80 (by decide) ?_
        refine lv_goto (tgt := 85) hx hb d_MO_takeNext_81 rfl ?_
        exact J85 a49 a50 a51 (1 : Int32) M52 _ h g H locs ls hP hS (lv_sub hl [0, 1, 2, 3, 4] rfl)
      refine lv_iload hx hb d_MO_takeNext_33 (lv_at hl 4 rfl) ?_
      refine lv_aload_n hx hb d_MO_takeNext_35 rfl (lv_at hl 0 rfl) ?_
      refine gf_MO_145 hx hb hts hown hK hP d_MO_takeNext_36 ?_
      refine lv_icmp_gt (tgt := 103) hx hb d_MO_takeNext_39 rfl (fun hc => ?_) (fun hc => ?_)
      · have h := if_p hc h
        obtain ⟨res2, hres, h2⟩ := jw1_e h
        clear h
        subst hres
        have h := h2
        exact J103 v35 M38 _ h g H locs ls hP hS (lv_sub hl [0, 2] rfl)
      · have h := if_m hc h
        refine lv_iload_n hx hb d_MO_takeNext_42 rfl (lv_at hl 3 rfl) ?_
        refine lv_if_ne (tgt := 103) hx hb d_MO_takeNext_43 rfl (fun hc => ?_) (fun hc => ?_)
        · have h := if_m hc h
          obtain ⟨res2, hres, h2⟩ := jw1_e h
          clear h
          subst hres
          have h := h2
          exact J103 v35 M38 _ h g H locs ls hP hS (lv_sub hl [0, 2] rfl)
        · have h := if_p hc h
          refine lv_iload_n hx hb d_MO_takeNext_46 rfl (lv_at hl 1 rfl) ?_
          refine lv_iload hx hb d_MO_takeNext_47 (lv_at hl 4 rfl) ?_
          refine lv_iadd hx hb d_MO_takeNext_49 ?_
          refine lv_aload_n hx hb d_MO_takeNext_50 rfl (lv_at hl 0 rfl) ?_
          refine gf_MO_145 hx hb hts hown hK hP d_MO_takeNext_51 ?_
          obtain ⟨z53, h⟩ := cz_e h
          refine lv_irem hx hb d_MO_takeNext_54 z53 ?_
          obtain ⟨v54, ev54, h⟩ := nx_e h
          refine tp_i ev54 ?_
          refine lv_istore hx hb d_MO_takeNext_55 hl (by decide) rfl (fun ls hl => ?_)
          have hl : lv_has ls 6 [(5, .int v54), (0, .ref (x.2.1 26)), (1, .int v27), (2, .int v35), (3, .int v36), (4, .int v37)] := hl
          refine lv_aload_n hx hb d_MO_takeNext_57 rfl (lv_at hl 1 rfl) ?_
          refine gf_MO_156 hx hb hts hown hK hP d_MO_takeNext_58 ?_
          refine lv_iload hx hb d_MO_takeNext_61 (lv_at hl 0 rfl) ?_
          refine lv_ishr hx hb d_MO_takeNext_63 ?_
          refine lv_iconst (v := (1 : Int32)) hx hb d_MO_takeNext_64 (by decide) ?_
          refine lv_iand hx hb d_MO_takeNext_65 ?_
          refine lv_iconst (v := (1 : Int32)) hx hb d_MO_takeNext_66 (by decide) ?_
          refine lv_icmp_eq (tgt := 80) hx hb d_MO_takeNext_67 rfl (fun hc => ?_) (fun hc => ?_)
          · have h := if_p hc h
            exact J80 v35 v37 v54 M38 _ h g H locs ls hP hS (lv_sub hl [1, 2, 3, 5, 0] rfl)
          · have h := if_m hc h
            refine lv_aload_n hx hb d_MO_takeNext_70 rfl (lv_at hl 1 rfl) ?_
            refine gf_MO_43 hx hb hts hown hK hP d_MO_takeNext_71 ?_
            refine lv_iload hx hb d_MO_takeNext_74 (lv_at hl 0 rfl) ?_
            obtain ⟨b55, h⟩ := ck_e h
            refine m_ald hx hb hK hP ar_MO_finished b55 d_MO_takeNext_76 ?_
            refine lv_if_ne (tgt := 84) hx hb d_MO_takeNext_77 rfl (fun hc => ?_) (fun hc => ?_)
            · have h := if_m hc h
              refine lv_iconst (v := (0 : Int32)) hx hb d_MO_takeNext_84 (by decide) ?_
              exact J85 v35 v37 v54 (0 : Int32) M38 _ h g H locs ls hP hS (lv_sub hl [1, 2, 3, 5, 0] rfl)
            · have h := if_p hc h
              exact J80 v35 v37 v54 M38 _ h g H locs ls hP hS (lv_sub hl [1, 2, 3, 5, 0] rfl)
    rw [eP33] at L33
    exact L33 H locs ls hP hS (lv_sub hl [4, 3, 2, 1, 0] rfl)
  rw [eH] at key
  exact key
theorem d_MO_plain_0 : decode b_MO_plain 0 = .ok (.iload_n 2, 1) := by decide +kernel
theorem d_MO_plain_1 : decode b_MO_plain 1 = .ok (.bipush 8, 2) := by decide +kernel
theorem d_MO_plain_3 : decode b_MO_plain 3 = .ok (.iload_n 1, 1) := by decide +kernel
theorem d_MO_plain_4 : decode b_MO_plain 4 = .ok (.imul, 1) := by decide +kernel
theorem d_MO_plain_5 : decode b_MO_plain 5 = .ok (.if_icmp .ge 29, 3) := by decide +kernel
theorem d_MO_plain_8 : decode b_MO_plain 8 = .ok (.aload_n 0, 1) := by decide +kernel
theorem d_MO_plain_9 : decode b_MO_plain 9 = .ok (.getfield 82, 3) := by decide +kernel
theorem d_MO_plain_12 : decode b_MO_plain 12 = .ok (.iload_n 2, 1) := by decide +kernel
theorem d_MO_plain_13 : decode b_MO_plain 13 = .ok (.iconst 3, 1) := by decide +kernel
theorem d_MO_plain_14 : decode b_MO_plain 14 = .ok (.ishr, 1) := by decide +kernel
theorem d_MO_plain_15 : decode b_MO_plain 15 = .ok (.aload_n 0, 1) := by decide +kernel
theorem d_MO_plain_16 : decode b_MO_plain 16 = .ok (.getfield 82, 3) := by decide +kernel
theorem d_MO_plain_19 : decode b_MO_plain 19 = .ok (.iload_n 2, 1) := by decide +kernel
theorem d_MO_plain_20 : decode b_MO_plain 20 = .ok (.iconst 3, 1) := by decide +kernel
theorem d_MO_plain_21 : decode b_MO_plain 21 = .ok (.ishr, 1) := by decide +kernel
theorem d_MO_plain_22 : decode b_MO_plain 22 = .ok (.iaload, 1) := by decide +kernel
theorem d_MO_plain_23 : decode b_MO_plain 23 = .ok (.iconst 1, 1) := by decide +kernel
theorem d_MO_plain_24 : decode b_MO_plain 24 = .ok (.iload_n 2, 1) := by decide +kernel
theorem d_MO_plain_25 : decode b_MO_plain 25 = .ok (.bipush 7, 2) := by decide +kernel
theorem d_MO_plain_27 : decode b_MO_plain 27 = .ok (.iand, 1) := by decide +kernel
theorem d_MO_plain_28 : decode b_MO_plain 28 = .ok (.ishl, 1) := by decide +kernel
theorem d_MO_plain_29 : decode b_MO_plain 29 = .ok (.ixor, 1) := by decide +kernel
theorem d_MO_plain_30 : decode b_MO_plain 30 = .ok (.iastore, 1) := by decide +kernel
theorem d_MO_plain_31 : decode b_MO_plain 31 = .ok (.goto 134, 3) := by decide +kernel
theorem d_MO_plain_34 : decode b_MO_plain 34 = .ok (.iload_n 2, 1) := by decide +kernel
theorem d_MO_plain_35 : decode b_MO_plain 35 = .ok (.bipush 12, 2) := by decide +kernel
theorem d_MO_plain_37 : decode b_MO_plain 37 = .ok (.iload_n 1, 1) := by decide +kernel
theorem d_MO_plain_38 : decode b_MO_plain 38 = .ok (.imul, 1) := by decide +kernel
theorem d_MO_plain_39 : decode b_MO_plain 39 = .ok (.if_icmp .ge 73, 3) := by decide +kernel
theorem d_MO_plain_42 : decode b_MO_plain 42 = .ok (.iload_n 2, 1) := by decide +kernel
theorem d_MO_plain_43 : decode b_MO_plain 43 = .ok (.bipush 8, 2) := by decide +kernel
theorem d_MO_plain_45 : decode b_MO_plain 45 = .ok (.iload_n 1, 1) := by decide +kernel
theorem d_MO_plain_46 : decode b_MO_plain 46 = .ok (.imul, 1) := by decide +kernel
theorem d_MO_plain_47 : decode b_MO_plain 47 = .ok (.isub, 1) := by decide +kernel
theorem d_MO_plain_48 : decode b_MO_plain 48 = .ok (.istore_n 3, 1) := by decide +kernel
theorem d_MO_plain_49 : decode b_MO_plain 49 = .ok (.iload_n 3, 1) := by decide +kernel
theorem d_MO_plain_50 : decode b_MO_plain 50 = .ok (.iconst 3, 1) := by decide +kernel
theorem d_MO_plain_51 : decode b_MO_plain 51 = .ok (.iand, 1) := by decide +kernel
theorem d_MO_plain_52 : decode b_MO_plain 52 = .ok (.ifCond .ne 7, 3) := by decide +kernel
theorem d_MO_plain_55 : decode b_MO_plain 55 = .ok (.iconst 1, 1) := by decide +kernel
theorem d_MO_plain_56 : decode b_MO_plain 56 = .ok (.goto 28, 3) := by decide +kernel
theorem d_MO_plain_59 : decode b_MO_plain 59 = .ok (.iload_n 3, 1) := by decide +kernel
theorem d_MO_plain_60 : decode b_MO_plain 60 = .ok (.iconst 3, 1) := by decide +kernel
theorem d_MO_plain_61 : decode b_MO_plain 61 = .ok (.iand, 1) := by decide +kernel
theorem d_MO_plain_62 : decode b_MO_plain 62 = .ok (.iconst 1, 1) := by decide +kernel
theorem d_MO_plain_63 : decode b_MO_plain 63 = .ok (.if_icmp .ne 7, 3) := by decide +kernel
theorem d_MO_plain_66 : decode b_MO_plain 66 = .ok (.iconst (-1), 1) := by decide +kernel
theorem d_MO_plain_67 : decode b_MO_plain 67 = .ok (.goto 17, 3) := by decide +kernel
theorem d_MO_plain_70 : decode b_MO_plain 70 = .ok (.iload_n 3, 1) := by decide +kernel
theorem d_MO_plain_71 : decode b_MO_plain 71 = .ok (.iconst 3, 1) := by decide +kernel
theorem d_MO_plain_72 : decode b_MO_plain 72 = .ok (.iand, 1) := by decide +kernel
theorem d_MO_plain_73 : decode b_MO_plain 73 = .ok (.iconst 2, 1) := by decide +kernel
theorem d_MO_plain_74 : decode b_MO_plain 74 = .ok (.if_icmp .ne 8, 3) := by decide +kernel
theorem d_MO_plain_77 : decode b_MO_plain 77 = .ok (.bipush 16, 2) := by decide +kernel
theorem d_MO_plain_79 : decode b_MO_plain 79 = .ok (.goto 5, 3) := by decide +kernel
theorem d_MO_plain_82 : decode b_MO_plain 82 = .ok (.bipush (-16), 2) := by decide +kernel
theorem d_MO_plain_84 : decode b_MO_plain 84 = .ok (.istore 4, 2) := by decide +kernel
theorem d_MO_plain_86 : decode b_MO_plain 86 = .ok (.aload_n 0, 1) := by decide +kernel
theorem d_MO_plain_87 : decode b_MO_plain 87 = .ok (.getfield 82, 3) := by decide +kernel
theorem d_MO_plain_90 : decode b_MO_plain 90 = .ok (.iload_n 3, 1) := by decide +kernel
theorem d_MO_plain_91 : decode b_MO_plain 91 = .ok (.iconst 2, 1) := by decide +kernel
theorem d_MO_plain_92 : decode b_MO_plain 92 = .ok (.ishr, 1) := by decide +kernel
theorem d_MO_plain_93 : decode b_MO_plain 93 = .ok (.aload_n 0, 1) := by decide +kernel
theorem d_MO_plain_94 : decode b_MO_plain 94 = .ok (.getfield 82, 3) := by decide +kernel
theorem d_MO_plain_97 : decode b_MO_plain 97 = .ok (.iload_n 3, 1) := by decide +kernel
theorem d_MO_plain_98 : decode b_MO_plain 98 = .ok (.iconst 2, 1) := by decide +kernel
theorem d_MO_plain_99 : decode b_MO_plain 99 = .ok (.ishr, 1) := by decide +kernel
theorem d_MO_plain_100 : decode b_MO_plain 100 = .ok (.iaload, 1) := by decide +kernel
theorem d_MO_plain_101 : decode b_MO_plain 101 = .ok (.iload 4, 2) := by decide +kernel
theorem d_MO_plain_103 : decode b_MO_plain 103 = .ok (.iadd, 1) := by decide +kernel
theorem d_MO_plain_104 : decode b_MO_plain 104 = .ok (.sipush 255, 3) := by decide +kernel
theorem d_MO_plain_107 : decode b_MO_plain 107 = .ok (.iand, 1) := by decide +kernel
theorem d_MO_plain_108 : decode b_MO_plain 108 = .ok (.iastore, 1) := by decide +kernel
theorem d_MO_plain_109 : decode b_MO_plain 109 = .ok (.goto 56, 3) := by decide +kernel
theorem d_MO_plain_112 : decode b_MO_plain 112 = .ok (.iload_n 2, 1) := by decide +kernel
theorem d_MO_plain_113 : decode b_MO_plain 113 = .ok (.bipush 12, 2) := by decide +kernel
theorem d_MO_plain_115 : decode b_MO_plain 115 = .ok (.iload_n 1, 1) := by decide +kernel
theorem d_MO_plain_116 : decode b_MO_plain 116 = .ok (.imul, 1) := by decide +kernel
theorem d_MO_plain_117 : decode b_MO_plain 117 = .ok (.isub, 1) := by decide +kernel
theorem d_MO_plain_118 : decode b_MO_plain 118 = .ok (.istore_n 3, 1) := by decide +kernel
theorem d_MO_plain_119 : decode b_MO_plain 119 = .ok (.aload_n 0, 1) := by decide +kernel
theorem d_MO_plain_120 : decode b_MO_plain 120 = .ok (.getfield 82, 3) := by decide +kernel
theorem d_MO_plain_123 : decode b_MO_plain 123 = .ok (.iload_n 3, 1) := by decide +kernel
theorem d_MO_plain_124 : decode b_MO_plain 124 = .ok (.iconst 2, 1) := by decide +kernel
theorem d_MO_plain_125 : decode b_MO_plain 125 = .ok (.ishr, 1) := by decide +kernel
theorem d_MO_plain_126 : decode b_MO_plain 126 = .ok (.iload_n 3, 1) := by decide +kernel
theorem d_MO_plain_127 : decode b_MO_plain 127 = .ok (.iconst 3, 1) := by decide +kernel
theorem d_MO_plain_128 : decode b_MO_plain 128 = .ok (.iand, 1) := by decide +kernel
theorem d_MO_plain_129 : decode b_MO_plain 129 = .ok (.ifCond .ne 7, 3) := by decide +kernel
theorem d_MO_plain_132 : decode b_MO_plain 132 = .ok (.iconst 0, 1) := by decide +kernel
theorem d_MO_plain_133 : decode b_MO_plain 133 = .ok (.goto 31, 3) := by decide +kernel
theorem d_MO_plain_136 : decode b_MO_plain 136 = .ok (.iload_n 3, 1) := by decide +kernel
theorem d_MO_plain_137 : decode b_MO_plain 137 = .ok (.iconst 3, 1) := by decide +kernel
theorem d_MO_plain_138 : decode b_MO_plain 138 = .ok (.iand, 1) := by decide +kernel
theorem d_MO_plain_139 : decode b_MO_plain 139 = .ok (.iconst 1, 1) := by decide +kernel
theorem d_MO_plain_140 : decode b_MO_plain 140 = .ok (.if_icmp .ne 8, 3) := by decide +kernel
theorem d_MO_plain_143 : decode b_MO_plain 143 = .ok (.bipush 127, 2) := by decide +kernel
theorem d_MO_plain_145 : decode b_MO_plain 145 = .ok (.goto 19, 3) := by decide +kernel
theorem d_MO_plain_148 : decode b_MO_plain 148 = .ok (.iload_n 3, 1) := by decide +kernel
theorem d_MO_plain_149 : decode b_MO_plain 149 = .ok (.iconst 3, 1) := by decide +kernel
theorem d_MO_plain_150 : decode b_MO_plain 150 = .ok (.iand, 1) := by decide +kernel
theorem d_MO_plain_151 : decode b_MO_plain 151 = .ok (.iconst 2, 1) := by decide +kernel
theorem d_MO_plain_152 : decode b_MO_plain 152 = .ok (.if_icmp .ne 9, 3) := by decide +kernel
theorem d_MO_plain_155 : decode b_MO_plain 155 = .ok (.sipush 128, 3) := by decide +kernel
theorem d_MO_plain_158 : decode b_MO_plain 158 = .ok (.goto 6, 3) := by decide +kernel
theorem d_MO_plain_161 : decode b_MO_plain 161 = .ok (.sipush 255, 3) := by decide +kernel
theorem d_MO_plain_164 : decode b_MO_plain 164 = .ok (.iastore, 1) := by decide +kernel
theorem d_MO_plain_165 : decode b_MO_plain 165 = .ok (.return_, 1) := by decide +kernel
noncomputable def j_MO_plain_84 (a21 : Int32) (a22 : Int32) (M23 : Mem) : Option (Mem) :=
  ck (a21 >>> ((2 : Int32) &&& 31)) 6 (ck (a21 >>> ((2 : Int32) &&& 31)) 6 (nx (st M23 51 (a21 >>> ((2 : Int32) &&& 31)).toNatClampNeg (((M23 51 (a21 >>> ((2 : Int32) &&& 31)).toNatClampNeg) + a22) &&& (255 : Int32))) (fun M26 => some M26)))
noncomputable def s_MO_plain (a1 : Int32) (a2 : Int32) (M : Mem) : Option (Mem) :=
  if ((8 : Int32) * a1) ≤ a2 then (if ((12 : Int32) * a1) ≤ a2 then (nx (a2 - ((12 : Int32) * a1)) (fun v27 => if (v27 &&& (3 : Int32)) = 0 then (ck (v27 >>> ((2 : Int32) &&& 31)) 6 (nx (st M 51 (v27 >>> ((2 : Int32) &&& 31)).toNatClampNeg (0 : Int32)) (fun M35 => some M35))) else (if (v27 &&& (3 : Int32)) = (1 : Int32) then (ck (v27 >>> ((2 : Int32) &&& 31)) 6 (nx (st M 51 (v27 >>> ((2 : Int32) &&& 31)).toNatClampNeg (127 : Int32)) (fun M33 => some M33))) else (if (v27 &&& (3 : Int32)) = (2 : Int32) then (ck (v27 >>> ((2 : Int32) &&& 31)) 6 (nx (st M 51 (v27 >>> ((2 : Int32) &&& 31)).toNatClampNeg (128 : Int32)) (fun M31 => some M31))) else (ck (v27 >>> ((2 : Int32) &&& 31)) 6 (nx (st M 51 (v27 >>> ((2 : Int32) &&& 31)).toNatClampNeg (255 : Int32)) (fun M29 => some M29))))))) else (nx (a2 - ((8 : Int32) * a1)) (fun v36 => if (v36 &&& (3 : Int32)) = 0 then (j_MO_plain_84 v36 (1 : Int32) M) else (if (v36 &&& (3 : Int32)) = (1 : Int32) then (j_MO_plain_84 v36 (-1 : Int32) M) else (if (v36 &&& (3 : Int32)) = (2 : Int32) then (j_MO_plain_84 v36 (16 : Int32) M) else (j_MO_plain_84 v36 (-16 : Int32) M)))))) else (ck (a2 >>> ((3 : Int32) &&& 31)) 6 (ck (a2 >>> ((3 : Int32) &&& 31)) 6 (nx (st M 51 (a2 >>> ((3 : Int32) &&& 31)).toNatClampNeg ((M 51 (a2 >>> ((3 : Int32) &&& 31)).toNatClampNeg) ^^^ ((1 : Int32) <<< ((a2 &&& (7 : Int32)) &&& 31)))) (fun M39 => some M39))))
set_option maxHeartbeats 4000000 in
set_option maxRecDepth 100000 in
theorem c_MO_plain (l : Launch) (x : Cx) (hJ : Inj x) (a1 : Int32) (a2 : Int32) {M : Mem} {out : Mem} (h : s_MO_plain a1 a2 M = some out) : Cv l x y_MO_plain (Cond.code y_MO_plain b_MO_plain 5 none :: tb) r_MO_plain [.ref (x.2.1 26), .int a1, .int a2] M out := by
  refine ofCv (cc := b_MO_plain) (maxL := 5) (by decide) rfl (rfl) (Nat.le_of_ble_eq_true rfl) ?_
  intro p e s m args below meth c Q G0 ls g hx hb hml hown hts hK hZ hP hS hl hret
  have hown : s.vm.findClass R_MO = some m.cls := hown
  have hl : lv_has ls 5 [(0, .ref (x.2.1 26)), (1, .int a1), (2, .int a2)] := hl
  obtain ⟨H, eH⟩ : ∃ z, z = s.heap := ⟨_, rfl⟩
  obtain ⟨locs, eL⟩ : ∃ z, z = ([] : List Loc) := ⟨_, rfl⟩
  rw [← eH] at hP
  have hS : va_S (A0 x) s.heap H locs := by rw [eH, eL]; exact hS
  rw [← eL]
  have key : W p l e r_MO_plain s m args below meth c H locs 0 0 Q (F0 m 0 ls []) := by
    clear eH eL
    unfold s_MO_plain at h
    have J84 : ∀ (a21 : Int32) (a22 : Int32) (M23 : Mem)  (res : Mem) (h : j_MO_plain_84 a21 a22 M23 = some res) (g : G0 res) (H : Heap) (locs : List Loc) (ls : Array Slot) (hP : va_P x.1 vwCl (wld x M23) H) (hS : va_S (A0 x) s.heap H locs) (hl : lv_has ls 5 [(0, .ref (x.2.1 26)), (3, .int a21)]), W p l e r_MO_plain s m args below meth c H locs 0 0 Q (F0 m 84 ls [.int a22]) := by
      intro a21 a22 M23 res h g H locs ls hP hS hl
      unfold j_MO_plain_84 at h
      refine lv_istore hx hb d_MO_plain_84 hl (by decide) rfl (fun ls hl => ?_)
      have hl : lv_has ls 5 [(4, .int a22), (0, .ref (x.2.1 26)), (3, .int a21)] := hl
      refine lv_aload_n hx hb d_MO_plain_86 rfl (lv_at hl 1 rfl) ?_
      refine gf_MO_82 hx hb hts hown hK hP d_MO_plain_87 ?_
      refine lv_iload_n hx hb d_MO_plain_90 rfl (lv_at hl 2 rfl) ?_
      refine lv_iconst (v := (2 : Int32)) hx hb d_MO_plain_91 (by decide) ?_
      refine lv_ishr hx hb d_MO_plain_92 ?_
      refine lv_aload_n hx hb d_MO_plain_93 rfl (lv_at hl 1 rfl) ?_
      refine gf_MO_82 hx hb hts hown hK hP d_MO_plain_94 ?_
      refine lv_iload_n hx hb d_MO_plain_97 rfl (lv_at hl 2 rfl) ?_
      refine lv_iconst (v := (2 : Int32)) hx hb d_MO_plain_98 (by decide) ?_
      refine lv_ishr hx hb d_MO_plain_99 ?_
      obtain ⟨b24, h⟩ := ck_e h
      refine m_ald hx hb hK hP ar_MO_cur b24 d_MO_plain_100 ?_
      refine lv_iload hx hb d_MO_plain_101 (lv_at hl 0 rfl) ?_
      refine lv_iadd hx hb d_MO_plain_103 ?_
      refine lv_sipush (v := (255 : Int32)) hx hb d_MO_plain_104 (by decide) ?_
      refine lv_iand hx hb d_MO_plain_107 ?_
      obtain ⟨b25, h⟩ := ck_e h
      obtain ⟨M26, eM26, h⟩ := nx_e h
      refine m_ast hx hb hK hJ hP hS ar_MO_cur b25 eM26 d_MO_plain_108 (fun H locs hP hS => ?_)
      refine lv_goto (tgt := 165) hx hb d_MO_plain_109 rfl ?_
      obtain rfl := Option.some.inj h
      exact hret d_MO_plain_165 g hP hS
    refine lv_iload_n hx hb d_MO_plain_0 rfl (lv_at hl 2 rfl) ?_
    refine lv_bipush (v := (8 : Int32)) hx hb d_MO_plain_1 (by decide) ?_
    refine lv_iload_n hx hb d_MO_plain_3 rfl (lv_at hl 1 rfl) ?_
    refine lv_imul hx hb d_MO_plain_4 ?_
    refine lv_icmp_ge (tgt := 34) hx hb d_MO_plain_5 rfl (fun hc => ?_) (fun hc => ?_)
    · have h := if_p hc h
      refine lv_iload_n hx hb d_MO_plain_34 rfl (lv_at hl 2 rfl) ?_
      refine lv_bipush (v := (12 : Int32)) hx hb d_MO_plain_35 (by decide) ?_
      refine lv_iload_n hx hb d_MO_plain_37 rfl (lv_at hl 1 rfl) ?_
      refine lv_imul hx hb d_MO_plain_38 ?_
      refine lv_icmp_ge (tgt := 112) hx hb d_MO_plain_39 rfl (fun hc => ?_) (fun hc => ?_)
      · have h := if_p hc h
        refine lv_iload_n hx hb d_MO_plain_112 rfl (lv_at hl 2 rfl) ?_
        refine lv_bipush (v := (12 : Int32)) hx hb d_MO_plain_113 (by decide) ?_
        refine lv_iload_n hx hb d_MO_plain_115 rfl (lv_at hl 1 rfl) ?_
        refine lv_imul hx hb d_MO_plain_116 ?_
        refine lv_isub hx hb d_MO_plain_117 ?_
        obtain ⟨v27, ev27, h⟩ := nx_e h
        refine tp_i ev27 ?_
        refine lv_istore_n hx hb d_MO_plain_118 rfl hl (by decide) rfl (fun ls hl => ?_)
        have hl : lv_has ls 5 [(3, .int v27), (0, .ref (x.2.1 26)), (1, .int a1), (2, .int a2)] := hl
        refine lv_aload_n hx hb d_MO_plain_119 rfl (lv_at hl 1 rfl) ?_
        refine gf_MO_82 hx hb hts hown hK hP d_MO_plain_120 ?_
        refine lv_iload_n hx hb d_MO_plain_123 rfl (lv_at hl 0 rfl) ?_
        refine lv_iconst (v := (2 : Int32)) hx hb d_MO_plain_124 (by decide) ?_
        refine lv_ishr hx hb d_MO_plain_125 ?_
        refine lv_iload_n hx hb d_MO_plain_126 rfl (lv_at hl 0 rfl) ?_
        refine lv_iconst (v := (3 : Int32)) hx hb d_MO_plain_127 (by decide) ?_
        refine lv_iand hx hb d_MO_plain_128 ?_
        refine lv_if_ne (tgt := 136) hx hb d_MO_plain_129 rfl (fun hc => ?_) (fun hc => ?_)
        · have h := if_m hc h
          refine lv_iload_n hx hb d_MO_plain_136 rfl (lv_at hl 0 rfl) ?_
          refine lv_iconst (v := (3 : Int32)) hx hb d_MO_plain_137 (by decide) ?_
          refine lv_iand hx hb d_MO_plain_138 ?_
          refine lv_iconst (v := (1 : Int32)) hx hb d_MO_plain_139 (by decide) ?_
          refine lv_icmp_ne (tgt := 148) hx hb d_MO_plain_140 rfl (fun hc => ?_) (fun hc => ?_)
          · have h := if_m hc h
            refine lv_iload_n hx hb d_MO_plain_148 rfl (lv_at hl 0 rfl) ?_
            refine lv_iconst (v := (3 : Int32)) hx hb d_MO_plain_149 (by decide) ?_
            refine lv_iand hx hb d_MO_plain_150 ?_
            refine lv_iconst (v := (2 : Int32)) hx hb d_MO_plain_151 (by decide) ?_
            refine lv_icmp_ne (tgt := 161) hx hb d_MO_plain_152 rfl (fun hc => ?_) (fun hc => ?_)
            · have h := if_m hc h
              refine lv_sipush (v := (255 : Int32)) hx hb d_MO_plain_161 (by decide) ?_
              obtain ⟨b28, h⟩ := ck_e h
              obtain ⟨M29, eM29, h⟩ := nx_e h
              refine m_ast hx hb hK hJ hP hS ar_MO_cur b28 eM29 d_MO_plain_164 (fun H locs hP hS => ?_)
              obtain rfl := Option.some.inj h
              exact hret d_MO_plain_165 g hP hS
            · have h := if_p hc h
              refine lv_sipush (v := (128 : Int32)) hx hb d_MO_plain_155 (by decide) ?_
              refine lv_goto (tgt := 164) hx hb d_MO_plain_158 rfl ?_
              obtain ⟨b30, h⟩ := ck_e h
              obtain ⟨M31, eM31, h⟩ := nx_e h
              refine m_ast hx hb hK hJ hP hS ar_MO_cur b30 eM31 d_MO_plain_164 (fun H locs hP hS => ?_)
              obtain rfl := Option.some.inj h
              exact hret d_MO_plain_165 g hP hS
          · have h := if_p hc h
            refine lv_bipush (v := (127 : Int32)) hx hb d_MO_plain_143 (by decide) ?_
            refine lv_goto (tgt := 164) hx hb d_MO_plain_145 rfl ?_
            obtain ⟨b32, h⟩ := ck_e h
            obtain ⟨M33, eM33, h⟩ := nx_e h
            refine m_ast hx hb hK hJ hP hS ar_MO_cur b32 eM33 d_MO_plain_164 (fun H locs hP hS => ?_)
            obtain rfl := Option.some.inj h
            exact hret d_MO_plain_165 g hP hS
        · have h := if_p hc h
          refine lv_iconst (v := (0 : Int32)) hx hb d_MO_plain_132 (by decide) ?_
          refine lv_goto (tgt := 164) hx hb d_MO_plain_133 rfl ?_
          obtain ⟨b34, h⟩ := ck_e h
          obtain ⟨M35, eM35, h⟩ := nx_e h
          refine m_ast hx hb hK hJ hP hS ar_MO_cur b34 eM35 d_MO_plain_164 (fun H locs hP hS => ?_)
          obtain rfl := Option.some.inj h
          exact hret d_MO_plain_165 g hP hS
      · have h := if_m hc h
        refine lv_iload_n hx hb d_MO_plain_42 rfl (lv_at hl 2 rfl) ?_
        refine lv_bipush (v := (8 : Int32)) hx hb d_MO_plain_43 (by decide) ?_
        refine lv_iload_n hx hb d_MO_plain_45 rfl (lv_at hl 1 rfl) ?_
        refine lv_imul hx hb d_MO_plain_46 ?_
        refine lv_isub hx hb d_MO_plain_47 ?_
        obtain ⟨v36, ev36, h⟩ := nx_e h
        refine tp_i ev36 ?_
        refine lv_istore_n hx hb d_MO_plain_48 rfl hl (by decide) rfl (fun ls hl => ?_)
        have hl : lv_has ls 5 [(3, .int v36), (0, .ref (x.2.1 26)), (1, .int a1), (2, .int a2)] := hl
        refine lv_iload_n hx hb d_MO_plain_49 rfl (lv_at hl 0 rfl) ?_
        refine lv_iconst (v := (3 : Int32)) hx hb d_MO_plain_50 (by decide) ?_
        refine lv_iand hx hb d_MO_plain_51 ?_
        refine lv_if_ne (tgt := 59) hx hb d_MO_plain_52 rfl (fun hc => ?_) (fun hc => ?_)
        · have h := if_m hc h
          refine lv_iload_n hx hb d_MO_plain_59 rfl (lv_at hl 0 rfl) ?_
          refine lv_iconst (v := (3 : Int32)) hx hb d_MO_plain_60 (by decide) ?_
          refine lv_iand hx hb d_MO_plain_61 ?_
          refine lv_iconst (v := (1 : Int32)) hx hb d_MO_plain_62 (by decide) ?_
          refine lv_icmp_ne (tgt := 70) hx hb d_MO_plain_63 rfl (fun hc => ?_) (fun hc => ?_)
          · have h := if_m hc h
            refine lv_iload_n hx hb d_MO_plain_70 rfl (lv_at hl 0 rfl) ?_
            refine lv_iconst (v := (3 : Int32)) hx hb d_MO_plain_71 (by decide) ?_
            refine lv_iand hx hb d_MO_plain_72 ?_
            refine lv_iconst (v := (2 : Int32)) hx hb d_MO_plain_73 (by decide) ?_
            refine lv_icmp_ne (tgt := 82) hx hb d_MO_plain_74 rfl (fun hc => ?_) (fun hc => ?_)
            · have h := if_m hc h
              refine lv_bipush (v := (-16 : Int32)) hx hb d_MO_plain_82 (by decide) ?_
              exact J84 v36 (-16 : Int32) M _ h g H locs ls hP hS (lv_sub hl [1, 0] rfl)
            · have h := if_p hc h
              refine lv_bipush (v := (16 : Int32)) hx hb d_MO_plain_77 (by decide) ?_
              refine lv_goto (tgt := 84) hx hb d_MO_plain_79 rfl ?_
              exact J84 v36 (16 : Int32) M _ h g H locs ls hP hS (lv_sub hl [1, 0] rfl)
          · have h := if_p hc h
            refine lv_iconst (v := (-1 : Int32)) hx hb d_MO_plain_66 (by decide) ?_
            refine lv_goto (tgt := 84) hx hb d_MO_plain_67 rfl ?_
            exact J84 v36 (-1 : Int32) M _ h g H locs ls hP hS (lv_sub hl [1, 0] rfl)
        · have h := if_p hc h
          refine lv_iconst (v := (1 : Int32)) hx hb d_MO_plain_55 (by decide) ?_
          refine lv_goto (tgt := 84) hx hb d_MO_plain_56 rfl ?_
          exact J84 v36 (1 : Int32) M _ h g H locs ls hP hS (lv_sub hl [1, 0] rfl)
    · have h := if_m hc h
      refine lv_aload_n hx hb d_MO_plain_8 rfl (lv_at hl 0 rfl) ?_
      refine gf_MO_82 hx hb hts hown hK hP d_MO_plain_9 ?_
      refine lv_iload_n hx hb d_MO_plain_12 rfl (lv_at hl 2 rfl) ?_
      refine lv_iconst (v := (3 : Int32)) hx hb d_MO_plain_13 (by decide) ?_
      refine lv_ishr hx hb d_MO_plain_14 ?_
      refine lv_aload_n hx hb d_MO_plain_15 rfl (lv_at hl 0 rfl) ?_
      refine gf_MO_82 hx hb hts hown hK hP d_MO_plain_16 ?_
      refine lv_iload_n hx hb d_MO_plain_19 rfl (lv_at hl 2 rfl) ?_
      refine lv_iconst (v := (3 : Int32)) hx hb d_MO_plain_20 (by decide) ?_
      refine lv_ishr hx hb d_MO_plain_21 ?_
      obtain ⟨b37, h⟩ := ck_e h
      refine m_ald hx hb hK hP ar_MO_cur b37 d_MO_plain_22 ?_
      refine lv_iconst (v := (1 : Int32)) hx hb d_MO_plain_23 (by decide) ?_
      refine lv_iload_n hx hb d_MO_plain_24 rfl (lv_at hl 2 rfl) ?_
      refine lv_bipush (v := (7 : Int32)) hx hb d_MO_plain_25 (by decide) ?_
      refine lv_iand hx hb d_MO_plain_27 ?_
      refine lv_ishl hx hb d_MO_plain_28 ?_
      refine lv_ixor hx hb d_MO_plain_29 ?_
      obtain ⟨b38, h⟩ := ck_e h
      obtain ⟨M39, eM39, h⟩ := nx_e h
      refine m_ast hx hb hK hJ hP hS ar_MO_cur b38 eM39 d_MO_plain_30 (fun H locs hP hS => ?_)
      refine lv_goto (tgt := 165) hx hb d_MO_plain_31 rfl ?_
      obtain rfl := Option.some.inj h
      exact hret d_MO_plain_165 g hP hS
  rw [eH] at key
  exact key
theorem d_MO_putIn_0 : decode b_MO_putIn 0 = .ok (.aload_n 0, 1) := by decide +kernel
theorem d_MO_putIn_1 : decode b_MO_putIn 1 = .ok (.getfield 139, 3) := by decide +kernel
theorem d_MO_putIn_4 : decode b_MO_putIn 4 = .ok (.bipush 6, 2) := by decide +kernel
theorem d_MO_putIn_6 : decode b_MO_putIn 6 = .ok (.if_icmp .ne 4, 3) := by decide +kernel
theorem d_MO_putIn_9 : decode b_MO_putIn 9 = .ok (.return_, 1) := by decide +kernel
theorem d_MO_putIn_10 : decode b_MO_putIn 10 = .ok (.aload_n 0, 1) := by decide +kernel
theorem d_MO_putIn_11 : decode b_MO_putIn 11 = .ok (.sipush 256, 3) := by decide +kernel
theorem d_MO_putIn_14 : decode b_MO_putIn 14 = .ok (.invokevirtual 235, 3) := by decide +kernel
theorem d_MO_putIn_17 : decode b_MO_putIn 17 = .ok (.istore_n 1, 1) := by decide +kernel
theorem d_MO_putIn_18 : decode b_MO_putIn 18 = .ok (.aload_n 0, 1) := by decide +kernel
theorem d_MO_putIn_19 : decode b_MO_putIn 19 = .ok (.aload_n 0, 1) := by decide +kernel
theorem d_MO_putIn_20 : decode b_MO_putIn 20 = .ok (.getfield 139, 3) := by decide +kernel
theorem d_MO_putIn_23 : decode b_MO_putIn 23 = .ok (.iconst 1, 1) := by decide +kernel
theorem d_MO_putIn_24 : decode b_MO_putIn 24 = .ok (.iadd, 1) := by decide +kernel
theorem d_MO_putIn_25 : decode b_MO_putIn 25 = .ok (.invokevirtual 235, 3) := by decide +kernel
theorem d_MO_putIn_28 : decode b_MO_putIn 28 = .ok (.istore_n 2, 1) := by decide +kernel
theorem d_MO_putIn_29 : decode b_MO_putIn 29 = .ok (.aload_n 0, 1) := by decide +kernel
theorem d_MO_putIn_30 : decode b_MO_putIn 30 = .ok (.getfield 139, 3) := by decide +kernel
theorem d_MO_putIn_33 : decode b_MO_putIn 33 = .ok (.istore_n 3, 1) := by decide +kernel
theorem d_MO_putIn_34 : decode b_MO_putIn 34 = .ok (.iload_n 3, 1) := by decide +kernel
theorem d_MO_putIn_35 : decode b_MO_putIn 35 = .ok (.iload_n 2, 1) := by decide +kernel
theorem d_MO_putIn_36 : decode b_MO_putIn 36 = .ok (.if_icmp .le 23, 3) := by decide +kernel
theorem d_MO_putIn_39 : decode b_MO_putIn 39 = .ok (.aload_n 0, 1) := by decide +kernel
theorem d_MO_putIn_40 : decode b_MO_putIn 40 = .ok (.getfield 82, 3) := by decide +kernel
theorem d_MO_putIn_43 : decode b_MO_putIn 43 = .ok (.iload_n 3, 1) := by decide +kernel
theorem d_MO_putIn_44 : decode b_MO_putIn 44 = .ok (.aload_n 0, 1) := by decide +kernel
theorem d_MO_putIn_45 : decode b_MO_putIn 45 = .ok (.getfield 82, 3) := by decide +kernel
theorem d_MO_putIn_48 : decode b_MO_putIn 48 = .ok (.iload_n 3, 1) := by decide +kernel
theorem d_MO_putIn_49 : decode b_MO_putIn 49 = .ok (.iconst 1, 1) := by decide +kernel
theorem d_MO_putIn_50 : decode b_MO_putIn 50 = .ok (.isub, 1) := by decide +kernel
theorem d_MO_putIn_51 : decode b_MO_putIn 51 = .ok (.iaload, 1) := by decide +kernel
theorem d_MO_putIn_52 : decode b_MO_putIn 52 = .ok (.iastore, 1) := by decide +kernel
theorem d_MO_putIn_53 : decode b_MO_putIn 53 = .ok (.iinc 3 (-1), 3) := by decide +kernel
theorem d_MO_putIn_56 : decode b_MO_putIn 56 = .ok (.goto (-22), 3) := by decide +kernel
theorem d_MO_putIn_59 : decode b_MO_putIn 59 = .ok (.aload_n 0, 1) := by decide +kernel
theorem d_MO_putIn_60 : decode b_MO_putIn 60 = .ok (.getfield 82, 3) := by decide +kernel
theorem d_MO_putIn_63 : decode b_MO_putIn 63 = .ok (.iload_n 2, 1) := by decide +kernel
theorem d_MO_putIn_64 : decode b_MO_putIn 64 = .ok (.iload_n 1, 1) := by decide +kernel
theorem d_MO_putIn_65 : decode b_MO_putIn 65 = .ok (.iastore, 1) := by decide +kernel
theorem d_MO_putIn_66 : decode b_MO_putIn 66 = .ok (.aload_n 0, 1) := by decide +kernel
theorem d_MO_putIn_67 : decode b_MO_putIn 67 = .ok (.dup, 1) := by decide +kernel
theorem d_MO_putIn_68 : decode b_MO_putIn 68 = .ok (.getfield 139, 3) := by decide +kernel
theorem d_MO_putIn_71 : decode b_MO_putIn 71 = .ok (.iconst 1, 1) := by decide +kernel
theorem d_MO_putIn_72 : decode b_MO_putIn 72 = .ok (.iadd, 1) := by decide +kernel
theorem d_MO_putIn_73 : decode b_MO_putIn 73 = .ok (.putfield 139, 3) := by decide +kernel
theorem d_MO_putIn_76 : decode b_MO_putIn 76 = .ok (.return_, 1) := by decide +kernel
noncomputable def j_MO_putIn_59 (a21 : Int32) (a22 : Int32) (M23 : Mem) : Option (Mem) :=
  ck a22 6 (nx (st M23 51 a22.toNatClampNeg a21) (fun M25 => nx (st M25 26 44 ((M25 26 44) + (1 : Int32))) (fun M26 => some M26)))
noncomputable def l_MO_putIn_34 (r29 : Int32) (r32 : Int32) (v34 : Int32) (M35 : Mem) : Option ((Int32 × Mem) ⊕ (Mem)) :=
  if v34 ≤ r32 then (jw1 (j_MO_putIn_59 r29 r32 M35)) else (ck (v34 - (1 : Int32)) 6 (ck v34 6 (nx (st M35 51 v34.toNatClampNeg (M35 51 (v34 - (1 : Int32)).toNatClampNeg)) (fun M38 => nx (v34 + (-1 : Int32)) (fun v39 => some (.inl (v39, M38)))))))
noncomputable def s_MO_putIn  (M : Mem) : Option (Mem) :=
  if (M 26 44) = (6 : Int32) then (some M) else (bi (s_MO_draw (256 : Int32) M) (fun r29 M27 => bi (s_MO_draw ((M27 26 44) + (1 : Int32)) M27) (fun r32 M30 => nx (M30 26 44) (fun v33 => lp (fun q : Int32 × Mem => l_MO_putIn_34 r29 r32 q.1 q.2) (v33, M30)))))
set_option maxHeartbeats 4000000 in
set_option maxRecDepth 100000 in
theorem c_MO_putIn (l : Launch) (x : Cx) (hJ : Inj x)  {M : Mem} {out : Mem} (h : s_MO_putIn M = some out) : Cv l x y_MO_putIn (Cond.code y_MO_putIn b_MO_putIn 4 none :: tb) r_MO_putIn [.ref (x.2.1 26)] M out := by
  refine ofCv (cc := b_MO_putIn) (maxL := 4) (by decide) rfl (rfl) (Nat.le_of_ble_eq_true rfl) ?_
  intro p e s m args below meth c Q G0 ls g hx hb hml hown hts hK hZ hP hS hl hret
  have hown : s.vm.findClass R_MO = some m.cls := hown
  have hl : lv_has ls 4 [(0, .ref (x.2.1 26))] := hl
  obtain ⟨H, eH⟩ : ∃ z, z = s.heap := ⟨_, rfl⟩
  obtain ⟨locs, eL⟩ : ∃ z, z = ([] : List Loc) := ⟨_, rfl⟩
  rw [← eH] at hP
  have hS : va_S (A0 x) s.heap H locs := by rw [eH, eL]; exact hS
  rw [← eL]
  have key : W p l e r_MO_putIn s m args below meth c H locs 0 0 Q (F0 m 0 ls []) := by
    clear eH eL
    unfold s_MO_putIn at h
    have J59 : ∀ (a21 : Int32) (a22 : Int32) (M23 : Mem)  (res : Mem) (h : j_MO_putIn_59 a21 a22 M23 = some res) (g : G0 res) (H : Heap) (locs : List Loc) (ls : Array Slot) (hP : va_P x.1 vwCl (wld x M23) H) (hS : va_S (A0 x) s.heap H locs) (hl : lv_has ls 4 [(0, .ref (x.2.1 26)), (1, .int a21), (2, .int a22)]), W p l e r_MO_putIn s m args below meth c H locs 0 0 Q (F0 m 59 ls []) := by
      intro a21 a22 M23 res h g H locs ls hP hS hl
      unfold j_MO_putIn_59 at h
      refine lv_aload_n hx hb d_MO_putIn_59 rfl (lv_at hl 0 rfl) ?_
      refine gf_MO_82 hx hb hts hown hK hP d_MO_putIn_60 ?_
      refine lv_iload_n hx hb d_MO_putIn_63 rfl (lv_at hl 2 rfl) ?_
      refine lv_iload_n hx hb d_MO_putIn_64 rfl (lv_at hl 1 rfl) ?_
      obtain ⟨b24, h⟩ := ck_e h
      obtain ⟨M25, eM25, h⟩ := nx_e h
      refine m_ast hx hb hK hJ hP hS ar_MO_cur b24 eM25 d_MO_putIn_65 (fun H locs hP hS => ?_)
      refine lv_aload_n hx hb d_MO_putIn_66 rfl (lv_at hl 0 rfl) ?_
      refine lv_dup hx hb d_MO_putIn_67 rfl ?_
      refine gf_MO_139 hx hb hts hown hK hP d_MO_putIn_68 ?_
      refine lv_iconst (v := (1 : Int32)) hx hb d_MO_putIn_71 (by decide) ?_
      refine lv_iadd hx hb d_MO_putIn_72 ?_
      obtain ⟨M26, eM26, h⟩ := nx_e h
      refine pf_MO_139 hx hb hts hown hK hJ hP hS eM26 d_MO_putIn_73 (fun H locs hP hS => ?_)
      obtain rfl := Option.some.inj h
      exact hret d_MO_putIn_76 g hP hS
    refine lv_aload_n hx hb d_MO_putIn_0 rfl (lv_at hl 0 rfl) ?_
    refine gf_MO_139 hx hb hts hown hK hP d_MO_putIn_1 ?_
    refine lv_bipush (v := (6 : Int32)) hx hb d_MO_putIn_4 (by decide) ?_
    refine lv_icmp_ne (tgt := 10) hx hb d_MO_putIn_6 rfl (fun hc => ?_) (fun hc => ?_)
    · have h := if_m hc h
      refine lv_aload_n hx hb d_MO_putIn_10 rfl (lv_at hl 0 rfl) ?_
      refine lv_sipush (v := (256 : Int32)) hx hb d_MO_putIn_11 (by decide) ?_
      obtain ⟨r29, M27, c28, h⟩ := bi_e h
      refine cl_MO_235 (rest := []) (R := r_MO_putIn) (c_MO_draw l x hJ (256 : Int32) c28) hx hb hml hts hown hK hZ hP hS hl.1 (Nat.le_of_ble_eq_true rfl) (Nat.le_of_ble_eq_true rfl) (Nat.le_of_ble_eq_true rfl) ⟨rfl, rfl, Nat.zero_le _, Nat.zero_le _⟩ d_MO_putIn_14 (fun H locs hP hS => ?_)
      refine lv_istore_n hx hb d_MO_putIn_17 rfl hl (by decide) rfl (fun ls hl => ?_)
      have hl : lv_has ls 4 [(1, .int r29), (0, .ref (x.2.1 26))] := hl
      refine lv_aload_n hx hb d_MO_putIn_18 rfl (lv_at hl 1 rfl) ?_
      refine lv_aload_n hx hb d_MO_putIn_19 rfl (lv_at hl 1 rfl) ?_
      refine gf_MO_139 hx hb hts hown hK hP d_MO_putIn_20 ?_
      refine lv_iconst (v := (1 : Int32)) hx hb d_MO_putIn_23 (by decide) ?_
      refine lv_iadd hx hb d_MO_putIn_24 ?_
      obtain ⟨r32, M30, c31, h⟩ := bi_e h
      refine cl_MO_235 (rest := []) (R := r_MO_putIn) (c_MO_draw l x hJ ((M27 26 44) + (1 : Int32)) c31) hx hb hml hts hown hK hZ hP hS hl.1 (Nat.le_of_ble_eq_true rfl) (Nat.le_of_ble_eq_true rfl) (Nat.le_of_ble_eq_true rfl) ⟨rfl, rfl, Nat.zero_le _, Nat.zero_le _⟩ d_MO_putIn_25 (fun H locs hP hS => ?_)
      refine lv_istore_n hx hb d_MO_putIn_28 rfl hl (by decide) rfl (fun ls hl => ?_)
      have hl : lv_has ls 4 [(2, .int r32), (1, .int r29), (0, .ref (x.2.1 26))] := hl
      refine lv_aload_n hx hb d_MO_putIn_29 rfl (lv_at hl 2 rfl) ?_
      refine gf_MO_139 hx hb hts hown hK hP d_MO_putIn_30 ?_
      obtain ⟨v33, ev33, h⟩ := nx_e h
      refine tp_i ev33 ?_
      refine lv_istore_n hx hb d_MO_putIn_33 rfl hl (by decide) rfl (fun ls hl => ?_)
      have hl : lv_has ls 4 [(3, .int v33), (2, .int r32), (1, .int r29), (0, .ref (x.2.1 26))] := hl
      obtain ⟨P34, eP34⟩ : ∃ P : (Int32 × Mem) → Prop, P = (fun q => ∀ (H : Heap) (locs : List Loc) (ls : Array Slot), va_P x.1 vwCl (wld x (q.2)) H → va_S (A0 x) s.heap H locs → lv_has ls 4 [(0, .ref (x.2.1 26)), (1, .int r29), (2, .int r32), (3, .int (q.1))] → W p l e r_MO_putIn s m args below meth c H locs 0 0 Q (F0 m 34 ls [])) := ⟨_, rfl⟩
      have L34 : P34 (v33, M30) := by
        refine lp_walk (G := G0) ?_ h g
        intro q res h g
        obtain ⟨v34, M35⟩ := q
        rw [eP34]
        intro H locs ls hP hS hl
        have hP : va_P x.1 vwCl (wld x M35) H := hP
        have hl : lv_has ls 4 [(0, .ref (x.2.1 26)), (1, .int r29), (2, .int r32), (3, .int v34)] := hl
        have h : l_MO_putIn_34 r29 r32 v34 M35 = some res := h
        unfold l_MO_putIn_34 at h
        refine lv_iload_n hx hb d_MO_putIn_34 rfl (lv_at hl 3 rfl) ?_
        refine lv_iload_n hx hb d_MO_putIn_35 rfl (lv_at hl 2 rfl) ?_
        refine lv_icmp_le (tgt := 59) hx hb d_MO_putIn_36 rfl (fun hc => ?_) (fun hc => ?_)
        · have h := if_p hc h
          obtain ⟨res2, hres, h2⟩ := jw1_e h
          clear h
          subst hres
          have h := h2
          exact J59 r29 r32 M35 _ h g H locs ls hP hS (lv_sub hl [0, 1, 2] rfl)
        · have h := if_m hc h
          refine lv_aload_n hx hb d_MO_putIn_39 rfl (lv_at hl 0 rfl) ?_
          refine gf_MO_82 hx hb hts hown hK hP d_MO_putIn_40 ?_
          refine lv_iload_n hx hb d_MO_putIn_43 rfl (lv_at hl 3 rfl) ?_
          refine lv_aload_n hx hb d_MO_putIn_44 rfl (lv_at hl 0 rfl) ?_
          refine gf_MO_82 hx hb hts hown hK hP d_MO_putIn_45 ?_
          refine lv_iload_n hx hb d_MO_putIn_48 rfl (lv_at hl 3 rfl) ?_
          refine lv_iconst (v := (1 : Int32)) hx hb d_MO_putIn_49 (by decide) ?_
          refine lv_isub hx hb d_MO_putIn_50 ?_
          obtain ⟨b36, h⟩ := ck_e h
          refine m_ald hx hb hK hP ar_MO_cur b36 d_MO_putIn_51 ?_
          obtain ⟨b37, h⟩ := ck_e h
          obtain ⟨M38, eM38, h⟩ := nx_e h
          refine m_ast hx hb hK hJ hP hS ar_MO_cur b37 eM38 d_MO_putIn_52 (fun H locs hP hS => ?_)
          obtain ⟨v39, ev39, h⟩ := nx_e h
          refine lv_iinc (k := 3) hx hb d_MO_putIn_53 hl rfl (iinc_v (k := (-1 : Int32)) (by decide) ev39) (by decide) rfl (fun ls hl => ?_)
          have hl : lv_has ls 4 [(3, .int v39), (0, .ref (x.2.1 26)), (1, .int r29), (2, .int r32)] := hl
          refine lv_goto (tgt := 34) hx hb d_MO_putIn_56 rfl ?_
          obtain rfl := Option.some.inj h
          have g : P34 (v39, M38) := g
          rw [eP34] at g
          exact g H locs ls hP hS (lv_sub hl [1, 2, 3, 0] rfl)
      rw [eP34] at L34
      exact L34 H locs ls hP hS (lv_sub hl [3, 2, 1, 0] rfl)
    · have h := if_p hc h
      obtain rfl := Option.some.inj h
      exact hret d_MO_putIn_9 g hP hS
  rw [eH] at key
  exact key
theorem d_MO_change_0 : decode b_MO_change 0 = .ok (.iload_n 1, 1) := by decide +kernel
theorem d_MO_change_1 : decode b_MO_change 1 = .ok (.ifCond .ne 38, 3) := by decide +kernel
theorem d_MO_change_4 : decode b_MO_change 4 = .ok (.aload_n 0, 1) := by decide +kernel
theorem d_MO_change_5 : decode b_MO_change 5 = .ok (.bipush 8, 2) := by decide +kernel
theorem d_MO_change_7 : decode b_MO_change 7 = .ok (.invokevirtual 235, 3) := by decide +kernel
theorem d_MO_change_10 : decode b_MO_change 10 = .ok (.istore_n 2, 1) := by decide +kernel
theorem d_MO_change_11 : decode b_MO_change 11 = .ok (.aload_n 0, 1) := by decide +kernel
theorem d_MO_change_12 : decode b_MO_change 12 = .ok (.aload_n 0, 1) := by decide +kernel
theorem d_MO_change_13 : decode b_MO_change 13 = .ok (.getfield 139, 3) := by decide +kernel
theorem d_MO_change_16 : decode b_MO_change 16 = .ok (.invokevirtual 235, 3) := by decide +kernel
theorem d_MO_change_19 : decode b_MO_change 19 = .ok (.istore_n 3, 1) := by decide +kernel
theorem d_MO_change_20 : decode b_MO_change 20 = .ok (.aload_n 0, 1) := by decide +kernel
theorem d_MO_change_21 : decode b_MO_change 21 = .ok (.getfield 82, 3) := by decide +kernel
theorem d_MO_change_24 : decode b_MO_change 24 = .ok (.iload_n 3, 1) := by decide +kernel
theorem d_MO_change_25 : decode b_MO_change 25 = .ok (.aload_n 0, 1) := by decide +kernel
theorem d_MO_change_26 : decode b_MO_change 26 = .ok (.getfield 82, 3) := by decide +kernel
theorem d_MO_change_29 : decode b_MO_change 29 = .ok (.iload_n 3, 1) := by decide +kernel
theorem d_MO_change_30 : decode b_MO_change 30 = .ok (.iaload, 1) := by decide +kernel
theorem d_MO_change_31 : decode b_MO_change 31 = .ok (.iconst 1, 1) := by decide +kernel
theorem d_MO_change_32 : decode b_MO_change 32 = .ok (.iload_n 2, 1) := by decide +kernel
theorem d_MO_change_33 : decode b_MO_change 33 = .ok (.ishl, 1) := by decide +kernel
theorem d_MO_change_34 : decode b_MO_change 34 = .ok (.ixor, 1) := by decide +kernel
theorem d_MO_change_35 : decode b_MO_change 35 = .ok (.iastore, 1) := by decide +kernel
theorem d_MO_change_36 : decode b_MO_change 36 = .ok (.goto 129, 3) := by decide +kernel
theorem d_MO_change_39 : decode b_MO_change 39 = .ok (.iload_n 1, 1) := by decide +kernel
theorem d_MO_change_40 : decode b_MO_change 40 = .ok (.iconst 1, 1) := by decide +kernel
theorem d_MO_change_41 : decode b_MO_change 41 = .ok (.if_icmp .ne 30, 3) := by decide +kernel
theorem d_MO_change_44 : decode b_MO_change 44 = .ok (.aload_n 0, 1) := by decide +kernel
theorem d_MO_change_45 : decode b_MO_change 45 = .ok (.aload_n 0, 1) := by decide +kernel
theorem d_MO_change_46 : decode b_MO_change 46 = .ok (.getfield 139, 3) := by decide +kernel
theorem d_MO_change_49 : decode b_MO_change 49 = .ok (.invokevirtual 235, 3) := by decide +kernel
theorem d_MO_change_52 : decode b_MO_change 52 = .ok (.istore_n 2, 1) := by decide +kernel
theorem d_MO_change_53 : decode b_MO_change 53 = .ok (.aload_n 0, 1) := by decide +kernel
theorem d_MO_change_54 : decode b_MO_change 54 = .ok (.sipush 256, 3) := by decide +kernel
theorem d_MO_change_57 : decode b_MO_change 57 = .ok (.invokevirtual 235, 3) := by decide +kernel
theorem d_MO_change_60 : decode b_MO_change 60 = .ok (.istore_n 3, 1) := by decide +kernel
theorem d_MO_change_61 : decode b_MO_change 61 = .ok (.aload_n 0, 1) := by decide +kernel
theorem d_MO_change_62 : decode b_MO_change 62 = .ok (.getfield 82, 3) := by decide +kernel
theorem d_MO_change_65 : decode b_MO_change 65 = .ok (.iload_n 2, 1) := by decide +kernel
theorem d_MO_change_66 : decode b_MO_change 66 = .ok (.iload_n 3, 1) := by decide +kernel
theorem d_MO_change_67 : decode b_MO_change 67 = .ok (.iastore, 1) := by decide +kernel
theorem d_MO_change_68 : decode b_MO_change 68 = .ok (.goto 97, 3) := by decide +kernel
theorem d_MO_change_71 : decode b_MO_change 71 = .ok (.iload_n 1, 1) := by decide +kernel
theorem d_MO_change_72 : decode b_MO_change 72 = .ok (.iconst 3, 1) := by decide +kernel
theorem d_MO_change_73 : decode b_MO_change 73 = .ok (.if_icmp .ne 55, 3) := by decide +kernel
theorem d_MO_change_76 : decode b_MO_change 76 = .ok (.aload_n 0, 1) := by decide +kernel
theorem d_MO_change_77 : decode b_MO_change 77 = .ok (.aload_n 0, 1) := by decide +kernel
theorem d_MO_change_78 : decode b_MO_change 78 = .ok (.getfield 139, 3) := by decide +kernel
theorem d_MO_change_81 : decode b_MO_change 81 = .ok (.invokevirtual 235, 3) := by decide +kernel
theorem d_MO_change_84 : decode b_MO_change 84 = .ok (.istore_n 2, 1) := by decide +kernel
theorem d_MO_change_85 : decode b_MO_change 85 = .ok (.aload_n 0, 1) := by decide +kernel
theorem d_MO_change_86 : decode b_MO_change 86 = .ok (.dup, 1) := by decide +kernel
theorem d_MO_change_87 : decode b_MO_change 87 = .ok (.getfield 139, 3) := by decide +kernel
theorem d_MO_change_90 : decode b_MO_change 90 = .ok (.iconst 1, 1) := by decide +kernel
theorem d_MO_change_91 : decode b_MO_change 91 = .ok (.isub, 1) := by decide +kernel
theorem d_MO_change_92 : decode b_MO_change 92 = .ok (.putfield 139, 3) := by decide +kernel
theorem d_MO_change_95 : decode b_MO_change 95 = .ok (.iload_n 2, 1) := by decide +kernel
theorem d_MO_change_96 : decode b_MO_change 96 = .ok (.istore_n 3, 1) := by decide +kernel
theorem d_MO_change_97 : decode b_MO_change 97 = .ok (.iload_n 3, 1) := by decide +kernel
theorem d_MO_change_98 : decode b_MO_change 98 = .ok (.aload_n 0, 1) := by decide +kernel
theorem d_MO_change_99 : decode b_MO_change 99 = .ok (.getfield 139, 3) := by decide +kernel
theorem d_MO_change_102 : decode b_MO_change 102 = .ok (.if_icmp .ge 23, 3) := by decide +kernel
theorem d_MO_change_105 : decode b_MO_change 105 = .ok (.aload_n 0, 1) := by decide +kernel
theorem d_MO_change_106 : decode b_MO_change 106 = .ok (.getfield 82, 3) := by decide +kernel
theorem d_MO_change_109 : decode b_MO_change 109 = .ok (.iload_n 3, 1) := by decide +kernel
theorem d_MO_change_110 : decode b_MO_change 110 = .ok (.aload_n 0, 1) := by decide +kernel
theorem d_MO_change_111 : decode b_MO_change 111 = .ok (.getfield 82, 3) := by decide +kernel
theorem d_MO_change_114 : decode b_MO_change 114 = .ok (.iload_n 3, 1) := by decide +kernel
theorem d_MO_change_115 : decode b_MO_change 115 = .ok (.iconst 1, 1) := by decide +kernel
theorem d_MO_change_116 : decode b_MO_change 116 = .ok (.iadd, 1) := by decide +kernel
theorem d_MO_change_117 : decode b_MO_change 117 = .ok (.iaload, 1) := by decide +kernel
theorem d_MO_change_118 : decode b_MO_change 118 = .ok (.iastore, 1) := by decide +kernel
theorem d_MO_change_119 : decode b_MO_change 119 = .ok (.iinc 3 1, 3) := by decide +kernel
theorem d_MO_change_122 : decode b_MO_change 122 = .ok (.goto (-25), 3) := by decide +kernel
theorem d_MO_change_125 : decode b_MO_change 125 = .ok (.goto 40, 3) := by decide +kernel
theorem d_MO_change_128 : decode b_MO_change 128 = .ok (.aload_n 0, 1) := by decide +kernel
theorem d_MO_change_129 : decode b_MO_change 129 = .ok (.bipush 16, 2) := by decide +kernel
theorem d_MO_change_131 : decode b_MO_change 131 = .ok (.invokevirtual 235, 3) := by decide +kernel
theorem d_MO_change_134 : decode b_MO_change 134 = .ok (.bipush 8, 2) := by decide +kernel
theorem d_MO_change_136 : decode b_MO_change 136 = .ok (.isub, 1) := by decide +kernel
theorem d_MO_change_137 : decode b_MO_change 137 = .ok (.istore_n 2, 1) := by decide +kernel
theorem d_MO_change_138 : decode b_MO_change 138 = .ok (.aload_n 0, 1) := by decide +kernel
theorem d_MO_change_139 : decode b_MO_change 139 = .ok (.aload_n 0, 1) := by decide +kernel
theorem d_MO_change_140 : decode b_MO_change 140 = .ok (.getfield 139, 3) := by decide +kernel
theorem d_MO_change_143 : decode b_MO_change 143 = .ok (.invokevirtual 235, 3) := by decide +kernel
theorem d_MO_change_146 : decode b_MO_change 146 = .ok (.istore_n 3, 1) := by decide +kernel
theorem d_MO_change_147 : decode b_MO_change 147 = .ok (.aload_n 0, 1) := by decide +kernel
theorem d_MO_change_148 : decode b_MO_change 148 = .ok (.getfield 82, 3) := by decide +kernel
theorem d_MO_change_151 : decode b_MO_change 151 = .ok (.iload_n 3, 1) := by decide +kernel
theorem d_MO_change_152 : decode b_MO_change 152 = .ok (.aload_n 0, 1) := by decide +kernel
theorem d_MO_change_153 : decode b_MO_change 153 = .ok (.getfield 82, 3) := by decide +kernel
theorem d_MO_change_156 : decode b_MO_change 156 = .ok (.iload_n 3, 1) := by decide +kernel
theorem d_MO_change_157 : decode b_MO_change 157 = .ok (.iaload, 1) := by decide +kernel
theorem d_MO_change_158 : decode b_MO_change 158 = .ok (.iload_n 2, 1) := by decide +kernel
theorem d_MO_change_159 : decode b_MO_change 159 = .ok (.iadd, 1) := by decide +kernel
theorem d_MO_change_160 : decode b_MO_change 160 = .ok (.sipush 255, 3) := by decide +kernel
theorem d_MO_change_163 : decode b_MO_change 163 = .ok (.iand, 1) := by decide +kernel
theorem d_MO_change_164 : decode b_MO_change 164 = .ok (.iastore, 1) := by decide +kernel
theorem d_MO_change_165 : decode b_MO_change 165 = .ok (.return_, 1) := by decide +kernel
noncomputable def l_MO_change_97  (v35 : Int32) (M36 : Mem) : Option ((Int32 × Mem) ⊕ (Mem)) :=
  if (M36 26 44) ≤ v35 then (some (.inr M36)) else (ck (v35 + (1 : Int32)) 6 (ck v35 6 (nx (st M36 51 v35.toNatClampNeg (M36 51 (v35 + (1 : Int32)).toNatClampNeg)) (fun M39 => nx (v35 + (1 : Int32)) (fun v40 => some (.inl (v40, M39)))))))
noncomputable def s_MO_change (a1 : Int32) (M : Mem) : Option (Mem) :=
  if a1 = 0 then (bi (s_MO_draw (8 : Int32) M) (fun r51 M49 => bi (s_MO_draw (M49 26 44) M49) (fun r54 M52 => ck r54 6 (ck r54 6 (nx (st M52 51 r54.toNatClampNeg ((M52 51 r54.toNatClampNeg) ^^^ ((1 : Int32) <<< (r51 &&& 31)))) (fun M57 => some M57)))))) else (if a1 = (1 : Int32) then (bi (s_MO_draw (M 26 44) M) (fun r43 M41 => bi (s_MO_draw (256 : Int32) M41) (fun r46 M44 => ck r43 6 (nx (st M44 51 r43.toNatClampNeg r46) (fun M48 => some M48))))) else (if a1 = (3 : Int32) then (bi (s_MO_draw (M 26 44) M) (fun r33 M31 => nx (st M31 26 44 ((M31 26 44) - (1 : Int32))) (fun M34 => lp (fun q : Int32 × Mem => l_MO_change_97 q.1 q.2) (r33, M34)))) else (bi (s_MO_draw (16 : Int32) M) (fun r23 M21 => nx (r23 - (8 : Int32)) (fun v24 => bi (s_MO_draw (M21 26 44) M21) (fun r27 M25 => ck r27 6 (ck r27 6 (nx (st M25 51 r27.toNatClampNeg (((M25 51 r27.toNatClampNeg) + v24) &&& (255 : Int32))) (fun M30 => some M30)))))))))
set_option maxHeartbeats 4000000 in
set_option maxRecDepth 100000 in
theorem c_MO_change (l : Launch) (x : Cx) (hJ : Inj x) (a1 : Int32) {M : Mem} {out : Mem} (h : s_MO_change a1 M = some out) : Cv l x y_MO_change (Cond.code y_MO_change b_MO_change 4 none :: tb) r_MO_change [.ref (x.2.1 26), .int a1] M out := by
  refine ofCv (cc := b_MO_change) (maxL := 4) (by decide) rfl (rfl) (Nat.le_of_ble_eq_true rfl) ?_
  intro p e s m args below meth c Q G0 ls g hx hb hml hown hts hK hZ hP hS hl hret
  have hown : s.vm.findClass R_MO = some m.cls := hown
  have hl : lv_has ls 4 [(0, .ref (x.2.1 26)), (1, .int a1)] := hl
  obtain ⟨H, eH⟩ : ∃ z, z = s.heap := ⟨_, rfl⟩
  obtain ⟨locs, eL⟩ : ∃ z, z = ([] : List Loc) := ⟨_, rfl⟩
  rw [← eH] at hP
  have hS : va_S (A0 x) s.heap H locs := by rw [eH, eL]; exact hS
  rw [← eL]
  have key : W p l e r_MO_change s m args below meth c H locs 0 0 Q (F0 m 0 ls []) := by
    clear eH eL
    unfold s_MO_change at h
    refine lv_iload_n hx hb d_MO_change_0 rfl (lv_at hl 1 rfl) ?_
    refine lv_if_ne (tgt := 39) hx hb d_MO_change_1 rfl (fun hc => ?_) (fun hc => ?_)
    · have h := if_m hc h
      refine lv_iload_n hx hb d_MO_change_39 rfl (lv_at hl 1 rfl) ?_
      refine lv_iconst (v := (1 : Int32)) hx hb d_MO_change_40 (by decide) ?_
      refine lv_icmp_ne (tgt := 71) hx hb d_MO_change_41 rfl (fun hc => ?_) (fun hc => ?_)
      · have h := if_m hc h
        refine lv_iload_n hx hb d_MO_change_71 rfl (lv_at hl 1 rfl) ?_
        refine lv_iconst (v := (3 : Int32)) hx hb d_MO_change_72 (by decide) ?_
        refine lv_icmp_ne (tgt := 128) hx hb d_MO_change_73 rfl (fun hc => ?_) (fun hc => ?_)
        · have h := if_m hc h
          refine lv_aload_n hx hb d_MO_change_128 rfl (lv_at hl 0 rfl) ?_
          refine lv_bipush (v := (16 : Int32)) hx hb d_MO_change_129 (by decide) ?_
          obtain ⟨r23, M21, c22, h⟩ := bi_e h
          refine cl_MO_235 (rest := []) (R := r_MO_change) (c_MO_draw l x hJ (16 : Int32) c22) hx hb hml hts hown hK hZ hP hS hl.1 (Nat.le_of_ble_eq_true rfl) (Nat.le_of_ble_eq_true rfl) (Nat.le_of_ble_eq_true rfl) ⟨rfl, rfl, Nat.zero_le _, Nat.zero_le _⟩ d_MO_change_131 (fun H locs hP hS => ?_)
          refine lv_bipush (v := (8 : Int32)) hx hb d_MO_change_134 (by decide) ?_
          refine lv_isub hx hb d_MO_change_136 ?_
          obtain ⟨v24, ev24, h⟩ := nx_e h
          refine tp_i ev24 ?_
          refine lv_istore_n hx hb d_MO_change_137 rfl hl (by decide) rfl (fun ls hl => ?_)
          have hl : lv_has ls 4 [(2, .int v24), (0, .ref (x.2.1 26)), (1, .int a1)] := hl
          refine lv_aload_n hx hb d_MO_change_138 rfl (lv_at hl 1 rfl) ?_
          refine lv_aload_n hx hb d_MO_change_139 rfl (lv_at hl 1 rfl) ?_
          refine gf_MO_139 hx hb hts hown hK hP d_MO_change_140 ?_
          obtain ⟨r27, M25, c26, h⟩ := bi_e h
          refine cl_MO_235 (rest := []) (R := r_MO_change) (c_MO_draw l x hJ (M21 26 44) c26) hx hb hml hts hown hK hZ hP hS hl.1 (Nat.le_of_ble_eq_true rfl) (Nat.le_of_ble_eq_true rfl) (Nat.le_of_ble_eq_true rfl) ⟨rfl, rfl, Nat.zero_le _, Nat.zero_le _⟩ d_MO_change_143 (fun H locs hP hS => ?_)
          refine lv_istore_n hx hb d_MO_change_146 rfl hl (by decide) rfl (fun ls hl => ?_)
          have hl : lv_has ls 4 [(3, .int r27), (2, .int v24), (0, .ref (x.2.1 26)), (1, .int a1)] := hl
          refine lv_aload_n hx hb d_MO_change_147 rfl (lv_at hl 2 rfl) ?_
          refine gf_MO_82 hx hb hts hown hK hP d_MO_change_148 ?_
          refine lv_iload_n hx hb d_MO_change_151 rfl (lv_at hl 0 rfl) ?_
          refine lv_aload_n hx hb d_MO_change_152 rfl (lv_at hl 2 rfl) ?_
          refine gf_MO_82 hx hb hts hown hK hP d_MO_change_153 ?_
          refine lv_iload_n hx hb d_MO_change_156 rfl (lv_at hl 0 rfl) ?_
          obtain ⟨b28, h⟩ := ck_e h
          refine m_ald hx hb hK hP ar_MO_cur b28 d_MO_change_157 ?_
          refine lv_iload_n hx hb d_MO_change_158 rfl (lv_at hl 1 rfl) ?_
          refine lv_iadd hx hb d_MO_change_159 ?_
          refine lv_sipush (v := (255 : Int32)) hx hb d_MO_change_160 (by decide) ?_
          refine lv_iand hx hb d_MO_change_163 ?_
          obtain ⟨b29, h⟩ := ck_e h
          obtain ⟨M30, eM30, h⟩ := nx_e h
          refine m_ast hx hb hK hJ hP hS ar_MO_cur b29 eM30 d_MO_change_164 (fun H locs hP hS => ?_)
          obtain rfl := Option.some.inj h
          exact hret d_MO_change_165 g hP hS
        · have h := if_p hc h
          refine lv_aload_n hx hb d_MO_change_76 rfl (lv_at hl 0 rfl) ?_
          refine lv_aload_n hx hb d_MO_change_77 rfl (lv_at hl 0 rfl) ?_
          refine gf_MO_139 hx hb hts hown hK hP d_MO_change_78 ?_
          obtain ⟨r33, M31, c32, h⟩ := bi_e h
          refine cl_MO_235 (rest := []) (R := r_MO_change) (c_MO_draw l x hJ (M 26 44) c32) hx hb hml hts hown hK hZ hP hS hl.1 (Nat.le_of_ble_eq_true rfl) (Nat.le_of_ble_eq_true rfl) (Nat.le_of_ble_eq_true rfl) ⟨rfl, rfl, Nat.zero_le _, Nat.zero_le _⟩ d_MO_change_81 (fun H locs hP hS => ?_)
          refine lv_istore_n hx hb d_MO_change_84 rfl hl (by decide) rfl (fun ls hl => ?_)
          have hl : lv_has ls 4 [(2, .int r33), (0, .ref (x.2.1 26)), (1, .int a1)] := hl
          refine lv_aload_n hx hb d_MO_change_85 rfl (lv_at hl 1 rfl) ?_
          refine lv_dup hx hb d_MO_change_86 rfl ?_
          refine gf_MO_139 hx hb hts hown hK hP d_MO_change_87 ?_
          refine lv_iconst (v := (1 : Int32)) hx hb d_MO_change_90 (by decide) ?_
          refine lv_isub hx hb d_MO_change_91 ?_
          obtain ⟨M34, eM34, h⟩ := nx_e h
          refine pf_MO_139 hx hb hts hown hK hJ hP hS eM34 d_MO_change_92 (fun H locs hP hS => ?_)
          refine lv_iload_n hx hb d_MO_change_95 rfl (lv_at hl 0 rfl) ?_
          refine lv_istore_n hx hb d_MO_change_96 rfl hl (by decide) rfl (fun ls hl => ?_)
          have hl : lv_has ls 4 [(3, .int r33), (2, .int r33), (0, .ref (x.2.1 26)), (1, .int a1)] := hl
          obtain ⟨P97, eP97⟩ : ∃ P : (Int32 × Mem) → Prop, P = (fun q => ∀ (H : Heap) (locs : List Loc) (ls : Array Slot), va_P x.1 vwCl (wld x (q.2)) H → va_S (A0 x) s.heap H locs → lv_has ls 4 [(0, .ref (x.2.1 26)), (3, .int (q.1))] → W p l e r_MO_change s m args below meth c H locs 0 0 Q (F0 m 97 ls [])) := ⟨_, rfl⟩
          have L97 : P97 (r33, M34) := by
            refine lp_walk (G := G0) ?_ h g
            intro q res h g
            obtain ⟨v35, M36⟩ := q
            rw [eP97]
            intro H locs ls hP hS hl
            have hP : va_P x.1 vwCl (wld x M36) H := hP
            have hl : lv_has ls 4 [(0, .ref (x.2.1 26)), (3, .int v35)] := hl
            have h : l_MO_change_97 v35 M36 = some res := h
            unfold l_MO_change_97 at h
            refine lv_iload_n hx hb d_MO_change_97 rfl (lv_at hl 1 rfl) ?_
            refine lv_aload_n hx hb d_MO_change_98 rfl (lv_at hl 0 rfl) ?_
            refine gf_MO_139 hx hb hts hown hK hP d_MO_change_99 ?_
            refine lv_icmp_ge (tgt := 125) hx hb d_MO_change_102 rfl (fun hc => ?_) (fun hc => ?_)
            · have h := if_p hc h
              refine lv_goto (tgt := 165) hx hb d_MO_change_125 rfl ?_
              obtain rfl := Option.some.inj h
              exact hret d_MO_change_165 g hP hS
            · have h := if_m hc h
              refine lv_aload_n hx hb d_MO_change_105 rfl (lv_at hl 0 rfl) ?_
              refine gf_MO_82 hx hb hts hown hK hP d_MO_change_106 ?_
              refine lv_iload_n hx hb d_MO_change_109 rfl (lv_at hl 1 rfl) ?_
              refine lv_aload_n hx hb d_MO_change_110 rfl (lv_at hl 0 rfl) ?_
              refine gf_MO_82 hx hb hts hown hK hP d_MO_change_111 ?_
              refine lv_iload_n hx hb d_MO_change_114 rfl (lv_at hl 1 rfl) ?_
              refine lv_iconst (v := (1 : Int32)) hx hb d_MO_change_115 (by decide) ?_
              refine lv_iadd hx hb d_MO_change_116 ?_
              obtain ⟨b37, h⟩ := ck_e h
              refine m_ald hx hb hK hP ar_MO_cur b37 d_MO_change_117 ?_
              obtain ⟨b38, h⟩ := ck_e h
              obtain ⟨M39, eM39, h⟩ := nx_e h
              refine m_ast hx hb hK hJ hP hS ar_MO_cur b38 eM39 d_MO_change_118 (fun H locs hP hS => ?_)
              obtain ⟨v40, ev40, h⟩ := nx_e h
              refine lv_iinc (k := 1) hx hb d_MO_change_119 hl rfl (iinc_v (k := (1 : Int32)) (by decide) ev40) (by decide) rfl (fun ls hl => ?_)
              have hl : lv_has ls 4 [(3, .int v40), (0, .ref (x.2.1 26))] := hl
              refine lv_goto (tgt := 97) hx hb d_MO_change_122 rfl ?_
              obtain rfl := Option.some.inj h
              have g : P97 (v40, M39) := g
              rw [eP97] at g
              exact g H locs ls hP hS (lv_sub hl [1, 0] rfl)
          rw [eP97] at L97
          exact L97 H locs ls hP hS (lv_sub hl [2, 0] rfl)
      · have h := if_p hc h
        refine lv_aload_n hx hb d_MO_change_44 rfl (lv_at hl 0 rfl) ?_
        refine lv_aload_n hx hb d_MO_change_45 rfl (lv_at hl 0 rfl) ?_
        refine gf_MO_139 hx hb hts hown hK hP d_MO_change_46 ?_
        obtain ⟨r43, M41, c42, h⟩ := bi_e h
        refine cl_MO_235 (rest := []) (R := r_MO_change) (c_MO_draw l x hJ (M 26 44) c42) hx hb hml hts hown hK hZ hP hS hl.1 (Nat.le_of_ble_eq_true rfl) (Nat.le_of_ble_eq_true rfl) (Nat.le_of_ble_eq_true rfl) ⟨rfl, rfl, Nat.zero_le _, Nat.zero_le _⟩ d_MO_change_49 (fun H locs hP hS => ?_)
        refine lv_istore_n hx hb d_MO_change_52 rfl hl (by decide) rfl (fun ls hl => ?_)
        have hl : lv_has ls 4 [(2, .int r43), (0, .ref (x.2.1 26)), (1, .int a1)] := hl
        refine lv_aload_n hx hb d_MO_change_53 rfl (lv_at hl 1 rfl) ?_
        refine lv_sipush (v := (256 : Int32)) hx hb d_MO_change_54 (by decide) ?_
        obtain ⟨r46, M44, c45, h⟩ := bi_e h
        refine cl_MO_235 (rest := []) (R := r_MO_change) (c_MO_draw l x hJ (256 : Int32) c45) hx hb hml hts hown hK hZ hP hS hl.1 (Nat.le_of_ble_eq_true rfl) (Nat.le_of_ble_eq_true rfl) (Nat.le_of_ble_eq_true rfl) ⟨rfl, rfl, Nat.zero_le _, Nat.zero_le _⟩ d_MO_change_57 (fun H locs hP hS => ?_)
        refine lv_istore_n hx hb d_MO_change_60 rfl hl (by decide) rfl (fun ls hl => ?_)
        have hl : lv_has ls 4 [(3, .int r46), (2, .int r43), (0, .ref (x.2.1 26)), (1, .int a1)] := hl
        refine lv_aload_n hx hb d_MO_change_61 rfl (lv_at hl 2 rfl) ?_
        refine gf_MO_82 hx hb hts hown hK hP d_MO_change_62 ?_
        refine lv_iload_n hx hb d_MO_change_65 rfl (lv_at hl 1 rfl) ?_
        refine lv_iload_n hx hb d_MO_change_66 rfl (lv_at hl 0 rfl) ?_
        obtain ⟨b47, h⟩ := ck_e h
        obtain ⟨M48, eM48, h⟩ := nx_e h
        refine m_ast hx hb hK hJ hP hS ar_MO_cur b47 eM48 d_MO_change_67 (fun H locs hP hS => ?_)
        refine lv_goto (tgt := 165) hx hb d_MO_change_68 rfl ?_
        obtain rfl := Option.some.inj h
        exact hret d_MO_change_165 g hP hS
    · have h := if_p hc h
      refine lv_aload_n hx hb d_MO_change_4 rfl (lv_at hl 0 rfl) ?_
      refine lv_bipush (v := (8 : Int32)) hx hb d_MO_change_5 (by decide) ?_
      obtain ⟨r51, M49, c50, h⟩ := bi_e h
      refine cl_MO_235 (rest := []) (R := r_MO_change) (c_MO_draw l x hJ (8 : Int32) c50) hx hb hml hts hown hK hZ hP hS hl.1 (Nat.le_of_ble_eq_true rfl) (Nat.le_of_ble_eq_true rfl) (Nat.le_of_ble_eq_true rfl) ⟨rfl, rfl, Nat.zero_le _, Nat.zero_le _⟩ d_MO_change_7 (fun H locs hP hS => ?_)
      refine lv_istore_n hx hb d_MO_change_10 rfl hl (by decide) rfl (fun ls hl => ?_)
      have hl : lv_has ls 4 [(2, .int r51), (0, .ref (x.2.1 26)), (1, .int a1)] := hl
      refine lv_aload_n hx hb d_MO_change_11 rfl (lv_at hl 1 rfl) ?_
      refine lv_aload_n hx hb d_MO_change_12 rfl (lv_at hl 1 rfl) ?_
      refine gf_MO_139 hx hb hts hown hK hP d_MO_change_13 ?_
      obtain ⟨r54, M52, c53, h⟩ := bi_e h
      refine cl_MO_235 (rest := []) (R := r_MO_change) (c_MO_draw l x hJ (M49 26 44) c53) hx hb hml hts hown hK hZ hP hS hl.1 (Nat.le_of_ble_eq_true rfl) (Nat.le_of_ble_eq_true rfl) (Nat.le_of_ble_eq_true rfl) ⟨rfl, rfl, Nat.zero_le _, Nat.zero_le _⟩ d_MO_change_16 (fun H locs hP hS => ?_)
      refine lv_istore_n hx hb d_MO_change_19 rfl hl (by decide) rfl (fun ls hl => ?_)
      have hl : lv_has ls 4 [(3, .int r54), (2, .int r51), (0, .ref (x.2.1 26)), (1, .int a1)] := hl
      refine lv_aload_n hx hb d_MO_change_20 rfl (lv_at hl 2 rfl) ?_
      refine gf_MO_82 hx hb hts hown hK hP d_MO_change_21 ?_
      refine lv_iload_n hx hb d_MO_change_24 rfl (lv_at hl 0 rfl) ?_
      refine lv_aload_n hx hb d_MO_change_25 rfl (lv_at hl 2 rfl) ?_
      refine gf_MO_82 hx hb hts hown hK hP d_MO_change_26 ?_
      refine lv_iload_n hx hb d_MO_change_29 rfl (lv_at hl 0 rfl) ?_
      obtain ⟨b55, h⟩ := ck_e h
      refine m_ald hx hb hK hP ar_MO_cur b55 d_MO_change_30 ?_
      refine lv_iconst (v := (1 : Int32)) hx hb d_MO_change_31 (by decide) ?_
      refine lv_iload_n hx hb d_MO_change_32 rfl (lv_at hl 1 rfl) ?_
      refine lv_ishl hx hb d_MO_change_33 ?_
      refine lv_ixor hx hb d_MO_change_34 ?_
      obtain ⟨b56, h⟩ := ck_e h
      obtain ⟨M57, eM57, h⟩ := nx_e h
      refine m_ast hx hb hK hJ hP hS ar_MO_cur b56 eM57 d_MO_change_35 (fun H locs hP hS => ?_)
      refine lv_goto (tgt := 165) hx hb d_MO_change_36 rfl ?_
      obtain rfl := Option.some.inj h
      exact hret d_MO_change_165 g hP hS
  rw [eH] at key
  exact key
