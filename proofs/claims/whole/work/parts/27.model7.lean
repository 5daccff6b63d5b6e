theorem d_MO_state_0 : decode b_MO_state 0 = .ok (.aload_n 0, 1) := by decide +kernel
theorem d_MO_state_1 : decode b_MO_state 1 = .ok (.getfield 85, 3) := by decide +kernel
theorem d_MO_state_4 : decode b_MO_state 4 = .ok (.ireturn, 1) := by decide +kernel
noncomputable def s_MO_state  (M : Mem) : Option (Int32 × Mem) :=
  some (M 26 6, M)
set_option maxHeartbeats 4000000 in
set_option maxRecDepth 100000 in
theorem c_MO_state (l : Launch) (x : Cx) (hJ : Inj x)  {M : Mem} {out : Int32 × Mem} (h : s_MO_state M = some out) : Ci l x y_MO_state (Cond.code y_MO_state b_MO_state 1 (some .int) :: tb) r_MO_state [.ref (x.2.1 26)] M out := by
  refine ofCi (cc := b_MO_state) (maxL := 1) (by decide) rfl (rfl) (Nat.le_of_ble_eq_true rfl) ?_
  intro p e s m args below meth c Q G0 ls g hx hb hml hown hts hK hZ hP hS hl hret
  have hown : s.vm.findClass R_MO = some m.cls := hown
  have hl : lv_has ls 1 [(0, .ref (x.2.1 26))] := hl
  obtain ⟨H, eH⟩ : ∃ z, z = s.heap := ⟨_, rfl⟩
  obtain ⟨locs, eL⟩ : ∃ z, z = ([] : List Loc) := ⟨_, rfl⟩
  rw [← eH] at hP
  have hS : va_S (A0 x) s.heap H locs := by rw [eH, eL]; exact hS
  rw [← eL]
  have key : W p l e r_MO_state s m args below meth c H locs 0 0 Q (F0 m 0 ls []) := by
    clear eH eL
    unfold s_MO_state at h
    refine lv_aload_n hx hb d_MO_state_0 rfl (lv_at hl 0 rfl) ?_
    refine gf_MO_85 hx hb hts hown hK hP d_MO_state_1 ?_
    obtain rfl := Option.some.inj h
    exact hret d_MO_state_4 g hP hS
  rw [eH] at key
  exact key
