theorem d_MO_trapped_0 : decode b_MO_trapped 0 = .ok (.iconst 0, 1) := by decide +kernel
theorem d_MO_trapped_1 : decode b_MO_trapped 1 = .ok (.istore_n 1, 1) := by decide +kernel
theorem d_MO_trapped_2 : decode b_MO_trapped 2 = .ok (.iload_n 1, 1) := by decide +kernel
theorem d_MO_trapped_3 : decode b_MO_trapped 3 = .ok (.aload_n 0, 1) := by decide +kernel
theorem d_MO_trapped_4 : decode b_MO_trapped 4 = .ok (.getfield 184, 3) := by decide +kernel
theorem d_MO_trapped_7 : decode b_MO_trapped 7 = .ok (.if_icmp .ge 28, 3) := by decide +kernel
theorem d_MO_trapped_10 : decode b_MO_trapped 10 = .ok (.aload_n 0, 1) := by decide +kernel
theorem d_MO_trapped_11 : decode b_MO_trapped 11 = .ok (.iload_n 1, 1) := by decide +kernel
theorem d_MO_trapped_12 : decode b_MO_trapped 12 = .ok (.invokevirtual 187, 3) := by decide +kernel
theorem d_MO_trapped_15 : decode b_MO_trapped 15 = .ok (.ifCond .eq 14, 3) := by decide +kernel
theorem d_MO_trapped_18 : decode b_MO_trapped 18 = .ok (.aload_n 0, 1) := by decide +kernel
theorem d_MO_trapped_19 : decode b_MO_trapped 19 = .ok (.getfield 58, 3) := by decide +kernel
theorem d_MO_trapped_22 : decode b_MO_trapped 22 = .ok (.iload_n 1, 1) := by decide +kernel
theorem d_MO_trapped_23 : decode b_MO_trapped 23 = .ok (.dup2, 1) := by decide +kernel
theorem d_MO_trapped_24 : decode b_MO_trapped 24 = .ok (.iaload, 1) := by decide +kernel
theorem d_MO_trapped_25 : decode b_MO_trapped 25 = .ok (.iconst 1, 1) := by decide +kernel
theorem d_MO_trapped_26 : decode b_MO_trapped 26 = .ok (.iadd, 1) := by decide +kernel
theorem d_MO_trapped_27 : decode b_MO_trapped 27 = .ok (.iastore, 1) := by decide +kernel
theorem d_MO_trapped_28 : decode b_MO_trapped 28 = .ok (.return_, 1) := by decide +kernel
theorem d_MO_trapped_29 : decode b_MO_trapped 29 = .ok (.iinc 1 1, 3) := by decide +kernel
theorem d_MO_trapped_32 : decode b_MO_trapped 32 = .ok (.goto (-30), 3) := by decide +kernel
theorem d_MO_trapped_35 : decode b_MO_trapped 35 = .ok (.aload_n 0, 1) := by decide +kernel
theorem d_MO_trapped_36 : decode b_MO_trapped 36 = .ok (.getfield 184, 3) := by decide +kernel
theorem d_MO_trapped_39 : decode b_MO_trapped 39 = .ok (.bipush 8, 2) := by decide +kernel
theorem d_MO_trapped_41 : decode b_MO_trapped 41 = .ok (.if_icmp .ne 14, 3) := by decide +kernel
theorem d_MO_trapped_44 : decode b_MO_trapped 44 = .ok (.aload_n 0, 1) := by decide +kernel
theorem d_MO_trapped_45 : decode b_MO_trapped 45 = .ok (.dup, 1) := by decide +kernel
theorem d_MO_trapped_46 : decode b_MO_trapped 46 = .ok (.getfield 178, 3) := by decide +kernel
theorem d_MO_trapped_49 : decode b_MO_trapped 49 = .ok (.iconst 1, 1) := by decide +kernel
theorem d_MO_trapped_50 : decode b_MO_trapped 50 = .ok (.iadd, 1) := by decide +kernel
theorem d_MO_trapped_51 : decode b_MO_trapped 51 = .ok (.putfield 178, 3) := by decide +kernel
theorem d_MO_trapped_54 : decode b_MO_trapped 54 = .ok (.return_, 1) := by decide +kernel
theorem d_MO_trapped_55 : decode b_MO_trapped 55 = .ok (.aload_n 0, 1) := by decide +kernel
theorem d_MO_trapped_56 : decode b_MO_trapped 56 = .ok (.getfield 184, 3) := by decide +kernel
theorem d_MO_trapped_59 : decode b_MO_trapped 59 = .ok (.istore_n 1, 1) := by decide +kernel
theorem d_MO_trapped_60 : decode b_MO_trapped 60 = .ok (.aload_n 0, 1) := by decide +kernel
theorem d_MO_trapped_61 : decode b_MO_trapped 61 = .ok (.getfield 46, 3) := by decide +kernel
theorem d_MO_trapped_64 : decode b_MO_trapped 64 = .ok (.iload_n 1, 1) := by decide +kernel
theorem d_MO_trapped_65 : decode b_MO_trapped 65 = .ok (.aload_n 0, 1) := by decide +kernel
theorem d_MO_trapped_66 : decode b_MO_trapped 66 = .ok (.getfield 114, 3) := by decide +kernel
theorem d_MO_trapped_69 : decode b_MO_trapped 69 = .ok (.iastore, 1) := by decide +kernel
theorem d_MO_trapped_70 : decode b_MO_trapped 70 = .ok (.aload_n 0, 1) := by decide +kernel
theorem d_MO_trapped_71 : decode b_MO_trapped 71 = .ok (.getfield 49, 3) := by decide +kernel
theorem d_MO_trapped_74 : decode b_MO_trapped 74 = .ok (.iload_n 1, 1) := by decide +kernel
theorem d_MO_trapped_75 : decode b_MO_trapped 75 = .ok (.aload_n 0, 1) := by decide +kernel
theorem d_MO_trapped_76 : decode b_MO_trapped 76 = .ok (.getfield 120, 3) := by decide +kernel
theorem d_MO_trapped_79 : decode b_MO_trapped 79 = .ok (.iastore, 1) := by decide +kernel
theorem d_MO_trapped_80 : decode b_MO_trapped 80 = .ok (.aload_n 0, 1) := by decide +kernel
theorem d_MO_trapped_81 : decode b_MO_trapped 81 = .ok (.getfield 52, 3) := by decide +kernel
theorem d_MO_trapped_84 : decode b_MO_trapped 84 = .ok (.iload_n 1, 1) := by decide +kernel
theorem d_MO_trapped_85 : decode b_MO_trapped 85 = .ok (.aload_n 0, 1) := by decide +kernel
theorem d_MO_trapped_86 : decode b_MO_trapped 86 = .ok (.getfield 105, 3) := by decide +kernel
theorem d_MO_trapped_89 : decode b_MO_trapped 89 = .ok (.iastore, 1) := by decide +kernel
theorem d_MO_trapped_90 : decode b_MO_trapped 90 = .ok (.iconst 0, 1) := by decide +kernel
theorem d_MO_trapped_91 : decode b_MO_trapped 91 = .ok (.istore_n 2, 1) := by decide +kernel
theorem d_MO_trapped_92 : decode b_MO_trapped 92 = .ok (.iload_n 2, 1) := by decide +kernel
theorem d_MO_trapped_93 : decode b_MO_trapped 93 = .ok (.iconst 3, 1) := by decide +kernel
theorem d_MO_trapped_94 : decode b_MO_trapped 94 = .ok (.if_icmp .ge 37, 3) := by decide +kernel
theorem d_MO_trapped_97 : decode b_MO_trapped 97 = .ok (.aload_n 0, 1) := by decide +kernel
theorem d_MO_trapped_98 : decode b_MO_trapped 98 = .ok (.getfield 55, 3) := by decide +kernel
theorem d_MO_trapped_101 : decode b_MO_trapped 101 = .ok (.iconst 3, 1) := by decide +kernel
theorem d_MO_trapped_102 : decode b_MO_trapped 102 = .ok (.iload_n 1, 1) := by decide +kernel
theorem d_MO_trapped_103 : decode b_MO_trapped 103 = .ok (.imul, 1) := by decide +kernel
theorem d_MO_trapped_104 : decode b_MO_trapped 104 = .ok (.iload_n 2, 1) := by decide +kernel
theorem d_MO_trapped_105 : decode b_MO_trapped 105 = .ok (.iadd, 1) := by decide +kernel
theorem d_MO_trapped_106 : decode b_MO_trapped 106 = .ok (.iload_n 2, 1) := by decide +kernel
theorem d_MO_trapped_107 : decode b_MO_trapped 107 = .ok (.aload_n 0, 1) := by decide +kernel
theorem d_MO_trapped_108 : decode b_MO_trapped 108 = .ok (.getfield 105, 3) := by decide +kernel
theorem d_MO_trapped_111 : decode b_MO_trapped 111 = .ok (.if_icmp .ge 12, 3) := by decide +kernel
theorem d_MO_trapped_114 : decode b_MO_trapped 114 = .ok (.aload_n 0, 1) := by decide +kernel
theorem d_MO_trapped_115 : decode b_MO_trapped 115 = .ok (.getfield 31, 3) := by decide +kernel
theorem d_MO_trapped_118 : decode b_MO_trapped 118 = .ok (.iload_n 2, 1) := by decide +kernel
theorem d_MO_trapped_119 : decode b_MO_trapped 119 = .ok (.iaload, 1) := by decide +kernel
theorem d_MO_trapped_120 : decode b_MO_trapped 120 = .ok (.goto 4, 3) := by decide +kernel
theorem d_MO_trapped_123 : decode b_MO_trapped 123 = .ok (.iconst 0, 1) := by decide +kernel
theorem d_MO_trapped_124 : decode b_MO_trapped 124 = .ok (.iastore, 1) := by decide +kernel
theorem d_MO_trapped_125 : decode b_MO_trapped 125 = .ok (.iinc 2 1, 3) := by decide +kernel
theorem d_MO_trapped_128 : decode b_MO_trapped 128 = .ok (.goto (-36), 3) := by decide +kernel
theorem d_MO_trapped_131 : decode b_MO_trapped 131 = .ok (.aload_n 0, 1) := by decide +kernel
theorem d_MO_trapped_132 : decode b_MO_trapped 132 = .ok (.getfield 58, 3) := by decide +kernel
theorem d_MO_trapped_135 : decode b_MO_trapped 135 = .ok (.iload_n 1, 1) := by decide +kernel
theorem d_MO_trapped_136 : decode b_MO_trapped 136 = .ok (.iconst 1, 1) := by decide +kernel
theorem d_MO_trapped_137 : decode b_MO_trapped 137 = .ok (.iastore, 1) := by decide +kernel
theorem d_MO_trapped_138 : decode b_MO_trapped 138 = .ok (.aload_n 0, 1) := by decide +kernel
theorem d_MO_trapped_139 : decode b_MO_trapped 139 = .ok (.getfield 64, 3) := by decide +kernel
theorem d_MO_trapped_142 : decode b_MO_trapped 142 = .ok (.iload_n 1, 1) := by decide +kernel
theorem d_MO_trapped_143 : decode b_MO_trapped 143 = .ok (.aload_n 0, 1) := by decide +kernel
theorem d_MO_trapped_144 : decode b_MO_trapped 144 = .ok (.getfield 139, 3) := by decide +kernel
theorem d_MO_trapped_147 : decode b_MO_trapped 147 = .ok (.iastore, 1) := by decide +kernel
theorem d_MO_trapped_148 : decode b_MO_trapped 148 = .ok (.iconst 0, 1) := by decide +kernel
theorem d_MO_trapped_149 : decode b_MO_trapped 149 = .ok (.istore_n 2, 1) := by decide +kernel
theorem d_MO_trapped_150 : decode b_MO_trapped 150 = .ok (.iload_n 2, 1) := by decide +kernel
theorem d_MO_trapped_151 : decode b_MO_trapped 151 = .ok (.aload_n 0, 1) := by decide +kernel
theorem d_MO_trapped_152 : decode b_MO_trapped 152 = .ok (.getfield 139, 3) := by decide +kernel
theorem d_MO_trapped_155 : decode b_MO_trapped 155 = .ok (.if_icmp .ge 43, 3) := by decide +kernel
theorem d_MO_trapped_158 : decode b_MO_trapped 158 = .ok (.aload_n 0, 1) := by decide +kernel
theorem d_MO_trapped_159 : decode b_MO_trapped 159 = .ok (.getfield 61, 3) := by decide +kernel
theorem d_MO_trapped_162 : decode b_MO_trapped 162 = .ok (.bipush 6, 2) := by decide +kernel
theorem d_MO_trapped_164 : decode b_MO_trapped 164 = .ok (.iload_n 1, 1) := by decide +kernel
theorem d_MO_trapped_165 : decode b_MO_trapped 165 = .ok (.imul, 1) := by decide +kernel
theorem d_MO_trapped_166 : decode b_MO_trapped 166 = .ok (.iload_n 2, 1) := by decide +kernel
theorem d_MO_trapped_167 : decode b_MO_trapped 167 = .ok (.iadd, 1) := by decide +kernel
theorem d_MO_trapped_168 : decode b_MO_trapped 168 = .ok (.aload_n 0, 1) := by decide +kernel
theorem d_MO_trapped_169 : decode b_MO_trapped 169 = .ok (.getfield 82, 3) := by decide +kernel
theorem d_MO_trapped_172 : decode b_MO_trapped 172 = .ok (.iload_n 2, 1) := by decide +kernel
theorem d_MO_trapped_173 : decode b_MO_trapped 173 = .ok (.iaload, 1) := by decide +kernel
theorem d_MO_trapped_174 : decode b_MO_trapped 174 = .ok (.iastore, 1) := by decide +kernel
theorem d_MO_trapped_175 : decode b_MO_trapped 175 = .ok (.aload_n 0, 1) := by decide +kernel
theorem d_MO_trapped_176 : decode b_MO_trapped 176 = .ok (.getfield 67, 3) := by decide +kernel
theorem d_MO_trapped_179 : decode b_MO_trapped 179 = .ok (.bipush 6, 2) := by decide +kernel
theorem d_MO_trapped_181 : decode b_MO_trapped 181 = .ok (.iload_n 1, 1) := by decide +kernel
theorem d_MO_trapped_182 : decode b_MO_trapped 182 = .ok (.imul, 1) := by decide +kernel
theorem d_MO_trapped_183 : decode b_MO_trapped 183 = .ok (.iload_n 2, 1) := by decide +kernel
theorem d_MO_trapped_184 : decode b_MO_trapped 184 = .ok (.iadd, 1) := by decide +kernel
theorem d_MO_trapped_185 : decode b_MO_trapped 185 = .ok (.aload_n 0, 1) := by decide +kernel
theorem d_MO_trapped_186 : decode b_MO_trapped 186 = .ok (.getfield 82, 3) := by decide +kernel
theorem d_MO_trapped_189 : decode b_MO_trapped 189 = .ok (.iload_n 2, 1) := by decide +kernel
theorem d_MO_trapped_190 : decode b_MO_trapped 190 = .ok (.iaload, 1) := by decide +kernel
theorem d_MO_trapped_191 : decode b_MO_trapped 191 = .ok (.iastore, 1) := by decide +kernel
theorem d_MO_trapped_192 : decode b_MO_trapped 192 = .ok (.iinc 2 1, 3) := by decide +kernel
theorem d_MO_trapped_195 : decode b_MO_trapped 195 = .ok (.goto (-45), 3) := by decide +kernel
theorem d_MO_trapped_198 : decode b_MO_trapped 198 = .ok (.aload_n 0, 1) := by decide +kernel
theorem d_MO_trapped_199 : decode b_MO_trapped 199 = .ok (.getfield 70, 3) := by decide +kernel
theorem d_MO_trapped_202 : decode b_MO_trapped 202 = .ok (.iload_n 1, 1) := by decide +kernel
theorem d_MO_trapped_203 : decode b_MO_trapped 203 = .ok (.aload_n 0, 1) := by decide +kernel
theorem d_MO_trapped_204 : decode b_MO_trapped 204 = .ok (.getfield 139, 3) := by decide +kernel
theorem d_MO_trapped_207 : decode b_MO_trapped 207 = .ok (.iastore, 1) := by decide +kernel
theorem d_MO_trapped_208 : decode b_MO_trapped 208 = .ok (.aload_n 0, 1) := by decide +kernel
theorem d_MO_trapped_209 : decode b_MO_trapped 209 = .ok (.iload_n 1, 1) := by decide +kernel
theorem d_MO_trapped_210 : decode b_MO_trapped 210 = .ok (.invokevirtual 191, 3) := by decide +kernel
theorem d_MO_trapped_213 : decode b_MO_trapped 213 = .ok (.aload_n 0, 1) := by decide +kernel
theorem d_MO_trapped_214 : decode b_MO_trapped 214 = .ok (.dup, 1) := by decide +kernel
theorem d_MO_trapped_215 : decode b_MO_trapped 215 = .ok (.getfield 184, 3) := by decide +kernel
theorem d_MO_trapped_218 : decode b_MO_trapped 218 = .ok (.iconst 1, 1) := by decide +kernel
theorem d_MO_trapped_219 : decode b_MO_trapped 219 = .ok (.iadd, 1) := by decide +kernel
theorem d_MO_trapped_220 : decode b_MO_trapped 220 = .ok (.putfield 184, 3) := by decide +kernel
theorem d_MO_trapped_223 : decode b_MO_trapped 223 = .ok (.return_, 1) := by decide +kernel
noncomputable def j_MO_trapped_198 (a21 : Int32) (M22 : Mem) : Option (Mem) :=
  ck a21 8 (nx (st M22 47 a21.toNatClampNeg (M22 26 44)) (fun M24 => bv (s_MO_shorten a21 M24) (fun M25 => nx (st M25 26 22 ((M25 26 22) + (1 : Int32))) (fun M27 => some M27))))
noncomputable def l_MO_trapped_150 (a28 : Int32) (v35 : Int32) (M36 : Mem) : Option ((Int32 × Mem) ⊕ (Mem)) :=
  if (M36 26 44) ≤ v35 then (jw1 (j_MO_trapped_198 a28 M36)) else (ck v35 6 (ck (((6 : Int32) * a28) + v35) 48 (nx (st M36 44 (((6 : Int32) * a28) + v35).toNatClampNeg (M36 51 v35.toNatClampNeg)) (fun M39 => ck v35 6 (ck (((6 : Int32) * a28) + v35) 48 (nx (st M39 46 (((6 : Int32) * a28) + v35).toNatClampNeg (M39 51 v35.toNatClampNeg)) (fun M42 => nx (v35 + (1 : Int32)) (fun v43 => some (.inl (v43, M42))))))))))
noncomputable def j_MO_trapped_131 (a28 : Int32) (M29 : Mem) : Option (Mem) :=
  ck a28 8 (nx (st M29 43 a28.toNatClampNeg (1 : Int32)) (fun M31 => ck a28 8 (nx (st M31 45 a28.toNatClampNeg (M31 26 44)) (fun M33 => nx ((0 : Int32)) (fun v34 => lp (fun q : Int32 × Mem => l_MO_trapped_150 a28 q.1 q.2) (v34, M33))))))
noncomputable def j_MO_trapped_124 (v45 : Int32) (a55 : Int32) (a56 : Int32) (a57 : Int32) (M58 : Mem) : Option ((Int32 × Mem) ⊕ Mem) :=
  ck a57 24 (nx (st M58 42 a57.toNatClampNeg a56) (fun M60 => nx (a55 + (1 : Int32)) (fun v61 => some (.inl (v61, M60)))))
noncomputable def l_MO_trapped_92 (v45 : Int32) (v53 : Int32) (M54 : Mem) : Option ((Int32 × Mem) ⊕ (Mem)) :=
  if (3 : Int32) ≤ v53 then (jw1 (j_MO_trapped_131 v45 M54)) else (if (M54 26 12) ≤ v53 then (j_MO_trapped_124 v45 v53 (0 : Int32) (((3 : Int32) * v45) + v53) M54) else (ck v53 3 (j_MO_trapped_124 v45 v53 (M54 34 v53.toNatClampNeg) (((3 : Int32) * v45) + v53) M54)))
noncomputable def j_MO_trapped_35  (M44 : Mem) : Option (Mem) :=
  if (M44 26 22) = (8 : Int32) then (nx (st M44 26 34 ((M44 26 34) + (1 : Int32))) (fun M63 => some M63)) else (nx (M44 26 22) (fun v45 => ck v45 8 (nx (st M44 39 v45.toNatClampNeg (M44 26 16)) (fun M47 => ck v45 8 (nx (st M47 40 v45.toNatClampNeg (M47 26 14)) (fun M49 => ck v45 8 (nx (st M49 41 v45.toNatClampNeg (M49 26 12)) (fun M51 => nx ((0 : Int32)) (fun v52 => lp (fun q : Int32 × Mem => l_MO_trapped_92 v45 q.1 q.2) (v52, M51))))))))))
noncomputable def j_MO_trapped_18 (a64 : Int32) (M65 : Mem) : Option (Mem) :=
  ck a64 8 (ck a64 8 (nx (st M65 43 a64.toNatClampNeg ((M65 43 a64.toNatClampNeg) + (1 : Int32))) (fun M68 => some M68)))
noncomputable def l_MO_trapped_2  (v70 : Int32) (M71 : Mem) : Option ((Int32 × Mem) ⊕ (Mem)) :=
  if (M71 26 22) ≤ v70 then (jw1 (j_MO_trapped_35 M71)) else (bi (s_MO_signed v70 M71) (fun r74 M72 => if r74 = 0 then (nx (v70 + (1 : Int32)) (fun v75 => some (.inl (v75, M72)))) else (jw1 (j_MO_trapped_18 v70 M72))))
noncomputable def s_MO_trapped  (M : Mem) : Option (Mem) :=
  nx ((0 : Int32)) (fun v69 => lp (fun q : Int32 × Mem => l_MO_trapped_2 q.1 q.2) (v69, M))
set_option maxHeartbeats 4000000 in
set_option maxRecDepth 100000 in
theorem c_MO_trapped (l : Launch) (x : Cx) (hJ : Inj x)  {M : Mem} {out : Mem} (h : s_MO_trapped M = some out) : Cv l x y_MO_trapped (Cond.code y_MO_trapped b_MO_trapped 3 none :: tb) r_MO_trapped [.ref (x.2.1 26)] M out := by
  refine ofCv (cc := b_MO_trapped) (maxL := 3) (by decide) rfl (rfl) (Nat.le_of_ble_eq_true rfl) ?_
  intro p e s m args below meth c Q G0 ls g hx hb hml hown hts hK hZ hP hS hl hret
  have hown : s.vm.findClass R_MO = some m.cls := hown
  have hl : lv_has ls 3 [(0, .ref (x.2.1 26))] := hl
  obtain ⟨H, eH⟩ : ∃ z, z = s.heap := ⟨_, rfl⟩
  obtain ⟨locs, eL⟩ : ∃ z, z = ([] : List Loc) := ⟨_, rfl⟩
  rw [← eH] at hP
  have hS : va_S (A0 x) s.heap H locs := by rw [eH, eL]; exact hS
  rw [← eL]
  have key : W p l e r_MO_trapped s m args below meth c H locs 0 0 Q (F0 m 0 ls []) := by
    clear eH eL
    unfold s_MO_trapped at h
    have J198 : ∀ (a21 : Int32) (M22 : Mem)  (res : Mem) (h : j_MO_trapped_198 a21 M22 = some res) (g : G0 res) (H : Heap) (locs : List Loc) (ls : Array Slot) (hP : va_P x.1 vwCl (wld x M22) H) (hS : va_S (A0 x) s.heap H locs) (hl : lv_has ls 3 [(0, .ref (x.2.1 26)), (1, .int a21)]), W p l e r_MO_trapped s m args below meth c H locs 0 0 Q (F0 m 198 ls []) := by
      intro a21 M22 res h g H locs ls hP hS hl
      unfold j_MO_trapped_198 at h
      refine lv_aload_n hx hb d_MO_trapped_198 rfl (lv_at hl 0 rfl) ?_
      refine gf_MO_70 hx hb hts hown hK hP d_MO_trapped_199 ?_
      refine lv_iload_n hx hb d_MO_trapped_202 rfl (lv_at hl 1 rfl) ?_
      refine lv_aload_n hx hb d_MO_trapped_203 rfl (lv_at hl 0 rfl) ?_
      refine gf_MO_139 hx hb hts hown hK hP d_MO_trapped_204 ?_
      obtain ⟨b23, h⟩ := ck_e h
      obtain ⟨M24, eM24, h⟩ := nx_e h
      refine m_ast hx hb hK hJ hP hS ar_MO_briefLength b23 eM24 d_MO_trapped_207 (fun H locs hP hS => ?_)
      refine lv_aload_n hx hb d_MO_trapped_208 rfl (lv_at hl 0 rfl) ?_
      refine lv_iload_n hx hb d_MO_trapped_209 rfl (lv_at hl 1 rfl) ?_
      obtain ⟨M25, c26, h⟩ := bv_e h
      refine cl_MO_191 (rest := []) (R := r_MO_trapped) (c_MO_shorten l x hJ a21 c26) hx hb hml hts hown hK hZ hP hS hl.1 (Nat.le_of_ble_eq_true rfl) (Nat.le_of_ble_eq_true rfl) (Nat.le_of_ble_eq_true rfl) ⟨rfl, rfl, Nat.zero_le _, Nat.zero_le _⟩ d_MO_trapped_210 (fun H locs hP hS => ?_)
      refine lv_aload_n hx hb d_MO_trapped_213 rfl (lv_at hl 0 rfl) ?_
      refine lv_dup hx hb d_MO_trapped_214 rfl ?_
      refine gf_MO_184 hx hb hts hown hK hP d_MO_trapped_215 ?_
      refine lv_iconst (v := (1 : Int32)) hx hb d_MO_trapped_218 (by decide) ?_
      refine lv_iadd hx hb d_MO_trapped_219 ?_
      obtain ⟨M27, eM27, h⟩ := nx_e h
      refine pf_MO_184 hx hb hts hown hK hJ hP hS eM27 d_MO_trapped_220 (fun H locs hP hS => ?_)
      obtain rfl := Option.some.inj h
      exact hret d_MO_trapped_223 g hP hS
    have J131 : ∀ (a28 : Int32) (M29 : Mem)  (res : Mem) (h : j_MO_trapped_131 a28 M29 = some res) (g : G0 res) (H : Heap) (locs : List Loc) (ls : Array Slot) (hP : va_P x.1 vwCl (wld x M29) H) (hS : va_S (A0 x) s.heap H locs) (hl : lv_has ls 3 [(0, .ref (x.2.1 26)), (1, .int a28)]), W p l e r_MO_trapped s m args below meth c H locs 0 0 Q (F0 m 131 ls []) := by
      intro a28 M29 res h g H locs ls hP hS hl
      unfold j_MO_trapped_131 at h
      refine lv_aload_n hx hb d_MO_trapped_131 rfl (lv_at hl 0 rfl) ?_
      refine gf_MO_58 hx hb hts hown hK hP d_MO_trapped_132 ?_
      refine lv_iload_n hx hb d_MO_trapped_135 rfl (lv_at hl 1 rfl) ?_
      refine lv_iconst (v := (1 : Int32)) hx hb d_MO_trapped_136 (by decide) ?_
      obtain ⟨b30, h⟩ := ck_e h
      obtain ⟨M31, eM31, h⟩ := nx_e h
      refine m_ast hx hb hK hJ hP hS ar_MO_hits b30 eM31 d_MO_trapped_137 (fun H locs hP hS => ?_)
      refine lv_aload_n hx hb d_MO_trapped_138 rfl (lv_at hl 0 rfl) ?_
      refine gf_MO_64 hx hb hts hown hK hP d_MO_trapped_139 ?_
      refine lv_iload_n hx hb d_MO_trapped_142 rfl (lv_at hl 1 rfl) ?_
      refine lv_aload_n hx hb d_MO_trapped_143 rfl (lv_at hl 0 rfl) ?_
      refine gf_MO_139 hx hb hts hown hK hP d_MO_trapped_144 ?_
      obtain ⟨b32, h⟩ := ck_e h
      obtain ⟨M33, eM33, h⟩ := nx_e h
      refine m_ast hx hb hK hJ hP hS ar_MO_foundLength b32 eM33 d_MO_trapped_147 (fun H locs hP hS => ?_)
      refine lv_iconst (v := (0 : Int32)) hx hb d_MO_trapped_148 (by decide) ?_
      obtain ⟨v34, ev34, h⟩ := nx_e h
      refine tp_i ev34 ?_
      refine lv_istore_n hx hb d_MO_trapped_149 rfl hl (by decide) rfl (fun ls hl => ?_)
      have hl : lv_has ls 3 [(2, .int v34), (0, .ref (x.2.1 26)), (1, .int a28)] := hl
      obtain ⟨P150, eP150⟩ : ∃ P : (Int32 × Mem) → Prop, P = (fun q => ∀ (H : Heap) (locs : List Loc) (ls : Array Slot), va_P x.1 vwCl (wld x (q.2)) H → va_S (A0 x) s.heap H locs → lv_has ls 3 [(0, .ref (x.2.1 26)), (1, .int a28), (2, .int (q.1))] → W p l e r_MO_trapped s m args below meth c H locs 0 0 Q (F0 m 150 ls [])) := ⟨_, rfl⟩
      have L150 : P150 (v34, M33) := by
        refine lp_walk (G := G0) ?_ h g
        intro q res h g
        obtain ⟨v35, M36⟩ := q
        rw [eP150]
        intro H locs ls hP hS hl
        have hP : va_P x.1 vwCl (wld x M36) H := hP
        have hl : lv_has ls 3 [(0, .ref (x.2.1 26)), (1, .int a28), (2, .int v35)] := hl
        have h : l_MO_trapped_150 a28 v35 M36 = some res := h
        unfold l_MO_trapped_150 at h
        refine lv_iload_n hx hb d_MO_trapped_150 rfl (lv_at hl 2 rfl) ?_
        refine lv_aload_n hx hb d_MO_trapped_151 rfl (lv_at hl 0 rfl) ?_
        refine gf_MO_139 hx hb hts hown hK hP d_MO_trapped_152 ?_
        refine lv_icmp_ge (tgt := 198) hx hb d_MO_trapped_155 rfl (fun hc => ?_) (fun hc => ?_)
        · have h := if_p hc h
          obtain ⟨res2, hres, h2⟩ := jw1_e h
          clear h
          subst hres
          have h := h2
          exact J198 a28 M36 _ h g H locs ls hP hS (lv_sub hl [0, 1] rfl)
        · have h := if_m hc h
          refine lv_aload_n hx hb d_MO_trapped_158 rfl (lv_at hl 0 rfl) ?_
          refine gf_MO_61 hx hb hts hown hK hP d_MO_trapped_159 ?_
          refine lv_bipush (v := (6 : Int32)) hx hb d_MO_trapped_162 (by decide) ?_
          refine lv_iload_n hx hb d_MO_trapped_164 rfl (lv_at hl 1 rfl) ?_
          refine lv_imul hx hb d_MO_trapped_165 ?_
          refine lv_iload_n hx hb d_MO_trapped_166 rfl (lv_at hl 2 rfl) ?_
          refine lv_iadd hx hb d_MO_trapped_167 ?_
          refine lv_aload_n hx hb d_MO_trapped_168 rfl (lv_at hl 0 rfl) ?_
          refine gf_MO_82 hx hb hts hown hK hP d_MO_trapped_169 ?_
          refine lv_iload_n hx hb d_MO_trapped_172 rfl (lv_at hl 2 rfl) ?_
          obtain ⟨b37, h⟩ := ck_e h
          refine m_ald hx hb hK hP ar_MO_cur b37 d_MO_trapped_173 ?_
          obtain ⟨b38, h⟩ := ck_e h
          obtain ⟨M39, eM39, h⟩ := nx_e h
          refine m_ast hx hb hK hJ hP hS ar_MO_found b38 eM39 d_MO_trapped_174 (fun H locs hP hS => ?_)
          refine lv_aload_n hx hb d_MO_trapped_175 rfl (lv_at hl 0 rfl) ?_
          refine gf_MO_67 hx hb hts hown hK hP d_MO_trapped_176 ?_
          refine lv_bipush (v := (6 : Int32)) hx hb d_MO_trapped_179 (by decide) ?_
          refine lv_iload_n hx hb d_MO_trapped_181 rfl (lv_at hl 1 rfl) ?_
          refine lv_imul hx hb d_MO_trapped_182 ?_
          refine lv_iload_n hx hb d_MO_trapped_183 rfl (lv_at hl 2 rfl) ?_
          refine lv_iadd hx hb d_MO_trapped_184 ?_
          refine lv_aload_n hx hb d_MO_trapped_185 rfl (lv_at hl 0 rfl) ?_
          refine gf_MO_82 hx hb hts hown hK hP d_MO_trapped_186 ?_
          refine lv_iload_n hx hb d_MO_trapped_189 rfl (lv_at hl 2 rfl) ?_
          obtain ⟨b40, h⟩ := ck_e h
          refine m_ald hx hb hK hP ar_MO_cur b40 d_MO_trapped_190 ?_
          obtain ⟨b41, h⟩ := ck_e h
          obtain ⟨M42, eM42, h⟩ := nx_e h
          refine m_ast hx hb hK hJ hP hS ar_MO_brief b41 eM42 d_MO_trapped_191 (fun H locs hP hS => ?_)
          obtain ⟨v43, ev43, h⟩ := nx_e h
          refine lv_iinc (k := 2) hx hb d_MO_trapped_192 hl rfl (iinc_v (k := (1 : Int32)) (by decide) ev43) (by decide) rfl (fun ls hl => ?_)
          have hl : lv_has ls 3 [(2, .int v43), (0, .ref (x.2.1 26)), (1, .int a28)] := hl
          refine lv_goto (tgt := 150) hx hb d_MO_trapped_195 rfl ?_
          obtain rfl := Option.some.inj h
          have g : P150 (v43, M42) := g
          rw [eP150] at g
          exact g H locs ls hP hS (lv_sub hl [1, 2, 0] rfl)
      rw [eP150] at L150
      exact L150 H locs ls hP hS (lv_sub hl [1, 2, 0] rfl)
    have J35 : ∀  (M44 : Mem)  (res : Mem) (h : j_MO_trapped_35 M44 = some res) (g : G0 res) (H : Heap) (locs : List Loc) (ls : Array Slot) (hP : va_P x.1 vwCl (wld x M44) H) (hS : va_S (A0 x) s.heap H locs) (hl : lv_has ls 3 [(0, .ref (x.2.1 26))]), W p l e r_MO_trapped s m args below meth c H locs 0 0 Q (F0 m 35 ls []) := by
      intro M44 res h g H locs ls hP hS hl
      unfold j_MO_trapped_35 at h
      refine lv_aload_n hx hb d_MO_trapped_35 rfl (lv_at hl 0 rfl) ?_
      refine gf_MO_184 hx hb hts hown hK hP d_MO_trapped_36 ?_
      refine lv_bipush (v := (8 : Int32)) hx hb d_MO_trapped_39 (by decide) ?_
      refine lv_icmp_ne (tgt := 55) hx hb d_MO_trapped_41 rfl (fun hc => ?_) (fun hc => ?_)
      · have h := if_m hc h
        refine lv_aload_n hx hb d_MO_trapped_55 rfl (lv_at hl 0 rfl) ?_
        refine gf_MO_184 hx hb hts hown hK hP d_MO_trapped_56 ?_
        obtain ⟨v45, ev45, h⟩ := nx_e h
        refine tp_i ev45 ?_
        refine lv_istore_n hx hb d_MO_trapped_59 rfl hl (by decide) rfl (fun ls hl => ?_)
        have hl : lv_has ls 3 [(1, .int v45), (0, .ref (x.2.1 26))] := hl
        refine lv_aload_n hx hb d_MO_trapped_60 rfl (lv_at hl 1 rfl) ?_
        refine gf_MO_46 hx hb hts hown hK hP d_MO_trapped_61 ?_
        refine lv_iload_n hx hb d_MO_trapped_64 rfl (lv_at hl 0 rfl) ?_
        refine lv_aload_n hx hb d_MO_trapped_65 rfl (lv_at hl 1 rfl) ?_
        refine gf_MO_114 hx hb hts hown hK hP d_MO_trapped_66 ?_
        obtain ⟨b46, h⟩ := ck_e h
        obtain ⟨M47, eM47, h⟩ := nx_e h
        refine m_ast hx hb hK hJ hP hS ar_MO_traps b46 eM47 d_MO_trapped_69 (fun H locs hP hS => ?_)
        refine lv_aload_n hx hb d_MO_trapped_70 rfl (lv_at hl 1 rfl) ?_
        refine gf_MO_49 hx hb hts hown hK hP d_MO_trapped_71 ?_
        refine lv_iload_n hx hb d_MO_trapped_74 rfl (lv_at hl 0 rfl) ?_
        refine lv_aload_n hx hb d_MO_trapped_75 rfl (lv_at hl 1 rfl) ?_
        refine gf_MO_120 hx hb hts hown hK hP d_MO_trapped_76 ?_
        obtain ⟨b48, h⟩ := ck_e h
        obtain ⟨M49, eM49, h⟩ := nx_e h
        refine m_ast hx hb hK hJ hP hS ar_MO_places b48 eM49 d_MO_trapped_79 (fun H locs hP hS => ?_)
        refine lv_aload_n hx hb d_MO_trapped_80 rfl (lv_at hl 1 rfl) ?_
        refine gf_MO_52 hx hb hts hown hK hP d_MO_trapped_81 ?_
        refine lv_iload_n hx hb d_MO_trapped_84 rfl (lv_at hl 0 rfl) ?_
        refine lv_aload_n hx hb d_MO_trapped_85 rfl (lv_at hl 1 rfl) ?_
        refine gf_MO_105 hx hb hts hown hK hP d_MO_trapped_86 ?_
        obtain ⟨b50, h⟩ := ck_e h
        obtain ⟨M51, eM51, h⟩ := nx_e h
        refine m_ast hx hb hK hJ hP hS ar_MO_depths b50 eM51 d_MO_trapped_89 (fun H locs hP hS => ?_)
        refine lv_iconst (v := (0 : Int32)) hx hb d_MO_trapped_90 (by decide) ?_
        obtain ⟨v52, ev52, h⟩ := nx_e h
        refine tp_i ev52 ?_
        refine lv_istore_n hx hb d_MO_trapped_91 rfl hl (by decide) rfl (fun ls hl => ?_)
        have hl : lv_has ls 3 [(2, .int v52), (1, .int v45), (0, .ref (x.2.1 26))] := hl
        obtain ⟨P92, eP92⟩ : ∃ P : (Int32 × Mem) → Prop, P = (fun q => ∀ (H : Heap) (locs : List Loc) (ls : Array Slot), va_P x.1 vwCl (wld x (q.2)) H → va_S (A0 x) s.heap H locs → lv_has ls 3 [(0, .ref (x.2.1 26)), (1, .int v45), (2, .int (q.1))] → W p l e r_MO_trapped s m args below meth c H locs 0 0 Q (F0 m 92 ls [])) := ⟨_, rfl⟩
        have L92 : P92 (v52, M51) := by
          refine lp_walk (G := G0) ?_ h g
          intro q res h g
          obtain ⟨v53, M54⟩ := q
          rw [eP92]
          intro H locs ls hP hS hl
          have hP : va_P x.1 vwCl (wld x M54) H := hP
          have hl : lv_has ls 3 [(0, .ref (x.2.1 26)), (1, .int v45), (2, .int v53)] := hl
          have h : l_MO_trapped_92 v45 v53 M54 = some res := h
          unfold l_MO_trapped_92 at h
          have J124 : ∀ (a55 : Int32) (a56 : Int32) (a57 : Int32) (M58 : Mem)  (res : (Int32 × Mem) ⊕ Mem) (h : j_MO_trapped_124 v45 a55 a56 a57 M58 = some res) (g : (lpG P92 G0) res) (H : Heap) (locs : List Loc) (ls : Array Slot) (hP : va_P x.1 vwCl (wld x M58) H) (hS : va_S (A0 x) s.heap H locs) (hl : lv_has ls 3 [(0, .ref (x.2.1 26)), (1, .int v45), (2, .int a55)]), W p l e r_MO_trapped s m args below meth c H locs 0 0 Q (F0 m 124 ls [.int a56, .int a57, .ref (x.2.1 42)]) := by
            intro a55 a56 a57 M58 res h g H locs ls hP hS hl
            unfold j_MO_trapped_124 at h
            obtain ⟨b59, h⟩ := ck_e h
            obtain ⟨M60, eM60, h⟩ := nx_e h
            refine m_ast hx hb hK hJ hP hS ar_MO_stacks b59 eM60 d_MO_trapped_124 (fun H locs hP hS => ?_)
            obtain ⟨v61, ev61, h⟩ := nx_e h
            refine lv_iinc (k := 2) hx hb d_MO_trapped_125 hl rfl (iinc_v (k := (1 : Int32)) (by decide) ev61) (by decide) rfl (fun ls hl => ?_)
            have hl : lv_has ls 3 [(2, .int v61), (0, .ref (x.2.1 26)), (1, .int v45)] := hl
            refine lv_goto (tgt := 92) hx hb d_MO_trapped_128 rfl ?_
            obtain rfl := Option.some.inj h
            have g : P92 (v61, M60) := g
            rw [eP92] at g
            exact g H locs ls hP hS (lv_sub hl [1, 2, 0] rfl)
          refine lv_iload_n hx hb d_MO_trapped_92 rfl (lv_at hl 2 rfl) ?_
          refine lv_iconst (v := (3 : Int32)) hx hb d_MO_trapped_93 (by decide) ?_
          refine lv_icmp_ge (tgt := 131) hx hb d_MO_trapped_94 rfl (fun hc => ?_) (fun hc => ?_)
          · have h := if_p hc h
            obtain ⟨res2, hres, h2⟩ := jw1_e h
            clear h
            subst hres
            have h := h2
            exact J131 v45 M54 _ h g H locs ls hP hS (lv_sub hl [0, 1] rfl)
          · have h := if_m hc h
            refine lv_aload_n hx hb d_MO_trapped_97 rfl (lv_at hl 0 rfl) ?_
            refine gf_MO_55 hx hb hts hown hK hP d_MO_trapped_98 ?_
            refine lv_iconst (v := (3 : Int32)) hx hb d_MO_trapped_101 (by decide) ?_
            refine lv_iload_n hx hb d_MO_trapped_102 rfl (lv_at hl 1 rfl) ?_
            refine lv_imul hx hb d_MO_trapped_103 ?_
            refine lv_iload_n hx hb d_MO_trapped_104 rfl (lv_at hl 2 rfl) ?_
            refine lv_iadd hx hb d_MO_trapped_105 ?_
            refine lv_iload_n hx hb d_MO_trapped_106 rfl (lv_at hl 2 rfl) ?_
            refine lv_aload_n hx hb d_MO_trapped_107 rfl (lv_at hl 0 rfl) ?_
            refine gf_MO_105 hx hb hts hown hK hP d_MO_trapped_108 ?_
            refine lv_icmp_ge (tgt := 123) hx hb d_MO_trapped_111 rfl (fun hc => ?_) (fun hc => ?_)
            · have h := if_p hc h
              refine lv_iconst (v := (0 : Int32)) hx hb d_MO_trapped_123 (by decide) ?_
              exact J124 v53 (0 : Int32) (((3 : Int32) * v45) + v53) M54 _ h g H locs ls hP hS (lv_sub hl [0, 1, 2] rfl)
            · have h := if_m hc h
              refine lv_aload_n hx hb d_MO_trapped_114 rfl (lv_at hl 0 rfl) ?_
              refine gf_MO_31 hx hb hts hown hK hP d_MO_trapped_115 ?_
              refine lv_iload_n hx hb d_MO_trapped_118 rfl (lv_at hl 2 rfl) ?_
              obtain ⟨b62, h⟩ := ck_e h
              refine m_ald hx hb hK hP ar_MO_stack b62 d_MO_trapped_119 ?_
              refine lv_goto (tgt := 124) hx hb d_MO_trapped_120 rfl ?_
              exact J124 v53 (M54 34 v53.toNatClampNeg) (((3 : Int32) * v45) + v53) M54 _ h g H locs ls hP hS (lv_sub hl [0, 1, 2] rfl)
        rw [eP92] at L92
        exact L92 H locs ls hP hS (lv_sub hl [2, 1, 0] rfl)
      · have h := if_p hc h
        refine lv_aload_n hx hb d_MO_trapped_44 rfl (lv_at hl 0 rfl) ?_
        refine lv_dup hx hb d_MO_trapped_45 rfl ?_
        refine gf_MO_178 hx hb hts hown hK hP d_MO_trapped_46 ?_
        refine lv_iconst (v := (1 : Int32)) hx hb d_MO_trapped_49 (by decide) ?_
        refine lv_iadd hx hb d_MO_trapped_50 ?_
        obtain ⟨M63, eM63, h⟩ := nx_e h
        refine pf_MO_178 hx hb hts hown hK hJ hP hS eM63 d_MO_trapped_51 (fun H locs hP hS => ?_)
        obtain rfl := Option.some.inj h
        exact hret d_MO_trapped_54 g hP hS
    have J18 : ∀ (a64 : Int32) (M65 : Mem)  (res : Mem) (h : j_MO_trapped_18 a64 M65 = some res) (g : G0 res) (H : Heap) (locs : List Loc) (ls : Array Slot) (hP : va_P x.1 vwCl (wld x M65) H) (hS : va_S (A0 x) s.heap H locs) (hl : lv_has ls 3 [(0, .ref (x.2.1 26)), (1, .int a64)]), W p l e r_MO_trapped s m args below meth c H locs 0 0 Q (F0 m 18 ls []) := by
      intro a64 M65 res h g H locs ls hP hS hl
      unfold j_MO_trapped_18 at h
      refine lv_aload_n hx hb d_MO_trapped_18 rfl (lv_at hl 0 rfl) ?_
      refine gf_MO_58 hx hb hts hown hK hP d_MO_trapped_19 ?_
      refine lv_iload_n hx hb d_MO_trapped_22 rfl (lv_at hl 1 rfl) ?_
      refine lv_dup2_11 hx hb d_MO_trapped_23 rfl rfl ?_
      obtain ⟨b66, h⟩ := ck_e h
      refine m_ald hx hb hK hP ar_MO_hits b66 d_MO_trapped_24 ?_
      refine lv_iconst (v := (1 : Int32)) hx hb d_MO_trapped_25 (by decide) ?_
      refine lv_iadd hx hb d_MO_trapped_26 ?_
      obtain ⟨b67, h⟩ := ck_e h
      obtain ⟨M68, eM68, h⟩ := nx_e h
      refine m_ast hx hb hK hJ hP hS ar_MO_hits b67 eM68 d_MO_trapped_27 (fun H locs hP hS => ?_)
      obtain rfl := Option.some.inj h
      exact hret d_MO_trapped_28 g hP hS
    refine lv_iconst (v := (0 : Int32)) hx hb d_MO_trapped_0 (by decide) ?_
    obtain ⟨v69, ev69, h⟩ := nx_e h
    refine tp_i ev69 ?_
    refine lv_istore_n hx hb d_MO_trapped_1 rfl hl (by decide) rfl (fun ls hl => ?_)
    have hl : lv_has ls 3 [(1, .int v69), (0, .ref (x.2.1 26))] := hl
    obtain ⟨P2, eP2⟩ : ∃ P : (Int32 × Mem) → Prop, P = (fun q => ∀ (H : Heap) (locs : List Loc) (ls : Array Slot), va_P x.1 vwCl (wld x (q.2)) H → va_S (A0 x) s.heap H locs → lv_has ls 3 [(0, .ref (x.2.1 26)), (1, .int (q.1))] → W p l e r_MO_trapped s m args below meth c H locs 0 0 Q (F0 m 2 ls [])) := ⟨_, rfl⟩
    have L2 : P2 (v69, M) := by
      refine lp_walk (G := G0) ?_ h g
      intro q res h g
      obtain ⟨v70, M71⟩ := q
      rw [eP2]
      intro H locs ls hP hS hl
      have hP : va_P x.1 vwCl (wld x M71) H := hP
      have hl : lv_has ls 3 [(0, .ref (x.2.1 26)), (1, .int v70)] := hl
      have h : l_MO_trapped_2 v70 M71 = some res := h
      unfold l_MO_trapped_2 at h
      refine lv_iload_n hx hb d_MO_trapped_2 rfl (lv_at hl 1 rfl) ?_
      refine lv_aload_n hx hb d_MO_trapped_3 rfl (lv_at hl 0 rfl) ?_
      refine gf_MO_184 hx hb hts hown hK hP d_MO_trapped_4 ?_
      refine lv_icmp_ge (tgt := 35) hx hb d_MO_trapped_7 rfl (fun hc => ?_) (fun hc => ?_)
      · have h := if_p hc h
        obtain ⟨res2, hres, h2⟩ := jw1_e h
        clear h
        subst hres
        have h := h2
        exact J35 M71 _ h g H locs ls hP hS (lv_sub hl [0] rfl)
      · have h := if_m hc h
        refine lv_aload_n hx hb d_MO_trapped_10 rfl (lv_at hl 0 rfl) ?_
        refine lv_iload_n hx hb d_MO_trapped_11 rfl (lv_at hl 1 rfl) ?_
        obtain ⟨r74, M72, c73, h⟩ := bi_e h
        refine cl_MO_187 (rest := []) (R := r_MO_trapped) (c_MO_signed l x hJ v70 c73) hx hb hml hts hown hK hZ hP hS hl.1 (Nat.le_of_ble_eq_true rfl) (Nat.le_of_ble_eq_true rfl) (Nat.le_of_ble_eq_true rfl) ⟨rfl, rfl, Nat.zero_le _, Nat.zero_le _⟩ d_MO_trapped_12 (fun H locs hP hS => ?_)
        refine lv_if_eq (tgt := 29) hx hb d_MO_trapped_15 rfl (fun hc => ?_) (fun hc => ?_)
        · have h := if_p hc h
          obtain ⟨v75, ev75, h⟩ := nx_e h
          refine lv_iinc (k := 1) hx hb d_MO_trapped_29 hl rfl (iinc_v (k := (1 : Int32)) (by decide) ev75) (by decide) rfl (fun ls hl => ?_)
          have hl : lv_has ls 3 [(1, .int v75), (0, .ref (x.2.1 26))] := hl
          refine lv_goto (tgt := 2) hx hb d_MO_trapped_32 rfl ?_
          obtain rfl := Option.some.inj h
          have g : P2 (v75, M72) := g
          rw [eP2] at g
          exact g H locs ls hP hS (lv_sub hl [1, 0] rfl)
        · have h := if_m hc h
          obtain ⟨res2, hres, h2⟩ := jw1_e h
          clear h
          subst hres
          have h := h2
          exact J18 v70 M72 _ h g H locs ls hP hS (lv_sub hl [0, 1] rfl)
    rw [eP2] at L2
    exact L2 H locs ls hP hS (lv_sub hl [1, 0] rfl)
  rw [eH] at key
  exact key
theorem d_MO_takeUp_0 : decode b_MO_takeUp 0 = .ok (.aload_n 0, 1) := by decide +kernel
theorem d_MO_takeUp_1 : decode b_MO_takeUp 1 = .ok (.invokevirtual 162, 3) := by decide +kernel
theorem d_MO_takeUp_4 : decode b_MO_takeUp 4 = .ok (.aload_n 0, 1) := by decide +kernel
theorem d_MO_takeUp_5 : decode b_MO_takeUp 5 = .ok (.iload_n 1, 1) := by decide +kernel
theorem d_MO_takeUp_6 : decode b_MO_takeUp 6 = .ok (.invokevirtual 206, 3) := by decide +kernel
theorem d_MO_takeUp_9 : decode b_MO_takeUp 9 = .ok (.istore_n 2, 1) := by decide +kernel
theorem d_MO_takeUp_10 : decode b_MO_takeUp 10 = .ok (.iload_n 2, 1) := by decide +kernel
theorem d_MO_takeUp_11 : decode b_MO_takeUp 11 = .ok (.bipush 8, 2) := by decide +kernel
theorem d_MO_takeUp_13 : decode b_MO_takeUp 13 = .ok (.if_icmp .ge 7, 3) := by decide +kernel
theorem d_MO_takeUp_16 : decode b_MO_takeUp 16 = .ok (.iload_n 2, 1) := by decide +kernel
theorem d_MO_takeUp_17 : decode b_MO_takeUp 17 = .ok (.goto 5, 3) := by decide +kernel
theorem d_MO_takeUp_20 : decode b_MO_takeUp 20 = .ok (.bipush 8, 2) := by decide +kernel
theorem d_MO_takeUp_22 : decode b_MO_takeUp 22 = .ok (.istore_n 3, 1) := by decide +kernel
theorem d_MO_takeUp_23 : decode b_MO_takeUp 23 = .ok (.aload_n 0, 1) := by decide +kernel
theorem d_MO_takeUp_24 : decode b_MO_takeUp 24 = .ok (.iload_n 1, 1) := by decide +kernel
theorem d_MO_takeUp_25 : decode b_MO_takeUp 25 = .ok (.putfield 209, 3) := by decide +kernel
theorem d_MO_takeUp_28 : decode b_MO_takeUp 28 = .ok (.aload_n 0, 1) := by decide +kernel
theorem d_MO_takeUp_29 : decode b_MO_takeUp 29 = .ok (.aload_n 0, 1) := by decide +kernel
theorem d_MO_takeUp_30 : decode b_MO_takeUp 30 = .ok (.getfield 156, 3) := by decide +kernel
theorem d_MO_takeUp_33 : decode b_MO_takeUp 33 = .ok (.iload_n 1, 1) := by decide +kernel
theorem d_MO_takeUp_34 : decode b_MO_takeUp 34 = .ok (.ishr, 1) := by decide +kernel
theorem d_MO_takeUp_35 : decode b_MO_takeUp 35 = .ok (.iconst 1, 1) := by decide +kernel
theorem d_MO_takeUp_36 : decode b_MO_takeUp 36 = .ok (.iand, 1) := by decide +kernel
theorem d_MO_takeUp_37 : decode b_MO_takeUp 37 = .ok (.iconst 1, 1) := by decide +kernel
theorem d_MO_takeUp_38 : decode b_MO_takeUp 38 = .ok (.if_icmp .ne 9, 3) := by decide +kernel
theorem d_MO_takeUp_41 : decode b_MO_takeUp 41 = .ok (.iconst 2, 1) := by decide +kernel
theorem d_MO_takeUp_42 : decode b_MO_takeUp 42 = .ok (.iload_n 3, 1) := by decide +kernel
theorem d_MO_takeUp_43 : decode b_MO_takeUp 43 = .ok (.imul, 1) := by decide +kernel
theorem d_MO_takeUp_44 : decode b_MO_takeUp 44 = .ok (.goto 4, 3) := by decide +kernel
theorem d_MO_takeUp_47 : decode b_MO_takeUp 47 = .ok (.iload_n 3, 1) := by decide +kernel
theorem d_MO_takeUp_48 : decode b_MO_takeUp 48 = .ok (.putfield 212, 3) := by decide +kernel
theorem d_MO_takeUp_51 : decode b_MO_takeUp 51 = .ok (.aload_n 0, 1) := by decide +kernel
theorem d_MO_takeUp_52 : decode b_MO_takeUp 52 = .ok (.aload_n 0, 1) := by decide +kernel
theorem d_MO_takeUp_53 : decode b_MO_takeUp 53 = .ok (.getfield 43, 3) := by decide +kernel
theorem d_MO_takeUp_56 : decode b_MO_takeUp 56 = .ok (.iload_n 1, 1) := by decide +kernel
theorem d_MO_takeUp_57 : decode b_MO_takeUp 57 = .ok (.iaload, 1) := by decide +kernel
theorem d_MO_takeUp_58 : decode b_MO_takeUp 58 = .ok (.ifCond .le 15, 3) := by decide +kernel
theorem d_MO_takeUp_61 : decode b_MO_takeUp 61 = .ok (.bipush 16, 2) := by decide +kernel
theorem d_MO_takeUp_63 : decode b_MO_takeUp 63 = .ok (.aload_n 0, 1) := by decide +kernel
theorem d_MO_takeUp_64 : decode b_MO_takeUp 64 = .ok (.getfield 40, 3) := by decide +kernel
theorem d_MO_takeUp_67 : decode b_MO_takeUp 67 = .ok (.iload_n 1, 1) := by decide +kernel
theorem d_MO_takeUp_68 : decode b_MO_takeUp 68 = .ok (.iaload, 1) := by decide +kernel
theorem d_MO_takeUp_69 : decode b_MO_takeUp 69 = .ok (.imul, 1) := by decide +kernel
theorem d_MO_takeUp_70 : decode b_MO_takeUp 70 = .ok (.goto 4, 3) := by decide +kernel
theorem d_MO_takeUp_73 : decode b_MO_takeUp 73 = .ok (.iconst 0, 1) := by decide +kernel
theorem d_MO_takeUp_74 : decode b_MO_takeUp 74 = .ok (.putfield 215, 3) := by decide +kernel
theorem d_MO_takeUp_77 : decode b_MO_takeUp 77 = .ok (.return_, 1) := by decide +kernel
noncomputable def j_MO_takeUp_48 (a21 : Int32) (a22 : Int32) (M23 : Mem) : Option (Mem) :=
  nx (st M23 26 42 a22) (fun M24 => ck a21 16 (if (M24 38 a21.toNatClampNeg) ≤ 0 then (nx (st M24 26 41 (0 : Int32)) (fun M26 => some M26)) else (ck a21 16 (nx (st M24 26 41 ((16 : Int32) * (M24 37 a21.toNatClampNeg))) (fun M28 => some M28)))))
noncomputable def j_MO_takeUp_22 (a29 : Int32) (a30 : Int32) (M31 : Mem) : Option (Mem) :=
  nx (st M31 26 40 a29) (fun M32 => if (((M32 26 39) >>> (a29 &&& 31)) &&& (1 : Int32)) = (1 : Int32) then (j_MO_takeUp_48 a29 ((2 : Int32) * a30) M32) else (j_MO_takeUp_48 a29 a30 M32))
noncomputable def s_MO_takeUp (a1 : Int32) (M : Mem) : Option (Mem) :=
  bv (s_MO_survey M) (fun M33 => bi (s_MO_edgesOf a1 M33) (fun r37 M35 => if (8 : Int32) ≤ r37 then (j_MO_takeUp_22 a1 (8 : Int32) M35) else (j_MO_takeUp_22 a1 r37 M35)))
set_option maxHeartbeats 4000000 in
set_option maxRecDepth 100000 in
theorem c_MO_takeUp (l : Launch) (x : Cx) (hJ : Inj x) (a1 : Int32) {M : Mem} {out : Mem} (h : s_MO_takeUp a1 M = some out) : Cv l x y_MO_takeUp (Cond.code y_MO_takeUp b_MO_takeUp 4 none :: tb) r_MO_takeUp [.ref (x.2.1 26), .int a1] M out := by
  refine ofCv (cc := b_MO_takeUp) (maxL := 4) (by decide) rfl (rfl) (Nat.le_of_ble_eq_true rfl) ?_
  intro p e s m args below meth c Q G0 ls g hx hb hml hown hts hK hZ hP hS hl hret
  have hown : s.vm.findClass R_MO = some m.cls := hown
  have hl : lv_has ls 4 [(0, .ref (x.2.1 26)), (1, .int a1)] := hl
  obtain ⟨H, eH⟩ : ∃ z, z = s.heap := ⟨_, rfl⟩
  obtain ⟨locs, eL⟩ : ∃ z, z = ([] : List Loc) := ⟨_, rfl⟩
  rw [← eH] at hP
  have hS : va_S (A0 x) s.heap H locs := by rw [eH, eL]; exact hS
  rw [← eL]
  have key : W p l e r_MO_takeUp s m args below meth c H locs 0 0 Q (F0 m 0 ls []) := by
    clear eH eL
    unfold s_MO_takeUp at h
    have J48 : ∀ (a21 : Int32) (a22 : Int32) (M23 : Mem)  (res : Mem) (h : j_MO_takeUp_48 a21 a22 M23 = some res) (g : G0 res) (H : Heap) (locs : List Loc) (ls : Array Slot) (hP : va_P x.1 vwCl (wld x M23) H) (hS : va_S (A0 x) s.heap H locs) (hl : lv_has ls 4 [(0, .ref (x.2.1 26)), (1, .int a21)]), W p l e r_MO_takeUp s m args below meth c H locs 0 0 Q (F0 m 48 ls [.int a22, .ref (x.2.1 26)]) := by
      intro a21 a22 M23 res h g H locs ls hP hS hl
      unfold j_MO_takeUp_48 at h
      obtain ⟨M24, eM24, h⟩ := nx_e h
      refine pf_MO_212 hx hb hts hown hK hJ hP hS eM24 d_MO_takeUp_48 (fun H locs hP hS => ?_)
      refine lv_aload_n hx hb d_MO_takeUp_51 rfl (lv_at hl 0 rfl) ?_
      refine lv_aload_n hx hb d_MO_takeUp_52 rfl (lv_at hl 0 rfl) ?_
      refine gf_MO_43 hx hb hts hown hK hP d_MO_takeUp_53 ?_
      refine lv_iload_n hx hb d_MO_takeUp_56 rfl (lv_at hl 1 rfl) ?_
      obtain ⟨b25, h⟩ := ck_e h
      refine m_ald hx hb hK hP ar_MO_finished b25 d_MO_takeUp_57 ?_
      refine lv_if_le (tgt := 73) hx hb d_MO_takeUp_58 rfl (fun hc => ?_) (fun hc => ?_)
      · have h := if_p hc h
        refine lv_iconst (v := (0 : Int32)) hx hb d_MO_takeUp_73 (by decide) ?_
        obtain ⟨M26, eM26, h⟩ := nx_e h
        refine pf_MO_215 hx hb hts hown hK hJ hP hS eM26 d_MO_takeUp_74 (fun H locs hP hS => ?_)
        obtain rfl := Option.some.inj h
        exact hret d_MO_takeUp_77 g hP hS
      · have h := if_m hc h
        refine lv_bipush (v := (16 : Int32)) hx hb d_MO_takeUp_61 (by decide) ?_
        refine lv_aload_n hx hb d_MO_takeUp_63 rfl (lv_at hl 0 rfl) ?_
        refine gf_MO_40 hx hb hts hown hK hP d_MO_takeUp_64 ?_
        refine lv_iload_n hx hb d_MO_takeUp_67 rfl (lv_at hl 1 rfl) ?_
        obtain ⟨b27, h⟩ := ck_e h
        refine m_ald hx hb hK hP ar_MO_lengths b27 d_MO_takeUp_68 ?_
        refine lv_imul hx hb d_MO_takeUp_69 ?_
        refine lv_goto (tgt := 74) hx hb d_MO_takeUp_70 rfl ?_
        obtain ⟨M28, eM28, h⟩ := nx_e h
        refine pf_MO_215 hx hb hts hown hK hJ hP hS eM28 d_MO_takeUp_74 (fun H locs hP hS => ?_)
        obtain rfl := Option.some.inj h
        exact hret d_MO_takeUp_77 g hP hS
    have J22 : ∀ (a29 : Int32) (a30 : Int32) (M31 : Mem)  (res : Mem) (h : j_MO_takeUp_22 a29 a30 M31 = some res) (g : G0 res) (H : Heap) (locs : List Loc) (ls : Array Slot) (hP : va_P x.1 vwCl (wld x M31) H) (hS : va_S (A0 x) s.heap H locs) (hl : lv_has ls 4 [(0, .ref (x.2.1 26)), (1, .int a29)]), W p l e r_MO_takeUp s m args below meth c H locs 0 0 Q (F0 m 22 ls [.int a30]) := by
      intro a29 a30 M31 res h g H locs ls hP hS hl
      unfold j_MO_takeUp_22 at h
      refine lv_istore_n hx hb d_MO_takeUp_22 rfl hl (by decide) rfl (fun ls hl => ?_)
      have hl : lv_has ls 4 [(3, .int a30), (0, .ref (x.2.1 26)), (1, .int a29)] := hl
      refine lv_aload_n hx hb d_MO_takeUp_23 rfl (lv_at hl 1 rfl) ?_
      refine lv_iload_n hx hb d_MO_takeUp_24 rfl (lv_at hl 2 rfl) ?_
      obtain ⟨M32, eM32, h⟩ := nx_e h
      refine pf_MO_209 hx hb hts hown hK hJ hP hS eM32 d_MO_takeUp_25 (fun H locs hP hS => ?_)
      refine lv_aload_n hx hb d_MO_takeUp_28 rfl (lv_at hl 1 rfl) ?_
      refine lv_aload_n hx hb d_MO_takeUp_29 rfl (lv_at hl 1 rfl) ?_
      refine gf_MO_156 hx hb hts hown hK hP d_MO_takeUp_30 ?_
      refine lv_iload_n hx hb d_MO_takeUp_33 rfl (lv_at hl 2 rfl) ?_
      refine lv_ishr hx hb d_MO_takeUp_34 ?_
      refine lv_iconst (v := (1 : Int32)) hx hb d_MO_takeUp_35 (by decide) ?_
      refine lv_iand hx hb d_MO_takeUp_36 ?_
      refine lv_iconst (v := (1 : Int32)) hx hb d_MO_takeUp_37 (by decide) ?_
      refine lv_icmp_ne (tgt := 47) hx hb d_MO_takeUp_38 rfl (fun hc => ?_) (fun hc => ?_)
      · have h := if_m hc h
        refine lv_iload_n hx hb d_MO_takeUp_47 rfl (lv_at hl 0 rfl) ?_
        exact J48 a29 a30 M32 _ h g H locs ls hP hS (lv_sub hl [1, 2] rfl)
      · have h := if_p hc h
        refine lv_iconst (v := (2 : Int32)) hx hb d_MO_takeUp_41 (by decide) ?_
        refine lv_iload_n hx hb d_MO_takeUp_42 rfl (lv_at hl 0 rfl) ?_
        refine lv_imul hx hb d_MO_takeUp_43 ?_
        refine lv_goto (tgt := 48) hx hb d_MO_takeUp_44 rfl ?_
        exact J48 a29 ((2 : Int32) * a30) M32 _ h g H locs ls hP hS (lv_sub hl [1, 2] rfl)
    refine lv_aload_n hx hb d_MO_takeUp_0 rfl (lv_at hl 0 rfl) ?_
    obtain ⟨M33, c34, h⟩ := bv_e h
    refine cl_MO_162 (rest := []) (R := r_MO_takeUp) (c_MO_survey l x hJ c34) hx hb hml hts hown hK hZ hP hS hl.1 (Nat.le_of_ble_eq_true rfl) (Nat.le_of_ble_eq_true rfl) (Nat.le_of_ble_eq_true rfl) ⟨rfl, rfl, Nat.zero_le _, Nat.zero_le _⟩ d_MO_takeUp_1 (fun H locs hP hS => ?_)
    refine lv_aload_n hx hb d_MO_takeUp_4 rfl (lv_at hl 0 rfl) ?_
    refine lv_iload_n hx hb d_MO_takeUp_5 rfl (lv_at hl 1 rfl) ?_
    obtain ⟨r37, M35, c36, h⟩ := bi_e h
    refine cl_MO_206 (rest := []) (R := r_MO_takeUp) (c_MO_edgesOf l x hJ a1 c36) hx hb hml hts hown hK hZ hP hS hl.1 (Nat.le_of_ble_eq_true rfl) (Nat.le_of_ble_eq_true rfl) (Nat.le_of_ble_eq_true rfl) ⟨rfl, rfl, Nat.zero_le _, Nat.zero_le _⟩ d_MO_takeUp_6 (fun H locs hP hS => ?_)
    refine lv_istore_n hx hb d_MO_takeUp_9 rfl hl (by decide) rfl (fun ls hl => ?_)
    have hl : lv_has ls 4 [(2, .int r37), (0, .ref (x.2.1 26)), (1, .int a1)] := hl
    refine lv_iload_n hx hb d_MO_takeUp_10 rfl (lv_at hl 0 rfl) ?_
    refine lv_bipush (v := (8 : Int32)) hx hb d_MO_takeUp_11 (by decide) ?_
    refine lv_icmp_ge (tgt := 20) hx hb d_MO_takeUp_13 rfl (fun hc => ?_) (fun hc => ?_)
    · have h := if_p hc h
      refine lv_bipush (v := (8 : Int32)) hx hb d_MO_takeUp_20 (by decide) ?_
      exact J22 a1 (8 : Int32) M35 _ h g H locs ls hP hS (lv_sub hl [1, 2] rfl)
    · have h := if_m hc h
      refine lv_iload_n hx hb d_MO_takeUp_16 rfl (lv_at hl 0 rfl) ?_
      refine lv_goto (tgt := 22) hx hb d_MO_takeUp_17 rfl ?_
      exact J22 a1 r37 M35 _ h g H locs ls hP hS (lv_sub hl [1, 2] rfl)
  rw [eH] at key
  exact key
theorem d_MO_execute_0 : decode b_MO_execute 0 = .ok (.aload_n 0, 1) := by decide +kernel
theorem d_MO_execute_1 : decode b_MO_execute 1 = .ok (.invokevirtual 162, 3) := by decide +kernel
theorem d_MO_execute_4 : decode b_MO_execute 4 = .ok (.aload_n 0, 1) := by decide +kernel
theorem d_MO_execute_5 : decode b_MO_execute 5 = .ok (.invokevirtual 165, 3) := by decide +kernel
theorem d_MO_execute_8 : decode b_MO_execute 8 = .ok (.aload_n 0, 1) := by decide +kernel
theorem d_MO_execute_9 : decode b_MO_execute 9 = .ok (.getfield 114, 3) := by decide +kernel
theorem d_MO_execute_12 : decode b_MO_execute 12 = .ok (.istore_n 1, 1) := by decide +kernel
theorem d_MO_execute_13 : decode b_MO_execute 13 = .ok (.aload_n 0, 1) := by decide +kernel
theorem d_MO_execute_14 : decode b_MO_execute 14 = .ok (.dup, 1) := by decide +kernel
theorem d_MO_execute_15 : decode b_MO_execute 15 = .ok (.getfield 99, 3) := by decide +kernel
theorem d_MO_execute_18 : decode b_MO_execute 18 = .ok (.iconst 1, 1) := by decide +kernel
theorem d_MO_execute_19 : decode b_MO_execute 19 = .ok (.iadd, 1) := by decide +kernel
theorem d_MO_execute_20 : decode b_MO_execute 20 = .ok (.putfield 99, 3) := by decide +kernel
theorem d_MO_execute_23 : decode b_MO_execute 23 = .ok (.aload_n 0, 1) := by decide +kernel
theorem d_MO_execute_24 : decode b_MO_execute 24 = .ok (.iload_n 1, 1) := by decide +kernel
theorem d_MO_execute_25 : decode b_MO_execute 25 = .ok (.iconst 5, 1) := by decide +kernel
theorem d_MO_execute_26 : decode b_MO_execute 26 = .ok (.if_icmp .ne 12, 3) := by decide +kernel
theorem d_MO_execute_29 : decode b_MO_execute 29 = .ok (.aload_n 0, 1) := by decide +kernel
theorem d_MO_execute_30 : decode b_MO_execute 30 = .ok (.getfield 168, 3) := by decide +kernel
theorem d_MO_execute_33 : decode b_MO_execute 33 = .ok (.iconst 1, 1) := by decide +kernel
theorem d_MO_execute_34 : decode b_MO_execute 34 = .ok (.iadd, 1) := by decide +kernel
theorem d_MO_execute_35 : decode b_MO_execute 35 = .ok (.goto 7, 3) := by decide +kernel
theorem d_MO_execute_38 : decode b_MO_execute 38 = .ok (.aload_n 0, 1) := by decide +kernel
theorem d_MO_execute_39 : decode b_MO_execute 39 = .ok (.getfield 168, 3) := by decide +kernel
theorem d_MO_execute_42 : decode b_MO_execute 42 = .ok (.putfield 168, 3) := by decide +kernel
theorem d_MO_execute_45 : decode b_MO_execute 45 = .ok (.aload_n 0, 1) := by decide +kernel
theorem d_MO_execute_46 : decode b_MO_execute 46 = .ok (.invokevirtual 171, 3) := by decide +kernel
theorem d_MO_execute_49 : decode b_MO_execute 49 = .ok (.istore_n 2, 1) := by decide +kernel
theorem d_MO_execute_50 : decode b_MO_execute 50 = .ok (.iload_n 1, 1) := by decide +kernel
theorem d_MO_execute_51 : decode b_MO_execute 51 = .ok (.iconst 1, 1) := by decide +kernel
theorem d_MO_execute_52 : decode b_MO_execute 52 = .ok (.if_icmp .lt 12, 3) := by decide +kernel
theorem d_MO_execute_55 : decode b_MO_execute 55 = .ok (.iload_n 1, 1) := by decide +kernel
theorem d_MO_execute_56 : decode b_MO_execute 56 = .ok (.iconst 4, 1) := by decide +kernel
theorem d_MO_execute_57 : decode b_MO_execute 57 = .ok (.if_icmp .gt 7, 3) := by decide +kernel
theorem d_MO_execute_60 : decode b_MO_execute 60 = .ok (.aload_n 0, 1) := by decide +kernel
theorem d_MO_execute_61 : decode b_MO_execute 61 = .ok (.invokevirtual 175, 3) := by decide +kernel
theorem d_MO_execute_64 : decode b_MO_execute 64 = .ok (.iload_n 2, 1) := by decide +kernel
theorem d_MO_execute_65 : decode b_MO_execute 65 = .ok (.ifCond .eq 25, 3) := by decide +kernel
theorem d_MO_execute_68 : decode b_MO_execute 68 = .ok (.aload_n 0, 1) := by decide +kernel
theorem d_MO_execute_69 : decode b_MO_execute 69 = .ok (.getfield 145, 3) := by decide +kernel
theorem d_MO_execute_72 : decode b_MO_execute 72 = .ok (.bipush 16, 2) := by decide +kernel
theorem d_MO_execute_74 : decode b_MO_execute 74 = .ok (.if_icmp .ne 16, 3) := by decide +kernel
theorem d_MO_execute_77 : decode b_MO_execute 77 = .ok (.aload_n 0, 1) := by decide +kernel
theorem d_MO_execute_78 : decode b_MO_execute 78 = .ok (.dup, 1) := by decide +kernel
theorem d_MO_execute_79 : decode b_MO_execute 79 = .ok (.getfield 178, 3) := by decide +kernel
theorem d_MO_execute_82 : decode b_MO_execute 82 = .ok (.iconst 1, 1) := by decide +kernel
theorem d_MO_execute_83 : decode b_MO_execute 83 = .ok (.iadd, 1) := by decide +kernel
theorem d_MO_execute_84 : decode b_MO_execute 84 = .ok (.putfield 178, 3) := by decide +kernel
theorem d_MO_execute_87 : decode b_MO_execute 87 = .ok (.goto 89, 3) := by decide +kernel
theorem d_MO_execute_90 : decode b_MO_execute 90 = .ok (.iload_n 2, 1) := by decide +kernel
theorem d_MO_execute_91 : decode b_MO_execute 91 = .ok (.ifCond .eq 85, 3) := by decide +kernel
theorem d_MO_execute_94 : decode b_MO_execute 94 = .ok (.iconst 0, 1) := by decide +kernel
theorem d_MO_execute_95 : decode b_MO_execute 95 = .ok (.istore_n 3, 1) := by decide +kernel
theorem d_MO_execute_96 : decode b_MO_execute 96 = .ok (.iload_n 3, 1) := by decide +kernel
theorem d_MO_execute_97 : decode b_MO_execute 97 = .ok (.aload_n 0, 1) := by decide +kernel
theorem d_MO_execute_98 : decode b_MO_execute 98 = .ok (.getfield 139, 3) := by decide +kernel
theorem d_MO_execute_101 : decode b_MO_execute 101 = .ok (.if_icmp .ge 29, 3) := by decide +kernel
theorem d_MO_execute_104 : decode b_MO_execute 104 = .ok (.aload_n 0, 1) := by decide +kernel
theorem d_MO_execute_105 : decode b_MO_execute 105 = .ok (.getfield 37, 3) := by decide +kernel
theorem d_MO_execute_108 : decode b_MO_execute 108 = .ok (.bipush 6, 2) := by decide +kernel
theorem d_MO_execute_110 : decode b_MO_execute 110 = .ok (.aload_n 0, 1) := by decide +kernel
theorem d_MO_execute_111 : decode b_MO_execute 111 = .ok (.getfield 145, 3) := by decide +kernel
theorem d_MO_execute_114 : decode b_MO_execute 114 = .ok (.imul, 1) := by decide +kernel
theorem d_MO_execute_115 : decode b_MO_execute 115 = .ok (.iload_n 3, 1) := by decide +kernel
theorem d_MO_execute_116 : decode b_MO_execute 116 = .ok (.iadd, 1) := by decide +kernel
theorem d_MO_execute_117 : decode b_MO_execute 117 = .ok (.aload_n 0, 1) := by decide +kernel
theorem d_MO_execute_118 : decode b_MO_execute 118 = .ok (.getfield 82, 3) := by decide +kernel
theorem d_MO_execute_121 : decode b_MO_execute 121 = .ok (.iload_n 3, 1) := by decide +kernel
theorem d_MO_execute_122 : decode b_MO_execute 122 = .ok (.iaload, 1) := by decide +kernel
theorem d_MO_execute_123 : decode b_MO_execute 123 = .ok (.iastore, 1) := by decide +kernel
theorem d_MO_execute_124 : decode b_MO_execute 124 = .ok (.iinc 3 1, 3) := by decide +kernel
theorem d_MO_execute_127 : decode b_MO_execute 127 = .ok (.goto (-31), 3) := by decide +kernel
theorem d_MO_execute_130 : decode b_MO_execute 130 = .ok (.aload_n 0, 1) := by decide +kernel
theorem d_MO_execute_131 : decode b_MO_execute 131 = .ok (.getfield 40, 3) := by decide +kernel
theorem d_MO_execute_134 : decode b_MO_execute 134 = .ok (.aload_n 0, 1) := by decide +kernel
theorem d_MO_execute_135 : decode b_MO_execute 135 = .ok (.getfield 145, 3) := by decide +kernel
theorem d_MO_execute_138 : decode b_MO_execute 138 = .ok (.aload_n 0, 1) := by decide +kernel
theorem d_MO_execute_139 : decode b_MO_execute 139 = .ok (.getfield 139, 3) := by decide +kernel
theorem d_MO_execute_142 : decode b_MO_execute 142 = .ok (.iastore, 1) := by decide +kernel
theorem d_MO_execute_143 : decode b_MO_execute 143 = .ok (.aload_n 0, 1) := by decide +kernel
theorem d_MO_execute_144 : decode b_MO_execute 144 = .ok (.getfield 43, 3) := by decide +kernel
theorem d_MO_execute_147 : decode b_MO_execute 147 = .ok (.aload_n 0, 1) := by decide +kernel
theorem d_MO_execute_148 : decode b_MO_execute 148 = .ok (.getfield 145, 3) := by decide +kernel
theorem d_MO_execute_151 : decode b_MO_execute 151 = .ok (.iconst 0, 1) := by decide +kernel
theorem d_MO_execute_152 : decode b_MO_execute 152 = .ok (.iastore, 1) := by decide +kernel
theorem d_MO_execute_153 : decode b_MO_execute 153 = .ok (.aload_n 0, 1) := by decide +kernel
theorem d_MO_execute_154 : decode b_MO_execute 154 = .ok (.dup, 1) := by decide +kernel
theorem d_MO_execute_155 : decode b_MO_execute 155 = .ok (.getfield 145, 3) := by decide +kernel
theorem d_MO_execute_158 : decode b_MO_execute 158 = .ok (.iconst 1, 1) := by decide +kernel
theorem d_MO_execute_159 : decode b_MO_execute 159 = .ok (.iadd, 1) := by decide +kernel
theorem d_MO_execute_160 : decode b_MO_execute 160 = .ok (.putfield 145, 3) := by decide +kernel
theorem d_MO_execute_163 : decode b_MO_execute 163 = .ok (.aload_n 0, 1) := by decide +kernel
theorem d_MO_execute_164 : decode b_MO_execute 164 = .ok (.getfield 145, 3) := by decide +kernel
theorem d_MO_execute_167 : decode b_MO_execute 167 = .ok (.iconst 1, 1) := by decide +kernel
theorem d_MO_execute_168 : decode b_MO_execute 168 = .ok (.if_icmp .ne 8, 3) := by decide +kernel
theorem d_MO_execute_171 : decode b_MO_execute 171 = .ok (.aload_n 0, 1) := by decide +kernel
theorem d_MO_execute_172 : decode b_MO_execute 172 = .ok (.iconst 0, 1) := by decide +kernel
theorem d_MO_execute_173 : decode b_MO_execute 173 = .ok (.invokevirtual 181, 3) := by decide +kernel
theorem d_MO_execute_176 : decode b_MO_execute 176 = .ok (.iload_n 1, 1) := by decide +kernel
theorem d_MO_execute_177 : decode b_MO_execute 177 = .ok (.ireturn, 1) := by decide +kernel
noncomputable def j_MO_execute_130 (a21 : Int32) (M22 : Mem) : Option (Int32 × Mem) :=
  ck (M22 26 18) 16 (nx (st M22 37 (M22 26 18).toNatClampNeg (M22 26 44)) (fun M24 => ck (M24 26 18) 16 (nx (st M24 38 (M24 26 18).toNatClampNeg (0 : Int32)) (fun M26 => nx (st M26 26 18 ((M26 26 18) + (1 : Int32))) (fun M27 => if (M27 26 18) = (1 : Int32) then (bv (s_MO_takeUp (0 : Int32) M27) (fun M28 => some (a21, M28))) else (some (a21, M27)))))))
noncomputable def l_MO_execute_96 (a30 : Int32) (v34 : Int32) (M35 : Mem) : Option ((Int32 × Mem) ⊕ (Int32 × Mem)) :=
  if (M35 26 44) ≤ v34 then (jw1 (j_MO_execute_130 a30 M35)) else (ck v34 6 (ck (((6 : Int32) * (M35 26 18)) + v34) 96 (nx (st M35 36 (((6 : Int32) * (M35 26 18)) + v34).toNatClampNeg (M35 51 v34.toNatClampNeg)) (fun M38 => nx (v34 + (1 : Int32)) (fun v39 => some (.inl (v39, M38)))))))
noncomputable def j_MO_execute_90 (a30 : Int32) (a31 : Int32) (M32 : Mem) : Option (Int32 × Mem) :=
  if a31 = 0 then (some (a30, M32)) else (nx ((0 : Int32)) (fun v33 => lp (fun q : Int32 × Mem => l_MO_execute_96 a30 q.1 q.2) (v33, M32)))
noncomputable def j_MO_execute_64 (a40 : Int32) (a41 : Int32) (M42 : Mem) : Option (Int32 × Mem) :=
  if a41 = 0 then (j_MO_execute_90 a40 a41 M42) else (if (M42 26 18) = (16 : Int32) then (nx (st M42 26 34 ((M42 26 34) + (1 : Int32))) (fun M43 => some (a40, M43))) else (j_MO_execute_90 a40 a41 M42))
noncomputable def j_MO_execute_42 (a44 : Int32) (a45 : Int32) (M46 : Mem) : Option (Int32 × Mem) :=
  nx (st M46 26 33 a45) (fun M47 => bi (s_MO_newPair M47) (fun r50 M48 => if a44 < (1 : Int32) then (j_MO_execute_64 a44 r50 M48) else (if (4 : Int32) < a44 then (j_MO_execute_64 a44 r50 M48) else (bv (s_MO_trapped M48) (fun M51 => j_MO_execute_64 a44 r50 M51)))))
noncomputable def s_MO_execute  (M : Mem) : Option (Int32 × Mem) :=
  bv (s_MO_survey M) (fun M53 => bv (s_MO_runCurrent M53) (fun M55 => nx (M55 26 16) (fun v57 => nx (st M55 26 32 ((M55 26 32) + (1 : Int32))) (fun M58 => if v57 = (5 : Int32) then (j_MO_execute_42 v57 ((M58 26 33) + (1 : Int32)) M58) else (j_MO_execute_42 v57 (M58 26 33) M58)))))
set_option maxHeartbeats 4000000 in
set_option maxRecDepth 100000 in
theorem c_MO_execute (l : Launch) (x : Cx) (hJ : Inj x)  {M : Mem} {out : Int32 × Mem} (h : s_MO_execute M = some out) : Ci l x y_MO_execute (Cond.code y_MO_execute b_MO_execute 4 (some .int) :: tb) r_MO_execute [.ref (x.2.1 26)] M out := by
  refine ofCi (cc := b_MO_execute) (maxL := 4) (by decide) rfl (rfl) (Nat.le_of_ble_eq_true rfl) ?_
  intro p e s m args below meth c Q G0 ls g hx hb hml hown hts hK hZ hP hS hl hret
  have hown : s.vm.findClass R_MO = some m.cls := hown
  have hl : lv_has ls 4 [(0, .ref (x.2.1 26))] := hl
  obtain ⟨H, eH⟩ : ∃ z, z = s.heap := ⟨_, rfl⟩
  obtain ⟨locs, eL⟩ : ∃ z, z = ([] : List Loc) := ⟨_, rfl⟩
  rw [← eH] at hP
  have hS : va_S (A0 x) s.heap H locs := by rw [eH, eL]; exact hS
  rw [← eL]
  have key : W p l e r_MO_execute s m args below meth c H locs 0 0 Q (F0 m 0 ls []) := by
    clear eH eL
    unfold s_MO_execute at h
    have J130 : ∀ (a21 : Int32) (M22 : Mem)  (res : Int32 × Mem) (h : j_MO_execute_130 a21 M22 = some res) (g : G0 res) (H : Heap) (locs : List Loc) (ls : Array Slot) (hP : va_P x.1 vwCl (wld x M22) H) (hS : va_S (A0 x) s.heap H locs) (hl : lv_has ls 4 [(0, .ref (x.2.1 26)), (1, .int a21)]), W p l e r_MO_execute s m args below meth c H locs 0 0 Q (F0 m 130 ls []) := by
      intro a21 M22 res h g H locs ls hP hS hl
      unfold j_MO_execute_130 at h
      refine lv_aload_n hx hb d_MO_execute_130 rfl (lv_at hl 0 rfl) ?_
      refine gf_MO_40 hx hb hts hown hK hP d_MO_execute_131 ?_
      refine lv_aload_n hx hb d_MO_execute_134 rfl (lv_at hl 0 rfl) ?_
      refine gf_MO_145 hx hb hts hown hK hP d_MO_execute_135 ?_
      refine lv_aload_n hx hb d_MO_execute_138 rfl (lv_at hl 0 rfl) ?_
      refine gf_MO_139 hx hb hts hown hK hP d_MO_execute_139 ?_
      obtain ⟨b23, h⟩ := ck_e h
      obtain ⟨M24, eM24, h⟩ := nx_e h
      refine m_ast hx hb hK hJ hP hS ar_MO_lengths b23 eM24 d_MO_execute_142 (fun H locs hP hS => ?_)
      refine lv_aload_n hx hb d_MO_execute_143 rfl (lv_at hl 0 rfl) ?_
      refine gf_MO_43 hx hb hts hown hK hP d_MO_execute_144 ?_
      refine lv_aload_n hx hb d_MO_execute_147 rfl (lv_at hl 0 rfl) ?_
      refine gf_MO_145 hx hb hts hown hK hP d_MO_execute_148 ?_
      refine lv_iconst (v := (0 : Int32)) hx hb d_MO_execute_151 (by decide) ?_
      obtain ⟨b25, h⟩ := ck_e h
      obtain ⟨M26, eM26, h⟩ := nx_e h
      refine m_ast hx hb hK hJ hP hS ar_MO_finished b25 eM26 d_MO_execute_152 (fun H locs hP hS => ?_)
      refine lv_aload_n hx hb d_MO_execute_153 rfl (lv_at hl 0 rfl) ?_
      refine lv_dup hx hb d_MO_execute_154 rfl ?_
      refine gf_MO_145 hx hb hts hown hK hP d_MO_execute_155 ?_
      refine lv_iconst (v := (1 : Int32)) hx hb d_MO_execute_158 (by decide) ?_
      refine lv_iadd hx hb d_MO_execute_159 ?_
      obtain ⟨M27, eM27, h⟩ := nx_e h
      refine pf_MO_145 hx hb hts hown hK hJ hP hS eM27 d_MO_execute_160 (fun H locs hP hS => ?_)
      refine lv_aload_n hx hb d_MO_execute_163 rfl (lv_at hl 0 rfl) ?_
      refine gf_MO_145 hx hb hts hown hK hP d_MO_execute_164 ?_
      refine lv_iconst (v := (1 : Int32)) hx hb d_MO_execute_167 (by decide) ?_
      refine lv_icmp_ne (tgt := 176) hx hb d_MO_execute_168 rfl (fun hc => ?_) (fun hc => ?_)
      · have h := if_m hc h
        refine lv_iload_n hx hb d_MO_execute_176 rfl (lv_at hl 1 rfl) ?_
        obtain rfl := Option.some.inj h
        exact hret d_MO_execute_177 g hP hS
      · have h := if_p hc h
        refine lv_aload_n hx hb d_MO_execute_171 rfl (lv_at hl 0 rfl) ?_
        refine lv_iconst (v := (0 : Int32)) hx hb d_MO_execute_172 (by decide) ?_
        obtain ⟨M28, c29, h⟩ := bv_e h
        refine cl_MO_181 (rest := []) (R := r_MO_execute) (c_MO_takeUp l x hJ (0 : Int32) c29) hx hb hml hts hown hK hZ hP hS hl.1 (Nat.le_of_ble_eq_true rfl) (Nat.le_of_ble_eq_true rfl) (Nat.le_of_ble_eq_true rfl) ⟨rfl, rfl, Nat.zero_le _, Nat.zero_le _⟩ d_MO_execute_173 (fun H locs hP hS => ?_)
        refine lv_iload_n hx hb d_MO_execute_176 rfl (lv_at hl 1 rfl) ?_
        obtain rfl := Option.some.inj h
        exact hret d_MO_execute_177 g hP hS
    have J90 : ∀ (a30 : Int32) (a31 : Int32) (M32 : Mem)  (res : Int32 × Mem) (h : j_MO_execute_90 a30 a31 M32 = some res) (g : G0 res) (H : Heap) (locs : List Loc) (ls : Array Slot) (hP : va_P x.1 vwCl (wld x M32) H) (hS : va_S (A0 x) s.heap H locs) (hl : lv_has ls 4 [(0, .ref (x.2.1 26)), (1, .int a30), (2, .int a31)]), W p l e r_MO_execute s m args below meth c H locs 0 0 Q (F0 m 90 ls []) := by
      intro a30 a31 M32 res h g H locs ls hP hS hl
      unfold j_MO_execute_90 at h
      refine lv_iload_n hx hb d_MO_execute_90 rfl (lv_at hl 2 rfl) ?_
      refine lv_if_eq (tgt := 176) hx hb d_MO_execute_91 rfl (fun hc => ?_) (fun hc => ?_)
      · have h := if_p hc h
        refine lv_iload_n hx hb d_MO_execute_176 rfl (lv_at hl 1 rfl) ?_
        obtain rfl := Option.some.inj h
        exact hret d_MO_execute_177 g hP hS
      · have h := if_m hc h
        refine lv_iconst (v := (0 : Int32)) hx hb d_MO_execute_94 (by decide) ?_
        obtain ⟨v33, ev33, h⟩ := nx_e h
        refine tp_i ev33 ?_
        refine lv_istore_n hx hb d_MO_execute_95 rfl hl (by decide) rfl (fun ls hl => ?_)
        have hl : lv_has ls 4 [(3, .int v33), (0, .ref (x.2.1 26)), (1, .int a30), (2, .int a31)] := hl
        obtain ⟨P96, eP96⟩ : ∃ P : (Int32 × Mem) → Prop, P = (fun q => ∀ (H : Heap) (locs : List Loc) (ls : Array Slot), va_P x.1 vwCl (wld x (q.2)) H → va_S (A0 x) s.heap H locs → lv_has ls 4 [(0, .ref (x.2.1 26)), (1, .int a30), (3, .int (q.1))] → W p l e r_MO_execute s m args below meth c H locs 0 0 Q (F0 m 96 ls [])) := ⟨_, rfl⟩
        have L96 : P96 (v33, M32) := by
          refine lp_walk (G := G0) ?_ h g
          intro q res h g
          obtain ⟨v34, M35⟩ := q
          rw [eP96]
          intro H locs ls hP hS hl
          have hP : va_P x.1 vwCl (wld x M35) H := hP
          have hl : lv_has ls 4 [(0, .ref (x.2.1 26)), (1, .int a30), (3, .int v34)] := hl
          have h : l_MO_execute_96 a30 v34 M35 = some res := h
          unfold l_MO_execute_96 at h
          refine lv_iload_n hx hb d_MO_execute_96 rfl (lv_at hl 2 rfl) ?_
          refine lv_aload_n hx hb d_MO_execute_97 rfl (lv_at hl 0 rfl) ?_
          refine gf_MO_139 hx hb hts hown hK hP d_MO_execute_98 ?_
          refine lv_icmp_ge (tgt := 130) hx hb d_MO_execute_101 rfl (fun hc => ?_) (fun hc => ?_)
          · have h := if_p hc h
            obtain ⟨res2, hres, h2⟩ := jw1_e h
            clear h
            subst hres
            have h := h2
            exact J130 a30 M35 _ h g H locs ls hP hS (lv_sub hl [0, 1] rfl)
          · have h := if_m hc h
            refine lv_aload_n hx hb d_MO_execute_104 rfl (lv_at hl 0 rfl) ?_
            refine gf_MO_37 hx hb hts hown hK hP d_MO_execute_105 ?_
            refine lv_bipush (v := (6 : Int32)) hx hb d_MO_execute_108 (by decide) ?_
            refine lv_aload_n hx hb d_MO_execute_110 rfl (lv_at hl 0 rfl) ?_
            refine gf_MO_145 hx hb hts hown hK hP d_MO_execute_111 ?_
            refine lv_imul hx hb d_MO_execute_114 ?_
            refine lv_iload_n hx hb d_MO_execute_115 rfl (lv_at hl 2 rfl) ?_
            refine lv_iadd hx hb d_MO_execute_116 ?_
            refine lv_aload_n hx hb d_MO_execute_117 rfl (lv_at hl 0 rfl) ?_
            refine gf_MO_82 hx hb hts hown hK hP d_MO_execute_118 ?_
            refine lv_iload_n hx hb d_MO_execute_121 rfl (lv_at hl 2 rfl) ?_
            obtain ⟨b36, h⟩ := ck_e h
            refine m_ald hx hb hK hP ar_MO_cur b36 d_MO_execute_122 ?_
            obtain ⟨b37, h⟩ := ck_e h
            obtain ⟨M38, eM38, h⟩ := nx_e h
            refine m_ast hx hb hK hJ hP hS ar_MO_inputs b37 eM38 d_MO_execute_123 (fun H locs hP hS => ?_)
            obtain ⟨v39, ev39, h⟩ := nx_e h
            refine lv_iinc (k := 2) hx hb d_MO_execute_124 hl rfl (iinc_v (k := (1 : Int32)) (by decide) ev39) (by decide) rfl (fun ls hl => ?_)
            have hl : lv_has ls 4 [(3, .int v39), (0, .ref (x.2.1 26)), (1, .int a30)] := hl
            refine lv_goto (tgt := 96) hx hb d_MO_execute_127 rfl ?_
            obtain rfl := Option.some.inj h
            have g : P96 (v39, M38) := g
            rw [eP96] at g
            exact g H locs ls hP hS (lv_sub hl [1, 2, 0] rfl)
        rw [eP96] at L96
        exact L96 H locs ls hP hS (lv_sub hl [1, 2, 0] rfl)
    have J64 : ∀ (a40 : Int32) (a41 : Int32) (M42 : Mem)  (res : Int32 × Mem) (h : j_MO_execute_64 a40 a41 M42 = some res) (g : G0 res) (H : Heap) (locs : List Loc) (ls : Array Slot) (hP : va_P x.1 vwCl (wld x M42) H) (hS : va_S (A0 x) s.heap H locs) (hl : lv_has ls 4 [(0, .ref (x.2.1 26)), (1, .int a40), (2, .int a41)]), W p l e r_MO_execute s m args below meth c H locs 0 0 Q (F0 m 64 ls []) := by
      intro a40 a41 M42 res h g H locs ls hP hS hl
      unfold j_MO_execute_64 at h
      refine lv_iload_n hx hb d_MO_execute_64 rfl (lv_at hl 2 rfl) ?_
      refine lv_if_eq (tgt := 90) hx hb d_MO_execute_65 rfl (fun hc => ?_) (fun hc => ?_)
      · have h := if_p hc h
        exact J90 a40 a41 M42 _ h g H locs ls hP hS (lv_sub hl [0, 1, 2] rfl)
      · have h := if_m hc h
        refine lv_aload_n hx hb d_MO_execute_68 rfl (lv_at hl 0 rfl) ?_
        refine gf_MO_145 hx hb hts hown hK hP d_MO_execute_69 ?_
        refine lv_bipush (v := (16 : Int32)) hx hb d_MO_execute_72 (by decide) ?_
        refine lv_icmp_ne (tgt := 90) hx hb d_MO_execute_74 rfl (fun hc => ?_) (fun hc => ?_)
        · have h := if_m hc h
          exact J90 a40 a41 M42 _ h g H locs ls hP hS (lv_sub hl [0, 1, 2] rfl)
        · have h := if_p hc h
          refine lv_aload_n hx hb d_MO_execute_77 rfl (lv_at hl 0 rfl) ?_
          refine lv_dup hx hb d_MO_execute_78 rfl ?_
          refine gf_MO_178 hx hb hts hown hK hP d_MO_execute_79 ?_
          refine lv_iconst (v := (1 : Int32)) hx hb d_MO_execute_82 (by decide) ?_
          refine lv_iadd hx hb d_MO_execute_83 ?_
          obtain ⟨M43, eM43, h⟩ := nx_e h
          refine pf_MO_178 hx hb hts hown hK hJ hP hS eM43 d_MO_execute_84 (fun H locs hP hS => ?_)
          refine lv_goto (tgt := 176) hx hb d_MO_execute_87 rfl ?_
          refine lv_iload_n hx hb d_MO_execute_176 rfl (lv_at hl 1 rfl) ?_
          obtain rfl := Option.some.inj h
          exact hret d_MO_execute_177 g hP hS
    have J42 : ∀ (a44 : Int32) (a45 : Int32) (M46 : Mem)  (res : Int32 × Mem) (h : j_MO_execute_42 a44 a45 M46 = some res) (g : G0 res) (H : Heap) (locs : List Loc) (ls : Array Slot) (hP : va_P x.1 vwCl (wld x M46) H) (hS : va_S (A0 x) s.heap H locs) (hl : lv_has ls 4 [(0, .ref (x.2.1 26)), (1, .int a44)]), W p l e r_MO_execute s m args below meth c H locs 0 0 Q (F0 m 42 ls [.int a45, .ref (x.2.1 26)]) := by
      intro a44 a45 M46 res h g H locs ls hP hS hl
      unfold j_MO_execute_42 at h
      obtain ⟨M47, eM47, h⟩ := nx_e h
      refine pf_MO_168 hx hb hts hown hK hJ hP hS eM47 d_MO_execute_42 (fun H locs hP hS => ?_)
      refine lv_aload_n hx hb d_MO_execute_45 rfl (lv_at hl 0 rfl) ?_
      obtain ⟨r50, M48, c49, h⟩ := bi_e h
      refine cl_MO_171 (rest := []) (R := r_MO_execute) (c_MO_newPair l x hJ c49) hx hb hml hts hown hK hZ hP hS hl.1 (Nat.le_of_ble_eq_true rfl) (Nat.le_of_ble_eq_true rfl) (Nat.le_of_ble_eq_true rfl) ⟨rfl, rfl, Nat.zero_le _, Nat.zero_le _⟩ d_MO_execute_46 (fun H locs hP hS => ?_)
      refine lv_istore_n hx hb d_MO_execute_49 rfl hl (by decide) rfl (fun ls hl => ?_)
      have hl : lv_has ls 4 [(2, .int r50), (0, .ref (x.2.1 26)), (1, .int a44)] := hl
      refine lv_iload_n hx hb d_MO_execute_50 rfl (lv_at hl 2 rfl) ?_
      refine lv_iconst (v := (1 : Int32)) hx hb d_MO_execute_51 (by decide) ?_
      refine lv_icmp_lt (tgt := 64) hx hb d_MO_execute_52 rfl (fun hc => ?_) (fun hc => ?_)
      · have h := if_p hc h
        exact J64 a44 r50 M48 _ h g H locs ls hP hS (lv_sub hl [1, 2, 0] rfl)
      · have h := if_m hc h
        refine lv_iload_n hx hb d_MO_execute_55 rfl (lv_at hl 2 rfl) ?_
        refine lv_iconst (v := (4 : Int32)) hx hb d_MO_execute_56 (by decide) ?_
        refine lv_icmp_gt (tgt := 64) hx hb d_MO_execute_57 rfl (fun hc => ?_) (fun hc => ?_)
        · have h := if_p hc h
          exact J64 a44 r50 M48 _ h g H locs ls hP hS (lv_sub hl [1, 2, 0] rfl)
        · have h := if_m hc h
          refine lv_aload_n hx hb d_MO_execute_60 rfl (lv_at hl 1 rfl) ?_
          obtain ⟨M51, c52, h⟩ := bv_e h
          refine cl_MO_175 (rest := []) (R := r_MO_execute) (c_MO_trapped l x hJ c52) hx hb hml hts hown hK hZ hP hS hl.1 (Nat.le_of_ble_eq_true rfl) (Nat.le_of_ble_eq_true rfl) (Nat.le_of_ble_eq_true rfl) ⟨rfl, rfl, Nat.zero_le _, Nat.zero_le _⟩ d_MO_execute_61 (fun H locs hP hS => ?_)
          exact J64 a44 r50 M51 _ h g H locs ls hP hS (lv_sub hl [1, 2, 0] rfl)
    refine lv_aload_n hx hb d_MO_execute_0 rfl (lv_at hl 0 rfl) ?_
    obtain ⟨M53, c54, h⟩ := bv_e h
    refine cl_MO_162 (rest := []) (R := r_MO_execute) (c_MO_survey l x hJ c54) hx hb hml hts hown hK hZ hP hS hl.1 (Nat.le_of_ble_eq_true rfl) (Nat.le_of_ble_eq_true rfl) (Nat.le_of_ble_eq_true rfl) ⟨rfl, rfl, Nat.zero_le _, Nat.zero_le _⟩ d_MO_execute_1 (fun H locs hP hS => ?_)
    refine lv_aload_n hx hb d_MO_execute_4 rfl (lv_at hl 0 rfl) ?_
    obtain ⟨M55, c56, h⟩ := bv_e h
    refine cl_MO_165 (rest := []) (R := r_MO_execute) (c_MO_runCurrent l x hJ c56) hx hb hml hts hown hK hZ hP hS hl.1 (Nat.le_of_ble_eq_true rfl) (Nat.le_of_ble_eq_true rfl) (Nat.le_of_ble_eq_true rfl) ⟨rfl, rfl, Nat.zero_le _, Nat.zero_le _⟩ d_MO_execute_5 (fun H locs hP hS => ?_)
    refine lv_aload_n hx hb d_MO_execute_8 rfl (lv_at hl 0 rfl) ?_
    refine gf_MO_114 hx hb hts hown hK hP d_MO_execute_9 ?_
    obtain ⟨v57, ev57, h⟩ := nx_e h
    refine tp_i ev57 ?_
    refine lv_istore_n hx hb d_MO_execute_12 rfl hl (by decide) rfl (fun ls hl => ?_)
    have hl : lv_has ls 4 [(1, .int v57), (0, .ref (x.2.1 26))] := hl
    refine lv_aload_n hx hb d_MO_execute_13 rfl (lv_at hl 1 rfl) ?_
    refine lv_dup hx hb d_MO_execute_14 rfl ?_
    refine gf_MO_99 hx hb hts hown hK hP d_MO_execute_15 ?_
    refine lv_iconst (v := (1 : Int32)) hx hb d_MO_execute_18 (by decide) ?_
    refine lv_iadd hx hb d_MO_execute_19 ?_
    obtain ⟨M58, eM58, h⟩ := nx_e h
    refine pf_MO_99 hx hb hts hown hK hJ hP hS eM58 d_MO_execute_20 (fun H locs hP hS => ?_)
    refine lv_aload_n hx hb d_MO_execute_23 rfl (lv_at hl 1 rfl) ?_
    refine lv_iload_n hx hb d_MO_execute_24 rfl (lv_at hl 0 rfl) ?_
    refine lv_iconst (v := (5 : Int32)) hx hb d_MO_execute_25 (by decide) ?_
    refine lv_icmp_ne (tgt := 38) hx hb d_MO_execute_26 rfl (fun hc => ?_) (fun hc => ?_)
    · have h := if_m hc h
      refine lv_aload_n hx hb d_MO_execute_38 rfl (lv_at hl 1 rfl) ?_
      refine gf_MO_168 hx hb hts hown hK hP d_MO_execute_39 ?_
      exact J42 v57 (M58 26 33) M58 _ h g H locs ls hP hS (lv_sub hl [1, 0] rfl)
    · have h := if_p hc h
      refine lv_aload_n hx hb d_MO_execute_29 rfl (lv_at hl 1 rfl) ?_
      refine gf_MO_168 hx hb hts hown hK hP d_MO_execute_30 ?_
      refine lv_iconst (v := (1 : Int32)) hx hb d_MO_execute_33 (by decide) ?_
      refine lv_iadd hx hb d_MO_execute_34 ?_
      refine lv_goto (tgt := 42) hx hb d_MO_execute_35 rfl ?_
      exact J42 v57 ((M58 26 33) + (1 : Int32)) M58 _ h g H locs ls hP hS (lv_sub hl [1, 0] rfl)
  rw [eH] at key
  exact key
