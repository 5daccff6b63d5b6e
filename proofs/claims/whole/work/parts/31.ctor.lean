/-! Constructors: a contract says what world the one cell that was given has become; rows for new cells, final fields, calls. -/
def tyk (ids : ClassId × ClassId × ClassId) : List (ClassId × FieldType) := [(ids.1, .int), (ids.2.1, .object "EdgeCampaign$Entry"), (ids.2.2, .object "EdgeCampaign$Finding")]
def nbK : List (String × Nat × MethodName × String) := [("EdgeCampaign$Entry", 9, ⟨"EdgeCampaign$Input", "<init>", "()V"⟩, "EdgeCampaign"), ("EdgeCampaign$Finding", 9, ⟨"EdgeCampaign$Input", "<init>", "()V"⟩, "EdgeCampaign"), ("EdgeCampaign$Shortener", 9, ⟨"EdgeCampaign$Run", "<init>", "()V"⟩, "EdgeCampaign"), ("EdgeCampaign$Shortener", 18, ⟨"EdgeCampaign$Input", "<init>", "()V"⟩, "EdgeCampaign"), ("EdgeCampaign$Store", 26, ⟨"EdgeCampaign$Entry", "<init>", "()V"⟩, "EdgeCampaign"), ("EdgeCampaign$Findings", 15, ⟨"EdgeCampaign$Finding", "<init>", "()V"⟩, "EdgeCampaign"), ("EdgeCampaign", 9, ⟨"EdgeCampaign$Program", "<init>", "()V"⟩, "EdgeCampaign"), ("EdgeCampaign", 18, ⟨"EdgeCampaign$Input", "<init>", "()V"⟩, "EdgeCampaign"), ("EdgeCampaign", 28, ⟨"EdgeCampaign$Run", "<init>", "()V"⟩, "EdgeCampaign"), ("EdgeCampaign", 49, ⟨"EdgeCampaign$Shortener", "<init>", "()V"⟩, "EdgeCampaign"), ("EdgeCampaign", 65, ⟨"EdgeCampaign$Trials", "<init>", "()V"⟩, "EdgeCampaign")]
def NstK (U : State) : Prop := ∀ q ∈ nbK, va_Nw (.methodLinkNest q.1 q.2.1 q.2.2.1 q.2.2.2) U
def Aos (U : State) : Prop := va_AO "EdgeCampaign$Entry" U ∧ va_AO "EdgeCampaign$Finding" U ∧ NstK U
def Kp (D : va_G) (ids : ClassId × ClassId × ClassId) (sz h0 : Nat) (e0 : va_E) (U : State) : Prop := U.heap.size = sz ∧ va_P D vwCl [(h0, e0)] U.heap ∧ va_K D vwCl (tyk ids) U ∧ va_D (fun _ => True) [(h0, e0)] ∧ Nst U ∧ Aos U
def Ck (l : Launch) (D : va_G) (ids : ClassId × ClassId × ClassId) (y : MethodName) (w : List Cond) (rm : Room) (av : List Value) (h0 : Nat) (e0 : va_E) (post : va_W → Prop) (mc ms : Nat) : Prop :=
  ∀ sz : Nat, Met l y w rm (va_Pc av (Kp D ids sz h0 e0)) (va_Qv (fun ws => post ws) (fun ws t => va_P D vwCl ws t.heap ∧ va_D (va_A [(h0, e0)] sz) ws) (va_A [(h0, e0)] sz)) mc ms (va_A [(h0, e0)] sz)
theorem kblind {D : va_G} {ids : ClassId × ClassId × ClassId} {sz h0 : Nat} {e0 : va_E} {av : List Value} : FrameBlind (va_Pc av (Kp D ids sz h0 e0)) := fun a U g mk q => by
  obtain ⟨q0, q1, q2, q3, q4, q5, q6⟩ := q
  exact ⟨q0, q1, q2, va_K.moved (u := U) (U := U.calling g mk a) (Vm.Alike.refl U.vm) q3, q4, Nst.same (s := U) (U := U.calling g mk a) rfl q5, q6.1.moved (u := U) (U := U.calling g mk a) (Vm.Alike.refl U.vm), q6.2.1.moved (u := U) (U := U.calling g mk a) (Vm.Alike.refl U.vm), fun q hq => (q6.2.2 q hq).same rfl rfl⟩
theorem ofCk {l : Launch} {D : va_G} {ids : ClassId × ClassId × ClassId} {y : MethodName} {rm : Room} {av : List Value} {h0 : Nat} {e0 : va_E} {post : va_W → Prop} {mc ms : Nat} {cc : ByteArray} {maxL : Nat} {ws' : List Cond} (hy : plainName y.cls = true) (hw : (Cond.code y cc maxL none :: tb) = Cond.code y cc maxL none :: ws') (hn : (lg_sl av).length ≤ maxL) (hi : y.name = "<init>")
    (body : ∀ (p : Program) (e : Env) (s : State) (m : MethodId) (args : Array Value) (below : List Frame) (meth : Method) (c : Code) (Q : State → Prop) (ls : Array Slot) (A : Nat → Prop), p.tables.exec = Jvm.exec → c.code = cc → c.maxLocals = maxL → s.vm.findClass y.cls = some m.cls → meth.name = "<init>" → Tb args s → Aos s → va_K D vwCl (tyk ids) s → (∀ q : Nat, s.heap.size ≤ q → A q) → va_P D vwCl [(h0, e0)] s.heap → va_D A [(h0, e0)] → va_S A s.heap s.heap [] → lv_has ls maxL (lv_args 0 av) →
      (∀ {ws : va_W} {H : Heap} {locs : List Loc} {ls : Array Slot} {pc : Nat}, decode cc pc = .ok (.return_, 1) → post ws → va_P D vwCl ws H → va_D A ws → va_S A s.heap H locs → W p l e rm s m args below meth c H locs mc ms Q (F0 m pc ls [])) →
      W p l e rm s m args below meth c s.heap [] 0 0 Q (F0 m 0 ls [])) : Ck l D ids y (Cond.code y cc maxL none :: tb) rm av h0 e0 post mc ms := by
  intro sz
  refine Met.ofW (cc := cc) (maxL := maxL) (ret := none) hy hw ?_
  intro p e s m args below meth c s₁ B hml hv
  obtain ⟨rfl, hsz, hP, hK, hD0, hN, hO⟩ := hv
  subst hsz
  have hts := atoms_spec (ws := Cond.code y cc maxL none :: tb) B.pre
  have hlocks := B.notSynchronized
  have hr := B.returns
  rw [lg_entry_eq]
  refine body p e s m _ below meth c _ _ (va_A [(h0, e0)] s.heap.size) B.exec B.bytes hml (findClass_of_methodNamed B.named) ((name_of_methodNamed B.named B.method).1.trans hi) ⟨fun w hw => hts w (List.mem_cons_of_mem _ hw), hN⟩ hO hK (fun q h => Or.inr h) hP hD0.self va_S.rf (lv_entry av hn) ?_
  intro ws H locs ls pc hd hp hP1 hD1 hS1
  exact W.vret B.exec B.bytes hr (fun t ht _ => ⟨⟨ws, rfl, hp, by show va_P D vwCl ws t.heap; rw [ht]; exact hP1, hD1⟩, hS1.F ht⟩) hS1.2.2 hd
section KROWS
variable {p : Program} {l : Launch} {e : Env} {R : Room} {s : State} {m : MethodId} {args : Array Value} {below : List Frame} {meth : Method} {c : Code} {H : Heap} {locs : List Loc} {cells slots : Nat} {Q : State → Prop}
variable {cc : ByteArray} {pc : Nat} {ls : Array Slot} {rest : List Value} {D : va_G} {ids : ClassId × ClassId × ClassId} {A : Nat → Prop} {h0 : Nat} {T : va_W} {e0 : va_E}
theorem k_newa (hexec : p.tables.exec = Jvm.exec) (hb : c.code = cc) (harr : (Cond.arrayClass .int).before args s = true) (hK : va_K D vwCl (tyk ids) s) (hA : ∀ q : Nat, s.heap.size ≤ q → A q) (hP : va_P D vwCl ((h0, e0) :: T) H) (hD : va_D A ((h0, e0) :: T)) (hS : va_S A s.heap H locs) {n : Int32} {N' : Nat} (hn : ¬ n < 0) (hN : n.toNatClampNeg = N') (hby : N' * 4 ≤ 536870912) (hc : cells + 1 ≤ R.cells) (hs : slots + N' ≤ R.slots) (hdg : decode cc pc = .ok (.newarray .int, 2))
    (kk : ∀ (q : Nat) (H1 : Heap), va_P D vwCl ((h0, e0) :: (T ++ [(q, .inl (ids.1, N', .inl (fun _ => 0)))])) H1 → va_D A ((h0, e0) :: (T ++ [(q, .inl (ids.1, N', .inl (fun _ => 0)))])) → va_S A s.heap H1 locs → W p l e R s m args below meth c H1 locs (cells + 1) (slots + N') Q (F0 m (pc + 2) ls (.ref q :: rest))) : W p l e R s m args below meth c H locs cells slots Q (F0 m pc ls (.int n :: rest)) := by
  refine va_newa (atype := .int) (ty := .int) (a0 := (N', .inl (fun _ => 0))) hexec hb harr rfl hK hP hD hS hA (fun _ => rfl) hn hN hby hc hs hdg (fun q cA H1 k1 p1 d1 s1 => ?_)
  have e1 := (k1.2 3 (cA, .int) rfl).2
  have e2 := (hK.2 0 (ids.1, .int) rfl).2
  have e3 : cA = ids.1 := Option.some.inj (e1.symm.trans e2)
  subst e3
  exact kk q H1 p1 d1 s1
theorem k_newq (hexec : p.tables.exec = Jvm.exec) (hb : c.code = cc) {own C : String} {cX : ClassId} {index t0 : Nat} (hown : s.vm.findClass own = some m.cls) (hcl : (Cond.classLink own index C).before args s = true) (hov : va_AO C s) (hK : va_K D vwCl (tyk ids) s) (ht : (tyk ids)[t0]? = some (cX, .object C)) (hA : ∀ q : Nat, s.heap.size ≤ q → A q) (hP : va_P D vwCl ((h0, e0) :: T) H) (hD : va_D A ((h0, e0) :: T)) (hS : va_S A s.heap H locs) {n : Int32} {N' : Nat} (hn : ¬ n < 0) (hN : n.toNatClampNeg = N') (hby : N' * 4 ≤ 536870912) (hc : cells + 1 ≤ R.cells) (hs : slots + N' ≤ R.slots) (hdg : decode cc pc = .ok (.anewarray index, 3))
    (kk : ∀ (q : Nat) (H1 : Heap), va_P D vwCl ((h0, e0) :: (T ++ [(q, .inl (cX, N', .inr (.inr (.inr (.inr (fun _ => none))))))])) H1 → va_D A ((h0, e0) :: (T ++ [(q, .inl (cX, N', .inr (.inr (.inr (.inr (fun _ => none))))))])) → va_S A s.heap H1 locs → W p l e R s m args below meth c H1 locs (cells + 1) (slots + N') Q (F0 m (pc + 3) ls (.ref q :: rest))) : W p l e R s m args below meth c H locs cells slots Q (F0 m pc ls (.int n :: rest)) := by
  refine va_newq hexec hb hown hcl hov hK hP hD hS hA hn hN hby hc hs hdg (fun q cA H1 k1 p1 d1 s1 => ?_)
  obtain ⟨kA, comp, a1, a2, a3, a4⟩ := (k1.2 3 (cA, .object C) rfl).2
  obtain ⟨kB, comp2, b1, b2, b3, b4⟩ := (hK.2 t0 (cX, .object C) ht).2
  have e3 : cA = cX := Option.some.inj (a4.symm.trans b4)
  subst e3
  exact kk q H1 p1 d1 s1
theorem k_new (hexec : p.tables.exec = Jvm.exec) (hb : c.code = cc) {own C : String} {TT : u_T} {N ci index : Nat} (hts : Tb args s) (hin : ∀ w ∈ u_ws C TT N, w ∈ tb) (ty : Nat → FieldType) (hty : ∀ k, k < N → parseFieldDescriptor (TT k).2.2.1 = some (ty k)) (hown : s.vm.findClass own = some m.cls) (hcl : Cond.classLink own index C ∈ tb) (hinst : Cond.instantiable C N ∈ tb) (hini : Cond.initialized C ∈ tb) (hK : va_K D vwCl (tyk ids) s) (hA : ∀ q : Nat, s.heap.size ≤ q → A q) (hP : va_P D vwCl ((h0, e0) :: T) H) (hD : va_D A ((h0, e0) :: T)) (hS : va_S A s.heap H locs) (hc : vwCl[ci]? = some (C, TT, N)) {fs : List Value} (hfs : ∀ j, j < N → defaultValue (ty j) = vp_V fs j) (hce : cells + 1 ≤ R.cells) (hsl : slots + N ≤ R.slots) (hdg : decode cc pc = .ok (.new index, 3))
    (kk : ∀ (q : Nat) (H1 : Heap), va_P D vwCl ((h0, e0) :: (T ++ [(q, .inr (ci, fs))])) H1 → va_D A ((h0, e0) :: (T ++ [(q, .inr (ci, fs))])) → va_S A s.heap H1 locs → W p l e R s m args below meth c H1 locs (cells + 1) (slots + N) Q (F0 m (pc + 3) ls (.ref q :: rest))) : W p l e R s m args below meth c H locs cells slots Q (F0 m pc ls rest) :=
  va_new hexec hb hts.1 hin ty hty hown (hts.1 _ hcl) (hts.1 _ hinst) (hts.1 _ hini) hK hP hD hS hA hc hfs hce hsl hdg (fun q H1 p1 d1 s1 => kk q H1 p1 d1 s1)
theorem k_putF (hexec : p.tables.exec = Jvm.exec) (hb : c.code = cc) {own C : String} {TT : u_T} {N ci index : Nat} (hts : Tb args s) (hin : ∀ w ∈ u_ws C TT N, w ∈ tb) (ty0 : Nat → FieldType) (hty : ∀ k, k < N → parseFieldDescriptor (TT k).2.2.1 = some (ty0 k)) (hnm : ∀ a, a < N → ∀ b, b < N → a ≠ b → (TT a).2.1 ≠ (TT b).2.1) (hown : s.vm.findClass own = some m.cls) (hK : va_K D vwCl (tyk ids) s) {fs : List Value} (hP : va_P D vwCl ((h0, .inr (ci, fs)) :: T) H) (hD : va_D A ((h0, .inr (ci, fs)) :: T)) (hS : va_S A s.heap H locs) (hc : vwCl[ci]? = some (C, TT, N)) (k : Nat) (hk : k < N) (hlink : Cond.fieldLink own index C (TT k).2.1 (TT k).2.2.1 ∈ tb) (href : C = (TT k).1) (hfin : (TT k).2.2.2 = true) (hi2 : meth.name = "<init>") (hdecl : (TT k).1 = own) {ty : FieldType} {q : Nat} (hd : parseFieldDescriptor (TT k).2.2.1 = some ty) (hn : narrow ty (.ref q) = .ref q) (hfit : fits ty (.ref q) = true) (hl : k < fs.length) {fs' : List Value} (hfs : fs.set k (.ref q) = fs') (hdg : decode cc pc = .ok (.putfield index, 3))
    (kk : ∀ (H1 : Heap) (locs1 : List Loc), va_P D vwCl ((h0, .inr (ci, fs')) :: T) H1 → va_D A ((h0, .inr (ci, fs')) :: T) → va_S A s.heap H1 locs1 → W p l e R s m args below meth c H1 locs1 cells slots Q (F0 m (pc + 3) ls rest)) : W p l e R s m args below meth c H locs cells slots Q (F0 m pc ls (.ref q :: .ref h0 :: rest)) := by
  subst hfs
  exact va_putF (D := D) hexec hb hts.1 hin ty0 hty hnm hown hK hP hD hS 0 rfl hc k hk (hts.1 _ hlink) (fun z h => by rw [href]; exact h) hfin hi2 hdecl hd hn hfit hl hdg (fun H1 locs1 p1 d1 s1 => kk H1 locs1 p1 d1 s1)
theorem k_put (hexec : p.tables.exec = Jvm.exec) (hb : c.code = cc) {own C : String} {TT : u_T} {N ci index : Nat} (hts : Tb args s) (hin : ∀ w ∈ u_ws C TT N, w ∈ tb) (ty0 : Nat → FieldType) (hty : ∀ k, k < N → parseFieldDescriptor (TT k).2.2.1 = some (ty0 k)) (hnm : ∀ a, a < N → ∀ b, b < N → a ≠ b → (TT a).2.1 ≠ (TT b).2.1) (hown : s.vm.findClass own = some m.cls) (hK : va_K D vwCl (tyk ids) s) {fs : List Value} (hP : va_P D vwCl ((h0, .inr (ci, fs)) :: T) H) (hD : va_D A ((h0, .inr (ci, fs)) :: T)) (hS : va_S A s.heap H locs) (hc : vwCl[ci]? = some (C, TT, N)) (k : Nat) (hk : k < N) (hlink : Cond.fieldLink own index C (TT k).2.1 (TT k).2.2.1 ∈ tb) (href : C = (TT k).1) (hfin : (TT k).2.2.2 = false) {v : Int32} (hd : parseFieldDescriptor (TT k).2.2.1 = some .int) (hl : k < fs.length) {fs' : List Value} (hfs : fs.set k (.int v) = fs') (hdg : decode cc pc = .ok (.putfield index, 3))
    (kk : ∀ (H1 : Heap) (locs1 : List Loc), va_P D vwCl ((h0, .inr (ci, fs')) :: T) H1 → va_D A ((h0, .inr (ci, fs')) :: T) → va_S A s.heap H1 locs1 → W p l e R s m args below meth c H1 locs1 cells slots Q (F0 m (pc + 3) ls rest)) : W p l e R s m args below meth c H locs cells slots Q (F0 m pc ls (.int v :: .ref h0 :: rest)) := by
  subst hfs
  exact va_put (D := D) hexec hb hts.1 hin ty0 hty hnm hown hK hP hD hS 0 rfl hc k hk (hts.1 _ hlink) (fun z h => by rw [href]; exact h) hfin hd (vp_nar_int v) rfl hl hdg (fun H1 locs1 p1 d1 s1 => kk H1 locs1 p1 d1 s1)
theorem k_last {ws w1 : va_W} {q : Nat} {e1 : va_E} {H1 : Heap} (hP : va_P D vwCl (ws ++ [(q, e1)]) H) (hD : va_D A (ws ++ [(q, e1)])) (hk : ∀ a : Nat, a < H.size → ¬ va_A [(q, e1)] H.size a → H1[a]? = H[a]?) (hF : ∀ a, va_A [(q, e1)] H.size a → A a) (hP1 : va_P D vwCl w1 H1) (hD1 : va_D (va_A [(q, e1)] H.size) w1) : va_P D vwCl (ws ++ w1) H1 ∧ va_D A (ws ++ w1) := by
  have hin : ∀ (k : Nat) (z : Nat × va_E), ws[k]? = some z → (ws ++ [(q, e1)])[k]? = some z := fun k z h => by
    rw [List.getElem?_append_left (List.getElem?_eq_some_iff.mp h).1]; exact h
  have hl : (ws ++ [(q, e1)])[ws.length]? = some (q, e1) := by rw [List.getElem?_append_right (Nat.le_refl _), Nat.sub_self]; rfl
  have hne : ∀ (k : Nat) (z : Nat × va_E), ws[k]? = some z → z.1 ≠ q := fun k z h e => by
    have h1 := hD.1 k ws.length z (q, e1) (hin k z h) hl e
    have h2 := (List.getElem?_eq_some_iff.mp h).1
    omega
  have hout : ∀ (k : Nat) (z : Nat × va_E), ws[k]? = some z → z.1 < H.size ∧ ¬ va_A [(q, e1)] H.size z.1 := fun k z h => by
    have h1 := (hP k z (hin k z h)).lt
    refine ⟨h1, fun ha => ?_⟩
    rcases ha with ⟨i, e2, hi⟩ | ha
    · obtain ⟨hi1, hi2⟩ := List.getElem?_eq_some_iff.mp hi
      have : i = 0 := by simp at hi1; omega
      subst this
      simp at hi
      exact hne k z h hi.1.symm
    · omega
  refine ⟨va_P.app (fun k z h => (hP k z (hin k z h)).kept (hk z.1 (hout k z h).1 (hout k z h).2)) hP1, va_D.app ⟨fun i j a b h1 h2 h3 => hD.1 i j a b (hin i a h1) (hin j b h2) h3, fun k z h => hD.2 k z (hin k z h)⟩ (hD1.weaken (fun k z _ h => hF z.1 h)) (fun i j a b h1 h2 h3 => ?_)⟩
  exact (hout i a h1).2 (by rw [h3]; exact hD1.2 j b h2)
theorem k_free {ws : va_W} {q : Nat} {e1 : va_E} (hD : va_D A (ws ++ [(q, e1)])) (hS : va_S A s.heap H locs) (hA : ∀ q : Nat, s.heap.size ≤ q → A q) : ∀ a, va_A [(q, e1)] H.size a → A a := by
  intro a ha
  rcases ha with ⟨i, e2, hi⟩ | ha
  · obtain ⟨hi1, hi2⟩ := List.getElem?_eq_some_iff.mp hi
    have : i = 0 := by simp at hi1; omega
    subst this
    simp at hi
    have hl : (ws ++ [(q, e1)])[ws.length]? = some (q, e1) := by rw [List.getElem?_append_right (Nat.le_refl _), Nat.sub_self]; rfl
    rw [← hi.1]
    exact hD.2 _ _ hl
  · exact hA a (Nat.le_trans hS.1 ha)
theorem k_pre {ws : va_W} {q : Nat} {e1 : va_E} {av : List Value} (hts : Tb args s) (hO : Aos s) (hK : va_K D vwCl (tyk ids) s) (hP : va_P D vwCl (ws ++ [(q, e1)]) H) : ∀ U : State, U.heap = H → s.WarmedH U.vm → va_Pc av (Kp D ids H.size q e1) av.toArray U := fun U hU hW => by
  have hl : (ws ++ [(q, e1)])[ws.length]? = some (q, e1) := by rw [List.getElem?_append_right (Nat.le_refl _), Nat.sub_self]; rfl
  have one : ∀ (k : Nat) (z : Nat × va_E), ([(q, e1)] : va_W)[k]? = some z → k = 0 ∧ z = (q, e1) := fun k z h => by
    obtain ⟨hi1, hi2⟩ := List.getElem?_eq_some_iff.mp h
    have : k = 0 := by simp at hi1; omega
    subst this
    simp at h
    exact ⟨rfl, h.symm⟩
  refine ⟨rfl, by rw [hU], ?_, va_K.moved hW.alike hK, ⟨fun i j a b h1 h2 _ => by rw [(one i a h1).1, (one j b h2).1], fun _ _ _ => trivial⟩, hts.2.moved hW, hO.1.moved hW.alike, hO.2.1.moved hW.alike, fun q hq => (hO.2.2 q hq).warmM hW⟩
  intro k z h
  rw [(one k z h).2, hU]
  exact hP _ _ hl
theorem k_call {ws : va_W} {q mc ms : Nat} {e1 : va_E} {post : va_W → Prop} {a : Array Value} {st0 : List Value} (hr : va_Run p l e R s m args below meth c H locs cells slots mc ms (F0 m pc ls st0) rest (va_Qv (fun ws => post ws) (fun ws t => va_P D vwCl ws t.heap ∧ va_D (va_A [(q, e1)] H.size) ws) (va_A [(q, e1)] H.size) a) (va_A [(q, e1)] H.size)) (hA : ∀ q : Nat, s.heap.size ≤ q → A q) (hP : va_P D vwCl (ws ++ [(q, e1)]) H) (hD : va_D A (ws ++ [(q, e1)])) (hS : va_S A s.heap H locs)
    (kk : ∀ (w1 : va_W) (H1 : Heap) (locs1 : List Loc), post w1 → va_P D vwCl (ws ++ w1) H1 → va_D A (ws ++ w1) → va_S A s.heap H1 locs1 → W p l e R s m args below meth c H1 locs1 (cells + mc) (slots + ms) Q (F0 m (pc + 3) ls rest)) : W p l e R s m args below meth c H locs cells slots Q (F0 m pc ls st0) :=
  va_callv hr hS (fun q _ h => k_free hD hS hA q h) (k_free hD hS hA) (fun u t H1 locs1 ht _ hp hB _ hk1 hS1 => by
    obtain ⟨hP1, hD1⟩ := hB
    rw [ht] at hP1
    obtain ⟨hP2, hD2⟩ := k_last hP hD hk1 (k_free hD hS hA) hP1 hD1
    exact kk u H1 locs1 hp hP2 hD2 hS1)
end KROWS
