/-! Pure: a run does not see old stack places, the old here, or places out of range. -/
def Req (s t : Rs) : Prop := (∀ k, k < 4 → s.1.1 k = t.1.1 k) ∧ (∀ k, k < 4 → s.1.2.1 k = t.1.2.1 k) ∧ (∀ d, d ≤ 3 → s.2.1 = nI d → ∀ k, k < d → s.1.2.2.1 k = t.1.2.2.1 k) ∧ (∀ g, g < 576 → s.1.2.2.2 g = t.1.2.2.2 g) ∧ s.2.1 = t.2.1 ∧ s.2.2.1 = t.2.2.1 ∧ (s.2.2.2.2.1 ≠ 0 → s.2.2.2.1 = t.2.2.2.1) ∧ s.2.2.2.2.1 = t.2.2.2.2.1 ∧ s.2.2.2.2.2 = t.2.2.2.2.2
theorem Req_R {s t : Rs} {k : Nat} {v w : Int32} (h : Req s t) (e : v = w) : Req (rR s k v) (rR t k w) := by
  subst e
  refine ⟨fun i hi => ?_, h.2⟩
  show upd s.1.1 k v i = upd t.1.1 k v i
  unfold upd
  rw [h.1 i hi]
theorem Req_Me {s t : Rs} {k : Nat} {v w : Int32} (h : Req s t) (e : v = w) : Req (rMe s k v) (rMe t k w) := by
  subst e
  refine ⟨h.1, fun i hi => ?_, h.2.2⟩
  show upd s.1.2.1 k v i = upd t.1.2.1 k v i
  unfold upd
  rw [h.2.1 i hi]
theorem Req_Oc {s t : Rs} {v : Int32} (h : Req s t) : Req (rOc s v) (rOc t v) := ⟨h.1, h.2.1, h.2.2.1, h.2.2.2.1, h.2.2.2.2.1, h.2.2.2.2.2.1, h.2.2.2.2.2.2.1, h.2.2.2.2.2.2.2.1, rfl⟩
theorem Req_Pc {s t : Rs} {v w : Int32} (h : Req s t) (e : v = w) : Req (rPc s v) (rPc t w) := ⟨h.1, h.2.1, h.2.2.1, h.2.2.2.1, h.2.2.2.2.1, e, h.2.2.2.2.2.2.1, h.2.2.2.2.2.2.2.1, h.2.2.2.2.2.2.2.2⟩
theorem Req_Tm {s t : Rs} {g : Nat} {v w : Int32} (h : Req s t) (e : v = w) : Req (rTm s g v) (rTm t g w) := by
  subst e
  refine ⟨h.1, h.2.1, h.2.2.1, fun i hi => ?_, h.2.2.2.2⟩
  show upd s.1.2.2.2 g v i = upd t.1.2.2.2 g v i
  unfold upd
  rw [h.2.2.2.1 i hi]
def Ieq (I J : Ip) : Prop := I.2 = J.2 ∧ ∀ k, 0 ≤ k ∧ k < I.2 → I.1 k.toNatClampNeg = J.1 k.toNatClampNeg
theorem cl_lt {x : Int32} {n : Nat} (h : vp_in x n) : x.toNatClampNeg < n := Nat.lt_of_not_le (fun q => h (Or.inr q))
theorem Req_wk {I J : Ip} {s t : Rs} {op a b : Int32} (ho : op = 0 ∨ op = 1 ∨ op = 2 ∨ op = 3 ∨ op = 4 ∨ op = 5 ∨ op = 11 ∨ op = 12 ∨ op = 13 ∨ op = 14 ∨ op = 15) (hI : Ieq I J) (h : Req s t) (ha : vp_in a 4) (hb : op ≠ 0 → op ≠ 1 → op ≠ 12 → op ≠ 15 → vp_in b 4) : Req (rWk I op a b s) (rWk J op a b t) := by
  have xa : s.1.1 a.toNatClampNeg = t.1.1 a.toNatClampNeg := h.1 _ (cl_lt ha)
  rcases ho with rfl | rfl | rfl | rfl | rfl | rfl | rfl | rfl | rfl | rfl | rfl
  · simp [rWk]; exact Req_Oc h
  · simp [rWk]; exact Req_R h rfl
  · have xb := h.1 _ (cl_lt (hb (by decide) (by decide) (by decide) (by decide)))
    simp [rWk]
    refine Req_R h ?_
    rw [← xb, ← hI.1]
    by_cases q : 0 ≤ s.1.1 b.toNatClampNeg ∧ s.1.1 b.toNatClampNeg < I.2
    · rw [if_pos q, if_pos q]; exact hI.2 _ q
    · rw [if_neg q, if_neg q]
  · have xb := h.1 _ (cl_lt (hb (by decide) (by decide) (by decide) (by decide)))
    simp [rWk]; exact Req_R h (by rw [xa, xb])
  · have xb := h.1 _ (cl_lt (hb (by decide) (by decide) (by decide) (by decide)))
    simp [rWk]; exact Req_R h (by rw [xa, xb])
  · have xb := h.1 _ (cl_lt (hb (by decide) (by decide) (by decide) (by decide)))
    simp [rWk]; exact Req_R h (by rw [xa, xb])
  · have xb := h.1 _ (cl_lt (hb (by decide) (by decide) (by decide) (by decide)))
    simp [rWk]
    rw [← xb]
    by_cases q : s.1.1 b.toNatClampNeg = 0
    · rw [if_pos q, if_pos q]; exact Req_Oc h
    · rw [if_neg q, if_neg q]; exact Req_R h (by rw [xa])
  · simp [rWk]
    rw [← xa]
    by_cases q : s.1.1 a.toNatClampNeg = b
    · rw [if_pos q, if_pos q]; exact Req_Oc h
    · rw [if_neg q, if_neg q]; exact h
  · have xb := h.1 _ (cl_lt (hb (by decide) (by decide) (by decide) (by decide)))
    simp [rWk]
    rw [← xb]
    by_cases q : 0 ≤ s.1.1 b.toNatClampNeg ∧ s.1.1 b.toNatClampNeg < 4
    · rw [if_pos q, if_pos q]; exact Req_R h (h.2.1 _ (cl_lt (in_of_lt (L := 4) (by decide) q)))
    · rw [if_neg q, if_neg q]; exact Req_Oc h
  · have xb := h.1 _ (cl_lt (hb (by decide) (by decide) (by decide) (by decide)))
    simp [rWk]
    rw [← xb]
    by_cases q : 0 ≤ s.1.1 b.toNatClampNeg ∧ s.1.1 b.toNatClampNeg < 4
    · rw [if_pos q, if_pos q]; exact Req_Me h xa
    · rw [if_neg q, if_neg q]; exact Req_Oc h
  · simp [rWk]; exact Req_R h hI.1
theorem Req_S1 {s t : Rs} {k : Nat} (h : Req s t) : Req (rS1 s) (rS1 t) ∧ (rS1 s).2.2.2.1 = (rS1 t).2.2.2.1 := by
  obtain ⟨h1, h2, h3, h4, h5, h6, h7, h8, h9⟩ := h
  exact ⟨⟨h1, h2, h3, h4, h5, by show s.2.2.1 + 1 = t.2.2.1 + 1; rw [h6], fun _ => h6, by show s.2.2.2.2.1 + 1 = t.2.2.2.2.1 + 1; rw [h8], h9⟩, h6⟩
theorem Req_jp {s t : Rs} {op a b : Int32} (h : Req s t) (hh : s.2.2.2.1 = t.2.2.2.1) (hw : wfR s) (ha : vp_in a 4) : Req (rJp op a b s) (rJp op a b t) ∧ (rJp op a b s).2.2.2.1 = (rJp op a b t).2.2.2.1 := by
  have xa : s.1.1 a.toNatClampNeg = t.1.1 a.toNatClampNeg := h.1 _ (cl_lt ha)
  have hD := h.2.2.2.2.1
  obtain ⟨⟨d, hd3, hd, -⟩, -⟩ := hw
  unfold rJp
  dsimp only
  rw [← xa, ← hD]
  by_cases h6 : op = 6
  · rw [if_pos h6, if_pos h6]
    by_cases e : s.1.1 a.toNatClampNeg = 0
    · rw [if_pos e, if_pos e]; exact ⟨Req_Pc h rfl, hh⟩
    · rw [if_neg e, if_neg e]; exact ⟨h, hh⟩
  rw [if_neg h6, if_neg h6]
  by_cases h7 : op = 7
  · rw [if_pos h7, if_pos h7]
    by_cases e : s.1.1 a.toNatClampNeg < 0
    · rw [if_pos e, if_pos e]; exact ⟨Req_Pc h rfl, hh⟩
    · rw [if_neg e, if_neg e]; exact ⟨h, hh⟩
  rw [if_neg h7, if_neg h7]
  by_cases h8 : op = 8
  · rw [if_pos h8, if_pos h8]; exact ⟨Req_Pc h rfl, hh⟩
  rw [if_neg h8, if_neg h8]
  by_cases h9 : op = 9
  · rw [if_pos h9, if_pos h9]
    by_cases e : s.2.1 = 3
    · rw [if_pos e, if_pos e]; exact ⟨Req_Oc h, hh⟩
    · rw [if_neg e, if_neg e, hh]
      have hd2 : d < 3 := by
        rcases Nat.lt_or_ge d 3 with q | q
        · exact q
        · exact absurd (by rw [hd, show d = 3 by omega]; rfl) e
      refine ⟨⟨h.1, h.2.1, fun d' hd' ed k hk => ?_, h.2.2.2.1, rfl, rfl, fun _ => hh, h.2.2.2.2.2.2.2.1, h.2.2.2.2.2.2.2.2⟩, hh⟩
      have ed : s.2.1 + 1 = nI d' := ed
      rw [hd, ← nI_succ] at ed
      have ed : d + 1 = d' := (nI_eq (by omega) (by omega)).mp ed
      show upd s.1.2.2.1 s.2.1.toNatClampNeg _ k = upd t.1.2.2.1 s.2.1.toNatClampNeg _ k
      rw [hd, nI_clamp (by omega)]
      by_cases ek : k = d
      · subst ek; rw [pk_us, pk_us]
      · rw [pk_un ek, pk_un ek]; exact h.2.2.1 d hd3 hd k (by omega)
  rw [if_neg h9, if_neg h9]
  by_cases e : s.2.1 = 0
  · rw [if_pos e, if_pos e]; exact ⟨Req_Oc h, hh⟩
  · rw [if_neg e, if_neg e]
    have hd2 : 0 < d := by
      rcases Nat.eq_zero_or_pos d with q | q
      · exact absurd (by rw [hd, q]; rfl) e
      · exact q
    have e1 : s.2.1 - 1 = nI (d - 1) := by rw [hd, show (1 : Int32) = nI 1 from rfl, pk_sub (by omega)]
    refine ⟨⟨h.1, h.2.1, fun d' hd' ed k hk => ?_, h.2.2.2.1, rfl, ?_, fun _ => hh, h.2.2.2.2.2.2.2.1, h.2.2.2.2.2.2.2.2⟩, hh⟩
    · have ed : s.2.1 - 1 = nI d' := ed
      rw [e1] at ed
      have ed : d - 1 = d' := (nI_eq (by omega) (by omega)).mp ed
      exact h.2.2.1 d hd3 hd k (by omega)
    · show s.1.2.2.1 (s.2.1 - 1).toNatClampNeg = t.1.2.2.1 (s.2.1 - 1).toNatClampNeg
      rw [e1, nI_clamp (by omega)]
      exact h.2.2.1 d hd3 hd (d - 1) (by omega)
theorem Req_step {P : Pg} {I J : Ip} {s t : Rs} {n p : Nat} (hP : wfP P n) (hw : wfR s) (hI : Ieq I J) (h : Req s t) (hpc : s.2.2.1 = nI p) (hp : p < n) : Req (rstep P I s) (rstep P J t) := by
  obtain ⟨e0, hn, hall⟩ := hP
  obtain ⟨a1, a2, a3, a4⟩ := hall p hp
  have hpc' : t.2.2.1 = nI p := by rw [← h.2.2.2.2.2.1]; exact hpc
  have hc : s.2.2.1.toNatClampNeg = p := by rw [hpc]; exact nI_clamp (by omega)
  have hc' : t.2.2.1.toNatClampNeg = p := by rw [hpc']; exact nI_clamp (by omega)
  obtain ⟨w1, w2⟩ := wf_S1 hw hpc (by omega)
  obtain ⟨v1, v2⟩ := wf_jp (op := P.1 p) (a := P.2.1 p) (b := P.2.2.1 p) w1 w2 (by omega) a4
  obtain ⟨q1, q2⟩ := Req_S1 (k := 0) h
  unfold rstep
  dsimp only
  rw [hc, hc', show rSt (rPc (rHr s s.2.2.1) (s.2.2.1 + 1)) (s.2.2.2.2.1 + 1) = rS1 s from rfl, show rSt (rPc (rHr t t.2.2.1) (t.2.2.1 + 1)) (t.2.2.2.2.1 + 1) = rS1 t from rfl]
  by_cases hop : P.1 p < 6 ∨ 10 < P.1 p
  · rw [if_pos hop, if_pos hop]
    exact Req_wk (op_split a1 hop) hI q1 a2 (a3 hop)
  · rw [if_neg hop, if_neg hop]
    obtain ⟨u1, u2⟩ := Req_jp (op := P.1 p) (b := P.2.2.1 p) q1 q2 w1 a2
    generalize rJp (P.1 p) (P.2.1 p) (P.2.2.1 p) (rS1 s) = x at u1 u2 v1 v2
    generalize rJp (P.1 p) (P.2.1 p) (P.2.2.1 p) (rS1 t) = y at u1 u2
    unfold rEg
    rw [← u1.2.2.2.2.2.2.2.2, ← u1.2.2.2.2.2.1, ← u2]
    by_cases c : x.2.2.2.2.2 < 0 ∧ x.2.2.1 < P.2.2.2
    · rw [if_pos c, if_pos c]
      have hin := eg_in v1 v2 (by omega) hn (by rw [← e0]; exact c.2)
      exact Req_Tm u1 (by rw [u1.2.2.2.1 _ (cl_lt hin)])
    · rw [if_neg c, if_neg c]; exact u1
