/-! Pure: the class's ops: goInto, goBack, divide, load, save. -/
theorem v_RU_goInto {j : Nat} {M : Mem} {s : Rs} (b : Int32) (hd : ∃ d, d ≤ 3 ∧ s.2.1 = nI d) : s_RU_goInto j b (stC j M s) = some (stC j M (if s.2.1 = 3 then rOc s 4 else rPc (rDp (rSk s s.2.1.toNatClampNeg (s.2.2.2.1 + 1)) (s.2.1 + 1)) b)) := by
  obtain ⟨d, hd3, hd⟩ := hd
  unfold s_RU_goInto
  simp only [nx, stC_dp, stC_hr, stC_wSk, stC_wDp, stC_wPc, stC_wOc]
  by_cases h : d < 3
  · have h1 : s.2.1 < (3 : Int32) := by rw [hd]; exact nI_lt (a := d) (b := 3) h (by decide)
    have h2 : ¬ s.2.1 = 3 := by rw [hd]; exact fun e => absurd ((nI_eq (a := d) (b := 3) (by omega) (by decide)).mp e) (by omega)
    rw [if_pos h1, if_neg h2, ck_i (by rw [hd]; exact vp_in_nI h (by decide))]
    rfl
  · have h1 : ¬ s.2.1 < (3 : Int32) := by rw [hd, show d = 3 by omega]; decide
    have h2 : s.2.1 = 3 := by rw [hd, show d = 3 by omega]; rfl
    rw [if_neg h1, if_pos h2]
theorem v_RU_goBack {j : Nat} {M : Mem} {s : Rs} (hd : ∃ d, d ≤ 3 ∧ s.2.1 = nI d) : s_RU_goBack j (stC j M s) = some (stC j M (if s.2.1 = 0 then rOc s 0 else rPc (rDp s (s.2.1 - 1)) (s.1.2.2.1 (s.2.1 - 1).toNatClampNeg))) := by
  obtain ⟨d, hd3, hd⟩ := hd
  unfold s_RU_goBack
  simp only [nx, stC_dp, stC_wDp, stC_sk, stC_wPc, stC_wOc]
  by_cases h : 0 < d
  · have h1 : 0 < s.2.1 := by rw [hd]; exact nI_lt (a := 0) (b := d) h (by omega)
    have h2 : ¬ s.2.1 = 0 := by rw [hd]; exact nI_ne0 h (by omega)
    have h3 : (rDp s (s.2.1 - 1)).2.1 = s.2.1 - 1 := rfl
    rw [if_pos h1, if_neg h2, h3, ck_i (by rw [hd, show (1 : Int32) = nI 1 from rfl, pk_sub (by omega)]; exact vp_in_nI (by omega) (by decide))]
    rfl
  · have h2 : s.2.1 = 0 := by rw [hd, show d = 0 by omega]; rfl
    have h1 : ¬ 0 < s.2.1 := by rw [h2]; decide
    rw [if_neg h1, if_pos h2]
theorem v_RU_divide {j : Nat} {M : Mem} {s : Rs} {a b : Int32} (ha : vp_in a 4) (hb : vp_in b 4) : s_RU_divide j a b (stC j M s) = some (stC j M (if s.1.1 b.toNatClampNeg = 0 then rOc s 2 else rR s a.toNatClampNeg (s.1.1 a.toNatClampNeg / s.1.1 b.toNatClampNeg))) := by
  unfold s_RU_divide
  simp only [nx, stC_r, stC_wR, stC_wOc, ck_i ha, ck_i hb]
  by_cases h : s.1.1 b.toNatClampNeg = 0
  · rw [if_pos h, if_pos h]
  · rw [if_neg h, if_neg h]
    unfold cz
    rw [if_neg h]
theorem v_RU_load {j : Nat} {M : Mem} {s : Rs} {a w : Int32} (ha : vp_in a 4) : s_RU_load j a w (stC j M s) = some (stC j M (if 0 ≤ w ∧ w < 4 then rR s a.toNatClampNeg (s.1.2.1 w.toNatClampNeg) else rOc s 3)) := by
  unfold s_RU_load
  simp only [nx, stC_me, stC_wR, stC_wOc, ck_i ha]
  by_cases h1 : w < 0
  · rw [if_pos h1, if_neg (fun h => Int32.not_le.mpr h1 h.1)]
  · rw [if_neg h1]
    by_cases h2 : w < (4 : Int32)
    · have h : 0 ≤ w ∧ w < 4 := ⟨Int32.not_lt.mp h1, h2⟩
      rw [if_pos h2, if_pos h, ck_i (in_of_lt (L := 4) (by decide) h)]
    · rw [if_neg h2, if_neg (fun h => h2 h.2)]
theorem v_RU_save {j : Nat} {M : Mem} {s : Rs} {a w : Int32} (ha : vp_in a 4) : s_RU_save j a w (stC j M s) = some (stC j M (if 0 ≤ w ∧ w < 4 then rMe s w.toNatClampNeg (s.1.1 a.toNatClampNeg) else rOc s 3)) := by
  unfold s_RU_save
  simp only [nx, stC_r, stC_wMe, stC_wOc, ck_i ha]
  by_cases h1 : w < 0
  · rw [if_pos h1, if_neg (fun h => Int32.not_le.mpr h1 h.1)]
  · rw [if_neg h1]
    by_cases h2 : w < (4 : Int32)
    · have h : 0 ≤ w ∧ w < 4 := ⟨Int32.not_lt.mp h1, h2⟩
      rw [if_pos h2, if_pos h, ck_i (in_of_lt (L := 4) (by decide) h)]
    · rw [if_neg h2, if_neg (fun h => h2 h.2)]
theorem v_IN_at {j n : Nat} {M : Mem} (k : Int32) (hn : M j 1 = nI n) (hl : n ≤ 6) : s_IN_at j k M = some (if 0 ≤ k ∧ k < nI n then M (j + 1) k.toNatClampNeg else -1, M) := by
  unfold s_IN_at
  rw [hn]
  by_cases h1 : k < 0
  · rw [if_pos h1, if_neg (fun h => Int32.not_le.mpr h1 h.1)]
  · rw [if_neg h1]
    by_cases h2 : nI n ≤ k
    · rw [if_pos h2, if_neg (fun h => Int32.not_lt.mpr h2 h.2)]
    · have h : 0 ≤ k ∧ k < nI n := ⟨Int32.not_lt.mp h1, Int32.not_le.mp h2⟩
      rw [if_neg h2, if_pos h, ck_i (in_mono (in_of_lt (L := n) (by omega) h) hl)]
