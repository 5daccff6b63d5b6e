/-! Pure: emit and feed, whole, in class and reference. -/
theorem bi_s {α β : Type} (v : α) (M : Mem) (f : α → Mem → Option β) : bi (some (v, M)) f = f v M := rfl
theorem bv_s {β : Type} (M : Mem) (f : Mem → Option β) : bv (some M) f = f M := rfl
def emX (M : Mem) (n : Nat) (op a b : Int32) : Mem := st (st (st (st M 2 n op) 3 n a) 4 n b) 1 3 (nI n + 1)
def emM (M : Mem) (n : Nat) (op a b : Int32) : Mem := st (st (st (st M 27 n op) 28 n a) 29 n b) 26 0 (nI n + 1)
theorem v_PR_append {M : Mem} {n : Nat} (op a b : Int32) (hn : M 1 3 = nI n) (hl : n ≤ 24) : s_PR_append op a b M = if n < 24 ∧ (0 ≤ a ∧ a < 4) ∧ (0 ≤ op ∧ op < 16) ∧ fitv op b = 1 then some (1, emX M n op a b) else some (0, M) := by
  unfold s_PR_append
  by_cases h1 : n < 24
  · have h2 : ¬ (24 : Int32) ≤ M 1 3 := by rw [hn]; exact nI_ge (a := n) (b := 24) h1 (by decide)
    rw [if_neg h2, v_isRegister]
    show (if bI (0 ≤ a ∧ a < 4) = 0 then _ else _) = _
    by_cases h3 : 0 ≤ a ∧ a < 4
    · rw [bI_t h3, if_neg (by decide)]
      by_cases h4 : 0 ≤ op ∧ op < 16
      · rw [v_PR_fits h4]
        show (if fitv op b = 0 then _ else _) = _
        rcases fitv_or op b with h5 | h5
        · rw [if_pos h5, if_neg (fun h => by rw [h5] at h; exact absurd h.2.2.2 (by decide))]
        · rw [if_neg (by rw [h5]; decide), if_pos ⟨h1, h3, h4, h5⟩]
          have e1 : (st M 2 n op) 1 3 = nI n := by rw [st_other (by decide)]; exact hn
          have e2 : (st (st M 2 n op) 3 n a) 1 3 = nI n := by rw [st_other (by decide)]; exact e1
          have e3 : (st (st (st M 2 n op) 3 n a) 4 n b) 1 3 = nI n := by rw [st_other (by decide)]; exact e2
          have hi : vp_in (nI n) 24 := vp_in_nI h1 (by decide)
          have hc : (nI n).toNatClampNeg = n := nI_clamp (by omega)
          simp only [nx, hn, hc, e1, e2, e3, ck_i hi]
          rfl
      · rw [v_PR_fitsN h4, if_neg (fun h => h4 h.2.2.1), bi_s]
        exact if_pos rfl
    · rw [bI_f h3, if_pos rfl, if_neg (fun h => h3 h.2.1)]
  · have h2 : (24 : Int32) ≤ M 1 3 := by rw [hn, show n = 24 by omega]; decide
    rw [if_pos h2, if_neg (fun h => h1 h.1)]
theorem v_EC_emit {M : Mem} {n : Nat} (op a b : Int32) (hn : M 1 3 = nI n) (hl : n ≤ 24) : s_EC_emit op a b M = if M 0 9 = 0 ∧ n < 24 ∧ (0 ≤ a ∧ a < 4) ∧ (0 ≤ op ∧ op < 16) ∧ fitv op b = 1 then some (1, emX M n op a b) else some (0, M) := by
  unfold s_EC_emit
  by_cases h0 : M 0 9 = 0
  · rw [if_pos h0, v_PR_append op a b hn hl]
    by_cases h1 : n < 24 ∧ (0 ≤ a ∧ a < 4) ∧ (0 ≤ op ∧ op < 16) ∧ fitv op b = 1
    · rw [if_pos h1, if_pos ⟨h0, h1⟩]; rfl
    · rw [if_neg h1, if_neg (fun h => h1 h.2)]; rfl
  · rw [if_neg h0, if_neg (fun h => h0 h.1)]
theorem v_MO_emit {M : Mem} {n : Nat} (op a b : Int32) (hn : M 26 0 = nI n) (hl : n ≤ 24) : s_MO_emit op a b M = if M 26 32 ≤ 0 ∧ n < 24 ∧ (0 ≤ a ∧ a < 4) ∧ (0 ≤ op ∧ op < 16) ∧ fitv op b = 1 then some (1, emM M n op a b) else some (0, M) := by
  unfold s_MO_emit
  rw [v_within]
  show (if bI (0 ≤ op ∧ op < 16) = 0 then _ else _) = _
  by_cases h4 : 0 ≤ op ∧ op < 16
  · rw [bI_t h4, if_neg (by decide), v_within]
    show (if bI (0 ≤ a ∧ a < 4) = 0 then _ else _) = _
    by_cases h3 : 0 ≤ a ∧ a < 4
    · rw [bI_t h3, if_neg (by decide), v_MO_fits h4]
      show (if fitv op b = 0 then _ else _) = _
      rcases fitv_or op b with h5 | h5
      · rw [if_pos h5, if_neg (fun h => by rw [h5] at h; exact absurd h.2.2.2.2 (by decide))]
      · rw [if_neg (by rw [h5]; decide)]
        by_cases h1 : n < 24
        · have h2 : ¬ M 26 0 = (24 : Int32) := by rw [hn]; exact fun e => absurd ((nI_eq (a := n) (b := 24) (by omega) (by decide)).mp e) (by omega)
          rw [if_neg h2]
          by_cases h6 : M 26 32 ≤ 0
          · rw [if_pos h6, if_pos ⟨h6, h1, h3, h4, h5⟩]
            have e1 : (st M 27 n op) 26 0 = nI n := by rw [st_other (by decide)]; exact hn
            have e2 : (st (st M 27 n op) 28 n a) 26 0 = nI n := by rw [st_other (by decide)]; exact e1
            have e3 : (st (st (st M 27 n op) 28 n a) 29 n b) 26 0 = nI n := by rw [st_other (by decide)]; exact e2
            have hi : vp_in (nI n) 24 := vp_in_nI h1 (by decide)
            have hc : (nI n).toNatClampNeg = n := nI_clamp (by omega)
            simp only [nx, hn, hc, e1, e2, e3, ck_i hi]
            rfl
          · rw [if_neg h6, if_neg (fun h => h6 h.1)]
        · have h2 : M 26 0 = (24 : Int32) := by rw [hn, show n = 24 by omega]; rfl
          rw [if_pos h2, if_neg (fun h => h1 h.2.1)]
    · rw [bI_f h3, if_pos rfl, if_neg (fun h => h3 h.2.2.1)]
  · rw [bI_f h4, if_pos rfl, if_neg (fun h => h4 h.2.2.2.1)]
