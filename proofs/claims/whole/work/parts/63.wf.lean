/-! Pure: a run's state stays well-formed over a jump; the edge's number is within. -/
def wfR (s : Rs) : Prop := (∃ d, d ≤ 3 ∧ s.2.1 = nI d ∧ ∀ k, k < d → ∃ q, q ≤ 24 ∧ s.1.2.2.1 k = nI q) ∧ ∃ p, p ≤ 24 ∧ s.2.2.1 = nI p
theorem wf_S1 {s : Rs} {p : Nat} (h : wfR s) (hpc : s.2.2.1 = nI p) (hp : p < 24) : wfR (rS1 s) ∧ (rS1 s).2.2.2.1 = nI p := by
  refine ⟨⟨h.1, p + 1, by omega, ?_⟩, hpc⟩
  show s.2.2.1 + 1 = nI (p + 1)
  rw [hpc, nI_succ]
theorem wf_jp {s : Rs} {p : Nat} {op a b : Int32} (h : wfR s) (hh : s.2.2.2.1 = nI p) (hp : p < 24) (hb : (op = 6 ∨ op = 7 ∨ op = 8 ∨ op = 9) → ∃ q, q < 24 ∧ b = nI q) : wfR (rJp op a b s) ∧ (rJp op a b s).2.2.2.1 = nI p := by
  obtain ⟨⟨d, hd3, hd, hs⟩, q0, hq0, hpc⟩ := h
  unfold rJp
  dsimp only
  by_cases h6 : op = 6
  · rw [if_pos h6]
    obtain ⟨q, hq, rfl⟩ := hb (Or.inl h6)
    by_cases e : s.1.1 a.toNatClampNeg = 0
    · rw [if_pos e]; exact ⟨⟨⟨d, hd3, hd, hs⟩, q, by omega, rfl⟩, hh⟩
    · rw [if_neg e]; exact ⟨⟨⟨d, hd3, hd, hs⟩, q0, hq0, hpc⟩, hh⟩
  rw [if_neg h6]
  by_cases h7 : op = 7
  · rw [if_pos h7]
    obtain ⟨q, hq, rfl⟩ := hb (Or.inr (Or.inl h7))
    by_cases e : s.1.1 a.toNatClampNeg < 0
    · rw [if_pos e]; exact ⟨⟨⟨d, hd3, hd, hs⟩, q, by omega, rfl⟩, hh⟩
    · rw [if_neg e]; exact ⟨⟨⟨d, hd3, hd, hs⟩, q0, hq0, hpc⟩, hh⟩
  rw [if_neg h7]
  by_cases h8 : op = 8
  · rw [if_pos h8]
    obtain ⟨q, hq, rfl⟩ := hb (Or.inr (Or.inr (Or.inl h8)))
    exact ⟨⟨⟨d, hd3, hd, hs⟩, q, by omega, rfl⟩, hh⟩
  rw [if_neg h8]
  by_cases h9 : op = 9
  · rw [if_pos h9]
    obtain ⟨q, hq, rfl⟩ := hb (Or.inr (Or.inr (Or.inr h9)))
    by_cases e : s.2.1 = 3
    · rw [if_pos e]; exact ⟨⟨⟨d, hd3, hd, hs⟩, q0, hq0, hpc⟩, hh⟩
    · rw [if_neg e]
      have hd2 : d < 3 := by
        rcases Nat.lt_or_ge d 3 with h | h
        · exact h
        · exact absurd (by rw [hd, show d = 3 by omega]; rfl) e
      refine ⟨⟨⟨d + 1, by omega, ?_, fun k hk => ?_⟩, q, by omega, rfl⟩, hh⟩
      · show s.2.1 + 1 = nI (d + 1)
        rw [hd, nI_succ]
      · show ∃ q, q ≤ 24 ∧ upd s.1.2.2.1 s.2.1.toNatClampNeg (s.2.2.2.1 + 1) k = nI q
        rw [hd, nI_clamp (by omega)]
        by_cases ek : k = d
        · exact ⟨p + 1, by omega, by subst ek; rw [pk_us, hh, nI_succ]⟩
        · obtain ⟨q1, h1, h2⟩ := hs k (by omega)
          exact ⟨q1, h1, by rw [pk_un ek]; exact h2⟩
  rw [if_neg h9]
  by_cases e : s.2.1 = 0
  · rw [if_pos e]; exact ⟨⟨⟨d, hd3, hd, hs⟩, q0, hq0, hpc⟩, hh⟩
  · rw [if_neg e]
    have hd2 : 0 < d := by
      rcases Nat.eq_zero_or_pos d with h | h
      · exact absurd (by rw [hd, h]; rfl) e
      · exact h
    have e1 : s.2.1 - 1 = nI (d - 1) := by rw [hd, show (1 : Int32) = nI 1 from rfl, pk_sub (by omega)]
    obtain ⟨q1, h1, h2⟩ := hs (d - 1) (by omega)
    refine ⟨⟨⟨d - 1, by omega, e1, fun k hk => hs k (by omega)⟩, q1, h1, ?_⟩, hh⟩
    show s.1.2.2.1 (s.2.1 - 1).toNatClampNeg = nI q1
    rw [e1, nI_clamp (by omega)]
    exact h2
theorem eg_in {s : Rs} {p n : Nat} (h : wfR s) (hh : s.2.2.2.1 = nI p) (hp : p < 24) (hn : n ≤ 24) (hlt : s.2.2.1 < nI n) : vp_in ((24 : Int32) * s.2.2.2.1 + s.2.2.1) 576 := by
  obtain ⟨-, q, hq, hpc⟩ := h
  have h1 : q < n := by
    rw [hpc] at hlt
    exact (nI_ltI (by omega) (by omega)).mp hlt
  rw [hh, hpc, show (24 : Int32) = nI 24 from rfl, pk_mul, nI_add]
  exact vp_in_nI (by omega) (by decide)
