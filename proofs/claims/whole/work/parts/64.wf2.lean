/-! Pure: well-formed programs; a step keeps the state well-formed; the reference's step without side conditions. -/
theorem wk_same (I : Ip) (op a b : Int32) (s : Rs) : (rWk I op a b s).2.1 = s.2.1 ∧ (rWk I op a b s).1.2.2 = s.1.2.2 ∧ (rWk I op a b s).2.2.1 = s.2.2.1 ∧ (rWk I op a b s).2.2.2.1 = s.2.2.2.1 := by
  unfold rWk
  dsimp only
  repeat' split
  all_goals exact ⟨rfl, rfl, rfl, rfl⟩
theorem wf_wk {I : Ip} {op a b : Int32} {s : Rs} (h : wfR s) : wfR (rWk I op a b s) := by
  obtain ⟨e1, e2, e3, -⟩ := wk_same I op a b s
  obtain ⟨⟨d, h1, h2, h3⟩, p, h4, h5⟩ := h
  exact ⟨⟨d, h1, by rw [e1]; exact h2, fun k hk => by rw [e2]; exact h3 k hk⟩, p, h4, by rw [e3]; exact h5⟩
theorem wf_eg {n : Int32} {s : Rs} (h : wfR s) : wfR (rEg n s) := by
  unfold rEg
  split
  · exact h
  · exact h
def wfP (P : Pg) (n : Nat) : Prop := P.2.2.2 = nI n ∧ n ≤ 24 ∧ ∀ p, p < n → (0 ≤ P.1 p ∧ P.1 p < 16) ∧ vp_in (P.2.1 p) 4 ∧ ((P.1 p < 6 ∨ 10 < P.1 p) → P.1 p ≠ 0 → P.1 p ≠ 1 → P.1 p ≠ 12 → P.1 p ≠ 15 → vp_in (P.2.2.1 p) 4) ∧ ((P.1 p = 6 ∨ P.1 p = 7 ∨ P.1 p = 8 ∨ P.1 p = 9) → ∃ q, q < 24 ∧ P.2.2.1 p = nI q)
theorem wf_step {P : Pg} {I : Ip} {s : Rs} {n p : Nat} (hP : wfP P n) (h : wfR s) (hpc : s.2.2.1 = nI p) (hp : p < n) : wfR (rstep P I s) := by
  obtain ⟨e0, hn, hall⟩ := hP
  obtain ⟨a1, a2, a3, a4⟩ := hall p hp
  obtain ⟨w1, w2⟩ := wf_S1 h hpc (by omega)
  have hc : s.2.2.1.toNatClampNeg = p := by rw [hpc]; exact nI_clamp (by omega)
  unfold rstep
  dsimp only
  rw [hc]
  split
  · exact wf_wk w1
  · exact wf_eg (wf_jp w1 w2 (by omega) a4).1
theorem v_MO_step' {M : Mem} {s : Rs} {n p L : Nat} (hP : wfP (M 27, M 28, M 29, M 26 0) n) (h : wfR s) (hpc : s.2.2.1 = nI p) (hp : p < n) (hL : M 26 8 = nI L) (hL6 : L ≤ 6) : s_MO_step (stM M s) = some (stM M (rstep (M 27, M 28, M 29, M 26 0) (M 31, M 26 8) s)) := by
  obtain ⟨e0, hn, hall⟩ := hP
  obtain ⟨a1, a2, a3, a4⟩ := hall p hp
  obtain ⟨w1, w2⟩ := wf_S1 h hpc (by omega)
  have e0 : M 26 0 = nI n := e0
  obtain ⟨v1, v2⟩ := wf_jp (op := M 27 p) (a := M 28 p) (b := M 29 p) w1 w2 (by omega) a4
  obtain ⟨⟨d, d1, d2, -⟩, -⟩ := h
  exact v_MO_step hpc (by omega) a1 a2 a3 hL hL6 ⟨d, d1, d2⟩ (fun _ _ h3 => eg_in v1 v2 (by omega) hn (by rw [← e0]; exact h3))
