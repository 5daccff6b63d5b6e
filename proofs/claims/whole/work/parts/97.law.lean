/-! Pure: the start, the law's loop, Pure. -/
theorem m0_o (r : Int32) {a : Nat} (h1 : a ≠ 12) (h2 : a ≠ 13) (h3 : a ≠ 26) : M0 r a = fun _ => 0 := by
  unfold M0
  rw [st_other h3, st_other h2, st_other h1]
theorem m0_26 (r : Int32) {k : Nat} (h : k ≠ 6) : M0 r 26 k = 0 := by
  unfold M0
  rw [st_ap, if_pos rfl, if_neg h, st_other (by decide), st_other (by decide)]
theorem sm_z {f : Nat → Nat} (h : ∀ i, f i = 0) : ∀ n, sm f n = 0 := by
  intro n
  induction n with
  | zero => rfl
  | succ n ih => show sm f n + f n = 0; rw [ih, h n]
theorem seE_0 (P : Pg) : seE P [] = 0 := by
  rw [seE_K]
  exact sm_z (fun g => if_pos rfl) KE
theorem seP_0 (P : Pg) : seP P [] = 0 := by
  rw [seP_K]
  exact sm_z (fun g => by show pc6 0 = 0; decide) KE
theorem ROk_0 {M : Mem} {j : Nat} (h : M j 5 = 0) (h4 : ∀ g, M (j + 4) g = 0) : ROk j M := ⟨[], ⟨by simp, fun g => ⟨fun q => absurd q (by simp), fun q => absurd (h4 g) q.2⟩, h, fun i hi => absurd hi (by simp)⟩, by simp⟩
theorem Rel_0 (r : Int32) : Rel (M0 r) 0 := by
  refine ⟨(fun _ => 0, fun _ => 0, fun _ => 0, 0), 0, [], ([], fun _ => 0, (0, fun _ => ((0, 0, 0, 0, 0, 0), 0, [], [])), (0, 0, 0), (0, 0, 0), (if r = 0 then 1 else r)), ⟨rfl, by omega, fun p hp => absurd hp (by omega)⟩, ⟨?_, ⟨⟨?_, by simp, fun e he => absurd he (by simp)⟩, ?_, ?_, ?_, ?_, ?_⟩, ?_, ⟨?_, Nat.zero_le 8, fun c hc => absurd hc (by show ¬ c < 0; omega)⟩, ⟨?_, ?_, ?_⟩, ⟨fun _ => ?_, fun q => absurd q (by simp)⟩, ?_, ?_, ?_⟩, ⟨?_, ⟨?_, by simp, fun e he => absurd he (by simp)⟩, fun _ => ⟨?_, ?_, fun e he => absurd he (by simp), ?_⟩, fun e he => absurd he (by simp), ⟨?_, Nat.zero_le 8, fun c hc => absurd hc (by show ¬ c < 0; omega)⟩, ⟨?_, ?_, ?_⟩, fun q => absurd q (by simp), ?_⟩, ⟨fun _ _ => rfl, fun e he => absurd he (by simp), by simp, fun q => absurd q (by simp)⟩, ⟨?_, by simp, fun k hk => absurd hk (by simp), fun b hb => absurd hb (by simp)⟩, ⟨?_, fun k hk => absurd hk (by simp)⟩, 0, by omega, rfl, fun _ => ⟨rfl, rfl⟩⟩
  · rw [m0_o r (by decide) (by decide) (by decide), m0_o r (by decide) (by decide) (by decide), m0_o r (by decide) (by decide) (by decide), m0_o r (by decide) (by decide) (by decide)]
  · rw [m0_o r (by decide) (by decide) (by decide)]; rfl
  · intro g _; rw [m0_o r (by decide) (by decide) (by decide)]; rfl
  · intro g _; rw [m0_o r (by decide) (by decide) (by decide)]; rfl
  · rw [m0_o r (by decide) (by decide) (by decide)]; exact (fav_0 _ rfl).symm
  · rw [m0_o r (by decide) (by decide) (by decide), seE_0]; rfl
  · rw [m0_o r (by decide) (by decide) (by decide), seP_0]; rfl
  · intro e _; rw [m0_o r (by omega) (by omega) (by omega)]
  · rw [m0_o r (by decide) (by decide) (by decide)]; rfl
  · rw [m0_o r (by decide) (by decide) (by decide)]
  · rw [m0_o r (by decide) (by decide) (by decide)]
  · rw [m0_o r (by decide) (by decide) (by decide)]
  · unfold M0
    rw [st_other (by decide), st_rd]
  · unfold M0
    rw [st_other (by decide), st_other (by decide), st_rd]
  · exact ROk_0 (by rw [m0_o r (by decide) (by decide) (by decide)]) (fun g => by rw [m0_o r (by decide) (by decide) (by decide)])
  · exact ROk_0 (by rw [m0_o r (by decide) (by decide) (by decide)]) (fun g => by rw [m0_o r (by decide) (by decide) (by decide)])
  · unfold MP
    rw [m0_o r (by decide) (by decide) (by decide), m0_o r (by decide) (by decide) (by decide), m0_o r (by decide) (by decide) (by decide), m0_26 r (by decide)]
  · rw [m0_26 r (by decide)]; rfl
  · intro g _; rw [m0_o r (by decide) (by decide) (by decide)]; rfl
  · intro g _; rw [m0_o r (by decide) (by decide) (by decide)]; rfl
  · rw [m0_26 r (by decide)]; exact (fav_0 _ rfl).symm
  · rw [m0_26 r (by decide)]; rfl
  · rw [m0_26 r (by decide)]
  · rw [m0_26 r (by decide)]
  · rw [m0_26 r (by decide)]
  · unfold M0
    rw [st_rd]
  · rw [m0_o r (by decide) (by decide) (by decide)]; rfl
  · rw [m0_26 r (by decide)]; rfl
theorem law_step {L : Nat} {xs : Nat → Int32} {M : Mem} {i : Nat} (hL : L ≤ 2049) (hi : 5 + 4 * i ≤ L) (h : Rel M (20 * i)) : ∃ M2, l_LAW_law_28 L xs (nI (1 + 4 * i)) M = some (.inl (nI (1 + 4 * (i + 1)), M2)) ∧ Rel M2 (20 * (i + 1)) := by
  have hv0 : ¬ (Int32.ofNat L - (4 : Int32)) < nI (1 + 4 * i) := by
    show ¬ nI L - nI 4 < nI (1 + 4 * i)
    rw [pk_sub (by omega)]
    exact fun q => absurd ((nI_ltI (by omega) (by omega)).mp q) (by omega)
  have k0 : vp_in (nI (1 + 4 * i)) L := vp_in_nI (by omega) (by omega)
  have k1 : vp_in (nI (1 + 4 * i) + 1) L := by rw [nI_1]; exact vp_in_nI (by omega) (by omega)
  have k2 : vp_in (nI (1 + 4 * i) + 2) L := by rw [show (2 : Int32) = nI 2 from rfl, nI_add]; exact vp_in_nI (by omega) (by omega)
  have k3 : vp_in (nI (1 + 4 * i) + 3) L := by rw [show (3 : Int32) = nI 3 from rfl, nI_add]; exact vp_in_nI (by omega) (by omega)
  have h456 : ∀ M' : Mem, j_LAW_law_456 L xs (nI (1 + 4 * i)) M' = some (.inl (nI (1 + 4 * (i + 1)), M')) := fun M' => by
    unfold j_LAW_law_456
    simp only [nx]
    rw [show (4 : Int32) = nI 4 from rfl, nI_add, show 1 + 4 * i + 4 = 1 + 4 * (i + 1) by omega]
  unfold l_LAW_law_28
  rw [if_neg hv0, ck_i k0]
  generalize (xs (nI (1 + 4 * i)).toNatClampNeg) &&& (15 : Int32) = w
  have hd : ∀ {M' : Mem}, Rel M' (20 * i) → Rel M' (20 * (i + 1)) := fun q => Rel_m q (by omega)
  by_cases c0 : w = 0
  · rw [if_pos c0, ck_i k1, ck_i k2, ck_i k3]
    obtain ⟨r, M1, M2, a1, a2, a3⟩ := c_emit (xs (nI (1 + 4 * i) + 1).toNatClampNeg) (xs (nI (1 + 4 * i) + 2).toNatClampNeg) (xs (nI (1 + 4 * i) + 3).toNatClampNeg) h (by omega)
    rw [a1, bi_s, ck_i k1, ck_i k2, ck_i k3, a2, bi_s, if_pos rfl, h456]
    exact ⟨M2, rfl, hd a3⟩
  rw [if_neg c0]
  by_cases c1 : w = 1
  · rw [if_pos c1, ck_i k1]
    obtain ⟨r, M1, M2, a1, a2, a3⟩ := c_feed (xs (nI (1 + 4 * i) + 1).toNatClampNeg) h
    rw [a1, bi_s, ck_i k1, a2, bi_s, if_pos rfl, h456]
    exact ⟨M2, rfl, hd a3⟩
  rw [if_neg c1]
  by_cases c2 : w = 2
  · rw [if_pos c2]
    obtain ⟨r, M1, M2, a1, a2, a3⟩ := c_plant h
    rw [a1, bi_s, a2, bi_s, if_pos rfl, h456]
    exact ⟨M2, rfl, Rel_m a3 (by omega)⟩
  rw [if_neg c2]
  by_cases c3 : w = 3
  · rw [if_pos c3, ck_i k1]
    obtain ⟨r, M1, M2, a1, a2, a3⟩ := c_fuzz (xs (nI (1 + 4 * i) + 1).toNatClampNeg) h
    rw [a1, bi_s, ck_i k1, a2, bi_s, if_pos rfl, h456]
    exact ⟨M2, rfl, Rel_m a3 (by omega)⟩
  rw [if_neg c3]
  by_cases c4 : w = 4
  · rw [if_pos c4, ck_i k1]
    obtain ⟨r, M1, M2, a1, a2, a3⟩ := c_count (xs (nI (1 + 4 * i) + 1).toNatClampNeg) h
    rw [a1, bi_s, ck_i k1, a2, bi_s, if_pos rfl, h456]
    exact ⟨M2, rfl, hd a3⟩
  rw [if_neg c4]
  by_cases c5 : w = 5
  · rw [if_pos c5, ck_i k1, ck_i k2]
    obtain ⟨r, M1, M2, a1, a2, a3⟩ := c_entry (xs (nI (1 + 4 * i) + 1).toNatClampNeg) (xs (nI (1 + 4 * i) + 2).toNatClampNeg) h
    rw [a1, bi_s, ck_i k1, ck_i k2, a2, bi_s, if_pos rfl, h456]
    exact ⟨M2, rfl, hd a3⟩
  rw [if_neg c5]
  by_cases c6 : w = 6
  · rw [if_pos c6, ck_i k1, ck_i k2]
    obtain ⟨r, M1, M2, a1, a2, a3⟩ := c_entryByte (xs (nI (1 + 4 * i) + 1).toNatClampNeg) (xs (nI (1 + 4 * i) + 2).toNatClampNeg) h
    rw [a1, bi_s, ck_i k1, ck_i k2, a2, bi_s, if_pos rfl, h456]
    exact ⟨M2, rfl, hd a3⟩
  rw [if_neg c6]
  by_cases c7 : w = 7
  · rw [if_pos c7, ck_i k1, ck_i k2]
    obtain ⟨r, M1, M2, a1, a2, a3⟩ := c_seen (xs (nI (1 + 4 * i) + 1).toNatClampNeg) (xs (nI (1 + 4 * i) + 2).toNatClampNeg) h
    rw [a1, bi_s, ck_i k1, ck_i k2, a2, bi_s, if_pos rfl, h456]
    exact ⟨M2, rfl, hd a3⟩
  rw [if_neg c7]
  by_cases c8 : w = 8
  · rw [if_pos c8, ck_i k1, ck_i k2]
    obtain ⟨r, M1, M2, a1, a2, a3⟩ := c_finding (xs (nI (1 + 4 * i) + 1).toNatClampNeg) (xs (nI (1 + 4 * i) + 2).toNatClampNeg) h
    rw [a1, bi_s, ck_i k1, ck_i k2, a2, bi_s, if_pos rfl, h456]
    exact ⟨M2, rfl, hd a3⟩
  rw [if_neg c8]
  by_cases c9 : w = 9
  · rw [if_pos c9, ck_i k1, ck_i k2]
    by_cases q : xs (nI (1 + 4 * i) + 2).toNatClampNeg = 0
    · rw [if_pos q]
      obtain ⟨r, M1, M2, a1, a2, a3⟩ := c_findingByte (xs (nI (1 + 4 * i) + 1).toNatClampNeg) 0 (xs (nI (1 + 4 * i) + 3).toNatClampNeg) h
      unfold j_LAW_law_380
      rw [ck_i k3, a1, bi_s, ck_i k1, ck_i k2, if_pos q]
      unfold j_LAW_law_407
      rw [ck_i k3, a2, bi_s, if_pos rfl, h456]
      exact ⟨M2, rfl, hd a3⟩
    · rw [if_neg q]
      obtain ⟨r, M1, M2, a1, a2, a3⟩ := c_findingByte (xs (nI (1 + 4 * i) + 1).toNatClampNeg) 1 (xs (nI (1 + 4 * i) + 3).toNatClampNeg) h
      unfold j_LAW_law_380
      rw [ck_i k3, a1, bi_s, ck_i k1, ck_i k2, if_neg q]
      unfold j_LAW_law_407
      rw [ck_i k3, a2, bi_s, if_pos rfl, h456]
      exact ⟨M2, rfl, hd a3⟩
  rw [if_neg c9]
  by_cases c10 : w = 10
  · rw [if_pos c10, ck_i k1]
    obtain ⟨r, M1, M2, a1, a2, a3⟩ := c_current (xs (nI (1 + 4 * i) + 1).toNatClampNeg) h
    rw [a1, bi_s, ck_i k1, a2, bi_s, if_pos rfl, h456]
    exact ⟨M2, rfl, hd a3⟩
  rw [if_neg c10]
  by_cases c11 : w = 11
  · rw [if_pos c11]
    obtain ⟨r, M1, M2, a1, a2, a3⟩ := c_state h
    rw [a1, bi_s, a2, bi_s, if_pos rfl, h456]
    exact ⟨M2, rfl, hd a3⟩
  rw [if_neg c11, h456]
  exact ⟨M, rfl, hd h⟩
theorem law_loop {L : Nat} {xs : Nat → Int32} (hL : L ≤ 2049) : ∀ d i M, L ≤ 4 * i + d → i ≤ 1000 → Rel M (20 * i) → ∃ M1, lp (fun q : Int32 × Mem => l_LAW_law_28 L xs q.1 q.2) (nI (1 + 4 * i), M) = some (1, M1) := by
  have hend : ∀ (i : Nat) (M : Mem), i ≤ 1000 → L < 5 + 4 * i → lp (fun q : Int32 × Mem => l_LAW_law_28 L xs q.1 q.2) (nI (1 + 4 * i), M) = some (1, M) := fun i M hi hlt => lp_inr (by
    show l_LAW_law_28 L xs (nI (1 + 4 * i)) M = _
    unfold l_LAW_law_28
    rw [if_pos]
    show nI L - nI 4 < nI (1 + 4 * i)
    by_cases c : 4 ≤ L
    · rw [pk_sub c]
      exact nI_lt (by omega) (by omega)
    · exact Int32.lt_of_lt_of_le (pk_sneg (by decide) (by omega)) (nI_pos' (by omega)))
  intro d
  induction d with
  | zero => intro i M h1 h2 _; exact ⟨M, hend i M h2 (by omega)⟩
  | succ d ih =>
    intro i M h1 h2 h3
    by_cases c : 5 + 4 * i ≤ L
    · obtain ⟨M2, s1, s2⟩ := law_step (xs := xs) hL c h3
      obtain ⟨M1, i1⟩ := ih (i + 1) M2 (by omega) (by omega) s2
      exact ⟨M1, (lp_inl (b := fun q : Int32 × Mem => l_LAW_law_28 L xs q.1 q.2) (s := (nI (1 + 4 * i), M)) (s1 := (nI (1 + 4 * (i + 1)), M2)) s1).trans i1⟩
    · exact ⟨M, hend i M h2 (by omega)⟩
theorem pure_all : Pure := by
  intro L xs hL
  exact law_loop (xs := xs) hL L 0 _ (by omega) (by omega) (Rel_0 _)
