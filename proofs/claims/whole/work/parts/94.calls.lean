/-! Pure: the relation of both memories; emit, feed, plant, fuzz. -/
theorem MA_fr {M M1 : Mem} {P : Pg} {A : Ab} (h : MA M P A) (f : ∀ a, 26 ≤ a → a ≤ 51 → M1 a = M a) : MA M1 P A := by
  obtain ⟨p1, p2, p3, p4, p5, p6, p7, p8⟩ := h
  have f26 := f 26 (by decide) (by decide)
  refine ⟨?_, MS_fr p2 (by rw [f26]) (f 36 (by decide) (by decide)) (f 37 (by decide) (by decide)), ?_, ?_, MF_fr p5 (by rw [f26]) (fun a h1 h2 => f a (by omega) (by omega)), by rw [f26]; exact p6, ?_, by rw [f26]; exact p8⟩
  · unfold MP
    rw [f 27 (by decide) (by decide), f 28 (by decide) (by decide), f 29 (by decide) (by decide), f26]
    exact p1
  · intro q
    rw [f26] at q
    exact Srv_fr (p3 q) (f 48 (by decide) (by decide)) (f 49 (by decide) (by decide)) (f 50 (by decide) (by decide)) (by rw [f26])
  · intro e he; rw [f 38 (by decide) (by decide)]; exact p4 e he
  · unfold MT; rw [f26]; exact p7
theorem XA_fr {M M1 : Mem} {P : Pg} {A : Ab} (h : XA M P A) (f : ∀ a, (a < 26 ∨ 57 < a) → M1 a = M a) : XA M1 P A := by
  obtain ⟨p0, p1, p2, p3, p4, p5, p6, p7, p8⟩ := h
  refine ⟨?_, ?_, fun e he => by rw [f _ (by omega)]; exact p2 e he, ?_, ?_, ?_, by rw [f 12 (by omega)]; exact p6, ?_, ?_⟩
  · rw [f 2 (by omega), f 3 (by omega), f 4 (by omega), f 1 (by omega)]; exact p0
  · exact XS_fr p1 (f _ (by omega)) (f _ (by omega)) (f _ (by omega)) (fun a _ _ => f a (by omega)) (fun e _ => f _ (by omega))
  · exact XF_fr p3 (f _ (by omega)) (fun a _ _ => f a (by omega)) (fun a _ _ => f a (by omega))
  · rw [f 0 (by omega)]; exact p4
  · unfold XT; rw [f 13 (by omega)]; exact p5
  · exact ROk_fr p7 (by rw [f 14 (by omega)]) (f _ (by omega)) (f _ (by omega))
  · exact ROk_fr p8 (by rw [f 20 (by omega)]) (f _ (by omega)) (f _ (by omega))
/-- the reference's draft -/
def Drf (M : Mem) (l : List Int32) : Prop := M 26 5 = nI l.length ∧ Row (M 30) 0 l
/-- both sides stand at the same abstract state; at most K executions -/
def RelA (M : Mem) (K : Nat) (P : Pg) (n : Nat) (dr : List Int32) (A : Ab) : Prop := wfP P n ∧ XA M P A ∧ MA M P A ∧ wfA P A ∧ Inp M 52 dr ∧ Drf M dr ∧ (∃ k, k ≤ K ∧ A.2.2.2.1.1 = nI k ∧ (k = 0 → A.1.length = 0 ∧ A.2.2.1.1 = 0))
def Rel (M : Mem) (K : Nat) : Prop := ∃ P n dr A, RelA M K P n dr A
theorem ct_of {op b : Int32} (ho : 0 ≤ op ∧ op < 16) (h : fitv op b = 1) : ((op < 6 ∨ 10 < op) → op ≠ 0 → op ≠ 1 → op ≠ 12 → op ≠ 15 → vp_in b 4) ∧ ((op = 6 ∨ op = 7 ∨ op = 8 ∨ op = 9) → ∃ q, q < 24 ∧ b = nI q) := by
  have hb : ∀ {Q : Prop} [Decidable Q], bI Q = 1 → Q := fun {Q} _ q => by
    by_cases c : Q
    · exact c
    · rw [bI_f c] at q; exact absurd q (by decide)
  have h4 : fitv op b = bI (0 ≤ b ∧ b < 4) → vp_in b 4 := fun e => in_of_lt (L := 4) (by decide) (hb (e ▸ h))
  have h24 : fitv op b = bI (0 ≤ b ∧ b < 24) → ∃ q, q < 24 ∧ b = nI q := fun e => vp_in_of (in_of_lt (L := 24) (by decide) (hb (e ▸ h))) (by decide)
  rcases op_cases ho with rfl | rfl | rfl | rfl | rfl | rfl | rfl | rfl | rfl | rfl | rfl | rfl | rfl | rfl | rfl | rfl
  · exact ⟨fun _ q => absurd rfl q, fun q => absurd q (by decide)⟩
  · exact ⟨fun _ _ q => absurd rfl q, fun q => absurd q (by decide)⟩
  · exact ⟨fun _ _ _ _ _ => h4 rfl, fun q => absurd q (by decide)⟩
  · exact ⟨fun _ _ _ _ _ => h4 rfl, fun q => absurd q (by decide)⟩
  · exact ⟨fun _ _ _ _ _ => h4 rfl, fun q => absurd q (by decide)⟩
  · exact ⟨fun _ _ _ _ _ => h4 rfl, fun q => absurd q (by decide)⟩
  · exact ⟨fun q => absurd q (by decide), fun _ => h24 rfl⟩
  · exact ⟨fun q => absurd q (by decide), fun _ => h24 rfl⟩
  · exact ⟨fun q => absurd q (by decide), fun _ => h24 rfl⟩
  · exact ⟨fun q => absurd q (by decide), fun _ => h24 rfl⟩
  · exact ⟨fun q => absurd q (by decide), fun q => absurd q (by decide)⟩
  · exact ⟨fun _ _ _ _ _ => h4 rfl, fun q => absurd q (by decide)⟩
  · exact ⟨fun _ _ _ q => absurd rfl q, fun q => absurd q (by decide)⟩
  · exact ⟨fun _ _ _ _ _ => h4 rfl, fun q => absurd q (by decide)⟩
  · exact ⟨fun _ _ _ _ _ => h4 rfl, fun q => absurd q (by decide)⟩
  · exact ⟨fun _ _ _ _ q => absurd rfl q, fun q => absurd q (by decide)⟩
theorem wfP_em {P : Pg} {n : Nat} {op a b : Int32} (h : wfP P n) (hn : n < 24) (ha : 0 ≤ a ∧ a < 4) (ho : 0 ≤ op ∧ op < 16) (hf : fitv op b = 1) : wfP (upd P.1 n op, upd P.2.1 n a, upd P.2.2.1 n b, nI (n + 1)) (n + 1) := by
  obtain ⟨h1, h2, h3⟩ := h
  refine ⟨rfl, by omega, fun p hp => ?_⟩
  dsimp only
  by_cases e : p = n
  · subst e
    rw [pk_us, pk_us, pk_us]
    exact ⟨ho, in_of_lt (L := 4) (by decide) ha, (ct_of ho hf).1, (ct_of ho hf).2⟩
  · rw [pk_un e, pk_un e, pk_un e]
    exact h3 p (by omega)
theorem fv_0 (W C : Nat → Int32) (n : Nat) (h : ∀ g, W g = 0) : ∀ g, fvR W C n g = 0 := by
  intro g
  induction g with
  | zero => rfl
  | succ g ih =>
    unfold fvR
    rw [if_neg (fun q => q.1 (h g))]
    exact ih
theorem fav_0 (P : Pg) {es : List (List Int32)} (h : es.length = 0) : fav P es = 0 := by
  rw [fav_eq]
  refine fv_0 _ _ _ (fun g => ?_) _
  show nI (wN P es g es.length) = 0
  rw [h]
  rfl
theorem XS_P {M : Mem} {P Q : Pg} {es : List (List Int32)} (h : XS M P es) (h0 : es.length = 0) : XS M Q es := by
  obtain ⟨⟨x1, x2, x3⟩, x7, x8, x4, x5, x6⟩ := h
  have e0 : es = [] := List.length_eq_zero_iff.mp h0
  subst e0
  refine ⟨⟨x1, x2, fun e he => absurd he (by simp)⟩, x7, x8, ?_, ?_, ?_⟩
  · rw [x4, fav_0 P rfl, fav_0 Q rfl]
  · rw [x5, seE_K, seE_K]; rfl
  · rw [x6, seP_K, seP_K]; rfl
theorem Srv_P {M : Mem} {P Q : Pg} {es : List (List Int32)} (h : Srv M P es) (h0 : es.length = 0) : Srv M Q es := by
  have e0 : es = [] := List.length_eq_zero_iff.mp h0
  subst e0
  obtain ⟨a1, a2, a3, a4⟩ := h
  exact ⟨a1, a2, fun e he => absurd he (by simp), by rw [a4, fav_0 P rfl, fav_0 Q rfl]⟩
theorem nI_z {k : Nat} (h : k < 2 ^ 31) : (nI k = 0 ↔ k = 0) ∧ (nI k ≤ 0 ↔ k = 0) := by
  constructor
  · exact nI_eq (b := 0) h (by decide)
  · constructor
    · intro q
      rcases Nat.eq_zero_or_pos k with e | e
      · exact e
      · exact absurd q (nI_nle e h)
    · intro q; rw [q]; decide
theorem c_emit {M : Mem} {K : Nat} (op a b : Int32) (h : Rel M K) (hK : K < 2 ^ 30) : ∃ r M1 M2, s_EC_emit op a b M = some (r, M1) ∧ s_MO_emit op a b M1 = some (r, M2) ∧ Rel M2 K := by
  obtain ⟨P, n, dr, A, h1, h2, h3, h4, h5, h6, k, k1, k2, k3⟩ := h
  have hP0 := h1
  obtain ⟨e0, e1, e2⟩ := h1
  have m13 : M 1 3 = nI n := by
    have := congrArg (fun x => x.2.2.2) h2.1
    exact this.trans e0
  have m26 : M 26 0 = nI n := by
    have := congrArg (fun x => x.2.2.2) h3.1
    exact this.trans e0
  have m9 : M 0 9 = nI k := h2.2.2.2.2.1.1.trans k2
  have m32 : M 26 32 = nI k := h3.2.2.2.2.2.1.1.trans k2
  rw [v_EC_emit op a b m13 e1]
  by_cases c : M 0 9 = 0 ∧ n < 24 ∧ (0 ≤ a ∧ a < 4) ∧ (0 ≤ op ∧ op < 16) ∧ fitv op b = 1
  · rw [if_pos c]
    obtain ⟨c1, c2, c3, c4, c5⟩ := c
    have hk0 : k = 0 := (nI_z (by omega)).1.mp (by rw [← m9]; exact c1)
    obtain ⟨z1, z2⟩ := k3 hk0
    have o1 : ∀ q, q ≠ 1 → q ≠ 2 → q ≠ 3 → q ≠ 4 → emX M n op a b q = M q := fun q q1 q2 q3 q4 => by unfold emX; rw [st_other q1, st_other q4, st_other q3, st_other q2]
    have hm := v_MO_emit (M := emX M n op a b) op a b (by rw [o1 26 (by decide) (by decide) (by decide) (by decide)]; exact m26) e1
    rw [if_pos ⟨by rw [o1 26 (by decide) (by decide) (by decide) (by decide), m32, hk0]; decide, c2, c3, c4, c5⟩] at hm
    refine ⟨1, _, _, rfl, hm, (upd P.1 n op, upd P.2.1 n a, upd P.2.2.1 n b, nI (n + 1)), n + 1, dr, A, wfP_em hP0 c2 c3 c4 c5, ?_, ?_, ?_, ?_, ?_, k, k1, k2, k3⟩
    · obtain ⟨p0, p1, p2, p3, p4, p5, p6, p7, p8⟩ := h2
      have oo : ∀ q, q ≠ 1 → q ≠ 2 → q ≠ 3 → q ≠ 4 → (q < 26 ∨ 29 < q) → emM (emX M n op a b) n op a b q = M q := fun q q1 q2 q3 q4 q5 => by
        unfold emM
        rw [st_other (by omega), st_other (by omega), st_other (by omega), st_other (by omega), o1 q q1 q2 q3 q4]
      have g2 : emM (emX M n op a b) n op a b 2 = upd (M 2) n op := by
        unfold emM emX
        rw [st_other (by decide), st_other (by decide), st_other (by decide), st_other (by decide), st_other (by decide), st_other (by decide), st_other (by decide), st_same]
      have g3 : emM (emX M n op a b) n op a b 3 = upd (M 3) n a := by
        unfold emM emX
        rw [st_other (by decide), st_other (by decide), st_other (by decide), st_other (by decide), st_other (by decide), st_other (by decide), st_same, st_other (by decide)]
      have g4 : emM (emX M n op a b) n op a b 4 = upd (M 4) n b := by
        unfold emM emX
        rw [st_other (by decide), st_other (by decide), st_other (by decide), st_other (by decide), st_other (by decide), st_same, st_other (by decide), st_other (by decide)]
      have g1 : emM (emX M n op a b) n op a b 1 3 = nI (n + 1) := by
        unfold emM emX
        rw [st_other (by decide), st_other (by decide), st_other (by decide), st_other (by decide), st_rd, nI_1]
      refine ⟨?_, ?_, fun e he => by rw [oo _ (by omega) (by omega) (by omega) (by omega) (by omega)]; exact p2 e he, ?_, ?_, ?_, by rw [oo 12 (by decide) (by decide) (by decide) (by decide) (by decide)]; exact p6, ?_, ?_⟩
      · rw [g1, g2, g3, g4, ← p0]
      · exact XS_P (XS_fr p1 (oo _ (by decide) (by decide) (by decide) (by decide) (by decide)) (oo _ (by decide) (by decide) (by decide) (by decide) (by decide)) (oo _ (by decide) (by decide) (by decide) (by decide) (by decide)) (fun q _ _ => oo q (by omega) (by omega) (by omega) (by omega) (by omega)) (fun e _ => oo _ (by omega) (by omega) (by omega) (by omega) (by omega))) z1
      · exact XF_fr p3 (oo _ (by decide) (by decide) (by decide) (by decide) (by decide)) (fun q _ _ => oo q (by omega) (by omega) (by omega) (by omega) (by omega)) (fun q _ _ => oo q (by omega) (by omega) (by omega) (by omega) (by omega))
      · rw [oo 0 (by decide) (by decide) (by decide) (by decide) (by decide)]; exact p4
      · unfold XT; rw [oo 13 (by decide) (by decide) (by decide) (by decide) (by decide)]; exact p5
      · exact ROk_fr p7 (by rw [oo 14 (by decide) (by decide) (by decide) (by decide) (by decide)]) (oo _ (by decide) (by decide) (by decide) (by decide) (by decide)) (oo _ (by decide) (by decide) (by decide) (by decide) (by decide))
      · exact ROk_fr p8 (by rw [oo 20 (by decide) (by decide) (by decide) (by decide) (by decide)]) (oo _ (by decide) (by decide) (by decide) (by decide) (by decide)) (oo _ (by decide) (by decide) (by decide) (by decide) (by decide))
    · obtain ⟨p1, p2, p3, p4, p5, p6, p7, p8⟩ := h3
      have hx : ∀ q, 26 ≤ q → emX M n op a b q = M q := fun q hq => o1 q (by omega) (by omega) (by omega) (by omega)
      have oo : ∀ q, 29 < q → emM (emX M n op a b) n op a b q = M q := fun q q1 => by
        unfold emM
        rw [st_other (by omega), st_other (by omega), st_other (by omega), st_other (by omega), hx q (by omega)]
      have o26 : ∀ q, q ≠ 0 → emM (emX M n op a b) n op a b 26 q = M 26 q := fun q hq => by
        unfold emM
        rw [st_ap, if_pos rfl, if_neg hq, st_other (by decide), st_other (by decide), st_other (by decide), hx 26 (by decide)]
      refine ⟨?_, MS_fr p2 (o26 18 (by decide)) (oo 36 (by decide)) (oo 37 (by decide)), ?_, ?_, MF_fr p5 (o26 22 (by decide)) (fun q _ _ => oo q (by omega)), ?_, ?_, ?_⟩
      · unfold MP at p1 ⊢
        have g27 : emM (emX M n op a b) n op a b 27 = upd (M 27) n op := by
          unfold emM
          rw [st_other (by decide), st_other (by decide), st_other (by decide), st_same, hx 27 (by decide)]
        have g28 : emM (emX M n op a b) n op a b 28 = upd (M 28) n a := by
          unfold emM
          rw [st_other (by decide), st_other (by decide), st_same, st_other (by decide), hx 28 (by decide)]
        have g29 : emM (emX M n op a b) n op a b 29 = upd (M 29) n b := by
          unfold emM
          rw [st_other (by decide), st_same, st_other (by decide), st_other (by decide), hx 29 (by decide)]
        have g0 : emM (emX M n op a b) n op a b 26 0 = nI (n + 1) := by
          unfold emM
          rw [st_rd, nI_1]
        rw [g27, g28, g29, g0, ← p1]
      · intro q
        rw [o26 35 (by decide), o26 18 (by decide)] at q
        exact Srv_P (Srv_fr (p3 q) (oo 48 (by decide)) (oo 49 (by decide)) (oo 50 (by decide)) (o26 39 (by decide))) z1
      · intro e he; exact absurd he (by omega)
      · rw [o26 32 (by decide), o26 33 (by decide), o26 34 (by decide)]; exact p6
      · intro q; exact absurd q (by omega)
      · rw [o26 6 (by decide)]; exact p8
    · obtain ⟨a1, a2, a3, a4⟩ := h4
      exact ⟨a1, fun e he => absurd he (by omega), a3, fun q => absurd q (by omega)⟩
    · exact Inp_fr h5 (by unfold emM; rw [st_other (by decide), st_other (by decide), st_other (by decide), st_other (by decide), o1 52 (by decide) (by decide) (by decide) (by decide)]) (by unfold emM; rw [st_other (by decide), st_other (by decide), st_other (by decide), st_other (by decide), o1 (52 + 1) (by decide) (by decide) (by decide) (by decide)])
    · refine ⟨?_, ?_⟩
      · unfold emM
        rw [st_ap, if_pos rfl, if_neg (by decide), st_other (by decide), st_other (by decide), st_other (by decide), o1 26 (by decide) (by decide) (by decide) (by decide)]
        exact h6.1
      · unfold emM
        rw [st_other (by decide), st_other (by decide), st_other (by decide), st_other (by decide), o1 30 (by decide) (by decide) (by decide) (by decide)]
        exact h6.2
  · rw [if_neg c]
    have hm := v_MO_emit (M := M) op a b m26 e1
    rw [if_neg (fun q => c ⟨by rw [m9, (nI_z (by omega)).1, ← (nI_z (by omega)).2, ← m32]; exact q.1, q.2⟩)] at hm
    exact ⟨0, M, M, rfl, hm, P, n, dr, A, hP0, h2, h3, h4, h5, h6, k, k1, k2, k3⟩
theorem c_feed {M : Mem} {K : Nat} (b : Int32) (h : Rel M K) : ∃ r M1 M2, s_EC_feed b M = some (r, M1) ∧ s_MO_feed b M1 = some (r, M2) ∧ Rel M2 K := by
  obtain ⟨P, n, dr, A, h1, h2, h3, h4, h5, h6, hk⟩ := h
  have l6 := h5.2.1
  rw [v_EC_feed b h5.1 l6]
  by_cases c : dr.length < 6 ∧ 0 ≤ b ∧ b < 256
  · rw [if_pos c]
    have o1 : ∀ q, q ≠ 52 → q ≠ 53 → apX M 52 dr.length b q = M q := fun q q1 q2 => apX_o q1 q2
    have hm := v_MO_feed (M := apX M 52 dr.length b) b (n := dr.length) (by rw [o1 26 (by decide) (by decide)]; exact h6.1) l6
    rw [if_pos c] at hm
    have hI := Inp_ap h5 c.1 c.2
    refine ⟨1, _, _, rfl, hm, P, n, dr ++ [b], A, h1, ?_, ?_, h4, ?_, ?_, hk⟩
    · exact XA_fr h2 (fun q hq => by rw [st_other (by omega), st_other (by omega), o1 q (by omega) (by omega)])
    · obtain ⟨p1, p2, p3, p4, p5, p6, p7, p8⟩ := h3
      have oo : ∀ q, 26 ≤ q → q ≤ 51 → q ≠ 26 → q ≠ 30 → st (st (apX M 52 dr.length b) 30 dr.length b) 26 5 (nI dr.length + 1) q = M q := fun q q1 q2 q3 q4 => by rw [st_other q3, st_other q4, o1 q (by omega) (by omega)]
      have o26 : ∀ q, q ≠ 5 → st (st (apX M 52 dr.length b) 30 dr.length b) 26 5 (nI dr.length + 1) 26 q = M 26 q := fun q hq => by rw [st_ap, if_pos rfl, if_neg hq, st_other (by decide), o1 26 (by decide) (by decide)]
      refine ⟨?_, MS_fr p2 (o26 18 (by decide)) (oo 36 (by decide) (by decide) (by decide) (by decide)) (oo 37 (by decide) (by decide) (by decide) (by decide)), ?_, ?_, MF_fr p5 (o26 22 (by decide)) (fun q _ _ => oo q (by omega) (by omega) (by omega) (by omega)), ?_, ?_, ?_⟩
      · unfold MP
        rw [oo 27 (by decide) (by decide) (by decide) (by decide), oo 28 (by decide) (by decide) (by decide) (by decide), oo 29 (by decide) (by decide) (by decide) (by decide), o26 0 (by decide)]
        exact p1
      · intro q
        rw [o26 35 (by decide), o26 18 (by decide)] at q
        exact Srv_fr (p3 q) (oo 48 (by decide) (by decide) (by decide) (by decide)) (oo 49 (by decide) (by decide) (by decide) (by decide)) (oo 50 (by decide) (by decide) (by decide) (by decide)) (o26 39 (by decide))
      · intro e he; rw [oo 38 (by decide) (by decide) (by decide) (by decide)]; exact p4 e he
      · rw [o26 32 (by decide), o26 33 (by decide), o26 34 (by decide)]; exact p6
      · unfold MT; rw [o26 40 (by decide), o26 41 (by decide), o26 42 (by decide)]; exact p7
      · rw [o26 6 (by decide)]; exact p8
    · exact Inp_fr hI (by rw [st_other (by decide), st_other (by decide)]) (by rw [st_other (by decide), st_other (by decide)])
    · refine ⟨?_, ?_⟩
      · rw [st_rd, List.length_append, List.length_singleton, nI_1]
      · rw [st_other (by decide), st_same, o1 30 (by decide) (by decide)]
        exact Row_ap h6.2
  · rw [if_neg c]
    have hm := v_MO_feed (M := M) b (n := dr.length) h6.1 l6
    rw [if_neg c] at hm
    exact ⟨0, M, M, rfl, hm, P, n, dr, A, h1, h2, h3, h4, h5, h6, hk⟩
