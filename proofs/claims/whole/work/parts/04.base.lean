def nbF : List (String × Nat × String × String × String × String) := [("EdgeCampaign$Run", 65, "EdgeCampaign$Program", "ops", "[I", "EdgeCampaign"), ("EdgeCampaign$Run", 68, "EdgeCampaign$Program", "as", "[I", "EdgeCampaign"), ("EdgeCampaign$Run", 71, "EdgeCampaign$Program", "bs", "[I", "EdgeCampaign"), ("EdgeCampaign$Run", 97, "EdgeCampaign$Input", "size", "I", "EdgeCampaign"), ("EdgeCampaign$Store", 34, "EdgeCampaign$Run", "edgeCount", "I", "EdgeCampaign"), ("EdgeCampaign$Store", 39, "EdgeCampaign$Run", "edges", "[I", "EdgeCampaign"), ("EdgeCampaign$Entry", 20, "EdgeCampaign$Input", "size", "I", "EdgeCampaign"), ("EdgeCampaign$Store", 46, "EdgeCampaign$Entry", "input", "LEdgeCampaign$Input;", "EdgeCampaign"), ("EdgeCampaign$Store", 56, "EdgeCampaign$Run", "steps", "I", "EdgeCampaign"), ("EdgeCampaign$Store", 59, "EdgeCampaign$Entry", "steps", "I", "EdgeCampaign"), ("EdgeCampaign$Store", 60, "EdgeCampaign$Entry", "edgeCount", "I", "EdgeCampaign"), ("EdgeCampaign$Finding", 29, "EdgeCampaign$Run", "outcome", "I", "EdgeCampaign"), ("EdgeCampaign$Finding", 36, "EdgeCampaign$Run", "here", "I", "EdgeCampaign"), ("EdgeCampaign$Finding", 40, "EdgeCampaign$Run", "depth", "I", "EdgeCampaign"), ("EdgeCampaign$Findings", 24, "EdgeCampaign$Finding", "hits", "I", "EdgeCampaign"), ("EdgeCampaign$Shortener", 28, "EdgeCampaign$Input", "size", "I", "EdgeCampaign"), ("EdgeCampaign$Shortener", 23, "EdgeCampaign$Finding", "shortest", "LEdgeCampaign$Input;", "EdgeCampaign"), ("EdgeCampaign$Trials", 41, "EdgeCampaign$Input", "size", "I", "EdgeCampaign"), ("EdgeCampaign$Trials", 87, "EdgeCampaign$Entry", "edgeCount", "I", "EdgeCampaign"), ("EdgeCampaign$Trials", 25, "EdgeCampaign$Store", "entries", "[LEdgeCampaign$Entry;", "EdgeCampaign"), ("EdgeCampaign$Trials", 80, "EdgeCampaign$Entry", "finished", "I", "EdgeCampaign"), ("EdgeCampaign$Trials", 29, "EdgeCampaign$Entry", "input", "LEdgeCampaign$Input;", "EdgeCampaign"), ("EdgeCampaign", 190, "EdgeCampaign$Run", "outcome", "I", "EdgeCampaign"), ("EdgeCampaign$Trials", 79, "EdgeCampaign$Store", "size", "I", "EdgeCampaign"), ("EdgeCampaign", 94, "EdgeCampaign$Store", "size", "I", "EdgeCampaign"), ("EdgeCampaign", 105, "EdgeCampaign$Findings", "size", "I", "EdgeCampaign"), ("EdgeCampaign", 106, "EdgeCampaign$Store", "seenEdges", "I", "EdgeCampaign"), ("EdgeCampaign", 109, "EdgeCampaign$Store", "seenPairs", "I", "EdgeCampaign"), ("EdgeCampaign", 115, "EdgeCampaign$Store", "entries", "[LEdgeCampaign$Entry;", "EdgeCampaign"), ("EdgeCampaign", 119, "EdgeCampaign$Entry", "input", "LEdgeCampaign$Input;", "EdgeCampaign"), ("EdgeCampaign", 124, "EdgeCampaign$Input", "size", "I", "EdgeCampaign"), ("EdgeCampaign", 125, "EdgeCampaign$Entry", "steps", "I", "EdgeCampaign"), ("EdgeCampaign", 128, "EdgeCampaign$Entry", "edgeCount", "I", "EdgeCampaign"), ("EdgeCampaign", 131, "EdgeCampaign$Entry", "finished", "I", "EdgeCampaign"), ("EdgeCampaign", 144, "EdgeCampaign$Store", "buckets", "[I", "EdgeCampaign"), ("EdgeCampaign", 164, "EdgeCampaign$Finding", "latestFirst", "[I", "EdgeCampaign"), ("EdgeCampaign", 149, "EdgeCampaign$Findings", "made", "[LEdgeCampaign$Finding;", "EdgeCampaign"), ("EdgeCampaign", 153, "EdgeCampaign$Finding", "trap", "I", "EdgeCampaign"), ("EdgeCampaign", 158, "EdgeCampaign$Finding", "here", "I", "EdgeCampaign"), ("EdgeCampaign", 161, "EdgeCampaign$Finding", "depth", "I", "EdgeCampaign"), ("EdgeCampaign", 167, "EdgeCampaign$Finding", "hits", "I", "EdgeCampaign"), ("EdgeCampaign", 170, "EdgeCampaign$Finding", "input", "LEdgeCampaign$Input;", "EdgeCampaign"), ("EdgeCampaign", 171, "EdgeCampaign$Finding", "shortest", "LEdgeCampaign$Input;", "EdgeCampaign"), ("EdgeCampaign", 174, "EdgeCampaign$Trials", "taken", "I", "EdgeCampaign"), ("EdgeCampaign", 177, "EdgeCampaign$Trials", "number", "I", "EdgeCampaign"), ("EdgeCampaign", 180, "EdgeCampaign$Trials", "energy", "I", "EdgeCampaign"), ("EdgeCampaign", 183, "EdgeCampaign$Generator", "x", "I", "EdgeCampaign")]
def nbM : List (String × Nat × MethodName × String) := []
/-! The machine's side of the memory: one world of 154 cells for every method that makes nothing; contracts Ci, Cv, Cq over it; rows for fields, arrays, calls. -/
abbrev Cx : Type := va_G × (Nat → Nat) × (ClassId × ClassId × ClassId) × (Nat × Nat)
def mw (ad : Nat → Nat) (ly : Nat → (Nat → Int32) → va_E) (N : Nat) (M : Mem) : va_W := (List.range N).map (fun j => (ad j, ly j (M j)))
theorem mw_at {ad : Nat → Nat} {ly : Nat → (Nat → Int32) → va_E} {N : Nat} {M : Mem} {j : Nat} (h : j < N) : (mw ad ly N M)[j]? = some (ad j, ly j (M j)) := by
  unfold mw
  rw [List.getElem?_map, List.getElem?_range h]
  rfl
theorem mw_inv {ad : Nat → Nat} {ly : Nat → (Nat → Int32) → va_E} {N : Nat} {M : Mem} {k : Nat} {q : Nat × va_E} (h : (mw ad ly N M)[k]? = some q) : k < N ∧ q = (ad k, ly k (M k)) := by
  by_cases hk : k < N
  · rw [mw_at hk] at h
    exact ⟨hk, (Option.some.inj h).symm⟩
  · rw [List.getElem?_eq_none (by unfold mw; rw [List.length_map, List.length_range]; omega)] at h
    cases h
theorem mw_set {ad : Nat → Nat} {ly : Nat → (Nat → Int32) → va_E} {N : Nat} {M : Mem} {j k : Nat} {v : Int32} {e : va_E} (h : j < N) (he : e = ly j (upd (M j) k v)) : (mw ad ly N M).set j (ad j, e) = mw ad ly N (st M j k v) := by
  subst he
  apply List.ext_getElem?
  intro i
  have hlen : (mw ad ly N M).length = N := by unfold mw; rw [List.length_map, List.length_range]
  have hlen2 : (mw ad ly N (st M j k v)).length = N := by unfold mw; rw [List.length_map, List.length_range]
  by_cases hi : i < N
  · rw [mw_at hi]
    by_cases hij : i = j
    · subst hij
      rw [List.getElem?_set_self (by rw [hlen]; exact hi), st_same]
    · rw [List.getElem?_set_ne (Ne.symm hij), mw_at hi, st_other hij]
  · rw [List.getElem?_eq_none (by rw [List.length_set, hlen]; omega), List.getElem?_eq_none (by rw [hlen2]; omega)]
def lay0 (x : Cx) (j : Nat) (r : Nat → Int32) : va_E := match j with
  | 0 => .inr (10, [.ref (x.2.1 1), .ref (x.2.1 52), .ref (x.2.1 54), .ref (x.2.1 14), .ref (x.2.1 5), .ref (x.2.1 9), .ref (x.2.1 11), .ref (x.2.1 12), .ref (x.2.1 13), .int (r 9), .int (r 10), .int (r 11)])
  | 1 => .inr (5, [.ref (x.2.1 2), .ref (x.2.1 3), .ref (x.2.1 4), .int (r 3)])
  | 2 => .inl (x.2.2.1.1, 24, .inl r)
  | 3 => .inl (x.2.2.1.1, 24, .inl r)
  | 4 => .inl (x.2.2.1.1, 24, .inl r)
  | 5 => .inr (8, [.ref (x.2.1 6), .ref (x.2.1 7), .ref (x.2.1 8), .int (r 3), .int (r 4), .int (r 5), .int (r 6)])
  | 6 => .inl (x.2.2.1.2.1, 16, .inr (.inr (.inr (.inr (fun k => some (x.2.1 (122 + k)))))))
  | 7 => .inl (x.2.2.1.1, 576, .inl r)
  | 8 => .inl (x.2.2.1.1, 576, .inl r)
  | 9 => .inr (2, [.ref (x.2.1 10), .int (r 1)])
  | 10 => .inl (x.2.2.1.2.2, 8, .inr (.inr (.inr (.inr (fun k => some (x.2.1 (138 + 2 * k)))))))
  | 11 => .inr (7, [.ref (x.2.1 20), .ref (x.2.1 56)])
  | 12 => .inr (3, [.int (r 0)])
  | 13 => .inr (9, [.int (r 0), .int (r 1), .int (r 2)])
  | 14 => .inr (6, [.ref (x.2.1 15), .ref (x.2.1 16), .ref (x.2.1 17), .ref (x.2.1 18), .ref (x.2.1 19), .int (r 5), .int (r 6), .int (r 7), .int (r 8), .int (r 9), .int (r 10)])
  | 15 => .inl (x.2.2.1.1, 4, .inl r)
  | 16 => .inl (x.2.2.1.1, 4, .inl r)
  | 17 => .inl (x.2.2.1.1, 3, .inl r)
  | 18 => .inl (x.2.2.1.1, 576, .inl r)
  | 19 => .inl (x.2.2.1.1, 64, .inl r)
  | 20 => .inr (6, [.ref (x.2.1 21), .ref (x.2.1 22), .ref (x.2.1 23), .ref (x.2.1 24), .ref (x.2.1 25), .int (r 5), .int (r 6), .int (r 7), .int (r 8), .int (r 9), .int (r 10)])
  | 21 => .inl (x.2.2.1.1, 4, .inl r)
  | 22 => .inl (x.2.2.1.1, 4, .inl r)
  | 23 => .inl (x.2.2.1.1, 3, .inl r)
  | 24 => .inl (x.2.2.1.1, 576, .inl r)
  | 25 => .inl (x.2.2.1.1, 64, .inl r)
  | 26 => .inr (11, [.int (r 0), .ref (x.2.1 27), .ref (x.2.1 28), .ref (x.2.1 29), .ref (x.2.1 30), .int (r 5), .int (r 6), .ref (x.2.1 31), .int (r 8), .ref (x.2.1 32), .ref (x.2.1 33), .ref (x.2.1 34), .int (r 12), .int (r 13), .int (r 14), .int (r 15), .int (r 16), .ref (x.2.1 35), .int (r 18), .ref (x.2.1 36), .ref (x.2.1 37), .ref (x.2.1 38), .int (r 22), .ref (x.2.1 39), .ref (x.2.1 40), .ref (x.2.1 41), .ref (x.2.1 42), .ref (x.2.1 43), .ref (x.2.1 44), .ref (x.2.1 45), .ref (x.2.1 46), .ref (x.2.1 47), .int (r 32), .int (r 33), .int (r 34), .int (r 35), .ref (x.2.1 48), .ref (x.2.1 49), .ref (x.2.1 50), .int (r 39), .int (r 40), .int (r 41), .int (r 42), .ref (x.2.1 51), .int (r 44)])
  | 27 => .inl (x.2.2.1.1, 24, .inl r)
  | 28 => .inl (x.2.2.1.1, 24, .inl r)
  | 29 => .inl (x.2.2.1.1, 24, .inl r)
  | 30 => .inl (x.2.2.1.1, 6, .inl r)
  | 31 => .inl (x.2.2.1.1, 6, .inl r)
  | 32 => .inl (x.2.2.1.1, 4, .inl r)
  | 33 => .inl (x.2.2.1.1, 4, .inl r)
  | 34 => .inl (x.2.2.1.1, 3, .inl r)
  | 35 => .inl (x.2.2.1.1, 576, .inl r)
  | 36 => .inl (x.2.2.1.1, 96, .inl r)
  | 37 => .inl (x.2.2.1.1, 16, .inl r)
  | 38 => .inl (x.2.2.1.1, 16, .inl r)
  | 39 => .inl (x.2.2.1.1, 8, .inl r)
  | 40 => .inl (x.2.2.1.1, 8, .inl r)
  | 41 => .inl (x.2.2.1.1, 8, .inl r)
  | 42 => .inl (x.2.2.1.1, 24, .inl r)
  | 43 => .inl (x.2.2.1.1, 8, .inl r)
  | 44 => .inl (x.2.2.1.1, 48, .inl r)
  | 45 => .inl (x.2.2.1.1, 8, .inl r)
  | 46 => .inl (x.2.2.1.1, 48, .inl r)
  | 47 => .inl (x.2.2.1.1, 8, .inl r)
  | 48 => .inl (x.2.2.1.1, 576, .inl r)
  | 49 => .inl (x.2.2.1.1, 576, .inl r)
  | 50 => .inl (x.2.2.1.1, 16, .inl r)
  | _ => .inl (x.2.2.1.1, 6, .inl r)
def lay (x : Cx) (j : Nat) (r : Nat → Int32) : va_E := if j < 52 then lay0 x j r else if j < 122 then (if j % 2 = 0 then .inr (4, [.ref (x.2.1 (j + 1)), .int (r 1)]) else .inl (x.2.2.1.1, 6, .inl r)) else if j < 138 then .inr (0, [.ref (x.2.1 (2 * j - 186)), .int (r 1), .int (r 2), .int (r 3)]) else (if j % 2 = 0 then .inr (1, [.ref (x.2.1 (2 * j - 186)), .ref (x.2.1 (2 * j - 184)), .ref (x.2.1 (j + 1)), .int (r 3), .int (r 4), .int (r 5), .int (r 6)]) else .inl (x.2.2.1.1, 3, .inl r))
abbrev kd_in (j : Nat) : Prop := 52 ≤ j ∧ j < 122 ∧ j % 2 = 0
abbrev kd_en (j : Nat) : Prop := 122 ≤ j ∧ j < 138
abbrev kd_fi (j : Nat) : Prop := 138 ≤ j ∧ j < 154 ∧ j % 2 = 0
abbrev kd_run (j : Nat) : Prop := j = 14 ∨ j = 20
def AR (x : Cx) (j n : Nat) : Prop := j < 154 ∧ ∀ r : Nat → Int32, lay x j r = .inl (x.2.2.1.1, n, .inl r)
theorem ly_IN {x : Cx} {j : Nat} {r : Nat → Int32} (k : kd_in j) : lay x j r = .inr (4, [.ref (x.2.1 (j + 1)), .int (r 1)]) := by
  obtain ⟨h1, h2, h3⟩ := k
  unfold lay
  rw [if_neg (by omega), if_pos h2, if_pos h3]
theorem ly_EN {x : Cx} {j : Nat} {r : Nat → Int32} (k : kd_en j) : lay x j r = .inr (0, [.ref (x.2.1 (2 * j - 186)), .int (r 1), .int (r 2), .int (r 3)]) := by
  obtain ⟨h1, h2⟩ := k
  unfold lay
  rw [if_neg (by omega), if_neg (by omega), if_pos h2]
theorem ly_FI {x : Cx} {j : Nat} {r : Nat → Int32} (k : kd_fi j) : lay x j r = .inr (1, [.ref (x.2.1 (2 * j - 186)), .ref (x.2.1 (2 * j - 184)), .ref (x.2.1 (j + 1)), .int (r 3), .int (r 4), .int (r 5), .int (r 6)]) := by
  obtain ⟨h1, h2, h3⟩ := k
  unfold lay
  rw [if_neg (by omega), if_neg (by omega), if_neg (by omega), if_pos h3]
theorem ly_RU {x : Cx} {j : Nat} {r : Nat → Int32} (k : kd_run j) : lay x j r = .inr (6, [.ref (x.2.1 (j + 1)), .ref (x.2.1 (j + 2)), .ref (x.2.1 (j + 3)), .ref (x.2.1 (j + 4)), .ref (x.2.1 (j + 5)), .int (r 5), .int (r 6), .int (r 7), .int (r 8), .int (r 9), .int (r 10)]) := by
  rcases k with rfl | rfl <;> rfl
theorem lt_IN {j : Nat} (k : kd_in j) : j < 154 := by
  unfold kd_in at k; omega
theorem lt_EN {j : Nat} (k : kd_en j) : j < 154 := by
  unfold kd_en at k; omega
theorem lt_FI {j : Nat} (k : kd_fi j) : j < 154 := by
  unfold kd_fi at k; omega
theorem lt_RU {j : Nat} (k : kd_run j) : j < 154 := by
  rcases k with rfl | rfl <;> decide
theorem kd_EC_draft : kd_in 52 := by unfold kd_in; omega
theorem kd_EC_changed : kd_in 54 := by unfold kd_in; omega
theorem kd_EC_run : kd_run 14 := by unfold kd_run; omega
theorem ar_PR_ops {x : Cx} : AR x 2 24 := ⟨by decide, fun _ => rfl⟩
theorem ar_PR_as {x : Cx} : AR x 3 24 := ⟨by decide, fun _ => rfl⟩
theorem ar_PR_bs {x : Cx} : AR x 4 24 := ⟨by decide, fun _ => rfl⟩
theorem ar_IN_bytes {x : Cx} {j : Nat} (k : kd_in j) : AR x (j + 1) 6 := by
  obtain ⟨h1, h2, h3⟩ := k
  refine ⟨by omega, fun r => ?_⟩
  unfold lay
  rw [if_neg (by omega), if_pos (by omega), if_neg (by omega)]
theorem ar_RU_registers {x : Cx} {j : Nat} (k : kd_run j) : AR x (j + 1) 4 := by
  rcases k with rfl | rfl <;> exact ⟨by decide, fun _ => rfl⟩
theorem ar_RU_memory {x : Cx} {j : Nat} (k : kd_run j) : AR x (j + 2) 4 := by
  rcases k with rfl | rfl <;> exact ⟨by decide, fun _ => rfl⟩
theorem ar_RU_stack {x : Cx} {j : Nat} (k : kd_run j) : AR x (j + 3) 3 := by
  rcases k with rfl | rfl <;> exact ⟨by decide, fun _ => rfl⟩
theorem ar_RU_times {x : Cx} {j : Nat} (k : kd_run j) : AR x (j + 4) 576 := by
  rcases k with rfl | rfl <;> exact ⟨by decide, fun _ => rfl⟩
theorem ar_RU_edges {x : Cx} {j : Nat} (k : kd_run j) : AR x (j + 5) 64 := by
  rcases k with rfl | rfl <;> exact ⟨by decide, fun _ => rfl⟩
theorem kd_EN_input {j : Nat} (k : kd_en j) : kd_in (2 * j - 186) := by
  unfold kd_en at k; unfold kd_in; omega
theorem ar_ST_buckets {x : Cx} : AR x 7 576 := ⟨by decide, fun _ => rfl⟩
theorem ar_ST_goers {x : Cx} : AR x 8 576 := ⟨by decide, fun _ => rfl⟩
theorem kd_FI_input {j : Nat} (k : kd_fi j) : kd_in (2 * j - 186) := by
  unfold kd_fi at k; unfold kd_in; omega
theorem kd_FI_shortest {j : Nat} (k : kd_fi j) : kd_in (2 * j - 184) := by
  unfold kd_fi at k; unfold kd_in; omega
theorem ar_FI_latestFirst {x : Cx} {j : Nat} (k : kd_fi j) : AR x (j + 1) 3 := by
  obtain ⟨h1, h2, h3⟩ := k
  refine ⟨by omega, fun r => ?_⟩
  unfold lay
  rw [if_neg (by omega), if_neg (by omega), if_neg (by omega), if_neg (by omega)]
theorem kd_SH_run : kd_run 20 := by unfold kd_run; omega
theorem kd_SH_candidate : kd_in 56 := by unfold kd_in; omega
theorem ar_MO_ops {x : Cx} : AR x 27 24 := ⟨by decide, fun _ => rfl⟩
theorem ar_MO_as {x : Cx} : AR x 28 24 := ⟨by decide, fun _ => rfl⟩
theorem ar_MO_bs {x : Cx} : AR x 29 24 := ⟨by decide, fun _ => rfl⟩
theorem ar_MO_draft {x : Cx} : AR x 30 6 := ⟨by decide, fun _ => rfl⟩
theorem ar_MO_tape {x : Cx} : AR x 31 6 := ⟨by decide, fun _ => rfl⟩
theorem ar_MO_r {x : Cx} : AR x 32 4 := ⟨by decide, fun _ => rfl⟩
theorem ar_MO_memory {x : Cx} : AR x 33 4 := ⟨by decide, fun _ => rfl⟩
theorem ar_MO_stack {x : Cx} : AR x 34 3 := ⟨by decide, fun _ => rfl⟩
theorem ar_MO_times {x : Cx} : AR x 35 576 := ⟨by decide, fun _ => rfl⟩
theorem ar_MO_inputs {x : Cx} : AR x 36 96 := ⟨by decide, fun _ => rfl⟩
theorem ar_MO_lengths {x : Cx} : AR x 37 16 := ⟨by decide, fun _ => rfl⟩
theorem ar_MO_finished {x : Cx} : AR x 38 16 := ⟨by decide, fun _ => rfl⟩
theorem ar_MO_traps {x : Cx} : AR x 39 8 := ⟨by decide, fun _ => rfl⟩
theorem ar_MO_places {x : Cx} : AR x 40 8 := ⟨by decide, fun _ => rfl⟩
theorem ar_MO_depths {x : Cx} : AR x 41 8 := ⟨by decide, fun _ => rfl⟩
theorem ar_MO_stacks {x : Cx} : AR x 42 24 := ⟨by decide, fun _ => rfl⟩
theorem ar_MO_hits {x : Cx} : AR x 43 8 := ⟨by decide, fun _ => rfl⟩
theorem ar_MO_found {x : Cx} : AR x 44 48 := ⟨by decide, fun _ => rfl⟩
theorem ar_MO_foundLength {x : Cx} : AR x 45 8 := ⟨by decide, fun _ => rfl⟩
theorem ar_MO_brief {x : Cx} : AR x 46 48 := ⟨by decide, fun _ => rfl⟩
theorem ar_MO_briefLength {x : Cx} : AR x 47 8 := ⟨by decide, fun _ => rfl⟩
theorem ar_MO_buckets {x : Cx} : AR x 48 576 := ⟨by decide, fun _ => rfl⟩
theorem ar_MO_went {x : Cx} : AR x 49 576 := ⟨by decide, fun _ => rfl⟩
theorem ar_MO_stepsOf {x : Cx} : AR x 50 16 := ⟨by decide, fun _ => rfl⟩
theorem ar_MO_cur {x : Cx} : AR x 51 6 := ⟨by decide, fun _ => rfl⟩
theorem kd_en_at {i : Int32} (h : vp_in i 16) : kd_en (122 + i.toNatClampNeg) := by
  have h2 : ¬ 16 ≤ i.toNatClampNeg := fun z => h (Or.inr z)
  unfold kd_en; omega
theorem kd_fi_at {i : Int32} (h : vp_in i 8) : kd_fi (138 + 2 * i.toNatClampNeg) := by
  have h2 : ¬ 8 ≤ i.toNatClampNeg := fun z => h (Or.inr z)
  unfold kd_fi; omega
def A0 (x : Cx) : Nat → Prop := fun q => ∃ j, j < 154 ∧ q = x.2.1 j
def Inj (x : Cx) : Prop := ∀ i j, i < 154 → j < 154 → x.2.1 i = x.2.1 j → i = j
def wld (x : Cx) (M : Mem) : va_W := mw x.2.1 (lay x) 154 M
theorem wld_D {x : Cx} {M : Mem} (hJ : Inj x) : va_D (A0 x) (wld x M) := by
  refine ⟨fun i j p q hi hj h => ?_, fun k q hk => ?_⟩
  · obtain ⟨a, rfl⟩ := mw_inv hi
    obtain ⟨b, rfl⟩ := mw_inv hj
    exact hJ i j a b h
  · obtain ⟨a, rfl⟩ := mw_inv hk
    exact ⟨k, a, rfl⟩
theorem wld_at {x : Cx} {M : Mem} {j : Nat} {e : va_E} (h : j < 154) (he : lay x j (M j) = e) : (wld x M)[j]? = some (x.2.1 j, e) := by
  unfold wld
  rw [mw_at h, he]
def tysx (x : Cx) : List (ClassId × FieldType) := [(x.2.2.1.1, .int), (x.2.2.1.2.1, .object "EdgeCampaign$Entry"), (x.2.2.1.2.2, .object "EdgeCampaign$Finding")]
def sADD (k : Nat) : Int32 := match k with
  | 0 => 1
  | 1 => -1
  | 2 => 16
  | _ => -16
def sPUT (k : Nat) : Int32 := match k with
  | 0 => 0
  | 1 => 127
  | 2 => 128
  | _ => 255
def Stc (x : Cx) (U : State) (H : Heap) : Prop := (va_Z "EdgeCampaign$Trials" "ADDED" "[I" (.ref x.2.2.2.1) (A0 x) U H ∧ va_T .int x.2.2.2.1 4 (fun k => .int (sADD k)) (A0 x) U H) ∧ (va_Z "EdgeCampaign$Trials" "PUT" "[I" (.ref x.2.2.2.2) (A0 x) U H ∧ va_T .int x.2.2.2.2 4 (fun k => .int (sPUT k)) (A0 x) U H)
theorem Stc.moved {x : Cx} {u U : State} {H : Heap} (hvm : u.vm.Alike U.vm) (h : Stc x u H) : Stc x U H := ⟨⟨h.1.1.moved hvm, h.1.2.moved hvm⟩, h.2.1.moved hvm, h.2.2.moved hvm⟩
theorem Stc.kept {x : Cx} {U : State} {H H1 : Heap} (h : Stc x U H) (hq : ∀ a : Nat, a < H.size → ¬ A0 x a → H1[a]? = H[a]?) : Stc x U H1 := ⟨⟨h.1.1.kept hq, h.1.2.kept hq⟩, h.2.1.kept hq, h.2.2.kept hq⟩
def tb : List Cond := lw_tbl.filter goodWord
theorem tb_in {w : Cond} (h : w ∈ lw_tbl) (hg : goodWord w = true) : w ∈ tb := List.mem_filter.mpr ⟨h, hg⟩
theorem tb_good {b : Cond} (hb : b ∈ tb) : GoodIn tb (b :: tb) := fun w hw => by
  have h : w ∈ tb := by
    rcases List.mem_cons.mp hw with rfl | h
    · exact hb
    · exact h
  exact ⟨h, good_of_word (List.mem_filter.mp h).2⟩
def nb : List Cond := nbF.map (fun q => .fieldLinkNest q.1 q.2.1 q.2.2.1 q.2.2.2.1 q.2.2.2.2.1 q.2.2.2.2.2) ++ nbM.map (fun q => .methodLinkNest q.1 q.2.1 q.2.2.1 q.2.2.2)
def Nst (U : State) : Prop := ∀ w ∈ nb, va_Nw w U
theorem Nst.moved {s U : State} (hW : s.WarmedH U.vm) (h : Nst s) : Nst U := by
  intro w hw
  have h1 := h w hw
  rcases List.mem_append.mp hw with h2 | h2
  · obtain ⟨q, -, rfl⟩ := List.mem_map.mp h2
    exact h1.warmF hW
  · obtain ⟨q, -, rfl⟩ := List.mem_map.mp h2
    exact h1.warmM hW
theorem Nst.same {s U : State} (hv : s.vm = U.vm) (h : Nst s) : Nst U := by
  intro w hw
  have h1 := h w hw
  rcases List.mem_append.mp hw with h2 | h2
  · obtain ⟨q, -, rfl⟩ := List.mem_map.mp h2
    exact h1.same rfl hv
  · obtain ⟨q, -, rfl⟩ := List.mem_map.mp h2
    exact h1.same rfl hv
def Tb (args : Array Value) (s : State) : Prop := (∀ w ∈ tb, w.before args s = true) ∧ Nst s
def Ok (x : Cx) (M : Mem) (U : State) : Prop := va_P x.1 vwCl (wld x M) U.heap ∧ va_K x.1 vwCl (tysx x) U ∧ Stc x U U.heap ∧ Nst U
def Ci (l : Launch) (x : Cx) (y : MethodName) (w : List Cond) (rm : Room) (av : List Value) (M : Mem) (out : Int32 × Mem) : Prop := Met l y w rm (va_Pc av (Ok x M)) (va_Qi (fun r u => (r, u) = out) (fun u t => va_P x.1 vwCl (wld x u) t.heap) (A0 x)) 0 0 (A0 x)
def Cv (l : Launch) (x : Cx) (y : MethodName) (w : List Cond) (rm : Room) (av : List Value) (M : Mem) (out : Mem) : Prop := Met l y w rm (va_Pc av (Ok x M)) (va_Qv (fun u => u = out) (fun u t => va_P x.1 vwCl (wld x u) t.heap) (A0 x)) 0 0 (A0 x)
def Cq (l : Launch) (x : Cx) (y : MethodName) (w : List Cond) (rm : Room) (av : List Value) (M : Mem) (out : Option Nat × Mem) : Prop := Met l y w rm (va_Pc av (Ok x M)) (va_Qq (fun r u => r = out.1.map x.2.1 ∧ u = out.2) (fun u t => va_P x.1 vwCl (wld x u) t.heap) (A0 x)) 0 0 (A0 x)
theorem blind {x : Cx} {M : Mem} {av : List Value} : FrameBlind (va_Pc av (Ok x M)) := fun a U g mk q => by
  obtain ⟨q0, q1, q2, q3, q4⟩ := q
  exact ⟨q0, q1, va_K.moved (u := U) (U := U.calling g mk a) (Vm.Alike.refl U.vm) q2, Stc.moved (u := U) (U := U.calling g mk a) (Vm.Alike.refl U.vm) q3, Nst.same (s := U) (U := U.calling g mk a) rfl q4⟩
theorem iinc_v {z v k : Int32} {n : Int} (hk : Int32.ofInt n = k) (e : v = z + k) : z + Int32.ofInt n = v := by rw [hk, e]
section OF
variable {l : Launch} {x : Cx} {y : MethodName} {rm : Room} {av : List Value} {M : Mem} {cc : ByteArray} {maxL : Nat} {ret : Option FieldType} {ws' : List Cond}
theorem ofCi {out : Int32 × Mem} (hy : plainName y.cls = true) (hw : (Cond.code y cc maxL ret :: tb) = Cond.code y cc maxL ret :: ws') (hret0 : ret = some .int) (hn : (lg_sl av).length ≤ maxL)
    (body : ∀ (p : Program) (e : Env) (s : State) (m : MethodId) (args : Array Value) (below : List Frame) (meth : Method) (c : Code) (Q : State → Prop) (G0 : Int32 × Mem → Prop) (ls : Array Slot), G0 out → p.tables.exec = Jvm.exec → c.code = cc → c.maxLocals = maxL → s.vm.findClass y.cls = some m.cls → Tb args s → va_K x.1 vwCl (tysx x) s → Stc x s s.heap → va_P x.1 vwCl (wld x M) s.heap → va_S (A0 x) s.heap s.heap [] → lv_has ls maxL (lv_args 0 av) →
      (∀ {v : Int32} {M1 : Mem} {H : Heap} {locs : List Loc} {ls : Array Slot} {pc : Nat}, decode cc pc = .ok (.ireturn, 1) → G0 (v, M1) → va_P x.1 vwCl (wld x M1) H → va_S (A0 x) s.heap H locs → W p l e rm s m args below meth c H locs 0 0 Q (F0 m pc ls [.int v])) →
      W p l e rm s m args below meth c s.heap [] 0 0 Q (F0 m 0 ls [])) : Ci l x y (Cond.code y cc maxL ret :: tb) rm av M out := by
  subst hret0
  refine Met.ofW (cc := cc) (maxL := maxL) (ret := some .int) hy hw ?_
  intro p e s m args below meth c s₁ B hml hv
  obtain ⟨rfl, hP, hK, hZ, hN⟩ := hv
  have hts := atoms_spec (ws := Cond.code y cc maxL (some .int) :: tb) B.pre
  have hlocks := B.notSynchronized
  have hr := B.returns
  rw [lg_entry_eq]
  refine body p e s m _ below meth c _ (fun o => o = out) _ rfl B.exec B.bytes hml (findClass_of_methodNamed B.named) ⟨fun w hw => hts w (List.mem_cons_of_mem _ hw), hN⟩ hK hZ hP va_S.rf (lv_entry av hn) ?_
  intro v M1 H locs ls pc hd hg hP1 hS1
  exact W.iret B.exec B.bytes hr (fun t ht _ => ⟨⟨v, M1, rfl, hg, by show va_P x.1 vwCl (wld x M1) t.heap; rw [ht]; exact hP1⟩, hS1.F ht⟩) hS1.2.2 hd
theorem ofCz {out : Int32 × Mem} (hy : plainName y.cls = true) (hw : (Cond.code y cc maxL ret :: tb) = Cond.code y cc maxL ret :: ws') (hret0 : ret = some .boolean) (hn : (lg_sl av).length ≤ maxL)
    (body : ∀ (p : Program) (e : Env) (s : State) (m : MethodId) (args : Array Value) (below : List Frame) (meth : Method) (c : Code) (Q : State → Prop) (G0 : Int32 × Mem → Prop) (ls : Array Slot), G0 out → p.tables.exec = Jvm.exec → c.code = cc → c.maxLocals = maxL → s.vm.findClass y.cls = some m.cls → Tb args s → va_K x.1 vwCl (tysx x) s → Stc x s s.heap → va_P x.1 vwCl (wld x M) s.heap → va_S (A0 x) s.heap s.heap [] → lv_has ls maxL (lv_args 0 av) →
      (∀ {v : Int32} {M1 : Mem} {H : Heap} {locs : List Loc} {ls : Array Slot} {pc : Nat}, (v = 0 ∨ v = 1) → decode cc pc = .ok (.ireturn, 1) → G0 (v, M1) → va_P x.1 vwCl (wld x M1) H → va_S (A0 x) s.heap H locs → W p l e rm s m args below meth c H locs 0 0 Q (F0 m pc ls [.int v])) →
      W p l e rm s m args below meth c s.heap [] 0 0 Q (F0 m 0 ls [])) : Ci l x y (Cond.code y cc maxL ret :: tb) rm av M out := by
  subst hret0
  refine Met.ofW (cc := cc) (maxL := maxL) (ret := some .boolean) hy hw ?_
  intro p e s m args below meth c s₁ B hml hv
  obtain ⟨rfl, hP, hK, hZ, hN⟩ := hv
  have hts := atoms_spec (ws := Cond.code y cc maxL (some .boolean) :: tb) B.pre
  have hlocks := B.notSynchronized
  have hr := B.returns
  rw [lg_entry_eq]
  refine body p e s m _ below meth c _ (fun o => o = out) _ rfl B.exec B.bytes hml (findClass_of_methodNamed B.named) ⟨fun w hw => hts w (List.mem_cons_of_mem _ hw), hN⟩ hK hZ hP va_S.rf (lv_entry av hn) ?_
  intro v M1 H locs ls pc hv hd hg hP1 hS1
  exact W.zret (ty := .boolean) B.exec B.bytes hr (by rcases hv with rfl | rfl <;> rfl) (fun t ht _ => ⟨⟨v, M1, rfl, hg, by show va_P x.1 vwCl (wld x M1) t.heap; rw [ht]; exact hP1⟩, hS1.F ht⟩) hS1.2.2 hd
theorem ofCv {out : Mem} (hy : plainName y.cls = true) (hw : (Cond.code y cc maxL ret :: tb) = Cond.code y cc maxL ret :: ws') (hret0 : ret = none) (hn : (lg_sl av).length ≤ maxL)
    (body : ∀ (p : Program) (e : Env) (s : State) (m : MethodId) (args : Array Value) (below : List Frame) (meth : Method) (c : Code) (Q : State → Prop) (G0 : Mem → Prop) (ls : Array Slot), G0 out → p.tables.exec = Jvm.exec → c.code = cc → c.maxLocals = maxL → s.vm.findClass y.cls = some m.cls → Tb args s → va_K x.1 vwCl (tysx x) s → Stc x s s.heap → va_P x.1 vwCl (wld x M) s.heap → va_S (A0 x) s.heap s.heap [] → lv_has ls maxL (lv_args 0 av) →
      (∀ {M1 : Mem} {H : Heap} {locs : List Loc} {ls : Array Slot} {pc : Nat}, decode cc pc = .ok (.return_, 1) → G0 M1 → va_P x.1 vwCl (wld x M1) H → va_S (A0 x) s.heap H locs → W p l e rm s m args below meth c H locs 0 0 Q (F0 m pc ls [])) →
      W p l e rm s m args below meth c s.heap [] 0 0 Q (F0 m 0 ls [])) : Cv l x y (Cond.code y cc maxL ret :: tb) rm av M out := by
  subst hret0
  refine Met.ofW (cc := cc) (maxL := maxL) (ret := none) hy hw ?_
  intro p e s m args below meth c s₁ B hml hv
  obtain ⟨rfl, hP, hK, hZ, hN⟩ := hv
  have hts := atoms_spec (ws := Cond.code y cc maxL none :: tb) B.pre
  have hlocks := B.notSynchronized
  have hr := B.returns
  rw [lg_entry_eq]
  refine body p e s m _ below meth c _ (fun o => o = out) _ rfl B.exec B.bytes hml (findClass_of_methodNamed B.named) ⟨fun w hw => hts w (List.mem_cons_of_mem _ hw), hN⟩ hK hZ hP va_S.rf (lv_entry av hn) ?_
  intro M1 H locs ls pc hd hg hP1 hS1
  exact W.vret B.exec B.bytes hr (fun t ht _ => ⟨⟨M1, rfl, hg, by show va_P x.1 vwCl (wld x M1) t.heap; rw [ht]; exact hP1⟩, hS1.F ht⟩) hS1.2.2 hd
theorem ofCq {out : Option Nat × Mem} {cn : String} (hy : plainName y.cls = true) (hw : (Cond.code y cc maxL ret :: tb) = Cond.code y cc maxL ret :: ws') (hret0 : ret = some (.object cn)) (hn : (lg_sl av).length ≤ maxL)
    (body : ∀ (p : Program) (e : Env) (s : State) (m : MethodId) (args : Array Value) (below : List Frame) (meth : Method) (c : Code) (Q : State → Prop) (G0 : Option Nat × Mem → Prop) (ls : Array Slot), G0 out → p.tables.exec = Jvm.exec → c.code = cc → c.maxLocals = maxL → s.vm.findClass y.cls = some m.cls → Tb args s → va_K x.1 vwCl (tysx x) s → Stc x s s.heap → va_P x.1 vwCl (wld x M) s.heap → va_S (A0 x) s.heap s.heap [] → lv_has ls maxL (lv_args 0 av) →
      (∀ {r : Option Nat} {M1 : Mem} {H : Heap} {locs : List Loc} {ls : Array Slot} {pc : Nat}, decode cc pc = .ok (.areturn, 1) → G0 (r, M1) → va_P x.1 vwCl (wld x M1) H → va_S (A0 x) s.heap H locs → W p l e rm s m args below meth c H locs 0 0 Q (F0 m pc ls [va_rf (r.map x.2.1)])) →
      W p l e rm s m args below meth c s.heap [] 0 0 Q (F0 m 0 ls [])) : Cq l x y (Cond.code y cc maxL ret :: tb) rm av M out := by
  subst hret0
  refine Met.ofW (cc := cc) (maxL := maxL) (ret := some (.object cn)) hy hw ?_
  intro p e s m args below meth c s₁ B hml hv
  obtain ⟨rfl, hP, hK, hZ, hN⟩ := hv
  have hts := atoms_spec (ws := Cond.code y cc maxL (some (.object cn)) :: tb) B.pre
  have hlocks := B.notSynchronized
  have hr := B.returns
  rw [lg_entry_eq]
  refine body p e s m _ below meth c _ (fun o => o = out) _ rfl B.exec B.bytes hml (findClass_of_methodNamed B.named) ⟨fun w hw => hts w (List.mem_cons_of_mem _ hw), hN⟩ hK hZ hP va_S.rf (lv_entry av hn) ?_
  intro r M1 H locs ls pc hd hg hP1 hS1
  exact W.aret B.exec B.bytes hr (Or.inl ⟨cn, rfl⟩) (va_rf_or _) (fun t ht _ => ⟨⟨r.map x.2.1, M1, rfl, ⟨by rw [← hg], by rw [← hg]⟩, by show va_P x.1 vwCl (wld x M1) t.heap; rw [ht]; exact hP1⟩, hS1.F ht⟩) hS1.2.2 hd
end OF
section ROWS
variable {p : Program} {l : Launch} {e : Env} {R : Room} {s : State} {m : MethodId} {args : Array Value} {below : List Frame} {meth : Method} {c : Code} {H H0 : Heap} {locs : List Loc} {cells slots : Nat} {Q : State → Prop}
variable {cc : ByteArray} {pc : Nat} {ls : Array Slot} {rest : List Value} {x : Cx} {M M1 : Mem} {j : Nat}
theorem tp_i {v w : Int32} (h : w = v) (k : W p l e R s m args below meth c H locs cells slots Q (F0 m pc ls (.int w :: rest))) : W p l e R s m args below meth c H locs cells slots Q (F0 m pc ls (.int v :: rest)) := h ▸ k
theorem tp_r {v w : Nat} (h : w = v) (k : W p l e R s m args below meth c H locs cells slots Q (F0 m pc ls (.ref (x.2.1 w) :: rest))) : W p l e R s m args below meth c H locs cells slots Q (F0 m pc ls (.ref (x.2.1 v) :: rest)) := h ▸ k
theorem sw_in (hexec : p.tables.exec = Jvm.exec) (hb : c.code = cc) {dflt lo hi : Int} {offs : Array Int} {len : Nat} {z k : Int32} {off : Int} {tgt : Nat} (hz : z = k) (hdg : decode cc pc = .ok (.tableswitch dflt lo hi offs, len)) (h1 : ¬ k.toInt < lo) (h2 : ¬ hi < k.toInt) (ho : offs[(k.toInt - lo).toNat]? = some off) (ht : (pc : Int) + off = (tgt : Int))
    (kk : W p l e R s m args below meth c H locs cells slots Q (F0 m tgt ls rest)) : W p l e R s m args below meth c H locs cells slots Q (F0 m pc ls (.int z :: rest)) := by
  subst hz
  exact lv_tableIn hexec hb hdg h1 h2 ho ht kk
theorem m_get (hexec : p.tables.exec = Jvm.exec) (hb : c.code = cc) {own ref C : String} {T : u_T} {N ci index : Nat} (hts : Tb args s) (hin : ∀ w ∈ u_ws C T N, w ∈ tb) (hown : s.vm.findClass own = some m.cls) (hK : va_K x.1 vwCl (tysx x) s) (hP : va_P x.1 vwCl (wld x M) H) (hj : j < 154) {fs : List Value} (he : lay x j (M j) = .inr (ci, fs)) (hc : vwCl[ci]? = some (C, T, N)) (k : Nat) (hk : k < N) (hlink : Cond.fieldLink own index ref (T k).2.1 (T k).2.2.1 ∈ tb) (href : ref = (T k).1) {v : Value} (hv : fs[k]? = some v) (hdg : decode cc pc = .ok (.getfield index, 3))
    (kk : W p l e R s m args below meth c H locs cells slots Q (F0 m (pc + 3) ls (v :: rest))) : W p l e R s m args below meth c H locs cells slots Q (F0 m pc ls (.ref (x.2.1 j) :: rest)) :=
  va_get (D := x.1) hexec hb hts.1 hin hown hK hP j (wld_at hj he) hc k hk (hts.1 _ hlink) (fun z h => by rw [href]; exact h) hv hdg kk
theorem m_getN (hexec : p.tables.exec = Jvm.exec) (hb : c.code = cc) {own ref C host : String} {T : u_T} {N ci index : Nat} (hts : Tb args s) (hin : ∀ w ∈ u_ws C T N, w ∈ tb) (hown : s.vm.findClass own = some m.cls) (hK : va_K x.1 vwCl (tysx x) s) (hP : va_P x.1 vwCl (wld x M) H) (hj : j < 154) {fs : List Value} (he : lay x j (M j) = .inr (ci, fs)) (hc : vwCl[ci]? = some (C, T, N)) (k : Nat) (hk : k < N) (hlink : Cond.fieldLinkNest own index ref (T k).2.1 (T k).2.2.1 host ∈ nb) (href : ref = (T k).1) {v : Value} (hv : fs[k]? = some v) (hdg : decode cc pc = .ok (.getfield index, 3))
    (kk : W p l e R s m args below meth c H locs cells slots Q (F0 m (pc + 3) ls (v :: rest))) : W p l e R s m args below meth c H locs cells slots Q (F0 m pc ls (.ref (x.2.1 j) :: rest)) :=
  va_getN (D := x.1) hexec hb hts.1 hin hown hK hP j (wld_at hj he) hc k hk ((hts.2 _ hlink).use rfl) (fun z h => by rw [href]; exact h) hv hdg kk
theorem m_back {k : Nat} {v : Int32} {e0 : va_E} {H1 : Heap} (hj : j < 154) (hset : e0 = lay x j (upd (M j) k v)) (hM : M1 = st M j k v) (h : va_P x.1 vwCl ((wld x M).set j (x.2.1 j, e0)) H1) : va_P x.1 vwCl (wld x M1) H1 := by
  subst hM
  unfold wld at h ⊢
  rw [mw_set hj hset] at h
  exact h
theorem m_put (hexec : p.tables.exec = Jvm.exec) (hb : c.code = cc) {own ref C : String} {T : u_T} {N ci index : Nat} (hts : Tb args s) (hin : ∀ w ∈ u_ws C T N, w ∈ tb) (ty0 : Nat → FieldType) (hty : ∀ k, k < N → parseFieldDescriptor (T k).2.2.1 = some (ty0 k)) (hnm : ∀ a, a < N → ∀ b, b < N → a ≠ b → (T a).2.1 ≠ (T b).2.1) (hown : s.vm.findClass own = some m.cls) (hK : va_K x.1 vwCl (tysx x) s) (hJ : Inj x) (hP : va_P x.1 vwCl (wld x M) H) (hS : va_S (A0 x) H0 H locs) (hj : j < 154) {fs : List Value} (he : lay x j (M j) = .inr (ci, fs)) (hc : vwCl[ci]? = some (C, T, N)) (k : Nat) (hk : k < N) (hlink : Cond.fieldLink own index ref (T k).2.1 (T k).2.2.1 ∈ tb) (href : ref = (T k).1) (hfin : (T k).2.2.2 = false) {v : Int32} (hd : parseFieldDescriptor (T k).2.2.1 = some .int) (hl : k < fs.length) (hset : .inr (ci, fs.set k (.int v)) = lay x j (upd (M j) k v)) (hM : M1 = st M j k v) (hdg : decode cc pc = .ok (.putfield index, 3))
    (kk : ∀ (H1 : Heap) (locs1 : List Loc), va_P x.1 vwCl (wld x M1) H1 → va_S (A0 x) H0 H1 locs1 → W p l e R s m args below meth c H1 locs1 cells slots Q (F0 m (pc + 3) ls rest)) : W p l e R s m args below meth c H locs cells slots Q (F0 m pc ls (.int v :: .ref (x.2.1 j) :: rest)) :=
  va_put (D := x.1) hexec hb hts.1 hin ty0 hty hnm hown hK hP (wld_D hJ) hS j (wld_at hj he) hc k hk (hts.1 _ hlink) (fun z h => by rw [href]; exact h) hfin hd (vp_nar_int v) rfl hl hdg (fun H1 locs1 h1 _ h3 => kk H1 locs1 (m_back hj hset hM h1) h3)
theorem m_putN (hexec : p.tables.exec = Jvm.exec) (hb : c.code = cc) {own ref C host : String} {T : u_T} {N ci index : Nat} (hts : Tb args s) (hin : ∀ w ∈ u_ws C T N, w ∈ tb) (ty0 : Nat → FieldType) (hty : ∀ k, k < N → parseFieldDescriptor (T k).2.2.1 = some (ty0 k)) (hnm : ∀ a, a < N → ∀ b, b < N → a ≠ b → (T a).2.1 ≠ (T b).2.1) (hown : s.vm.findClass own = some m.cls) (hK : va_K x.1 vwCl (tysx x) s) (hJ : Inj x) (hP : va_P x.1 vwCl (wld x M) H) (hS : va_S (A0 x) H0 H locs) (hj : j < 154) {fs : List Value} (he : lay x j (M j) = .inr (ci, fs)) (hc : vwCl[ci]? = some (C, T, N)) (k : Nat) (hk : k < N) (hlink : Cond.fieldLinkNest own index ref (T k).2.1 (T k).2.2.1 host ∈ nb) (href : ref = (T k).1) (hfin : (T k).2.2.2 = false) {v : Int32} (hd : parseFieldDescriptor (T k).2.2.1 = some .int) (hl : k < fs.length) (hset : .inr (ci, fs.set k (.int v)) = lay x j (upd (M j) k v)) (hM : M1 = st M j k v) (hdg : decode cc pc = .ok (.putfield index, 3))
    (kk : ∀ (H1 : Heap) (locs1 : List Loc), va_P x.1 vwCl (wld x M1) H1 → va_S (A0 x) H0 H1 locs1 → W p l e R s m args below meth c H1 locs1 cells slots Q (F0 m (pc + 3) ls rest)) : W p l e R s m args below meth c H locs cells slots Q (F0 m pc ls (.int v :: .ref (x.2.1 j) :: rest)) :=
  va_putN (D := x.1) hexec hb hts.1 hin ty0 hty hnm hown hK hP (wld_D hJ) hS j (wld_at hj he) hc k hk ((hts.2 _ hlink).use rfl) (fun z h => by rw [href]; exact h) hfin hd (vp_nar_int v) rfl hl hdg (fun H1 locs1 h1 _ h3 => kk H1 locs1 (m_back hj hset hM h1) h3)
theorem m_ald (hexec : p.tables.exec = Jvm.exec) (hb : c.code = cc) (hK : va_K x.1 vwCl (tysx x) s) (hP : va_P x.1 vwCl (wld x M) H) {n : Nat} (ha : AR x j n) {i : Int32} (hin : vp_in i n) (hdg : decode cc pc = .ok (.iaload, 1))
    (kk : W p l e R s m args below meth c H locs cells slots Q (F0 m (pc + 1) ls (.int (M j i.toNatClampNeg) :: rest))) : W p l e R s m args below meth c H locs cells slots Q (F0 m pc ls (.int i :: .ref (x.2.1 j) :: rest)) :=
  va_iald (D := x.1) hexec hb hK hP j 0 (wld_at ha.1 (ha.2 _)) rfl hin hdg kk
theorem m_ast (hexec : p.tables.exec = Jvm.exec) (hb : c.code = cc) (hK : va_K x.1 vwCl (tysx x) s) (hJ : Inj x) (hP : va_P x.1 vwCl (wld x M) H) (hS : va_S (A0 x) H0 H locs) {n : Nat} (ha : AR x j n) {i v : Int32} (hin : vp_in i n) (hM : M1 = st M j i.toNatClampNeg v) (hdg : decode cc pc = .ok (.iastore, 1))
    (kk : ∀ (H1 : Heap) (locs1 : List Loc), va_P x.1 vwCl (wld x M1) H1 → va_S (A0 x) H0 H1 locs1 → W p l e R s m args below meth c H1 locs1 cells slots Q (F0 m (pc + 1) ls rest)) : W p l e R s m args below meth c H locs cells slots Q (F0 m pc ls (.int v :: .int i :: .ref (x.2.1 j) :: rest)) :=
  va_iast (D := x.1) hexec hb hK hP (wld_D hJ) hS j 0 (wld_at ha.1 (ha.2 _)) rfl hin hdg (fun H1 locs1 h1 _ h3 => kk H1 locs1 (m_back ha.1 (ha.2 _).symm hM h1) h3)
theorem m_alen (hexec : p.tables.exec = Jvm.exec) (hb : c.code = cc) (hK : va_K x.1 vwCl (tysx x) s) (hP : va_P x.1 vwCl (wld x M) H) {n : Nat} (ha : AR x j n) {v : Int32} (hv : Int32.ofNat n = v) (hdg : decode cc pc = .ok (.arraylength, 1))
    (kk : W p l e R s m args below meth c H locs cells slots Q (F0 m (pc + 1) ls (.int v :: rest))) : W p l e R s m args below meth c H locs cells slots Q (F0 m pc ls (.ref (x.2.1 j) :: rest)) :=
  va_alen (D := x.1) hexec hb hK hP j 0 (wld_at ha.1 (ha.2 _)) (ty := .int) rfl hv hdg kk
theorem m_aaE (hexec : p.tables.exec = Jvm.exec) (hb : c.code = cc) (hK : va_K x.1 vwCl (tysx x) s) (hP : va_P x.1 vwCl (wld x M) H) {i : Int32} (hin : vp_in i 16) (hdg : decode cc pc = .ok (.aaload, 1))
    (kk : W p l e R s m args below meth c H locs cells slots Q (F0 m (pc + 1) ls (.ref (x.2.1 (122 + i.toNatClampNeg)) :: rest))) : W p l e R s m args below meth c H locs cells slots Q (F0 m pc ls (.int i :: .ref (x.2.1 6) :: rest)) :=
  va_aldq (D := x.1) (C := "EdgeCampaign$Entry") hexec hb hK hP 6 1 (wld_at (by decide) rfl) rfl hin hdg kk
theorem m_aaF (hexec : p.tables.exec = Jvm.exec) (hb : c.code = cc) (hK : va_K x.1 vwCl (tysx x) s) (hP : va_P x.1 vwCl (wld x M) H) {i : Int32} (hin : vp_in i 8) (hdg : decode cc pc = .ok (.aaload, 1))
    (kk : W p l e R s m args below meth c H locs cells slots Q (F0 m (pc + 1) ls (.ref (x.2.1 (138 + 2 * i.toNatClampNeg)) :: rest))) : W p l e R s m args below meth c H locs cells slots Q (F0 m pc ls (.int i :: .ref (x.2.1 10) :: rest)) :=
  va_aldq (D := x.1) (C := "EdgeCampaign$Finding") hexec hb hK hP 10 2 (wld_at (by decide) rfl) rfl hin hdg kk
theorem m_pre {av : List Value} (hts : Tb args s) (hK : va_K x.1 vwCl (tysx x) s) (hZ : Stc x s s.heap) (hP : va_P x.1 vwCl (wld x M) H) (hS : va_S (A0 x) s.heap H locs) : ∀ U : State, U.heap = H → s.WarmedH U.vm → va_Pc av (Ok x M) av.toArray U := fun U hU hW => ⟨rfl, by rw [hU]; exact hP, va_K.moved hW.alike hK, by rw [hU]; exact (Stc.moved hW.alike hZ).kept hS.2.1, hts.2.moved hW⟩
variable {st0 : List Value} {a : Array Value}
theorem m_ci {out : Int32 × Mem} (hr : va_Run p l e R s m args below meth c H locs cells slots 0 0 (F0 m pc ls st0) rest (va_Qi (fun r u => (r, u) = out) (fun u t => va_P x.1 vwCl (wld x u) t.heap) (A0 x) a) (A0 x)) (hS : va_S (A0 x) H0 H locs)
    (kk : ∀ (H1 : Heap) (locs1 : List Loc), va_P x.1 vwCl (wld x out.2) H1 → va_S (A0 x) H0 H1 locs1 → W p l e R s m args below meth c H1 locs1 cells slots Q (F0 m (pc + 3) ls (.int out.1 :: rest))) : W p l e R s m args below meth c H locs cells slots Q (F0 m pc ls st0) :=
  va_calli hr hS (fun _ _ h => h) (fun _ h => h) (fun r u t H1 locs1 ht _ hp hB _ _ hS1 => by subst hp; rw [ht] at hB; exact kk H1 locs1 hB hS1)
theorem m_cv {out : Mem} (hr : va_Run p l e R s m args below meth c H locs cells slots 0 0 (F0 m pc ls st0) rest (va_Qv (fun u => u = out) (fun u t => va_P x.1 vwCl (wld x u) t.heap) (A0 x) a) (A0 x)) (hS : va_S (A0 x) H0 H locs)
    (kk : ∀ (H1 : Heap) (locs1 : List Loc), va_P x.1 vwCl (wld x out) H1 → va_S (A0 x) H0 H1 locs1 → W p l e R s m args below meth c H1 locs1 cells slots Q (F0 m (pc + 3) ls rest)) : W p l e R s m args below meth c H locs cells slots Q (F0 m pc ls st0) :=
  va_callv hr hS (fun _ _ h => h) (fun _ h => h) (fun u t H1 locs1 ht _ hp hB _ _ hS1 => by subst hp; rw [ht] at hB; exact kk H1 locs1 hB hS1)
theorem m_cq {out : Option Nat × Mem} (hr : va_Run p l e R s m args below meth c H locs cells slots 0 0 (F0 m pc ls st0) rest (va_Qq (fun r u => r = out.1.map x.2.1 ∧ u = out.2) (fun u t => va_P x.1 vwCl (wld x u) t.heap) (A0 x) a) (A0 x)) (hS : va_S (A0 x) H0 H locs)
    (kk : ∀ (H1 : Heap) (locs1 : List Loc), va_P x.1 vwCl (wld x out.2) H1 → va_S (A0 x) H0 H1 locs1 → W p l e R s m args below meth c H1 locs1 cells slots Q (F0 m (pc + 3) ls (va_rf (out.1.map x.2.1) :: rest))) : W p l e R s m args below meth c H locs cells slots Q (F0 m pc ls st0) :=
  va_callq hr hS (fun _ _ h => h) (fun _ h => h) (fun r u t H1 locs1 ht _ hp hB _ _ hS1 => by obtain ⟨h1, h2⟩ := hp; subst h1; subst h2; rw [ht] at hB; exact kk H1 locs1 hB hS1)
end ROWS
