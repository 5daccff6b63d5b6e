def M0 (r : Int32) : Mem := st (st (st (fun _ _ => 0) 12 0 (if r = 0 then 1 else r)) 13 0 (-1)) 26 6 (if r = 0 then 1 else r)
theorem rep_P {D : va_G} {ws : va_W} {H : Heap} {q : Nat × va_E} (h : va_P D vwCl ws H) (p : Nat) (hq : va_at D vwCl q H) : va_P D vwCl (ws.set p q) H := by
  intro k z hk
  by_cases e : k = p
  · subst e
    by_cases hl : k < ws.length
    · rw [List.getElem?_set_self hl] at hk; cases hk; exact hq
    · rw [List.getElem?_eq_none (by rw [List.length_set]; omega)] at hk; cases hk
  · rw [List.getElem?_set_ne (Ne.symm e)] at hk; exact h k z hk
theorem rep_q {D : va_G} {H : Heap} {a n : Nat} {cA : ClassId} {f g : Nat → Option Nat} (h : va_at D vwCl (a, .inl (cA, n, .inr (.inr (.inr (.inr f))))) H) (e : ∀ k, k < n → f k = g k) : va_at D vwCl (a, .inl (cA, n, .inr (.inr (.inr (.inr g))))) H := by
  have h1 : H[a]? = some (vp_cell cA (n, .inr (.inr (.inr (.inr f))))) := h
  show H[a]? = some (vp_cell cA (n, .inr (.inr (.inr (.inr g)))))
  rw [h1, vp_cell_q, vp_cell_q]
  unfold arrV
  congr 3
  funext j
  show va_rf (f j.val) = va_rf (g j.val)
  rw [e j.val j.isLt]
def gI : List Nat := [0, 1, 2, 3, 4, 52, 53, 54, 55, 14, 15, 16, 17, 18, 19, 5, 6, 7, 8, 122, 58, 59, 123, 60, 61, 124, 62, 63, 125, 64, 65, 126, 66, 67, 127, 68, 69, 128, 70, 71, 129, 72, 73, 130, 74, 75, 131, 76, 77, 132, 78, 79, 133, 80, 81, 134, 82, 83, 135, 84, 85, 136, 86, 87, 137, 88, 89, 9, 10, 138, 90, 91, 92, 93, 139, 140, 94, 95, 96, 97, 141, 142, 98, 99, 100, 101, 143, 144, 102, 103, 104, 105, 145, 146, 106, 107, 108, 109, 147, 148, 110, 111, 112, 113, 149, 150, 114, 115, 116, 117, 151, 152, 118, 119, 120, 121, 153, 11, 20, 21, 22, 23, 24, 25, 56, 57, 12, 13, 26, 27, 28, 29, 30, 31, 32, 33, 34, 35, 36, 37, 38, 39, 40, 41, 42, 43, 44, 45, 46, 47, 48, 49, 50, 51]
def gG : List Nat := [0, 1, 2, 3, 4, 15, 16, 17, 18, 67, 68, 117, 126, 127, 9, 10, 11, 12, 13, 14, 118, 119, 120, 121, 122, 123, 128, 129, 130, 131, 132, 133, 134, 135, 136, 137, 138, 139, 140, 141, 142, 143, 144, 145, 146, 147, 148, 149, 150, 151, 152, 153, 5, 6, 7, 8, 124, 125, 20, 21, 23, 24, 26, 27, 29, 30, 32, 33, 35, 36, 38, 39, 41, 42, 44, 45, 47, 48, 50, 51, 53, 54, 56, 57, 59, 60, 62, 63, 65, 66, 70, 71, 72, 73, 76, 77, 78, 79, 82, 83, 84, 85, 88, 89, 90, 91, 94, 95, 96, 97, 100, 101, 102, 103, 106, 107, 108, 109, 112, 113, 114, 115, 19, 22, 25, 28, 31, 34, 37, 40, 43, 46, 49, 52, 55, 58, 61, 64, 69, 74, 75, 80, 81, 86, 87, 92, 93, 98, 99, 104, 105, 110, 111, 116]
theorem gI_at : ∀ j, j < 154 → gI[gG.getD j 0]? = some j := by decide +kernel
set_option maxHeartbeats 8000000 in
set_option maxRecDepth 200000 in
theorem to_wld {D : va_G} {ids : ClassId × ClassId × ClassId} {r : Int32} {q1 q2 : Nat} {w1 w2 : va_W} {A : Nat → Prop} {H : Heap} (h1 : pw_EC r ids q1 w1) (h2 : pw_MO r ids q2 w2) (hP : va_P D vwCl (([] ++ w1) ++ w2) H) (hD : va_D A (([] ++ w1) ++ w2)) : ∃ ad : Nat → Nat, ad 0 = q1 ∧ ad 26 = q2 ∧ ∀ tt : Nat × Nat, Inj (D, ad, ids, tt) ∧ (∀ j, j < 154 → A (ad j)) ∧ va_P D vwCl (wld (D, ad, ids, tt) (M0 r)) H := by
  obtain ⟨p0, wP, d0, wD, c0, wC, r0, wR, s0, wS, f0, wF, h1, wH, g0, wG, t0, wT, hPR, hD1, hC1, hRU, hST, hFS, hSH, hGE, hTR, e1⟩ := h1
  obtain ⟨p1, p2, p3, rfl⟩ := hPR
  obtain ⟨d1, rfl⟩ := hD1
  obtain ⟨c1, rfl⟩ := hC1
  obtain ⟨r1, r2, r3, r4, r5, rfl⟩ := hRU
  obtain ⟨s1, s2, s3, fE, TE, ⟨uE, vE, hE, eE⟩, rfl⟩ := hST
  obtain ⟨f1, fF, TF, ⟨uF, vF, hF, eF⟩, rfl⟩ := hFS
  obtain ⟨x0, wX, y0, wY, ⟨x1, x2, x3, x4, x5, rfl⟩, ⟨y1, rfl⟩, rfl⟩ := hSH
  unfold pw_GE at hGE
  unfold pw_TR at hTR
  subst hGE
  subst hTR
  obtain ⟨m1, m2, m3, m4, m5, m6, m7, m8, m9, m10, m11, m12, m13, m14, m15, m16, m17, m18, m19, m20, m21, m22, m23, m24, m25, rfl⟩ := h2
  subst e1
  have hE2 : ∀ k : Nat, ∃ ab : Nat × Nat, k < 16 → vE k = [(uE k, .inr (0, [.ref ab.1, .int 0, .int 0, .int 0])), (ab.1, .inr (4, [.ref ab.2, .int 0])), (ab.2, .inl (ids.1, 6, .inl (fun _ => 0)))] := fun k => by
    by_cases hk : k < 16
    · obtain ⟨-, q5, w9, ⟨q7, rfl⟩, e⟩ := hE k hk
      exact ⟨(q5, q7), fun _ => e⟩
    · exact ⟨(0, 0), fun h => absurd h hk⟩
  obtain ⟨aE, hE2⟩ := Classical.axiomOfChoice hE2
  have hF2 : ∀ k : Nat, ∃ ab : Nat × Nat × Nat × Nat × Nat, k < 8 → vF k = [(uF k, .inr (1, [.ref ab.1, .ref ab.2.2.1, .ref ab.2.2.2.2, .int 0, .int 0, .int 0, .int 0])), (ab.1, .inr (4, [.ref ab.2.1, .int 0])), (ab.2.1, .inl (ids.1, 6, .inl (fun _ => 0))), (ab.2.2.1, .inr (4, [.ref ab.2.2.2.1, .int 0])), (ab.2.2.2.1, .inl (ids.1, 6, .inl (fun _ => 0))), (ab.2.2.2.2, .inl (ids.1, 3, .inl (fun _ => 0)))] := fun k => by
    by_cases hk : k < 8
    · obtain ⟨-, q5, w9, q16, w20, q28, ⟨q7, rfl⟩, ⟨q8, rfl⟩, e⟩ := hF k hk
      exact ⟨(q5, q7, q16, q8, q28), fun _ => e⟩
    · exact ⟨(0, 0, 0, 0, 0), fun h => absurd h hk⟩
  obtain ⟨aF, hF2⟩ := Classical.axiomOfChoice hF2
  have eE2 : TE = (List.range 16).flatMap (fun k => ([(uE k, .inr (0, [.ref (aE k).1, .int 0, .int 0, .int 0])), ((aE k).1, .inr (4, [.ref (aE k).2, .int 0])), ((aE k).2, .inl (ids.1, 6, .inl (fun _ => 0)))] : va_W)) := by
    rw [eE]; unfold List.flatMap; rw [List.map_congr_left (fun k hk => hE2 k (List.mem_range.mp hk))]
  have eF2 : TF = (List.range 8).flatMap (fun k => ([(uF k, .inr (1, [.ref (aF k).1, .ref (aF k).2.2.1, .ref (aF k).2.2.2.2, .int 0, .int 0, .int 0, .int 0])), ((aF k).1, .inr (4, [.ref (aF k).2.1, .int 0])), ((aF k).2.1, .inl (ids.1, 6, .inl (fun _ => 0))), ((aF k).2.2.1, .inr (4, [.ref (aF k).2.2.2.1, .int 0])), ((aF k).2.2.2.1, .inl (ids.1, 6, .inl (fun _ => 0))), ((aF k).2.2.2.2, .inl (ids.1, 3, .inl (fun _ => 0)))] : va_W)) := by
    rw [eF]; unfold List.flatMap; rw [List.map_congr_left (fun k hk => hF2 k (List.mem_range.mp hk))]
  clear eE eF
  subst eE2
  subst eF2
  have e16 : List.range 16 = [0, 1, 2, 3, 4, 5, 6, 7, 8, 9, 10, 11, 12, 13, 14, 15] := by decide
  have e8 : List.range 8 = [0, 1, 2, 3, 4, 5, 6, 7] := by decide
  simp only [e16, e8, List.flatMap_cons, List.flatMap_nil, List.nil_append, List.cons_append, List.append_assoc, List.append_nil] at hP hD
  have gE : ∀ k, k < 16 → fE k = some (uE k) := fun k hk => (hE k hk).1
  have gF : ∀ k, k < 8 → fF k = some (uF k) := fun k hk => (hF k hk).1
  clear hE hF hE2 hF2
  obtain ⟨ad, hd⟩ : ∃ ad : Nat → Nat, ∀ j, ad j = ([q1, p0, p1, p2, p3, s0, s1, s2, s3, f0, f1, h1, g0, t0, r0, r1, r2, r3, r4, r5, x0, x1, x2, x3, x4, x5, q2, m1, m2, m3, m4, m5, m6, m7, m8, m9, m10, m11, m12, m13, m14, m15, m16, m17, m18, m19, m20, m21, m22, m23, m24, m25, d0, d1, c0, c1, y0, y1, (aE 0).1, (aE 0).2, (aE 1).1, (aE 1).2, (aE 2).1, (aE 2).2, (aE 3).1, (aE 3).2, (aE 4).1, (aE 4).2, (aE 5).1, (aE 5).2, (aE 6).1, (aE 6).2, (aE 7).1, (aE 7).2, (aE 8).1, (aE 8).2, (aE 9).1, (aE 9).2, (aE 10).1, (aE 10).2, (aE 11).1, (aE 11).2, (aE 12).1, (aE 12).2, (aE 13).1, (aE 13).2, (aE 14).1, (aE 14).2, (aE 15).1, (aE 15).2, (aF 0).1, (aF 0).2.1, (aF 0).2.2.1, (aF 0).2.2.2.1, (aF 1).1, (aF 1).2.1, (aF 1).2.2.1, (aF 1).2.2.2.1, (aF 2).1, (aF 2).2.1, (aF 2).2.2.1, (aF 2).2.2.2.1, (aF 3).1, (aF 3).2.1, (aF 3).2.2.1, (aF 3).2.2.2.1, (aF 4).1, (aF 4).2.1, (aF 4).2.2.1, (aF 4).2.2.2.1, (aF 5).1, (aF 5).2.1, (aF 5).2.2.1, (aF 5).2.2.2.1, (aF 6).1, (aF 6).2.1, (aF 6).2.2.1, (aF 6).2.2.2.1, (aF 7).1, (aF 7).2.1, (aF 7).2.2.1, (aF 7).2.2.2.1, uE 0, uE 1, uE 2, uE 3, uE 4, uE 5, uE 6, uE 7, uE 8, uE 9, uE 10, uE 11, uE 12, uE 13, uE 14, uE 15, uF 0, (aF 0).2.2.2.2, uF 1, (aF 1).2.2.2.2, uF 2, (aF 2).2.2.2.2, uF 3, (aF 3).2.2.2.2, uF 4, (aF 4).2.2.2.2, uF 5, (aF 5).2.2.2.2, uF 6, (aF 6).2.2.2.2, uF 7, (aF 7).2.2.2.2] : List Nat).getD j 0 := ⟨fun j => _, fun j => rfl⟩
  have z0 : q1 = ad 0 := (hd 0).symm
  have z1 : p0 = ad 1 := (hd 1).symm
  have z2 : p1 = ad 2 := (hd 2).symm
  have z3 : p2 = ad 3 := (hd 3).symm
  have z4 : p3 = ad 4 := (hd 4).symm
  have z5 : s0 = ad 5 := (hd 5).symm
  have z6 : s1 = ad 6 := (hd 6).symm
  have z7 : s2 = ad 7 := (hd 7).symm
  have z8 : s3 = ad 8 := (hd 8).symm
  have z9 : f0 = ad 9 := (hd 9).symm
  have z10 : f1 = ad 10 := (hd 10).symm
  have z11 : h1 = ad 11 := (hd 11).symm
  have z12 : g0 = ad 12 := (hd 12).symm
  have z13 : t0 = ad 13 := (hd 13).symm
  have z14 : r0 = ad 14 := (hd 14).symm
  have z15 : r1 = ad 15 := (hd 15).symm
  have z16 : r2 = ad 16 := (hd 16).symm
  have z17 : r3 = ad 17 := (hd 17).symm
  have z18 : r4 = ad 18 := (hd 18).symm
  have z19 : r5 = ad 19 := (hd 19).symm
  have z20 : x0 = ad 20 := (hd 20).symm
  have z21 : x1 = ad 21 := (hd 21).symm
  have z22 : x2 = ad 22 := (hd 22).symm
  have z23 : x3 = ad 23 := (hd 23).symm
  have z24 : x4 = ad 24 := (hd 24).symm
  have z25 : x5 = ad 25 := (hd 25).symm
  have z26 : q2 = ad 26 := (hd 26).symm
  have z27 : m1 = ad 27 := (hd 27).symm
  have z28 : m2 = ad 28 := (hd 28).symm
  have z29 : m3 = ad 29 := (hd 29).symm
  have z30 : m4 = ad 30 := (hd 30).symm
  have z31 : m5 = ad 31 := (hd 31).symm
  have z32 : m6 = ad 32 := (hd 32).symm
  have z33 : m7 = ad 33 := (hd 33).symm
  have z34 : m8 = ad 34 := (hd 34).symm
  have z35 : m9 = ad 35 := (hd 35).symm
  have z36 : m10 = ad 36 := (hd 36).symm
  have z37 : m11 = ad 37 := (hd 37).symm
  have z38 : m12 = ad 38 := (hd 38).symm
  have z39 : m13 = ad 39 := (hd 39).symm
  have z40 : m14 = ad 40 := (hd 40).symm
  have z41 : m15 = ad 41 := (hd 41).symm
  have z42 : m16 = ad 42 := (hd 42).symm
  have z43 : m17 = ad 43 := (hd 43).symm
  have z44 : m18 = ad 44 := (hd 44).symm
  have z45 : m19 = ad 45 := (hd 45).symm
  have z46 : m20 = ad 46 := (hd 46).symm
  have z47 : m21 = ad 47 := (hd 47).symm
  have z48 : m22 = ad 48 := (hd 48).symm
  have z49 : m23 = ad 49 := (hd 49).symm
  have z50 : m24 = ad 50 := (hd 50).symm
  have z51 : m25 = ad 51 := (hd 51).symm
  have z52 : d0 = ad 52 := (hd 52).symm
  have z53 : d1 = ad 53 := (hd 53).symm
  have z54 : c0 = ad 54 := (hd 54).symm
  have z55 : c1 = ad 55 := (hd 55).symm
  have z56 : y0 = ad 56 := (hd 56).symm
  have z57 : y1 = ad 57 := (hd 57).symm
  have z58 : (aE 0).1 = ad 58 := (hd 58).symm
  have z59 : (aE 0).2 = ad 59 := (hd 59).symm
  have z60 : (aE 1).1 = ad 60 := (hd 60).symm
  have z61 : (aE 1).2 = ad 61 := (hd 61).symm
  have z62 : (aE 2).1 = ad 62 := (hd 62).symm
  have z63 : (aE 2).2 = ad 63 := (hd 63).symm
  have z64 : (aE 3).1 = ad 64 := (hd 64).symm
  have z65 : (aE 3).2 = ad 65 := (hd 65).symm
  have z66 : (aE 4).1 = ad 66 := (hd 66).symm
  have z67 : (aE 4).2 = ad 67 := (hd 67).symm
  have z68 : (aE 5).1 = ad 68 := (hd 68).symm
  have z69 : (aE 5).2 = ad 69 := (hd 69).symm
  have z70 : (aE 6).1 = ad 70 := (hd 70).symm
  have z71 : (aE 6).2 = ad 71 := (hd 71).symm
  have z72 : (aE 7).1 = ad 72 := (hd 72).symm
  have z73 : (aE 7).2 = ad 73 := (hd 73).symm
  have z74 : (aE 8).1 = ad 74 := (hd 74).symm
  have z75 : (aE 8).2 = ad 75 := (hd 75).symm
  have z76 : (aE 9).1 = ad 76 := (hd 76).symm
  have z77 : (aE 9).2 = ad 77 := (hd 77).symm
  have z78 : (aE 10).1 = ad 78 := (hd 78).symm
  have z79 : (aE 10).2 = ad 79 := (hd 79).symm
  have z80 : (aE 11).1 = ad 80 := (hd 80).symm
  have z81 : (aE 11).2 = ad 81 := (hd 81).symm
  have z82 : (aE 12).1 = ad 82 := (hd 82).symm
  have z83 : (aE 12).2 = ad 83 := (hd 83).symm
  have z84 : (aE 13).1 = ad 84 := (hd 84).symm
  have z85 : (aE 13).2 = ad 85 := (hd 85).symm
  have z86 : (aE 14).1 = ad 86 := (hd 86).symm
  have z87 : (aE 14).2 = ad 87 := (hd 87).symm
  have z88 : (aE 15).1 = ad 88 := (hd 88).symm
  have z89 : (aE 15).2 = ad 89 := (hd 89).symm
  have z90 : (aF 0).1 = ad 90 := (hd 90).symm
  have z91 : (aF 0).2.1 = ad 91 := (hd 91).symm
  have z92 : (aF 0).2.2.1 = ad 92 := (hd 92).symm
  have z93 : (aF 0).2.2.2.1 = ad 93 := (hd 93).symm
  have z94 : (aF 1).1 = ad 94 := (hd 94).symm
  have z95 : (aF 1).2.1 = ad 95 := (hd 95).symm
  have z96 : (aF 1).2.2.1 = ad 96 := (hd 96).symm
  have z97 : (aF 1).2.2.2.1 = ad 97 := (hd 97).symm
  have z98 : (aF 2).1 = ad 98 := (hd 98).symm
  have z99 : (aF 2).2.1 = ad 99 := (hd 99).symm
  have z100 : (aF 2).2.2.1 = ad 100 := (hd 100).symm
  have z101 : (aF 2).2.2.2.1 = ad 101 := (hd 101).symm
  have z102 : (aF 3).1 = ad 102 := (hd 102).symm
  have z103 : (aF 3).2.1 = ad 103 := (hd 103).symm
  have z104 : (aF 3).2.2.1 = ad 104 := (hd 104).symm
  have z105 : (aF 3).2.2.2.1 = ad 105 := (hd 105).symm
  have z106 : (aF 4).1 = ad 106 := (hd 106).symm
  have z107 : (aF 4).2.1 = ad 107 := (hd 107).symm
  have z108 : (aF 4).2.2.1 = ad 108 := (hd 108).symm
  have z109 : (aF 4).2.2.2.1 = ad 109 := (hd 109).symm
  have z110 : (aF 5).1 = ad 110 := (hd 110).symm
  have z111 : (aF 5).2.1 = ad 111 := (hd 111).symm
  have z112 : (aF 5).2.2.1 = ad 112 := (hd 112).symm
  have z113 : (aF 5).2.2.2.1 = ad 113 := (hd 113).symm
  have z114 : (aF 6).1 = ad 114 := (hd 114).symm
  have z115 : (aF 6).2.1 = ad 115 := (hd 115).symm
  have z116 : (aF 6).2.2.1 = ad 116 := (hd 116).symm
  have z117 : (aF 6).2.2.2.1 = ad 117 := (hd 117).symm
  have z118 : (aF 7).1 = ad 118 := (hd 118).symm
  have z119 : (aF 7).2.1 = ad 119 := (hd 119).symm
  have z120 : (aF 7).2.2.1 = ad 120 := (hd 120).symm
  have z121 : (aF 7).2.2.2.1 = ad 121 := (hd 121).symm
  have z122 : uE 0 = ad 122 := (hd 122).symm
  have z123 : uE 1 = ad 123 := (hd 123).symm
  have z124 : uE 2 = ad 124 := (hd 124).symm
  have z125 : uE 3 = ad 125 := (hd 125).symm
  have z126 : uE 4 = ad 126 := (hd 126).symm
  have z127 : uE 5 = ad 127 := (hd 127).symm
  have z128 : uE 6 = ad 128 := (hd 128).symm
  have z129 : uE 7 = ad 129 := (hd 129).symm
  have z130 : uE 8 = ad 130 := (hd 130).symm
  have z131 : uE 9 = ad 131 := (hd 131).symm
  have z132 : uE 10 = ad 132 := (hd 132).symm
  have z133 : uE 11 = ad 133 := (hd 133).symm
  have z134 : uE 12 = ad 134 := (hd 134).symm
  have z135 : uE 13 = ad 135 := (hd 135).symm
  have z136 : uE 14 = ad 136 := (hd 136).symm
  have z137 : uE 15 = ad 137 := (hd 137).symm
  have z138 : uF 0 = ad 138 := (hd 138).symm
  have z139 : (aF 0).2.2.2.2 = ad 139 := (hd 139).symm
  have z140 : uF 1 = ad 140 := (hd 140).symm
  have z141 : (aF 1).2.2.2.2 = ad 141 := (hd 141).symm
  have z142 : uF 2 = ad 142 := (hd 142).symm
  have z143 : (aF 2).2.2.2.2 = ad 143 := (hd 143).symm
  have z144 : uF 3 = ad 144 := (hd 144).symm
  have z145 : (aF 3).2.2.2.2 = ad 145 := (hd 145).symm
  have z146 : uF 4 = ad 146 := (hd 146).symm
  have z147 : (aF 4).2.2.2.2 = ad 147 := (hd 147).symm
  have z148 : uF 5 = ad 148 := (hd 148).symm
  have z149 : (aF 5).2.2.2.2 = ad 149 := (hd 149).symm
  have z150 : uF 6 = ad 150 := (hd 150).symm
  have z151 : (aF 6).2.2.2.2 = ad 151 := (hd 151).symm
  have z152 : uF 7 = ad 152 := (hd 152).symm
  have z153 : (aF 7).2.2.2.2 = ad 153 := (hd 153).symm
  clear hd
  simp only [z0, z1, z2, z3, z4, z5, z6, z7, z8, z9, z10, z11, z12, z13, z14, z15, z16, z17, z18, z19, z20, z21, z22, z23, z24, z25, z26, z27, z28, z29, z30, z31, z32, z33, z34, z35, z36, z37, z38, z39, z40, z41, z42, z43, z44, z45, z46, z47, z48, z49, z50, z51, z52, z53, z54, z55, z56, z57, z58, z59, z60, z61, z62, z63, z64, z65, z66, z67, z68, z69, z70, z71, z72, z73, z74, z75, z76, z77, z78, z79, z80, z81, z82, z83, z84, z85, z86, z87, z88, z89, z90, z91, z92, z93, z94, z95, z96, z97, z98, z99, z100, z101, z102, z103, z104, z105, z106, z107, z108, z109, z110, z111, z112, z113, z114, z115, z116, z117, z118, z119, z120, z121, z122, z123, z124, z125, z126, z127, z128, z129, z130, z131, z132, z133, z134, z135, z136, z137, z138, z139, z140, z141, z142, z143, z144, z145, z146, z147, z148, z149, z150, z151, z152, z153] at hP hD gE gF
  obtain ⟨ws, ews⟩ : ∃ z : va_W, z = [((ad 0), .inr (10, [.ref (ad 1), .ref (ad 52), .ref (ad 54), .ref (ad 14), .ref (ad 5), .ref (ad 9), .ref (ad 11), .ref (ad 12), .ref (ad 13), .int 0, .int 0, .int 0])), ((ad 1), .inr (5, [.ref (ad 2), .ref (ad 3), .ref (ad 4), .int 0])), ((ad 2), .inl (ids.1, 24, .inl (fun _ => 0))), ((ad 3), .inl (ids.1, 24, .inl (fun _ => 0))), ((ad 4), .inl (ids.1, 24, .inl (fun _ => 0))), ((ad 52), .inr (4, [.ref (ad 53), .int 0])), ((ad 53), .inl (ids.1, 6, .inl (fun _ => 0))), ((ad 54), .inr (4, [.ref (ad 55), .int 0])), ((ad 55), .inl (ids.1, 6, .inl (fun _ => 0))), ((ad 14), .inr (6, [.ref (ad 15), .ref (ad 16), .ref (ad 17), .ref (ad 18), .ref (ad 19), .int 0, .int 0, .int 0, .int 0, .int 0, .int 0])), ((ad 15), .inl (ids.1, 4, .inl (fun _ => 0))), ((ad 16), .inl (ids.1, 4, .inl (fun _ => 0))), ((ad 17), .inl (ids.1, 3, .inl (fun _ => 0))), ((ad 18), .inl (ids.1, 576, .inl (fun _ => 0))), ((ad 19), .inl (ids.1, 64, .inl (fun _ => 0))), ((ad 5), .inr (8, [.ref (ad 6), .ref (ad 7), .ref (ad 8), .int 0, .int 0, .int 0, .int 0])), ((ad 6), .inl (ids.2.1, 16, .inr (.inr (.inr (.inr fE))))), ((ad 7), .inl (ids.1, 576, .inl (fun _ => 0))), ((ad 8), .inl (ids.1, 576, .inl (fun _ => 0))), ((ad 122), .inr (0, [.ref (ad 58), .int 0, .int 0, .int 0])), ((ad 58), .inr (4, [.ref (ad 59), .int 0])), ((ad 59), .inl (ids.1, 6, .inl (fun _ => 0))), ((ad 123), .inr (0, [.ref (ad 60), .int 0, .int 0, .int 0])), ((ad 60), .inr (4, [.ref (ad 61), .int 0])), ((ad 61), .inl (ids.1, 6, .inl (fun _ => 0))), ((ad 124), .inr (0, [.ref (ad 62), .int 0, .int 0, .int 0])), ((ad 62), .inr (4, [.ref (ad 63), .int 0])), ((ad 63), .inl (ids.1, 6, .inl (fun _ => 0))), ((ad 125), .inr (0, [.ref (ad 64), .int 0, .int 0, .int 0])), ((ad 64), .inr (4, [.ref (ad 65), .int 0])), ((ad 65), .inl (ids.1, 6, .inl (fun _ => 0))), ((ad 126), .inr (0, [.ref (ad 66), .int 0, .int 0, .int 0])), ((ad 66), .inr (4, [.ref (ad 67), .int 0])), ((ad 67), .inl (ids.1, 6, .inl (fun _ => 0))), ((ad 127), .inr (0, [.ref (ad 68), .int 0, .int 0, .int 0])), ((ad 68), .inr (4, [.ref (ad 69), .int 0])), ((ad 69), .inl (ids.1, 6, .inl (fun _ => 0))), ((ad 128), .inr (0, [.ref (ad 70), .int 0, .int 0, .int 0])), ((ad 70), .inr (4, [.ref (ad 71), .int 0])), ((ad 71), .inl (ids.1, 6, .inl (fun _ => 0))), ((ad 129), .inr (0, [.ref (ad 72), .int 0, .int 0, .int 0])), ((ad 72), .inr (4, [.ref (ad 73), .int 0])), ((ad 73), .inl (ids.1, 6, .inl (fun _ => 0))), ((ad 130), .inr (0, [.ref (ad 74), .int 0, .int 0, .int 0])), ((ad 74), .inr (4, [.ref (ad 75), .int 0])), ((ad 75), .inl (ids.1, 6, .inl (fun _ => 0))), ((ad 131), .inr (0, [.ref (ad 76), .int 0, .int 0, .int 0])), ((ad 76), .inr (4, [.ref (ad 77), .int 0])), ((ad 77), .inl (ids.1, 6, .inl (fun _ => 0))), ((ad 132), .inr (0, [.ref (ad 78), .int 0, .int 0, .int 0])), ((ad 78), .inr (4, [.ref (ad 79), .int 0])), ((ad 79), .inl (ids.1, 6, .inl (fun _ => 0))), ((ad 133), .inr (0, [.ref (ad 80), .int 0, .int 0, .int 0])), ((ad 80), .inr (4, [.ref (ad 81), .int 0])), ((ad 81), .inl (ids.1, 6, .inl (fun _ => 0))), ((ad 134), .inr (0, [.ref (ad 82), .int 0, .int 0, .int 0])), ((ad 82), .inr (4, [.ref (ad 83), .int 0])), ((ad 83), .inl (ids.1, 6, .inl (fun _ => 0))), ((ad 135), .inr (0, [.ref (ad 84), .int 0, .int 0, .int 0])), ((ad 84), .inr (4, [.ref (ad 85), .int 0])), ((ad 85), .inl (ids.1, 6, .inl (fun _ => 0))), ((ad 136), .inr (0, [.ref (ad 86), .int 0, .int 0, .int 0])), ((ad 86), .inr (4, [.ref (ad 87), .int 0])), ((ad 87), .inl (ids.1, 6, .inl (fun _ => 0))), ((ad 137), .inr (0, [.ref (ad 88), .int 0, .int 0, .int 0])), ((ad 88), .inr (4, [.ref (ad 89), .int 0])), ((ad 89), .inl (ids.1, 6, .inl (fun _ => 0))), ((ad 9), .inr (2, [.ref (ad 10), .int 0])), ((ad 10), .inl (ids.2.2, 8, .inr (.inr (.inr (.inr fF))))), ((ad 138), .inr (1, [.ref (ad 90), .ref (ad 92), .ref (ad 139), .int 0, .int 0, .int 0, .int 0])), ((ad 90), .inr (4, [.ref (ad 91), .int 0])), ((ad 91), .inl (ids.1, 6, .inl (fun _ => 0))), ((ad 92), .inr (4, [.ref (ad 93), .int 0])), ((ad 93), .inl (ids.1, 6, .inl (fun _ => 0))), ((ad 139), .inl (ids.1, 3, .inl (fun _ => 0))), ((ad 140), .inr (1, [.ref (ad 94), .ref (ad 96), .ref (ad 141), .int 0, .int 0, .int 0, .int 0])), ((ad 94), .inr (4, [.ref (ad 95), .int 0])), ((ad 95), .inl (ids.1, 6, .inl (fun _ => 0))), ((ad 96), .inr (4, [.ref (ad 97), .int 0])), ((ad 97), .inl (ids.1, 6, .inl (fun _ => 0))), ((ad 141), .inl (ids.1, 3, .inl (fun _ => 0))), ((ad 142), .inr (1, [.ref (ad 98), .ref (ad 100), .ref (ad 143), .int 0, .int 0, .int 0, .int 0])), ((ad 98), .inr (4, [.ref (ad 99), .int 0])), ((ad 99), .inl (ids.1, 6, .inl (fun _ => 0))), ((ad 100), .inr (4, [.ref (ad 101), .int 0])), ((ad 101), .inl (ids.1, 6, .inl (fun _ => 0))), ((ad 143), .inl (ids.1, 3, .inl (fun _ => 0))), ((ad 144), .inr (1, [.ref (ad 102), .ref (ad 104), .ref (ad 145), .int 0, .int 0, .int 0, .int 0])), ((ad 102), .inr (4, [.ref (ad 103), .int 0])), ((ad 103), .inl (ids.1, 6, .inl (fun _ => 0))), ((ad 104), .inr (4, [.ref (ad 105), .int 0])), ((ad 105), .inl (ids.1, 6, .inl (fun _ => 0))), ((ad 145), .inl (ids.1, 3, .inl (fun _ => 0))), ((ad 146), .inr (1, [.ref (ad 106), .ref (ad 108), .ref (ad 147), .int 0, .int 0, .int 0, .int 0])), ((ad 106), .inr (4, [.ref (ad 107), .int 0])), ((ad 107), .inl (ids.1, 6, .inl (fun _ => 0))), ((ad 108), .inr (4, [.ref (ad 109), .int 0])), ((ad 109), .inl (ids.1, 6, .inl (fun _ => 0))), ((ad 147), .inl (ids.1, 3, .inl (fun _ => 0))), ((ad 148), .inr (1, [.ref (ad 110), .ref (ad 112), .ref (ad 149), .int 0, .int 0, .int 0, .int 0])), ((ad 110), .inr (4, [.ref (ad 111), .int 0])), ((ad 111), .inl (ids.1, 6, .inl (fun _ => 0))), ((ad 112), .inr (4, [.ref (ad 113), .int 0])), ((ad 113), .inl (ids.1, 6, .inl (fun _ => 0))), ((ad 149), .inl (ids.1, 3, .inl (fun _ => 0))), ((ad 150), .inr (1, [.ref (ad 114), .ref (ad 116), .ref (ad 151), .int 0, .int 0, .int 0, .int 0])), ((ad 114), .inr (4, [.ref (ad 115), .int 0])), ((ad 115), .inl (ids.1, 6, .inl (fun _ => 0))), ((ad 116), .inr (4, [.ref (ad 117), .int 0])), ((ad 117), .inl (ids.1, 6, .inl (fun _ => 0))), ((ad 151), .inl (ids.1, 3, .inl (fun _ => 0))), ((ad 152), .inr (1, [.ref (ad 118), .ref (ad 120), .ref (ad 153), .int 0, .int 0, .int 0, .int 0])), ((ad 118), .inr (4, [.ref (ad 119), .int 0])), ((ad 119), .inl (ids.1, 6, .inl (fun _ => 0))), ((ad 120), .inr (4, [.ref (ad 121), .int 0])), ((ad 121), .inl (ids.1, 6, .inl (fun _ => 0))), ((ad 153), .inl (ids.1, 3, .inl (fun _ => 0))), ((ad 11), .inr (7, [.ref (ad 20), .ref (ad 56)])), ((ad 20), .inr (6, [.ref (ad 21), .ref (ad 22), .ref (ad 23), .ref (ad 24), .ref (ad 25), .int 0, .int 0, .int 0, .int 0, .int 0, .int 0])), ((ad 21), .inl (ids.1, 4, .inl (fun _ => 0))), ((ad 22), .inl (ids.1, 4, .inl (fun _ => 0))), ((ad 23), .inl (ids.1, 3, .inl (fun _ => 0))), ((ad 24), .inl (ids.1, 576, .inl (fun _ => 0))), ((ad 25), .inl (ids.1, 64, .inl (fun _ => 0))), ((ad 56), .inr (4, [.ref (ad 57), .int 0])), ((ad 57), .inl (ids.1, 6, .inl (fun _ => 0))), ((ad 12), .inr (3, [.int (if r = 0 then 1 else r)])), ((ad 13), .inr (9, [.int (-1 : Int32), .int 0, .int 0])), ((ad 26), .inr (11, [.int 0, .ref (ad 27), .ref (ad 28), .ref (ad 29), .ref (ad 30), .int 0, .int (if r = 0 then 1 else r), .ref (ad 31), .int 0, .ref (ad 32), .ref (ad 33), .ref (ad 34), .int 0, .int 0, .int 0, .int 0, .int 0, .ref (ad 35), .int 0, .ref (ad 36), .ref (ad 37), .ref (ad 38), .int 0, .ref (ad 39), .ref (ad 40), .ref (ad 41), .ref (ad 42), .ref (ad 43), .ref (ad 44), .ref (ad 45), .ref (ad 46), .ref (ad 47), .int 0, .int 0, .int 0, .int 0, .ref (ad 48), .ref (ad 49), .ref (ad 50), .int 0, .int 0, .int 0, .int 0, .ref (ad 51), .int 0])), ((ad 27), .inl (ids.1, 24, .inl (fun _ => 0))), ((ad 28), .inl (ids.1, 24, .inl (fun _ => 0))), ((ad 29), .inl (ids.1, 24, .inl (fun _ => 0))), ((ad 30), .inl (ids.1, 6, .inl (fun _ => 0))), ((ad 31), .inl (ids.1, 6, .inl (fun _ => 0))), ((ad 32), .inl (ids.1, 4, .inl (fun _ => 0))), ((ad 33), .inl (ids.1, 4, .inl (fun _ => 0))), ((ad 34), .inl (ids.1, 3, .inl (fun _ => 0))), ((ad 35), .inl (ids.1, 576, .inl (fun _ => 0))), ((ad 36), .inl (ids.1, 96, .inl (fun _ => 0))), ((ad 37), .inl (ids.1, 16, .inl (fun _ => 0))), ((ad 38), .inl (ids.1, 16, .inl (fun _ => 0))), ((ad 39), .inl (ids.1, 8, .inl (fun _ => 0))), ((ad 40), .inl (ids.1, 8, .inl (fun _ => 0))), ((ad 41), .inl (ids.1, 8, .inl (fun _ => 0))), ((ad 42), .inl (ids.1, 24, .inl (fun _ => 0))), ((ad 43), .inl (ids.1, 8, .inl (fun _ => 0))), ((ad 44), .inl (ids.1, 48, .inl (fun _ => 0))), ((ad 45), .inl (ids.1, 8, .inl (fun _ => 0))), ((ad 46), .inl (ids.1, 48, .inl (fun _ => 0))), ((ad 47), .inl (ids.1, 8, .inl (fun _ => 0))), ((ad 48), .inl (ids.1, 576, .inl (fun _ => 0))), ((ad 49), .inl (ids.1, 576, .inl (fun _ => 0))), ((ad 50), .inl (ids.1, 16, .inl (fun _ => 0))), ((ad 51), .inl (ids.1, 6, .inl (fun _ => 0)))] := ⟨_, rfl⟩
  have hP : va_P D vwCl ws H := by rw [ews]; exact hP
  have hD : va_D A ws := by rw [ews]; exact hD
  have eF : ws.map Prod.fst = gI.map ad := by rw [ews]; rfl
  have eL : ∀ tt : Nat × Nat, (ws.set 16 (ad 6, .inl (ids.2.1, 16, .inr (.inr (.inr (.inr (fun k => some (ad (122 + k))))))))).set 68 (ad 10, .inl (ids.2.2, 8, .inr (.inr (.inr (.inr (fun k => some (ad (138 + 2 * k)))))))) = gI.map (fun k => (ad k, lay (D, ad, ids, tt) k (M0 r k))) := by intro tt; rw [ews]; rfl
  have c6 : va_at D vwCl (ad 6, .inl (ids.2.1, 16, .inr (.inr (.inr (.inr fE))))) H := hP 16 _ (by rw [ews]; rfl)
  have c10 : va_at D vwCl (ad 10, .inl (ids.2.2, 8, .inr (.inr (.inr (.inr fF))))) H := hP 68 _ (by rw [ews]; rfl)
  have gE2 : ∀ k, k < 16 → fE k = some (ad (122 + k)) := by
    intro k hk
    rw [gE k hk]
    rcases (show k = 0 ∨ k = 1 ∨ k = 2 ∨ k = 3 ∨ k = 4 ∨ k = 5 ∨ k = 6 ∨ k = 7 ∨ k = 8 ∨ k = 9 ∨ k = 10 ∨ k = 11 ∨ k = 12 ∨ k = 13 ∨ k = 14 ∨ k = 15 by omega) with rfl | rfl | rfl | rfl | rfl | rfl | rfl | rfl | rfl | rfl | rfl | rfl | rfl | rfl | rfl | rfl
    · exact congrArg some z122
    · exact congrArg some z123
    · exact congrArg some z124
    · exact congrArg some z125
    · exact congrArg some z126
    · exact congrArg some z127
    · exact congrArg some z128
    · exact congrArg some z129
    · exact congrArg some z130
    · exact congrArg some z131
    · exact congrArg some z132
    · exact congrArg some z133
    · exact congrArg some z134
    · exact congrArg some z135
    · exact congrArg some z136
    · exact congrArg some z137
  have gF2 : ∀ k, k < 8 → fF k = some (ad (138 + 2 * k)) := by
    intro k hk
    rw [gF k hk]
    rcases (show k = 0 ∨ k = 1 ∨ k = 2 ∨ k = 3 ∨ k = 4 ∨ k = 5 ∨ k = 6 ∨ k = 7 by omega) with rfl | rfl | rfl | rfl | rfl | rfl | rfl | rfl
    · exact congrArg some z138
    · exact congrArg some z140
    · exact congrArg some z142
    · exact congrArg some z144
    · exact congrArg some z146
    · exact congrArg some z148
    · exact congrArg some z150
    · exact congrArg some z152
  have hP2 := rep_P (rep_P hP 16 (rep_q c6 gE2)) 68 (rep_q c10 gF2)
  have at1 : ∀ j, j < 154 → ∃ e, ws[gG.getD j 0]? = some (ad j, e) := fun j hj => by
    have h1 : (ws.map Prod.fst)[gG.getD j 0]? = some (ad j) := by rw [eF, List.getElem?_map, gI_at j hj]; rfl
    rw [List.getElem?_map] at h1
    cases hw : ws[gG.getD j 0]? with
    | none => rw [hw] at h1; cases h1
    | some q =>
      rw [hw] at h1
      obtain ⟨a, e⟩ := q
      have h2 : a = ad j := Option.some.inj h1
      exact ⟨e, by rw [h2]⟩
  refine ⟨ad, z0.symm, z26.symm, fun tt => ⟨?_, ?_, ?_⟩⟩
  · intro i j hi hj h
    obtain ⟨e1, h1⟩ := at1 i hi
    obtain ⟨e2, h2⟩ := at1 j hj
    have h3 := hD.1 _ _ _ _ h1 h2 h
    have h4 := gI_at i hi
    rw [h3, gI_at j hj] at h4
    exact (Option.some.inj h4).symm
  · intro j hj
    obtain ⟨e1, h1⟩ := at1 j hj
    exact hD.2 _ _ h1
  · intro k q hk
    obtain ⟨hk1, rfl⟩ := mw_inv hk
    have hP3 := hP2
    rw [eL tt] at hP3
    exact hP3 (gG.getD k 0) _ (by rw [List.getElem?_map, gI_at k hk1]; rfl)
