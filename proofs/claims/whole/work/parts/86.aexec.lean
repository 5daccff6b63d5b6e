/-! Pure: what a call changes: the abstract state, execute. -/
/-- entries; finished; findings; executions, hangs, lost; taken, number, energy; x -/
abbrev Ab : Type := List (List Int32) × (Nat → Int32) × (Nat × (Nat → Fnd)) × (Int32 × Int32 × Int32) × (Nat × Nat × Nat) × Int32
def trP (P : Pg) (l : List Int32) : Prop := 1 ≤ (RUN P l).2.2.2.2.2 ∧ (RUN P l).2.2.2.2.2 ≤ 4
noncomputable def exS (P : Pg) (l : List Int32) (es : List (List Int32)) : List (List Int32) := if news P es l = true ∧ es.length < 16 then es ++ [l] else es
noncomputable def exL (P : Pg) (l : List Int32) (es : List (List Int32)) : Int32 := if news P es l = true ∧ ¬ es.length < 16 then 1 else 0
noncomputable def exF1 (P : Pg) (l : List Int32) (nf : Nat) (F : Nat → Fnd) : (Nat × (Nat → Fnd)) × Int32 := match fxR F (sgn (RUN P l)) nf 0 with
  | some c => ((nf, htF F c), 0)
  | none => if nf = 8 then ((nf, F), 1) else ((nf + 1, nwF F nf (sgn (RUN P l), 1, l, shR P (sgn (RUN P l)) 64 2 l)), 0)
noncomputable def exF (P : Pg) (l : List Int32) (nf : Nat) (F : Nat → Fnd) : (Nat × (Nat → Fnd)) × Int32 := @ite _ (trP P l) (Classical.propDecidable _) (exF1 P l nf F) ((nf, F), 0)
/-- the energy that an entry is taken up with -/
noncomputable def enA (P : Pg) (es : List (List Int32)) (e : Nat) : Nat := min 8 (ecN P (es.getD e [])) * (if (fav P es >>> (nI e &&& 31)) &&& 1 = 1 then 2 else 1)
noncomputable def tuA (P : Pg) (es : List (List Int32)) (fs : Nat → Int32) (e : Nat) : Nat × Nat × Nat := (e, (if fs e ≤ 0 then 0 else 16 * (es.getD e []).length), enA P es e)
noncomputable def exT (P : Pg) (es es' : List (List Int32)) (fs : Nat → Int32) (t : Nat × Nat × Nat) : Nat × Nat × Nat := if es.length = 0 ∧ 0 < es'.length then tuA P es' fs 0 else t
noncomputable def exA (P : Pg) (l : List Int32) (A : Ab) : Ab := (exS P l A.1, A.2.1, (exF P l A.2.2.1.1 A.2.2.1.2).1, (A.2.2.2.1.1 + 1, (if (RUN P l).2.2.2.2.2 = 5 then A.2.2.2.1.2.1 + 1 else A.2.2.2.1.2.1), A.2.2.2.1.2.2 + exL P l A.1 + (exF P l A.2.2.1.1 A.2.2.1.2).2), exT P A.1 (exS P l A.1) A.2.1 A.2.2.2.2.1, A.2.2.2.2.2)
/-- the class's trials -/
def XT (M : Mem) (es : List (List Int32)) (t : Nat × Nat × Nat) : Prop := (es.length = 0 → M 13 0 = -1) ∧ (0 < es.length → M 13 0 = nI t.1 ∧ M 13 1 = nI t.2.1 ∧ M 13 2 = nI t.2.2)
/-- what holds of taken, number, energy -/
def wfT (es : List (List Int32)) (t : Nat × Nat × Nat) : Prop := 0 < es.length → t.1 < es.length ∧ 1 ≤ t.2.2 ∧ t.2.2 ≤ 16 ∧ (t.2.1 < 16 * (es.getD t.1 []).length + t.2.2 ∨ (t.2.1 = 16 * (es.getD t.1 []).length + t.2.2 ∧ 2 ≤ es.length))
/-- the class's cells but for the draft and the program -/
def XA (M : Mem) (P : Pg) (A : Ab) : Prop := (M 2, M 3, M 4, M 1 3) = P ∧ XS M P A.1 ∧ (∀ e, e < 16 → M (122 + e) 3 = A.2.1 e) ∧ XF M A.2.2.1.1 A.2.2.1.2 ∧ (M 0 9 = A.2.2.2.1.1 ∧ M 0 10 = A.2.2.2.1.2.1 ∧ M 0 11 = A.2.2.2.1.2.2) ∧ XT M A.1 A.2.2.2.2.1 ∧ M 12 0 = A.2.2.2.2.2 ∧ ROk 14 M ∧ ROk 20 M
/-- what holds of the abstract state -/
def wfA (P : Pg) (A : Ab) : Prop := (∀ e, A.1.length ≤ e → A.2.1 e = 0) ∧ (∀ e, e < A.1.length → 1 ≤ ecN P (A.1.getD e []) ∧ (A.1.getD e []).length ≤ 6 ∧ Byt (A.1.getD e [])) ∧ A.1.length ≤ 16 ∧ wfT A.1 A.2.2.2.2.1
theorem fav_or (x : Int32) (e : Nat) : (x >>> (nI e &&& 31)) &&& 1 = 0 ∨ (x >>> (nI e &&& 31)) &&& 1 = 1 := by
  obtain ⟨j, hj, h⟩ := pk_andE (x >>> (nI e &&& 31)) (m := 1) 1 (by decide)
  rw [h]
  rcases (show j = 0 ∨ j = 1 by omega) with rfl | rfl
  · exact Or.inl rfl
  · exact Or.inr rfl
theorem v_isFav {M : Mem} (e : Int32) : s_ST_isFavoured e M = some (bI ((M 5 4 >>> (e &&& 31)) &&& 1 = 1), M) := by
  unfold s_ST_isFavoured
  by_cases c : (M 5 4 >>> (e &&& 31)) &&& 1 = 1
  · rw [if_pos c, bI_t c]
  · rw [if_neg c, bI_f c]
theorem v_ST_has (a : Int32) (M : Mem) : s_ST_has a M = some (bI (0 ≤ a ∧ a < M 5 3), M) := by
  unfold s_ST_has
  by_cases h1 : a < 0
  · rw [if_pos h1, bI_f (fun h => Int32.not_le.mpr h1 h.1)]
  · rw [if_neg h1]
    by_cases h2 : M 5 3 ≤ a
    · rw [if_pos h2, bI_f (fun h => Int32.not_lt.mpr h2 h.2)]
    · rw [if_neg h2, bI_t ⟨Int32.not_lt.mp h1, Int32.not_le.mp h2⟩]
theorem v_TR_takeUp {M : Mem} {P : Pg} {es : List (List Int32)} {fs : Nat → Int32} {e : Nat} (hX : XS M P es) (hf : ∀ e, e < 16 → M (122 + e) 3 = fs e) (he : e < es.length) : ∃ M1, s_TR_takeUp (nI e) M = some M1 ∧ (M1 13 0 = nI (tuA P es fs e).1 ∧ M1 13 1 = nI (tuA P es fs e).2.1 ∧ M1 13 2 = nI (tuA P es fs e).2.2) ∧ ∀ a, a ≠ 13 → M1 a = M a := by
  obtain ⟨⟨x1, x2, x3⟩, -, -, x4, -, -⟩ := hX
  obtain ⟨y1, y2, y3⟩ := x3 e he
  have hec : ecN P (es.getD e []) ≤ 576 := by
    rw [ecN_K]
    have := sm_le (f := fun g => if tN P (es.getD e []) g ≠ 0 then 1 else 0) (c := 1) KE (fun i _ => by split <;> omega)
    rw [Nat.mul_one] at this
    rw [KE_eq] at this ⊢
    exact this
  have h31 : ∀ v : Nat, ∃ M1, j_TR_takeUp_31 (nI e) (122 + e) (nI v) (st M 13 0 (nI e)) = some M1 ∧ (M1 13 0 = nI e ∧ M1 13 1 = nI v ∧ M1 13 2 = nI (enA P es e)) ∧ ∀ a, a ≠ 13 → M1 a = M a := fun v => by
    unfold j_TR_takeUp_31
    simp only [nx]
    rw [v_isFav, bi_s, st_other (show (5 : Nat) ≠ 13 by decide), st_other (show (5 : Nat) ≠ 13 by decide), st_other (show 122 + e ≠ 13 by omega), st_other (show 122 + e ≠ 13 by omega), y3, x4]
    have hm : (if nI (ecN P (es.getD e [])) < (8 : Int32) then nI (ecN P (es.getD e [])) else (8 : Int32)) = nI (min 8 (ecN P (es.getD e []))) := by
      by_cases q : ecN P (es.getD e []) < 8
      · rw [if_pos (show nI (ecN P (es.getD e [])) < (8 : Int32) from nI_lt (b := 8) q (by decide)), Nat.min_eq_right (by omega)]
      · rw [if_neg (show ¬ nI (ecN P (es.getD e [])) < (8 : Int32) from fun w => q ((nI_ltI (b := 8) (by omega) (by decide)).mp w)), Nat.min_eq_left (by omega)]
        rfl
    rw [hm]
    unfold enA
    by_cases c : (fav P es >>> (nI e &&& 31)) &&& 1 = 1
    · rw [bI_t c, if_neg (by decide), if_pos c, show (2 : Int32) = nI 2 from rfl, pk_mul]
      refine ⟨_, rfl, ⟨?_, ?_, ?_⟩, fun a ha => by rw [st_other ha, st_other ha, st_other ha]⟩
      · rw [st_ap, if_pos rfl, if_neg (by decide), st_ap, if_pos rfl, if_neg (by decide), st_ap, if_pos rfl, if_pos rfl]
      · rw [st_ap, if_pos rfl, if_neg (by decide), st_ap, if_pos rfl, if_pos rfl]
      · rw [st_ap, if_pos rfl, if_pos rfl]
    · rw [bI_f c, if_pos rfl, if_neg c, show (1 : Int32) = nI 1 from rfl, pk_mul]
      refine ⟨_, rfl, ⟨?_, ?_, ?_⟩, fun a ha => by rw [st_other ha, st_other ha, st_other ha]⟩
      · rw [st_ap, if_pos rfl, if_neg (by decide), st_ap, if_pos rfl, if_neg (by decide), st_ap, if_pos rfl, if_pos rfl]
      · rw [st_ap, if_pos rfl, if_neg (by decide), st_ap, if_pos rfl, if_pos rfl]
      · rw [st_ap, if_pos rfl, if_pos rfl]
  unfold s_TR_takeUp tuA
  rw [ck_i (vp_in_nI (by omega) (by decide)), nI_clamp (by omega)]
  simp only [nx]
  rw [st_other (show 122 + e ≠ 13 by omega), hf e (by omega)]
  by_cases c : fs e ≤ 0
  · rw [if_pos c, if_pos c]
    exact h31 0
  · rw [if_neg c, if_neg c]
    unfold s_TR_firstDrawing
    rw [bi_s, show 2 * (122 + e) - 186 = 58 + 2 * e by omega, st_other (by omega), y1.1, show (16 : Int32) = nI 16 from rfl, pk_mul]
    exact h31 _
