/-! Pure: the abstract state stays well-formed; draws; bytes. -/
theorem wfA_ex {P : Pg} {A : Ab} {l : List Int32} (h : wfA P A) (h6 : l.length ≤ 6) (hb : Byt l) : wfA P (exA P l A) := by
  obtain ⟨es, fs, nF, ct, t, x⟩ := A
  obtain ⟨a1, a2, a3, a4⟩ := h
  dsimp only at a1 a2 a3 a4
  have hlen := len_exS P l es
  refine ⟨fun e he => a1 e (by show es.length ≤ e; have : (exS P l es).length ≤ e := he; omega), fun e he => ?_, ?_, ?_⟩
  · show 1 ≤ ecN P ((exS P l es).getD e []) ∧ ((exS P l es).getD e []).length ≤ 6 ∧ Byt ((exS P l es).getD e [])
    have he : e < (exS P l es).length := he
    unfold exS at he ⊢
    by_cases c : news P es l = true ∧ es.length < 16
    · rw [if_pos c] at he ⊢
      rw [List.length_append, List.length_singleton] at he
      by_cases q : e = es.length
      · subst q
        rw [getD_la]
        exact ⟨news_ec c.1, h6, hb⟩
      · rw [getD_ap (by omega)]
        exact a2 e (by omega)
    · rw [if_neg c] at he ⊢
      exact a2 e he
  · show (exS P l es).length ≤ 16
    unfold exS
    split
    · rw [List.length_append, List.length_singleton]; omega
    · exact a3
  · show wfT (exS P l es) (exT P es (exS P l es) fs t)
    intro hpos
    unfold exT
    by_cases c : es.length = 0
    · rw [if_pos ⟨c, hpos⟩]
      have hS : exS P l es = es ++ [l] ∧ news P es l = true := by
        unfold exS at hpos ⊢
        by_cases q : news P es l = true ∧ es.length < 16
        · rw [if_pos q]; exact ⟨rfl, q.1⟩
        · rw [if_neg q] at hpos; omega
      have hg : (exS P l es).getD 0 [] = l := by
        rw [hS.1, ← c, getD_la]
      have hec := news_ec hS.2
      have h0 : fs 0 = 0 := a1 0 (by omega)
      unfold tuA enA
      rw [hg, h0]
      refine ⟨hpos, ?_, ?_, Or.inl ?_⟩
      · show 1 ≤ min 8 (ecN P l) * _
        split <;> omega
      · show min 8 (ecN P l) * _ ≤ 16
        split <;> omega
      · show (if (0 : Int32) ≤ 0 then 0 else 16 * l.length) < 16 * l.length + min 8 (ecN P l) * _
        rw [if_pos (by decide)]
        split <;> omega
    · rw [if_neg (fun q => c q.1)]
      obtain ⟨b1, b2, b3, b4⟩ := a4 (by omega)
      have hg : (exS P l es).getD t.1 [] = es.getD t.1 [] := by
        unfold exS
        split
        · exact getD_ap b1
        · rfl
      rw [hg]
      exact ⟨by omega, b2, b3, b4.elim Or.inl (fun q => Or.inr ⟨q.1, by omega⟩)⟩
/-- the next state of the generator -/
def xsh (x : Int32) : Int32 :=
  let a := x ^^^ (x <<< ((13 : Int32) &&& 31))
  let b := a ^^^ ((a.toUInt32 >>> ((17 : Int32).toUInt32 &&& Int32.toUInt32 31)).toInt32)
  b ^^^ (b <<< ((5 : Int32) &&& 31))
/-- the number drawn, of n, where the state is x by now -/
def drN (x : Int32) (n : Nat) : Nat := x.toBitVec.toNat % 2 ^ 31 % n
theorem dr_lt {x : Int32} {n : Nat} (h : 0 < n) : drN x n < n := Nat.mod_lt _ h
theorem dr_rem {x : Int32} {n : Nat} (h : 0 < n) (hn : n < 2 ^ 31) : (x &&& (2147483647 : Int32)) - (x &&& (2147483647 : Int32)) / nI n * nI n = nI (drN x n) := by
  rw [pk_and x 31 (by decide)]
  exact pk_rem (Nat.mod_lt _ (by decide)) h hn
theorem st_st (M : Mem) (j k : Nat) (v w : Int32) : st (st M j k v) j k w = st M j k w := by
  funext a
  by_cases h : a = j
  · subst h
    rw [st_same, st_same, st_same]
    funext q
    unfold upd
    by_cases e : q = k
    · rw [if_pos e, if_pos e]
    · rw [if_neg e, if_neg e, if_neg e]
  · rw [st_other h, st_other h, st_other h]
theorem st_rd (M : Mem) (j k : Nat) (v : Int32) : st M j k v j k = v := by rw [st_ap, if_pos rfl, if_pos rfl]
theorem v_GE_draw {M : Mem} {n : Nat} (h : 0 < n) (hn : n < 2 ^ 31) : s_GE_draw (nI n) M = some (nI (drN (xsh (M 12 0)) n), st M 12 0 (xsh (M 12 0))) := by
  unfold s_GE_draw cz
  simp only [nx, st_rd, st_st]
  rw [if_neg (nI_nle h hn), if_neg (nI_ne0 h hn), dr_rem h hn]
  rfl
theorem v_MO_draw {M : Mem} {n : Nat} (h : 0 < n) (hn : n < 2 ^ 31) : s_MO_draw (nI n) M = some (nI (drN (xsh (M 26 6)) n), st M 26 6 (xsh (M 26 6))) := by
  unfold s_MO_draw cz
  simp only [nx, st_rd, st_st]
  rw [if_neg (nI_ne0 h hn), dr_rem h hn]
  rfl
theorem by_of {b : Int32} (h : 0 ≤ b ∧ b < 256) : ∃ k, k < 256 ∧ b = nI k := vp_in_of (in_of_lt (L := 256) (by decide) h) (by decide)
theorem by_x : ∀ b, b < 256 → ∀ k, k < 8 → (nI b ^^^ ((1 : Int32) <<< (nI k &&& 31))) &&& 255 = nI b ^^^ ((1 : Int32) <<< (nI k &&& 31)) := by decide +kernel
theorem by_a {v : Nat} (h : v < 256) : nI v &&& 255 = nI v := by
  rw [pk_andN (by omega) (m := 255) 8 (by decide), Nat.mod_eq_of_lt h]
theorem by_l {l : List Int32} {k : Nat} (h : Byt l) (hk : k < l.length) {bit : Nat} (hb : bit < 8) : (l[k] ^^^ ((1 : Int32) <<< (nI bit &&& 31))) &&& 255 = l[k] ^^^ ((1 : Int32) <<< (nI bit &&& 31)) := by
  obtain ⟨b, h1, h2⟩ := by_of (h l[k] (List.getElem_mem hk))
  rw [h2]
  exact by_x b h1 bit hb
theorem Byt_set {l : List Int32} {k : Nat} {b : Int32} (h : Byt l) (hb : 0 ≤ b ∧ b < 256) : Byt (l.set k b) := fun x hx => by
  rcases List.mem_or_eq_of_mem_set hx with q | q
  · exact h x q
  · subst q; exact hb
/-- one drawn change of the input -/
def insD (s : List Int32 × Int32) : List Int32 × Int32 := if s.1.length < 6 then (insL s.1 (drN (xsh (xsh s.2)) (s.1.length + 1)) (nI (drN (xsh s.2) 256)), xsh (xsh s.2)) else s
def chD (kind : Nat) (s : List Int32 × Int32) : List Int32 × Int32 :=
  if kind = 0 then (s.1.set (drN (xsh (xsh s.2)) s.1.length) ((s.1.getD (drN (xsh (xsh s.2)) s.1.length) 0 ^^^ ((1 : Int32) <<< (nI (drN (xsh s.2) 8) &&& 31))) &&& 255), xsh (xsh s.2))
  else if kind = 1 then (s.1.set (drN (xsh s.2) s.1.length) (nI (drN (xsh (xsh s.2)) 256) &&& 255), xsh (xsh s.2))
  else if kind = 3 then (outL s.1 (drN (xsh s.2) s.1.length), xsh s.2)
  else (s.1.set (drN (xsh (xsh s.2)) s.1.length) ((s.1.getD (drN (xsh (xsh s.2)) s.1.length) 0 + (nI (drN (xsh s.2) 16) - 8)) &&& 255), xsh (xsh s.2))
def mix1 (s : List Int32 × Int32) : List Int32 × Int32 := if drN (xsh s.2) 5 = 2 then insD (s.1, xsh s.2) else if s.1.length = 0 then (s.1, xsh s.2) else chD (drN (xsh s.2) 5) (s.1, xsh s.2)
def mixR : Nat → List Int32 × Int32 → List Int32 × Int32
  | 0, s => s
  | k + 1, s => mixR k (mix1 s)
/-- what an added, what a put number is -/
def addV (k : Nat) : Int32 := if k = 0 then 1 else if k = 1 then -1 else if k = 2 then 16 else -16
def putV (k : Nat) : Int32 := if k = 0 then 0 else if k = 1 then 127 else if k = 2 then 128 else 255
/-- the changed input of a trial, and the generator's state behind it -/
def chA (es : List (List Int32)) (t : Nat × Nat × Nat) (x : Int32) : List Int32 × Int32 :=
  let l := es.getD t.1 []
  let m := t.2.1
  if m < 8 * l.length then (l.set (m / 8) ((l.getD (m / 8) 0 ^^^ ((1 : Int32) <<< (nI (m % 8) &&& 31))) &&& 255), x)
  else if m < 12 * l.length then (l.set ((m - 8 * l.length) / 4) ((l.getD ((m - 8 * l.length) / 4) 0 + addV ((m - 8 * l.length) % 4)) &&& 255), x)
  else if m < 16 * l.length then (l.set ((m - 12 * l.length) / 4) (putV ((m - 12 * l.length) % 4) &&& 255), x)
  else if m < 16 * l.length + t.2.2 then mixR (drN (xsh x) 4 + 1) (l, xsh x)
  else
    let p := if drN (xsh x) (es.length - 1) < t.1 then drN (xsh x) (es.length - 1) else drN (xsh x) (es.length - 1) + 1
    let o := es.getD p []
    let c := drN (xsh (xsh x)) (1 + min l.length o.length)
    (l.take c ++ o.drop c, xsh (xsh x))
def okL (s : List Int32 × Int32) : Prop := s.1.length ≤ 6 ∧ Byt s.1
theorem ok_set {l : List Int32} {x : Int32} {k : Nat} {v : Int32} (h : okL (l, x)) (y : Int32) : okL (l.set k (v &&& 255), y) := ⟨by show (l.set k (v &&& 255)).length ≤ 6; rw [List.length_set]; exact h.1, Byt_set h.2 (b_255 v)⟩
theorem ok_ins {s : List Int32 × Int32} (h : okL s) : okL (insD s) := by
  unfold insD
  split
  · rename_i c
    have hk : drN (xsh (xsh s.2)) (s.1.length + 1) < s.1.length + 1 := dr_lt (by omega)
    exact ⟨by show (insL _ _ _).length ≤ 6; rw [len_ins (by omega)]; omega, Byt_ins h.2 ⟨nI_pos' (by have := dr_lt (x := xsh s.2) (n := 256) (by decide); omega), nI_lt (b := 256) (dr_lt (by decide)) (by decide)⟩⟩
  · exact h
theorem ok_ch {s : List Int32 × Int32} {k : Nat} (h : okL s) (h0 : 0 < s.1.length) : okL (chD k s) := by
  obtain ⟨l, x⟩ := s
  unfold chD
  split
  · exact ok_set (x := x) h _
  · split
    · exact ok_set (x := x) h _
    · split
      · have hk : drN (xsh x) l.length < l.length := dr_lt h0
        exact ⟨by show (outL _ _).length ≤ 6; rw [len_out hk]; have := h.1; dsimp only at this; omega, Byt_out h.2⟩
      · exact ok_set (x := x) h _
theorem ok_mix {s : List Int32 × Int32} (h : okL s) : okL (mix1 s) := by
  unfold mix1
  split
  · exact ok_ins h
  · split
    · exact h
    · exact ok_ch h (by show 0 < s.1.length; omega)
theorem ok_mixR : ∀ k s, okL s → okL (mixR k s) := by
  intro k
  induction k with
  | zero => intro s h; exact h
  | succ k ih => intro s h; exact ih _ (ok_mix h)
theorem ok_chA {es : List (List Int32)} {t : Nat × Nat × Nat} {x : Int32} (hw : wfT es t) (h0 : 0 < es.length) (hall : ∀ e, e < es.length → (es.getD e []).length ≤ 6 ∧ Byt (es.getD e [])) : okL (chA es t x) := by
  obtain ⟨t1, t2, t3, t4⟩ := hw h0
  have hl : okL (es.getD t.1 [], x) := hall t.1 t1
  unfold chA
  dsimp only
  split
  · exact ok_set hl _
  · split
    · exact ok_set hl _
    · split
      · exact ok_set hl _
      · split
        · exact ok_mixR _ _ hl
        · have h2 : 2 ≤ es.length := by omega
          have hp : (if drN (xsh x) (es.length - 1) < t.1 then drN (xsh x) (es.length - 1) else drN (xsh x) (es.length - 1) + 1) < es.length := by
            have := dr_lt (x := xsh x) (n := es.length - 1) (by omega)
            split <;> omega
          generalize (if drN (xsh x) (es.length - 1) < t.1 then drN (xsh x) (es.length - 1) else drN (xsh x) (es.length - 1) + 1) = p at hp
          obtain ⟨o1, o2⟩ := hall p hp
          have hc := dr_lt (x := xsh (xsh x)) (n := 1 + min (es.getD t.1 []).length (es.getD p []).length) (by omega)
          generalize drN (xsh (xsh x)) (1 + min (es.getD t.1 []).length (es.getD p []).length) = c at hc
          refine ⟨?_, fun b hb => ?_⟩
          · show (_ ++ _ : List Int32).length ≤ 6
            rw [List.length_append, List.length_take, List.length_drop]
            omega
          · rw [List.mem_append] at hb
            rcases hb with q | q
            · exact hl.2 b (List.mem_of_mem_take q)
            · exact o2 b (List.mem_of_mem_drop q)
