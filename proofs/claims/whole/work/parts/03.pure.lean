/-! Own words: a memory of cells and slots, loops over Option, the elimination rows of the semantic words. Nothing here speaks of the machine. -/
abbrev Mem : Type := Nat → Nat → Int32
def st (M : Mem) (j k : Nat) (v : Int32) : Mem := fun a => if a = j then upd (M j) k v else M a
theorem st_same (M : Mem) (j k : Nat) (v : Int32) : st M j k v j = upd (M j) k v := by unfold st; rw [if_pos rfl]
theorem st_other {M : Mem} {j k a : Nat} {v : Int32} (h : a ≠ j) : st M j k v a = M a := by unfold st; rw [if_neg h]
-- loops: the body says 'go on with this state' (inl) or 'the loop has ended with this' (inr)
def lpn {S E : Type} (b : S → Option (S ⊕ E)) : Nat → S → Option E
  | 0, _ => none
  | n + 1, s => match b s with
    | none => none
    | some (.inl s1) => lpn b n s1
    | some (.inr e) => some e
theorem lpn_mono {S E : Type} {b : S → Option (S ⊕ E)} : ∀ (n : Nat) (s : S) (e : E), lpn b n s = some e → ∀ k, n ≤ k → lpn b k s = some e := by
  intro n
  induction n with
  | zero => intro s e h; cases h
  | succ n ih =>
    intro s e h k hk
    obtain ⟨k', rfl⟩ : ∃ k', k = k' + 1 := ⟨k - 1, by omega⟩
    cases hb : b s with
    | none => simp only [lpn, hb] at h; cases h
    | some r =>
      cases r with
      | inl s1 =>
        simp only [lpn, hb] at h ⊢
        exact ih s1 e h k' (by omega)
      | inr e1 =>
        simp only [lpn, hb] at h ⊢
        exact h
noncomputable def lp {S E : Type} (b : S → Option (S ⊕ E)) (s : S) : Option E := @dite _ (∃ e n, lpn b n s = some e) (Classical.propDecidable _) (fun h => some (Classical.choose h)) (fun _ => none)
theorem lp_iff {S E : Type} {b : S → Option (S ⊕ E)} {s : S} {e : E} : lp b s = some e ↔ ∃ n, lpn b n s = some e := by
  unfold lp
  constructor
  · intro h
    by_cases hh : ∃ e n, lpn b n s = some e
    · rw [dif_pos hh] at h
      obtain ⟨n, hn⟩ := Classical.choose_spec hh
      exact ⟨n, hn.trans h⟩
    · rw [dif_neg hh] at h; cases h
  · rintro ⟨n, hn⟩
    have hh : ∃ e n, lpn b n s = some e := ⟨e, n, hn⟩
    rw [dif_pos hh]
    obtain ⟨k, hk⟩ := Classical.choose_spec hh
    have h1 := lpn_mono n s e hn (n + k) (by omega)
    have h2 := lpn_mono k s _ hk (n + k) (by omega)
    exact h2.symm.trans h1
theorem lp_none {S E : Type} {b : S → Option (S ⊕ E)} {s : S} (h : b s = none) : lp b s = none := by
  cases hl : lp b s with
  | none => rfl
  | some e =>
    obtain ⟨n, hn⟩ := lp_iff.mp hl
    cases n with
    | zero => cases hn
    | succ n => simp only [lpn, h] at hn; cases hn
theorem lp_inl {S E : Type} {b : S → Option (S ⊕ E)} {s s1 : S} (h : b s = some (.inl s1)) : lp b s = lp b s1 := by
  apply Option.ext
  intro e
  constructor
  · intro hl
    obtain ⟨n, hn⟩ := lp_iff.mp hl
    cases n with
    | zero => cases hn
    | succ n => simp only [lpn, h] at hn; exact lp_iff.mpr ⟨n, hn⟩
  · intro hl
    obtain ⟨n, hn⟩ := lp_iff.mp hl
    exact lp_iff.mpr ⟨n + 1, by simp only [lpn, h]; exact hn⟩
theorem lp_inr {S E : Type} {b : S → Option (S ⊕ E)} {s : S} {e : E} (h : b s = some (.inr e)) : lp b s = some e := lp_iff.mpr ⟨1, by simp only [lpn, h]⟩
def lpG {S E : Type} (P : S → Prop) (G : E → Prop) : S ⊕ E → Prop
  | .inl s => P s
  | .inr e => G e
theorem lp_walk {S E : Type} {b : S → Option (S ⊕ E)} {P : S → Prop} {G : E → Prop} (step : ∀ (s : S) (res : S ⊕ E), b s = some res → lpG P G res → P s) {s : S} {e : E} (h : lp b s = some e) (g : G e) : P s := by
  obtain ⟨n, hn⟩ := lp_iff.mp h
  clear h
  induction n generalizing s with
  | zero => cases hn
  | succ n ih =>
    cases hb : b s with
    | none => simp only [lpn, hb] at hn; cases hn
    | some r =>
      cases r with
      | inl s1 =>
        simp only [lpn, hb] at hn
        exact step s _ hb (ih hn)
      | inr e1 =>
        simp only [lpn, hb] at hn
        obtain rfl := Option.some.inj hn
        exact step s _ hb g
-- words of the semantics, and their eliminations
def nx {α β : Type} (a : α) (f : α → β) : β := f a
theorem nx_e {α β : Type} {a : α} {f : α → β} {r : β} (h : nx a f = r) : ∃ v, v = a ∧ f v = r := ⟨a, rfl, h⟩
def ck {α : Type} (i : Int32) (n : Nat) (k : Option α) : Option α := if i < 0 ∨ n ≤ i.toNatClampNeg then none else k
theorem ck_e {α : Type} {i : Int32} {n : Nat} {k : Option α} {r : α} (h : ck i n k = some r) : vp_in i n ∧ k = some r := by
  unfold ck at h
  by_cases hc : i < 0 ∨ n ≤ i.toNatClampNeg
  · rw [if_pos hc] at h; cases h
  · rw [if_neg hc] at h; exact ⟨hc, h⟩
theorem ck_i {α : Type} {i : Int32} {n : Nat} {k : Option α} (h : vp_in i n) : ck i n k = k := by unfold ck; exact if_neg h
def cz {α : Type} (y : Int32) (k : Option α) : Option α := if y = 0 then none else k
theorem cz_e {α : Type} {y : Int32} {k : Option α} {r : α} (h : cz y k = some r) : ¬ y = 0 ∧ k = some r := by
  unfold cz at h
  by_cases hc : y = 0
  · rw [if_pos hc] at h; cases h
  · rw [if_neg hc] at h; exact ⟨hc, h⟩
def cb {α : Type} (v : Int32) (k : Option α) : Option α := if v = 0 ∨ v = 1 then k else none
theorem cb_e {α : Type} {v : Int32} {k : Option α} {r : α} (h : cb v k = some r) : (v = 0 ∨ v = 1) ∧ k = some r := by
  unfold cb at h
  by_cases hc : v = 0 ∨ v = 1
  · rw [if_pos hc] at h; exact ⟨hc, h⟩
  · rw [if_neg hc] at h; cases h
def cp {α : Type} (P : Prop) [Decidable P] (k : Option α) : Option α := if P then k else none
theorem cp_e {α : Type} {P : Prop} [Decidable P] {k : Option α} {r : α} (h : cp P k = some r) : P ∧ k = some r := by
  unfold cp at h
  by_cases hc : P
  · rw [if_pos hc] at h; exact ⟨hc, h⟩
  · rw [if_neg hc] at h; cases h
def bi {α β : Type} (o : Option (α × Mem)) (f : α → Mem → Option β) : Option β := match o with
  | none => none
  | some q => f q.1 q.2
theorem bi_e {α β : Type} {o : Option (α × Mem)} {f : α → Mem → Option β} {r : β} (h : bi o f = some r) : ∃ v M, o = some (v, M) ∧ f v M = some r := by
  cases o with
  | none => cases h
  | some q => exact ⟨q.1, q.2, rfl, h⟩
def bv {β : Type} (o : Option Mem) (f : Mem → Option β) : Option β := match o with
  | none => none
  | some M => f M
theorem bv_e {β : Type} {o : Option Mem} {f : Mem → Option β} {r : β} (h : bv o f = some r) : ∃ M, o = some M ∧ f M = some r := by
  cases o with
  | none => cases h
  | some M => exact ⟨M, rfl, h⟩
theorem if_p {α : Type} {c : Prop} [Decidable c] {a b r : α} (hc : c) (h : (if c then a else b) = r) : a = r := by rw [if_pos hc] at h; exact h
theorem if_m {α : Type} {c : Prop} [Decidable c] {a b r : α} (hc : ¬ c) (h : (if c then a else b) = r) : b = r := by rw [if_neg hc] at h; exact h
def mo {α β : Type} (o : Option α) (a : β) (f : α → β) : β := match o with
  | none => a
  | some j => f j
theorem sw_ne {x k : Int32} {z : Int} (hk : k.toInt = z) (h : ¬ x = k) : ¬ x.toInt = z := by
  intro e
  exact h (Int32.toInt_inj.mp (e.trans hk.symm))
def jw1 {S E : Type} (o : Option E) : Option (S ⊕ E) := match o with
  | none => none
  | some r => some (.inr r)
theorem jw1_e {S E : Type} {o : Option E} {res : S ⊕ E} (h : jw1 o = some res) : ∃ r, res = .inr r ∧ o = some r := by
  cases o with
  | none => cases h
  | some r => exact ⟨r, (Option.some.inj h).symm, rfl⟩
def jw2 {S T E : Type} (o : Option E) : Option (S ⊕ (T ⊕ E)) := jw1 (jw1 o)
theorem jw2_e {S T E : Type} {o : Option E} {res : S ⊕ (T ⊕ E)} (h : jw2 o = some res) : ∃ r, res = .inr (.inr r) ∧ o = some r := by
  obtain ⟨r, h1, h2⟩ := jw1_e h
  obtain ⟨r2, h3, h4⟩ := jw1_e h2
  subst h1; subst h3
  exact ⟨r2, rfl, h4⟩
