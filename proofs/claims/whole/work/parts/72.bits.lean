/-! Pure: bits, sums over the edges; buckets. -/
theorem nx_or (a b : Nat) : nI a ||| nI b = nI (a ||| b) := by
  apply Int32.toBitVec_inj.mp
  apply BitVec.eq_of_toNat_eq
  rw [Int32.toBitVec_or, BitVec.toNat_or]
  show a % 2 ^ 32 ||| b % 2 ^ 32 = (a ||| b) % 2 ^ 32
  rw [Nat.or_mod_two_pow]
theorem nx_and (a b : Nat) : nI a &&& nI b = nI (a &&& b) := by
  apply Int32.toBitVec_inj.mp
  apply BitVec.eq_of_toNat_eq
  rw [Int32.toBitVec_and, BitVec.toNat_and]
  show a % 2 ^ 32 &&& b % 2 ^ 32 = (a &&& b) % 2 ^ 32
  rw [Nat.and_mod_two_pow]
theorem s_l : ∀ n, n < 32 → ((nI n &&& 31).toBitVec.smod 32).toNat = n := by decide +kernel
theorem sh_1 {e : Nat} (h : e < 31) : (1 : Int32) <<< (nI e &&& 31) = nI (2 ^ e) := by
  have := pk_shlN (n := 1) (nI e &&& 31) e (s_l e (by omega)) (by rw [Nat.one_mul]; exact Nat.pow_lt_pow_right (by decide) (by omega))
  rw [Nat.one_mul] at this
  exact this
theorem sr_1 {w e : Nat} (hw : w < 2 ^ 31) (h : e < 31) : (nI w >>> (nI e &&& 31)) &&& 1 = nI (w / 2 ^ e % 2) := by
  rw [pk_shrN hw (nI e &&& 31) e (s_l e (by omega))]
  have := pk_andN (n := w / 2 ^ e) (Nat.lt_of_le_of_lt (Nat.div_le_self _ _) (by omega)) (m := 1) 1 (by decide)
  exact this
theorem tb_d (w e : Nat) : w / 2 ^ e % 2 = if w.testBit e then 1 else 0 := by
  rw [Nat.testBit_eq_decide_div_mod_eq]
  by_cases h : w / 2 ^ e % 2 = 1
  · rw [h]; rfl
  · have : w / 2 ^ e % 2 = 0 := by omega
    rw [this]; rfl
theorem sr_t {w e : Nat} (hw : w < 2 ^ 31) (h : e < 31) : (nI w >>> (nI e &&& 31)) &&& 1 = if w.testBit e then 1 else 0 := by
  rw [sr_1 hw h, tb_d]
  split <;> rfl
/-- sums over the first n places -/
def sm (f : Nat → Nat) : Nat → Nat
  | 0 => 0
  | n + 1 => sm f n + f n
theorem sm_ext {f g : Nat → Nat} : ∀ n, (∀ i, i < n → f i = g i) → sm f n = sm g n := by
  intro n
  induction n with
  | zero => intro _; rfl
  | succ n ih => intro h; show sm f n + f n = sm g n + g n; rw [ih (fun i hi => h i (by omega)), h n (by omega)]
theorem sm_one {f g : Nat → Nat} {x : Nat} : ∀ n, x < n → (∀ i, i < n → i ≠ x → f i = g i) → sm f n + g x = sm g n + f x := by
  intro n
  induction n with
  | zero => intro h; omega
  | succ n ih =>
    intro hx h
    show sm f n + f n + g x = sm g n + g n + f x
    by_cases e : x = n
    · subst e
      rw [sm_ext x (fun i hi => h i (by omega) (by omega))]
      omega
    · have := ih (by omega) (fun i hi => h i (by omega))
      rw [h n (by omega) (by omega)]
      omega
theorem sm_le {f : Nat → Nat} {c : Nat} : ∀ n, (∀ i, i < n → f i ≤ c) → sm f n ≤ n * c := by
  intro n
  induction n with
  | zero => intro _; exact Nat.zero_le _
  | succ n ih =>
    intro h
    show sm f n + f n ≤ (n + 1) * c
    have h1 := ih (fun i hi => h i (by omega))
    have h2 := h n (by omega)
    rw [Nat.succ_mul]
    omega
theorem len_sm {p : Nat → Bool} {E : List Nat} {n : Nat} (hn : E.Nodup) (h : ∀ g, g ∈ E ↔ g < n ∧ p g = true) : E.length = sm (fun g => if p g then 1 else 0) n := by
  have hp : E.Perm ((List.range n).filter p) := by
    rw [List.perm_ext_iff_of_nodup hn (List.Pairwise.filter _ List.nodup_range)]
    intro a
    rw [h, List.mem_filter, List.mem_range]
  rw [hp.length_eq]
  clear hp h hn
  induction n with
  | zero => rfl
  | succ n ih =>
    rw [List.range_succ, List.filter_append, List.length_append, ih]
    show _ = sm _ n + (if p n then 1 else 0)
    congr 1
    by_cases c : p n = true
    · simp [c]
    · simp [c]
/-- the bucket of a number of times -/
def bkN (t : Nat) : Nat := if t ≤ 3 then t - 1 else if t ≤ 7 then 3 else if t ≤ 15 then 4 else 5
theorem bkN_lt (t : Nat) : bkN t < 6 := by
  unfold bkN
  repeat' split
  all_goals omega
theorem v_MO_bucket {t : Nat} (M : Mem) (h : 0 < t) (h2 : t ≤ 64) : s_MO_bucket (nI t) M = some (nI (bkN t), M) := by
  unfold s_MO_bucket bkN
  by_cases c : t ≤ 3
  · rw [if_neg (show ¬ (3 : Int32) < nI t from nI_nlt (a := 3) (b := t) c (by decide) |> fun _ => fun q => absurd ((nI_ltI (a := 3) (b := t) (by decide) (by omega)).mp q) (by omega)), if_pos c, show (1 : Int32) = nI 1 from rfl, pk_sub (by omega)]
  · rw [if_pos (show (3 : Int32) < nI t from nI_lt (a := 3) (by omega) (by omega)), if_neg c]
    by_cases c2 : t ≤ 7
    · rw [if_neg (show ¬ (7 : Int32) < nI t from fun q => absurd ((nI_ltI (a := 7) (b := t) (by decide) (by omega)).mp q) (by omega)), if_pos c2]; rfl
    · rw [if_pos (show (7 : Int32) < nI t from nI_lt (a := 7) (by omega) (by omega)), if_neg c2]
      by_cases c3 : t ≤ 15
      · rw [if_neg (show ¬ (15 : Int32) < nI t from fun q => absurd ((nI_ltI (a := 15) (b := t) (by decide) (by omega)).mp q) (by omega)), if_pos c3]; rfl
      · rw [if_pos (show (15 : Int32) < nI t from nI_lt (a := 15) (by omega) (by omega)), if_neg c3]; rfl
theorem v_RU_pairBit {j g t : Nat} {M : Mem} (hg : g < 576) (ht : M (j + 4) g = nI t) (h : 0 < t) (h2 : t ≤ 64) : s_RU_pairBit j (nI g) M = some (nI (2 ^ bkN t), M) := by
  unfold s_RU_pairBit bkN
  rw [ck_i (vp_in_nI hg (by decide)), nI_clamp (by omega)]
  simp only [nx]
  rw [ht]
  by_cases c : t ≤ 3
  · rw [if_neg (show ¬ (3 : Int32) < nI t from fun q => absurd ((nI_ltI (a := 3) (b := t) (by decide) (by omega)).mp q) (by omega)), if_pos c, show (1 : Int32) = nI 1 from rfl, pk_sub (by omega), show nI 1 = (1 : Int32) from rfl, sh_1 (by omega)]
  · rw [if_pos (show (3 : Int32) < nI t from nI_lt (a := 3) (by omega) (by omega)), if_neg c]
    by_cases c2 : t ≤ 7
    · rw [if_neg (show ¬ (7 : Int32) < nI t from fun q => absurd ((nI_ltI (a := 7) (b := t) (by decide) (by omega)).mp q) (by omega)), if_pos c2]; rfl
    · rw [if_pos (show (7 : Int32) < nI t from nI_lt (a := 7) (by omega) (by omega)), if_neg c2]
      by_cases c3 : t ≤ 15
      · rw [if_neg (show ¬ (15 : Int32) < nI t from fun q => absurd ((nI_ltI (a := 15) (b := t) (by decide) (by omega)).mp q) (by omega)), if_pos c3]; rfl
      · rw [if_pos (show (15 : Int32) < nI t from nI_lt (a := 15) (by omega) (by omega)), if_neg c3]; rfl
theorem bt_c : ∀ b, b < 64 → ∀ k, k < 6 → (b &&& 2 ^ k = 0 ↔ b.testBit k = false) := by decide +kernel
