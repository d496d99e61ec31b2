-- MATHEMATICS 0: small numbers, loops that fill
theorem mn_lt {n : Nat} (h : n < 1000) : n < 2 ^ 31 := Nat.lt_trans h (by decide)
theorem mn_le {a b : Nat} (ha : a < 1000) (hb : b < 1000) : nI a ≤ nI b ↔ a ≤ b := nI_leI (mn_lt ha) (mn_lt hb)
theorem mn_lti {a b : Nat} (ha : a < 1000) (hb : b < 1000) : nI a < nI b ↔ a < b := nI_ltI (mn_lt ha) (mn_lt hb)
theorem mn_eq {a b : Nat} (ha : a < 1000) (hb : b < 1000) : nI a = nI b ↔ a = b := nI_eq (mn_lt ha) (mn_lt hb)
theorem mn_cl {a : Nat} (ha : a < 1000) : (nI a).toNatClampNeg = a := nI_clamp (mn_lt ha)
theorem mn_n0 {a : Nat} (ha : a < 1000) : ¬ nI a < 0 := nI_pos (mn_lt ha)
theorem mn_ck {a N : Nat} (h : a < N) (hN : N < 1000) : ¬ (nI a < 0 ∨ N ≤ (nI a).toNatClampNeg) := nI_in h (mn_lt hN)
theorem mn_s (a : Nat) : nI a + 1 = nI (a + 1) := nI_1 a
/-- an array whose places from i up to N hold v -/
def fl (N i : Nat) (v : Int32) (f : Nat → Int32) : Nat → Int32 := fun j => if i ≤ j ∧ j < N then v else f j
theorem fl_end {N : Nat} {v : Int32} {f : Nat → Int32} : fl N N v f = f := by
  funext j
  simp only [fl]
  rw [if_neg (by omega)]
theorem fl_step {N i : Nat} {v : Int32} {f : Nat → Int32} (h : i < N) : fl N (i + 1) v (upd f i v) = fl N i v f := by
  funext j
  simp only [fl, upd]
  by_cases h1 : j = i
  · subst h1
    rw [if_neg (by omega), if_pos rfl, if_pos (by omega)]
  · by_cases h2 : i + 1 ≤ j ∧ j < N
    · rw [if_pos h2, if_pos (by omega)]
    · rw [if_neg h2, if_neg h1, if_neg (by omega)]
theorem z0 : vp_nar .boolean 0 = 0 := rfl
theorem z1 : vp_nar .boolean 1 = 1 := rfl
theorem ml_fill15 {k : (Nat → Int32) → Option (Nat → Int32)} {val : Int32} : ∀ (d n i : Nat) (f : Nat → Int32), i + d = 15 → d < n → f_Ar_fill_15_L5 15 val n (nI i) f k = k (fl 15 i val f) := by
  intro d
  induction d with
  | zero =>
    intro n i f hi hn
    obtain ⟨n, rfl⟩ : ∃ q, n = q + 1 := ⟨n - 1, by omega⟩
    have : i = 15 := by omega
    subst this
    rw [f_Ar_fill_15_L5, if_pos (show (15 : Int32) ≤ nI 15 by decide), fl_end]
  | succ d ih =>
    intro n i f hi hn
    obtain ⟨n, rfl⟩ : ∃ q, n = q + 1 := ⟨n - 1, by omega⟩
    rw [f_Ar_fill_15_L5, if_neg (show ¬ (15 : Int32) ≤ nI i from fun h => by have := (mn_le (a := 15) (by omega) (by omega)).mp h; omega), if_neg (mn_ck (by omega) (by omega)), mn_cl (by omega), mn_s, ih n (i + 1) _ (by omega) (by omega), fl_step (by omega)]
theorem me_fill15 (val : Int32) (f : Nat → Int32) : f_Ar_fill_15 val f = some (fl 15 0 val f) := by
  rw [f_Ar_fill_15]
  exact ml_fill15 15 16 0 f (by omega) (by omega)
theorem ml_fill36 {k : (Nat → Int32) → Option (Nat → Int32)} {val : Int32} : ∀ (d n i : Nat) (f : Nat → Int32), i + d = 36 → d < n → f_Ar_fill_36_L5 36 val n (nI i) f k = k (fl 36 i val f) := by
  intro d
  induction d with
  | zero =>
    intro n i f hi hn
    obtain ⟨n, rfl⟩ : ∃ q, n = q + 1 := ⟨n - 1, by omega⟩
    have : i = 36 := by omega
    subst this
    rw [f_Ar_fill_36_L5, if_pos (show (36 : Int32) ≤ nI 36 by decide), fl_end]
  | succ d ih =>
    intro n i f hi hn
    obtain ⟨n, rfl⟩ : ∃ q, n = q + 1 := ⟨n - 1, by omega⟩
    rw [f_Ar_fill_36_L5, if_neg (show ¬ (36 : Int32) ≤ nI i from fun h => by have := (mn_le (a := 36) (by omega) (by omega)).mp h; omega), if_neg (mn_ck (by omega) (by omega)), mn_cl (by omega), mn_s, ih n (i + 1) _ (by omega) (by omega), fl_step (by omega)]
theorem me_fill36 (val : Int32) (f : Nat → Int32) : f_Ar_fill_36 val f = some (fl 36 0 val f) := by
  rw [f_Ar_fill_36]
  exact ml_fill36 36 37 0 f (by omega) (by omega)
theorem ml_fill6 {k : (Nat → Int32) → Option (Nat → Int32)} {val : Int32} : ∀ (d n i : Nat) (f : Nat → Int32), i + d = 6 → d < n → f_Ar_fill_6_L5 6 val n (nI i) f k = k (fl 6 i val f) := by
  intro d
  induction d with
  | zero =>
    intro n i f hi hn
    obtain ⟨n, rfl⟩ : ∃ q, n = q + 1 := ⟨n - 1, by omega⟩
    have : i = 6 := by omega
    subst this
    rw [f_Ar_fill_6_L5, if_pos (show (6 : Int32) ≤ nI 6 by decide), fl_end]
  | succ d ih =>
    intro n i f hi hn
    obtain ⟨n, rfl⟩ : ∃ q, n = q + 1 := ⟨n - 1, by omega⟩
    rw [f_Ar_fill_6_L5, if_neg (show ¬ (6 : Int32) ≤ nI i from fun h => by have := (mn_le (a := 6) (by omega) (by omega)).mp h; omega), if_neg (mn_ck (by omega) (by omega)), mn_cl (by omega), mn_s, ih n (i + 1) _ (by omega) (by omega), fl_step (by omega)]
theorem me_fill6 (val : Int32) (f : Nat → Int32) : f_Ar_fill_6 val f = some (fl 6 0 val f) := by
  rw [f_Ar_fill_6]
  exact ml_fill6 6 7 0 f (by omega) (by omega)
theorem ml_forget1 {k : (Nat → Int32) → Option ((Nat → Int32) × (Nat → Int32))}  : ∀ (d n i : Nat) (f : Nat → Int32), i + d = 15 → d < n → f_Hull_forget_L2  n (nI i) f k = k (fl 15 i 0 f) := by
  intro d
  induction d with
  | zero =>
    intro n i f hi hn
    obtain ⟨n, rfl⟩ : ∃ q, n = q + 1 := ⟨n - 1, by omega⟩
    have : i = 15 := by omega
    subst this
    rw [f_Hull_forget_L2, if_pos (show (15 : Int32) ≤ nI 15 by decide), fl_end]
  | succ d ih =>
    intro n i f hi hn
    obtain ⟨n, rfl⟩ : ∃ q, n = q + 1 := ⟨n - 1, by omega⟩
    rw [f_Hull_forget_L2, if_neg (show ¬ (15 : Int32) ≤ nI i from fun h => by have := (mn_le (a := 15) (by omega) (by omega)).mp h; omega), if_neg (mn_ck (by omega) (by omega)), mn_cl (by omega), mn_s, ih n (i + 1) _ (by omega) (by omega), z0, fl_step (by omega)]
theorem ml_forget2 {k : (Nat → Int32) → Option ((Nat → Int32) × (Nat → Int32))}  : ∀ (d n i : Nat) (f : Nat → Int32), i + d = 6 → d < n → f_Hull_forget_L23  n (nI i) f k = k (fl 6 i 0 f) := by
  intro d
  induction d with
  | zero =>
    intro n i f hi hn
    obtain ⟨n, rfl⟩ : ∃ q, n = q + 1 := ⟨n - 1, by omega⟩
    have : i = 6 := by omega
    subst this
    rw [f_Hull_forget_L23, if_pos (show (6 : Int32) ≤ nI 6 by decide), fl_end]
  | succ d ih =>
    intro n i f hi hn
    obtain ⟨n, rfl⟩ : ∃ q, n = q + 1 := ⟨n - 1, by omega⟩
    rw [f_Hull_forget_L23, if_neg (show ¬ (6 : Int32) ≤ nI i from fun h => by have := (mn_le (a := 6) (by omega) (by omega)).mp h; omega), if_neg (mn_ck (by omega) (by omega)), mn_cl (by omega), mn_s, ih n (i + 1) _ (by omega) (by omega), z0, fl_step (by omega)]
theorem me_forget (c o : Nat → Int32) : f_Hull_forget c o = some (fl 15 0 0 c, fl 6 0 0 o) := by
  rw [f_Hull_forget, show (0 : Int32) = nI 0 from rfl, ml_forget1 15 40 0 c (by omega) (by omega), ml_forget2 6 40 0 o (by omega) (by omega)]
  rfl
theorem ml_begin {k : (Nat → Int32) → Option (Int32 × Int32 × (Nat → Int32) × (Nat → Int32))}  : ∀ (d n i : Nat) (f : Nat → Int32), i + d = 36 → d < n → f_Mo_begin_L6  n (nI i) f k = k (fl 36 i 0 f) := by
  intro d
  induction d with
  | zero =>
    intro n i f hi hn
    obtain ⟨n, rfl⟩ : ∃ q, n = q + 1 := ⟨n - 1, by omega⟩
    have : i = 36 := by omega
    subst this
    rw [f_Mo_begin_L6, if_pos (show (36 : Int32) ≤ nI 36 by decide), fl_end]
  | succ d ih =>
    intro n i f hi hn
    obtain ⟨n, rfl⟩ : ∃ q, n = q + 1 := ⟨n - 1, by omega⟩
    rw [f_Mo_begin_L6, if_neg (show ¬ (36 : Int32) ≤ nI i from fun h => by have := (mn_le (a := 36) (by omega) (by omega)).mp h; omega), if_neg (mn_ck (by omega) (by omega)), mn_cl (by omega), mn_s, ih n (i + 1) _ (by omega) (by omega), fl_step (by omega)]
theorem ml_clear {k : (Nat → Int32) → Option (Int32 × Int32 × Int32 × (Nat → Int32) × (Nat → Int32) × (Nat → Int32))}  : ∀ (d n i : Nat) (f : Nat → Int32), i + d = 15 → d < n → f_Mo_clear_L7  n (nI i) f k = k (fl 15 i 0 f) := by
  intro d
  induction d with
  | zero =>
    intro n i f hi hn
    obtain ⟨n, rfl⟩ : ∃ q, n = q + 1 := ⟨n - 1, by omega⟩
    have : i = 15 := by omega
    subst this
    rw [f_Mo_clear_L7, if_pos (show (15 : Int32) ≤ nI 15 by decide), fl_end]
  | succ d ih =>
    intro n i f hi hn
    obtain ⟨n, rfl⟩ : ∃ q, n = q + 1 := ⟨n - 1, by omega⟩
    rw [f_Mo_clear_L7, if_neg (show ¬ (15 : Int32) ≤ nI i from fun h => by have := (mn_le (a := 15) (by omega) (by omega)).mp h; omega), if_neg (mn_ck (by omega) (by omega)), mn_cl (by omega), mn_s, ih n (i + 1) _ (by omega) (by omega), fl_step (by omega)]
-- rules for the indices of loops
theorem mq_n0 {a : Nat} (ha : a < 1000) : (nI a < 0) = False := eq_false (mn_n0 ha)
theorem mq_1 (a : Nat) : nI a + 1 = nI (a + 1) := mn_s a
theorem mq_le {a b : Nat} (ha : a < 1000) (hb : b < 1000) : (nI a ≤ nI b) = (a ≤ b) := propext (mn_le ha hb)
theorem mq_lt {a b : Nat} (ha : a < 1000) (hb : b < 1000) : (nI a < nI b) = (a < b) := propext (mn_lti ha hb)
theorem mq_eq {a b : Nat} (ha : a < 1000) (hb : b < 1000) : (nI a = nI b) = (a = b) := propext (mn_eq ha hb)
theorem mq_l4 {b : Nat} (hb : b < 1000) : ((4 : Int32) ≤ nI b) = (4 ≤ b) := mq_le (a := 4) (by decide) hb
theorem mq_l6 {b : Nat} (hb : b < 1000) : ((6 : Int32) ≤ nI b) = (6 ≤ b) := mq_le (a := 6) (by decide) hb
theorem mq_l15 {b : Nat} (hb : b < 1000) : ((15 : Int32) ≤ nI b) = (15 ≤ b) := mq_le (a := 15) (by decide) hb
theorem mq_l21 {b : Nat} (hb : b < 1000) : ((21 : Int32) ≤ nI b) = (21 ≤ b) := mq_le (a := 21) (by decide) hb
theorem mq_l36 {b : Nat} (hb : b < 1000) : ((36 : Int32) ≤ nI b) = (36 ≤ b) := mq_le (a := 36) (by decide) hb
theorem mq_m1 {a : Nat} (ha : a < 1000) : (nI a = -1) = False := eq_false (fun h => by
  have := mn_n0 ha
  rw [h] at this
  exact this (by decide))
theorem mq_no {a N : Nat} (h : a < N) : (N ≤ a) = False := eq_false (by omega)
theorem mq_yes {a N : Nat} (h : N ≤ a) : (N ≤ a) = True := eq_true h
theorem mq_0 : (0 : Int32) = nI 0 := rfl
theorem mq_6 (i j : Nat) : (6 * nI i) + nI j = nI (6 * i + j) := by
  rw [show (6 : Int32) = nI 6 from rfl]
  simp only [nI, ← Int32.ofNat_mul, ← Int32.ofNat_add]
theorem mq_6' (i j : Nat) : (nI i * 6) + nI j = nI (6 * i + j) := by
  rw [Int32.mul_comm]; exact mq_6 i j
theorem mq_6'' (i : Nat) : (nI i * 6) = nI (6 * i) := by
  rw [Int32.mul_comm, show (6 : Int32) = nI 6 from rfl]
  simp only [nI, ← Int32.ofNat_mul]
theorem mq_add (i j : Nat) : nI i + nI j = nI (i + j) := by
  simp only [nI, ← Int32.ofNat_add]
theorem up_eq {f : Nat → Int32} {i : Nat} {v : Int32} : upd f i v i = v := by simp [upd]
theorem up_ne {f : Nat → Int32} {i j : Nat} {v : Int32} (h : ¬ j = i) : upd f i v j = f j := by simp [upd, h]
