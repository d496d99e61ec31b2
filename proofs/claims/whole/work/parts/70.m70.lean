-- MATHEMATICS 10: greatest common divisors, what is told of a square
theorem l_bm (x t y : Int) (n : Nat) : (x - t.bmod n * y).bmod n = (x - t * y).bmod n := by
  rw [← Int.sub_bmod_bmod, Int.bmod_mul_bmod, Int.sub_bmod_bmod]
theorem l_rem (a b : Int64) : (a - a / b * b).toInt = a.toInt.tmod b.toInt := by
  have h1 := Int64.toInt_lt a
  have h2 := Int64.le_toInt a
  rw [Int64.toInt_sub, Int64.toInt_mul, Int64.toInt_div, Int.sub_bmod_bmod, l_bm, Int.mul_comm, ← Int.tmod_def]
  have h3 : (a.toInt.tmod b.toInt).natAbs = a.toInt.natAbs % b.toInt.natAbs := Int.natAbs_tmod _ _
  have h4 := Nat.mod_le a.toInt.natAbs b.toInt.natAbs
  by_cases h5 : a.toInt.tmod b.toInt = 2 ^ 63
  · exfalso
    have h6 : 0 ≤ a.toInt ∨ a.toInt < 0 := by omega
    rcases h6 with h6 | h6
    · omega
    · have := Int.tmod_nonneg (a := -a.toInt) b.toInt (by omega)
      rw [Int.neg_tmod] at this
      omega
  · apply Int.bmod_eq_of_le_mul_two <;> omega
/-- Euclid's rounds, n at most -/
def EU : Nat → Int64 → Int64 → Int64
  | 0, _, a => a
  | n + 1, b, a => if b = 0 then a else EU n (a - a / b * b) b
def fbp : Nat → Nat × Nat
  | 0 => (0, 1)
  | n + 1 => ((fbp n).2, (fbp n).1 + (fbp n).2)
theorem fb_big : 2 ^ 63 < (fbp 99).2 := by decide +kernel
theorem l_z {b : Int64} (h : ¬ b = 0) : ¬ b.toInt = 0 := fun e => h (Int64.toInt_inj.mp (by rw [e]; rfl))
theorem l28s (n : Nat) (b a : Int64) (k : Int64 → Option Int64) : f_Mo_divisor_L28 (n + 1) b a k = if b = 0 then k a else f_Mo_divisor_L28 n (a - a / b * b) b k := by
  simp only [f_Mo_divisor_L28, cx_eq]
  by_cases hb : b = 0
  · rw [if_pos hb, if_pos hb]
  · rw [if_neg hb, if_neg hb, if_neg hb]
theorem EU_end : ∀ (n N : Nat) (a b : Int64), b.toInt.natAbs < a.toInt.natAbs ∨ b = 0 → (a.toInt.natAbs < (fbp n).2 ∨ b.toInt.natAbs < (fbp n).1) → n < N → ∀ k, f_Mo_divisor_L28 N b a k = k (EU n b a) := by
  intro n
  induction n with
  | zero =>
    intro N a b h1 h2 hN k
    obtain ⟨N, rfl⟩ : ∃ q, N = q + 1 := ⟨N - 1, by omega⟩
    simp only [fbp] at h2
    have hb : b = 0 := by
      rcases h1 with h1 | h1
      · omega
      · exact h1
    rw [l28s, if_pos hb, EU]
  | succ n ih =>
    intro N a b h1 h2 hN k
    obtain ⟨N, rfl⟩ : ∃ q, N = q + 1 := ⟨N - 1, by omega⟩
    rw [l28s, EU]
    by_cases hb : b = 0
    · rw [if_pos hb, if_pos hb]
    · rw [if_neg hb, if_neg hb]
      have hr := l_rem a b
      have h3 : (a.toInt.tmod b.toInt).natAbs = a.toInt.natAbs % b.toInt.natAbs := Int.natAbs_tmod _ _
      have hb' := l_z hb
      have h4 := Nat.mod_lt a.toInt.natAbs (y := b.toInt.natAbs) (by omega)
      apply ih N b _ (Or.inl (by rw [hr]; omega)) _ (by omega)
      rw [hr, h3]
      simp only [fbp] at h2
      rcases h1 with h1 | h1
      · have h5 := Nat.mod_add_div a.toInt.natAbs b.toInt.natAbs
        have h6 : 0 < a.toInt.natAbs / b.toInt.natAbs := Nat.div_pos (by omega) (by omega)
        have h7 : b.toInt.natAbs * 1 ≤ b.toInt.natAbs * (a.toInt.natAbs / b.toInt.natAbs) := Nat.mul_le_mul_left _ h6
        omega
      · exact absurd h1 hb
theorem EU_all (a b : Int64) (k : Int64 → Option Int64) : f_Mo_divisor_L28 200 b a k = k (EU 100 b a) := by
  rw [l28s, EU]
  by_cases hb : b = 0
  · rw [if_pos hb, if_pos hb]
  · rw [if_neg hb, if_neg hb]
    have hr := l_rem a b
    have h3 : (a.toInt.tmod b.toInt).natAbs = a.toInt.natAbs % b.toInt.natAbs := Int.natAbs_tmod _ _
    have hb' := l_z hb
    have h4 := Nat.mod_lt a.toInt.natAbs (y := b.toInt.natAbs) (by omega)
    have h1 := Int64.toInt_lt b
    have h2 := Int64.le_toInt b
    have h5 := fb_big
    exact EU_end 99 199 b _ (Or.inl (by rw [hr]; omega)) (Or.inl (by omega)) (by omega) k
theorem EU_ne : ∀ (n : Nat) (a b : Int64), (¬ a = 0 ∨ (¬ b = 0 ∧ 0 < n)) → ¬ EU n b a = 0 := by
  intro n
  induction n with
  | zero =>
    intro a b h
    rw [EU]
    rcases h with h | h
    · exact h
    · omega
  | succ n ih =>
    intro a b h
    rw [EU]
    by_cases hb : b = 0
    · rw [if_pos hb]
      rcases h with h | h
      · exact h
      · exact absurd hb h.1
    · rw [if_neg hb]
      exact ih b _ (Or.inl hb)
theorem EU_pos : ∀ (n : Nat) (a b : Int64), 0 ≤ a.toInt → 0 ≤ b.toInt → 0 ≤ (EU n b a).toInt := by
  intro n
  induction n with
  | zero => intro a b ha hb; rw [EU]; exact ha
  | succ n ih =>
    intro a b ha hb
    rw [EU]
    by_cases h : b = 0
    · rw [if_pos h]; exact ha
    · rw [if_neg h]
      apply ih _ _ hb
      rw [l_rem]
      exact Int.tmod_nonneg _ ha
def ab (x : Int64) : Int64 := if 0 ≤ x then x else -x
def dv (x y : Int64) : Int64 := EU 100 (ab y) (ab x)
theorem ab_ne {x : Int64} (h : ¬ x = 0) : ¬ ab x = 0 := by
  unfold ab
  split
  · exact h
  · intro e
    apply h
    have : - -x = 0 := by rw [e]; rfl
    rwa [Int64.neg_neg] at this
theorem dv_ne {x y : Int64} (h : ¬ x = 0 ∨ ¬ y = 0) : ¬ dv x y = 0 := by
  apply EU_ne
  rcases h with h | h
  · exact Or.inl (ab_ne h)
  · exact Or.inr ⟨ab_ne h, by omega⟩
theorem me_div (x y : Int64) : f_Mo_divisor x y = some (dv x y) := by
  unfold f_Mo_divisor ct_jn dv ab
  simp only [cx_ge, EU_all]
  by_cases h1 : 0 ≤ x
  · by_cases h2 : 0 ≤ y
    · simp only [if_pos h1, if_pos h2]
    · simp only [if_pos h1, if_neg h2]
  · by_cases h2 : 0 ≤ y
    · simp only [if_neg h1, if_pos h2]
    · simp only [if_neg h1, if_neg h2]
theorem me_tell {x y : Int64} {at' : Nat} (h : ¬ x = 0 ∨ ¬ y = 0) (ha : at' < 42) (mA mB : Nat → Int64) : f_Mo_tell (nI at') x y mA mB = some (vp_updL mA at' (x / dv x y), vp_updL mB at' (y / dv x y)) := by
  unfold f_Mo_tell
  rw [me_div, Option.bind_some]
  simp (disch := omega) only [if_neg (dv_ne h), mq_n0, mn_cl, mq_no, false_or, ↓reduceIte]
theorem ml_cd : ∀ (d n i : Nat) (b a : Int64), i + d = 100 → d < n → ∀ k, f_Sq_commonDivisor_L9 n (nI i) b a k = k (EU d b a) := by
  intro d
  induction d with
  | zero =>
    intro n i b a hi hn k
    obtain ⟨n, rfl⟩ : ∃ q, n = q + 1 := ⟨n - 1, by omega⟩
    have e : i = 100 := by omega
    subst e
    rw [f_Sq_commonDivisor_L9, if_pos (show (100 : Int32) ≤ nI 100 by decide), EU]
  | succ d ih =>
    intro n i b a hi hn k
    obtain ⟨n, rfl⟩ : ∃ q, n = q + 1 := ⟨n - 1, by omega⟩
    rw [f_Sq_commonDivisor_L9, if_neg (show ¬ (100 : Int32) ≤ nI i from fun h => by have := (mn_le (a := 100) (by omega) (by omega)).mp h; omega), EU]
    simp only [cx_eq]
    by_cases hb : b = 0
    · rw [if_pos hb, if_pos hb]
    · rw [if_neg hb, if_neg hb, if_neg hb, mq_1]
      exact ih n (i + 1) _ _ (by omega) (by omega) k
theorem me_cd (a b : Int64) : f_Sq_commonDivisor a b = some (if 1 < EU 100 b a then EU 100 b a else 1) := by
  unfold f_Sq_commonDivisor
  exact ml_cd 100 101 0 b a (by omega) (by omega) _
/-- a part of a fraction, as the class tells it -/
theorem me_partOf {x y : Int64} (hx : ¬ x.toInt = -2 ^ 63) (hy : 0 < y) (p : Int32) : f_Sq_partOf x y p = some (if p = 0 then x / dv x y else y / dv x y) := by
  have hy' := Int64.lt_iff_toInt_lt.mp hy
  have z : (0 : Int64).toInt = 0 := rfl
  have hy0 : ¬ y = 0 := fun e => by rw [e] at hy'; omega
  have e1 : (if 0 < x then x else -x) = ab x := by
    unfold ab
    by_cases h : 0 < x
    · rw [if_pos h, if_pos (Int64.le_of_lt h)]
    · rw [if_neg h]
      by_cases h2 : 0 ≤ x
      · rw [if_pos h2]
        have : x = 0 := by
          apply Int64.toInt_inj.mp
          rw [Int64.lt_iff_toInt_lt] at h
          rw [Int64.le_iff_toInt_le] at h2
          omega
        rw [this]; rfl
      · rw [if_neg h2]
  have e2 : ab y = y := if_pos (Int64.le_of_lt hy)
  have e3 : 0 ≤ (ab x).toInt := by
    unfold ab
    by_cases h : 0 ≤ x
    · rw [if_pos h]; exact Int64.le_iff_toInt_le.mp h
    · rw [if_neg h, Int64.toInt_neg]
      rw [Int64.le_iff_toInt_le] at h
      have h1 := Int64.le_toInt x
      rw [Int.bmod_eq_of_le_mul_two] <;> omega
  have e4 : EU 100 y (ab x) = dv x y := by unfold dv; rw [e2]
  have e5 : ¬ dv x y = 0 := dv_ne (Or.inr hy0)
  have e6 : 0 ≤ (dv x y).toInt := by rw [← e4]; exact EU_pos _ _ _ e3 (by omega)
  have e7 : (if 1 < dv x y then dv x y else 1) = dv x y := by
    by_cases h : 1 < dv x y
    · rw [if_pos h]
    · rw [if_neg h]
      apply Int64.toInt_inj.mp
      rw [Int64.lt_iff_toInt_lt] at h
      have := l_z e5
      have o : (1 : Int64).toInt = 1 := rfl
      omega
  unfold f_Sq_partOf
  rw [e1, me_cd, Option.bind_some, e4, e7, if_neg e5]
  by_cases hp : p = 0
  · rw [if_pos hp, if_pos hp]
  · rw [if_neg hp, if_neg hp, if_neg e5]
