-- MATHEMATICS 1: the hull as the class finds it
def dot (u v : Int32) (p : Nat) : Int32 := (u * pwA p) + (v * pwB p)
/-- p is the only term that lies furthest along (u, v) -/
def hc (num : Nat → Int32) (u v : Int32) (p : Nat) : Prop := ¬ num p = 0 ∧ ∀ q, q < 15 → ¬ num q = 0 → ¬ q = p → dot u v q < dot u v p
/-- the point x lies further along (u, v) than all terms -/
def ho (num : Nat → Int32) (u v : Int32) (x : Int32) : Prop := ∀ q, q < 15 → ¬ num q = 0 → dot u v q < x
theorem i_le {a b : Int32} : a ≤ b ↔ a.toInt ≤ b.toInt := Int32.le_iff_toInt_le
theorem i_lt {a b : Int32} : a < b ↔ a.toInt < b.toInt := Int32.lt_iff_toInt_lt
theorem i_inj {a b : Int32} (h : a.toInt = b.toInt) : a = b := Int32.toInt_inj.mp h
/-- what the first loop of lookAlong has found among the powers below i -/
def lk (num : Nat → Int32) (u v : Int32) (i : Nat) (al re fu : Int32) : Prop :=
  (fu = -1 ∧ al = 0 ∧ ∀ p, p < i → num p = 0) ∨
  ∃ q, q < i ∧ fu = nI q ∧ ¬ num q = 0 ∧ re = dot u v q ∧ (∀ p, p < i → ¬ num p = 0 → dot u v p ≤ re) ∧
    ((al = 1 ∧ ∀ p, p < i → ¬ num p = 0 → ¬ p = q → dot u v p < re) ∨ (al = 0 ∧ ∃ p, p < i ∧ ¬ p = q ∧ ¬ num p = 0 ∧ dot u v p = re))
theorem lk_skip {num : Nat → Int32} {u v : Int32} {i : Nat} {al re fu : Int32} (h : lk num u v i al re fu) (h0 : num i = 0) : lk num u v (i + 1) al re fu := by
  rcases h with ⟨h1, h2, h3⟩ | ⟨q, h1, h2, h3, h4, h5, h6⟩
  · refine Or.inl ⟨h1, h2, fun p hp => ?_⟩
    rcases Nat.lt_succ_iff_lt_or_eq.mp hp with h | h
    · exact h3 p h
    · rw [h]; exact h0
  · refine Or.inr ⟨q, by omega, h2, h3, h4, fun p hp hn => ?_, ?_⟩
    · rcases Nat.lt_succ_iff_lt_or_eq.mp hp with h | h
      · exact h5 p h hn
      · rw [h] at hn; exact absurd h0 hn
    · rcases h6 with ⟨a, b⟩ | ⟨a, p, b1, b2, b3, b4⟩
      · refine Or.inl ⟨a, fun p hp hn hq => ?_⟩
        rcases Nat.lt_succ_iff_lt_or_eq.mp hp with h | h
        · exact b p h hn hq
        · rw [h] at hn; exact absurd h0 hn
      · exact Or.inr ⟨a, p, by omega, b2, b3, b4⟩
theorem lk_new {num : Nat → Int32} {u v : Int32} {i : Nat} (h0 : ¬ num i = 0) (hlt : ∀ p, p < i → ¬ num p = 0 → dot u v p < dot u v i) : lk num u v (i + 1) 1 (dot u v i) (nI i) := by
  refine Or.inr ⟨i, by omega, rfl, h0, rfl, fun p hp hn => ?_, Or.inl ⟨rfl, fun p hp hn hq => ?_⟩⟩
  · rcases Nat.lt_succ_iff_lt_or_eq.mp hp with h | h
    · exact i_le.mpr (Int.le_of_lt (i_lt.mp (hlt p h hn)))
    · rw [h]; exact i_le.mpr (Int.le_refl _)
  · exact hlt p (by omega) hn
theorem lk_step {num : Nat → Int32} {u v : Int32} {i : Nat} {al re fu : Int32} (h : lk num u v i al re fu) (h0 : ¬ num i = 0) (hf : ¬ fu = -1) :
    (¬ dot u v i ≤ re → lk num u v (i + 1) 1 (dot u v i) (nI i)) ∧ (dot u v i ≤ re → dot u v i = re → lk num u v (i + 1) 0 re fu) ∧ (dot u v i ≤ re → ¬ dot u v i = re → lk num u v (i + 1) al re fu) := by
  rcases h with ⟨h1, -, -⟩ | ⟨q, h1, h2, h3, h4, h5, h6⟩
  · exact absurd h1 hf
  · refine ⟨fun hg => lk_new h0 (fun p hp hn => ?_), fun hg he => ?_, fun hg hne => ?_⟩
    · have a := i_le.mp (h5 p hp hn)
      have b : ¬ (dot u v i).toInt ≤ re.toInt := fun h => hg (i_le.mpr h)
      exact i_lt.mpr (by omega)
    · refine Or.inr ⟨q, by omega, h2, h3, h4, fun p hp hn => ?_, Or.inr ⟨rfl, i, by omega, by omega, h0, he⟩⟩
      rcases Nat.lt_succ_iff_lt_or_eq.mp hp with h | h
      · exact h5 p h hn
      · rw [h]; exact hg
    · have hlt : dot u v i < re := i_lt.mpr (by
        have a := i_le.mp hg
        have b : ¬ (dot u v i).toInt = re.toInt := fun h => hne (i_inj h)
        omega)
      refine Or.inr ⟨q, by omega, h2, h3, h4, fun p hp hn => ?_, ?_⟩
      · rcases Nat.lt_succ_iff_lt_or_eq.mp hp with h | h
        · exact h5 p h hn
        · rw [h]; exact hg
      · rcases h6 with ⟨a, b⟩ | ⟨a, p, b1, b2, b3, b4⟩
        · refine Or.inl ⟨a, fun p hp hn hq => ?_⟩
          rcases Nat.lt_succ_iff_lt_or_eq.mp hp with h | h
          · exact b p h hn hq
          · rw [h]; exact hlt
        · exact Or.inr ⟨a, p, by omega, b2, b3, b4⟩
theorem ml_look1 (num : Nat → Int32) (u v : Int32) (k : Int32 → Int32 → Int32 → Option ((Nat → Int32) × (Nat → Int32))) : ∀ (d n i : Nat) (al re fu : Int32), i + d = 15 → d < n → lk num u v i al re fu → ∃ al' re' fu', lk num u v 15 al' re' fu' ∧ f_Hull_lookAlong_L12 u v num n (nI i) al re fu k = k al' re' fu' := by
  intro d
  induction d with
  | zero =>
    intro n i al re fu hi hn h
    obtain ⟨n, rfl⟩ : ∃ q, n = q + 1 := ⟨n - 1, by omega⟩
    have e : i = 15 := by omega
    subst e
    refine ⟨al, re, fu, h, ?_⟩
    rw [f_Hull_lookAlong_L12, if_pos (show (15 : Int32) ≤ nI 15 by decide)]
  | succ d ih =>
    intro n i al re fu hi hn h
    obtain ⟨n, rfl⟩ : ∃ q, n = q + 1 := ⟨n - 1, by omega⟩
    rw [f_Hull_lookAlong_L12, if_neg (show ¬ (15 : Int32) ≤ nI i from fun h => by have := (mn_le (a := 15) (by omega) (by omega)).mp h; omega), if_neg (mn_ck (by omega) (by omega)), mn_cl (by omega), mn_s]
    by_cases h0 : num i = 0
    · rw [if_pos h0]
      exact ih n (i + 1) al re fu (by omega) (by omega) (lk_skip h h0)
    · rw [if_neg h0, if_neg (by rw [← mn_cl (a := i) (by omega)]; exact mn_ck (by rw [mn_cl (by omega)]; omega) (by omega))]
      sorry
