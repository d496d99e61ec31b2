-- MATHEMATICS 1: the hull as the class finds it
def dot (u v : Int32) (p : Nat) : Int32 := (u * pwA p) + (v * pwB p)
/-- p is the only term that lies furthest along (u, v) -/
def hc (num : Nat → Int32) (u v : Int32) (p : Nat) : Prop := ¬ num p = 0 ∧ ∀ q, q < 15 → ¬ num q = 0 → ¬ q = p → dot u v q < dot u v p
/-- the point x lies further along (u, v) than all terms -/
def ho (num : Nat → Int32) (u v : Int32) (x : Int32) : Prop := ∀ q, q < 15 → ¬ num q = 0 → dot u v q < x
theorem i_le {a b : Int32} : a ≤ b ↔ a.toInt ≤ b.toInt := Int32.le_iff_toInt_le
theorem i_lt {a b : Int32} : a < b ↔ a.toInt < b.toInt := Int32.lt_iff_toInt_lt
theorem i_inj {a b : Int32} (h : a.toInt = b.toInt) : a = b := Int32.toInt_inj.mp h
/-- what the first loop of lookAlong has found among the powers below i -/
def lk (num : Nat → Int32) (u v : Int32) (i : Nat) (al re fu : Int32) : Prop :=
  (fu = -1 ∧ al = 0 ∧ ∀ p, p < i → num p = 0) ∨
  ∃ q, q < i ∧ fu = nI q ∧ ¬ num q = 0 ∧ re = dot u v q ∧ (∀ p, p < i → ¬ num p = 0 → dot u v p ≤ re) ∧
    ((al = 1 ∧ ∀ p, p < i → ¬ num p = 0 → ¬ p = q → dot u v p < re) ∨ (al = 0 ∧ ∃ p, p < i ∧ ¬ p = q ∧ ¬ num p = 0 ∧ dot u v p = re))
theorem lk_skip {num : Nat → Int32} {u v : Int32} {i : Nat} {al re fu : Int32} (h : lk num u v i al re fu) (h0 : num i = 0) : lk num u v (i + 1) al re fu := by
  rcases h with ⟨h1, h2, h3⟩ | ⟨q, h1, h2, h3, h4, h5, h6⟩
  · refine Or.inl ⟨h1, h2, fun p hp => ?_⟩
    rcases Nat.lt_succ_iff_lt_or_eq.mp hp with h | h
    · exact h3 p h
    · rw [h]; exact h0
  · refine Or.inr ⟨q, by omega, h2, h3, h4, fun p hp hn => ?_, ?_⟩
    · rcases Nat.lt_succ_iff_lt_or_eq.mp hp with h | h
      · exact h5 p h hn
      · rw [h] at hn; exact absurd h0 hn
    · rcases h6 with ⟨a, b⟩ | ⟨a, p, b1, b2, b3, b4⟩
      · refine Or.inl ⟨a, fun p hp hn hq => ?_⟩
        rcases Nat.lt_succ_iff_lt_or_eq.mp hp with h | h
        · exact b p h hn hq
        · rw [h] at hn; exact absurd h0 hn
      · exact Or.inr ⟨a, p, by omega, b2, b3, b4⟩
theorem lk_new {num : Nat → Int32} {u v : Int32} {i : Nat} (h0 : ¬ num i = 0) (hlt : ∀ p, p < i → ¬ num p = 0 → dot u v p < dot u v i) : lk num u v (i + 1) 1 (dot u v i) (nI i) := by
  refine Or.inr ⟨i, by omega, rfl, h0, rfl, fun p hp hn => ?_, Or.inl ⟨rfl, fun p hp hn hq => ?_⟩⟩
  · rcases Nat.lt_succ_iff_lt_or_eq.mp hp with h | h
    · exact i_le.mpr (Int.le_of_lt (i_lt.mp (hlt p h hn)))
    · rw [h]; exact i_le.mpr (Int.le_refl _)
  · exact hlt p (by omega) hn
theorem lk_step {num : Nat → Int32} {u v : Int32} {i : Nat} {al re fu : Int32} (h : lk num u v i al re fu) (h0 : ¬ num i = 0) (hf : ¬ fu = -1) :
    (¬ dot u v i ≤ re → lk num u v (i + 1) 1 (dot u v i) (nI i)) ∧ (dot u v i ≤ re → dot u v i = re → lk num u v (i + 1) 0 re fu) ∧ (dot u v i ≤ re → ¬ dot u v i = re → lk num u v (i + 1) al re fu) := by
  rcases h with ⟨h1, -, -⟩ | ⟨q, h1, h2, h3, h4, h5, h6⟩
  · exact absurd h1 hf
  · refine ⟨fun hg => lk_new h0 (fun p hp hn => ?_), fun hg he => ?_, fun hg hne => ?_⟩
    · have a := i_le.mp (h5 p hp hn)
      have b : ¬ (dot u v i).toInt ≤ re.toInt := fun h => hg (i_le.mpr h)
      exact i_lt.mpr (by omega)
    · refine Or.inr ⟨q, by omega, h2, h3, h4, fun p hp hn => ?_, Or.inr ⟨rfl, i, by omega, by omega, h0, he⟩⟩
      rcases Nat.lt_succ_iff_lt_or_eq.mp hp with h | h
      · exact h5 p h hn
      · rw [h]; exact hg
    · have hlt : dot u v i < re := i_lt.mpr (by
        have a := i_le.mp hg
        have b : ¬ (dot u v i).toInt = re.toInt := fun h => hne (i_inj h)
        omega)
      refine Or.inr ⟨q, by omega, h2, h3, h4, fun p hp hn => ?_, ?_⟩
      · rcases Nat.lt_succ_iff_lt_or_eq.mp hp with h | h
        · exact h5 p h hn
        · rw [h]; exact hg
      · rcases h6 with ⟨a, b⟩ | ⟨a, p, b1, b2, b3, b4⟩
        · refine Or.inl ⟨a, fun p hp hn hq => ?_⟩
          rcases Nat.lt_succ_iff_lt_or_eq.mp hp with h | h
          · exact b p h hn hq
          · rw [h]; exact hlt
        · exact Or.inr ⟨a, p, by omega, b2, b3, b4⟩
theorem ml_look1 (num : Nat → Int32) (u v : Int32) : ∀ (d n i : Nat) (al re fu : Int32), i + d = 15 → d < n → lk num u v i al re fu → ∃ al' re' fu', lk num u v 15 al' re' fu' ∧ ∀ k, f_Hull_lookAlong_L12 u v num n (nI i) al re fu k = k al' re' fu' := by
  intro d
  induction d with
  | zero =>
    intro n i al re fu hi hn h
    obtain ⟨n, rfl⟩ : ∃ q, n = q + 1 := ⟨n - 1, by omega⟩
    have e : i = 15 := by omega
    subst e
    refine ⟨al, re, fu, h, fun k => ?_⟩
    rw [f_Hull_lookAlong_L12, if_pos (show (15 : Int32) ≤ nI 15 by decide)]
  | succ d ih =>
    intro n i al re fu hi hn h
    obtain ⟨n, rfl⟩ : ∃ q, n = q + 1 := ⟨n - 1, by omega⟩
    simp (disch := omega) only [f_Hull_lookAlong_L12, mq_l15, mq_n0, mn_cl, mq_no, false_or, ↓reduceIte, mq_1]
    by_cases h0 : num i = 0
    · simp only [if_pos h0]
      exact ih n (i + 1) al re fu (by omega) (by omega) (lk_skip h h0)
    · simp only [if_neg h0]
      by_cases hf : fu = -1
      · simp only [if_pos hf]
        refine ih n (i + 1) 1 (dot u v i) (nI i) (by omega) (by omega) (lk_new h0 ?_)
        rcases h with ⟨-, -, h3⟩ | ⟨q, h1, h2, -⟩
        · intro p hp hn
          exact absurd (h3 p hp) hn
        · rw [h2] at hf
          exact absurd hf (by rw [mq_m1 (by omega)]; exact id)
      · obtain ⟨s1, s2, s3⟩ := lk_step h h0 hf
        simp only [if_neg hf]
        by_cases hle : dot u v i ≤ re
        · simp only [if_pos (show ((u * pwA i) + (v * pwB i)) ≤ re from hle)]
          by_cases he : dot u v i = re
          · simp only [if_pos (show ((u * pwA i) + (v * pwB i)) = re from he)]
            exact ih n (i + 1) 0 re fu (by omega) (by omega) (s2 hle he)
          · simp only [if_neg (show ¬ ((u * pwA i) + (v * pwB i)) = re from he)]
            exact ih n (i + 1) al re fu (by omega) (by omega) (s3 hle he)
        · simp only [if_neg (show ¬ ((u * pwA i) + (v * pwB i)) ≤ re from hle)]
          exact ih n (i + 1) 1 (dot u v i) (nI i) (by omega) (by omega) (s1 hle)
/-- the second loop of lookAlong: outside gets 1 where (fu, re) say so -/
def lo (u v re fu : Int32) (i : Nat) (o : Nat → Int32) : Nat → Int32 := fun m => if i ≤ m ∧ m < 6 ∧ (fu = -1 ∨ re < 2 * dot u v m) then 1 else o m
theorem lo_end {u v re fu : Int32} {o : Nat → Int32} : lo u v re fu 6 o = o := by
  funext m
  simp only [lo]
  rw [if_neg (by omega)]
theorem lo_y {u v re fu : Int32} {i : Nat} {o : Nat → Int32} (h : i < 6) (hy : fu = -1 ∨ re < 2 * dot u v i) : lo u v re fu (i + 1) (upd o i 1) = lo u v re fu i o := by
  funext m
  simp only [lo, upd]
  by_cases h1 : m = i
  · subst h1
    rw [if_neg (by omega), if_pos rfl, if_pos ⟨by omega, h, hy⟩]
  · by_cases h2 : i + 1 ≤ m ∧ m < 6 ∧ (fu = -1 ∨ re < 2 * dot u v m)
    · rw [if_pos h2, if_pos ⟨by omega, h2.2⟩]
    · rw [if_neg h2, if_neg h1, if_neg (fun h3 => h2 ⟨by omega, h3.2⟩)]
theorem lo_n {u v re fu : Int32} {i : Nat} {o : Nat → Int32} (hy : ¬ (fu = -1 ∨ re < 2 * dot u v i)) : lo u v re fu (i + 1) o = lo u v re fu i o := by
  funext m
  simp only [lo]
  by_cases h2 : i + 1 ≤ m ∧ m < 6 ∧ (fu = -1 ∨ re < 2 * dot u v m)
  · rw [if_pos h2, if_pos ⟨by omega, h2.2⟩]
  · rw [if_neg h2, if_neg (fun h3 => h2 ⟨by
      rcases Nat.eq_or_lt_of_le h3.1 with h | h
      · subst h; exact absurd h3.2.2 hy
      · exact h, h3.2⟩)]
theorem i_nle {a b : Int32} : ¬ a ≤ b ↔ b < a := by
  rw [i_le, i_lt]; omega
theorem ml_look2 (u v re fu : Int32) (k : (Nat → Int32) → Option ((Nat → Int32) × (Nat → Int32))) : ∀ (d n i : Nat) (o : Nat → Int32), i + d = 6 → d < n → f_Hull_lookAlong_L107 re fu u v n (nI i) o k = k (lo u v re fu i o) := by
  intro d
  induction d with
  | zero =>
    intro n i o hi hn
    obtain ⟨n, rfl⟩ : ∃ q, n = q + 1 := ⟨n - 1, by omega⟩
    have e : i = 6 := by omega
    subst e
    rw [f_Hull_lookAlong_L107, if_pos (show (6 : Int32) ≤ nI 6 by decide), lo_end]
  | succ d ih =>
    intro n i o hi hn
    obtain ⟨n, rfl⟩ : ∃ q, n = q + 1 := ⟨n - 1, by omega⟩
    rw [f_Hull_lookAlong_L107]
    simp (disch := omega) only [mq_l6, mq_n0, mn_cl, mq_no, false_or, ↓reduceIte, mq_1, z1]
    rw [ih n (i + 1) _ (by omega) (by omega), ih n (i + 1) _ (by omega) (by omega)]
    by_cases hf : fu = -1
    · rw [if_pos hf, lo_y (by omega) (Or.inl hf)]
    · rw [if_neg hf]
      by_cases hle : 2 * dot u v i ≤ re
      · rw [if_pos (show (2 * ((u * pwA i) + (v * pwB i))) ≤ re from hle), lo_n (by
          rintro (h | h)
          · exact hf h
          · exact i_nle.mpr h hle)]
      · rw [if_neg (show ¬ (2 * ((u * pwA i) + (v * pwB i))) ≤ re from hle), lo_y (by omega) (Or.inr (i_nle.mp hle))]
theorem ml_look2' (u v re fu : Int32) (k : (Nat → Int32) → Option ((Nat → Int32) × (Nat → Int32))) (o : Nat → Int32) : f_Hull_lookAlong_L107 re fu u v 40 0 o k = k (lo u v re fu 0 o) := ml_look2 u v re fu k 6 40 0 o (by omega) (by omega)
/-- what one direction adds to the corners and to the outside -/
def addC (num : Nat → Int32) (u v : Int32) (c c' : Nat → Int32) : Prop := ∀ p, p < 15 → ((hc num u v p → c' p = 1) ∧ (¬ hc num u v p → c' p = c p))
def addO (num : Nat → Int32) (u v : Int32) (o o' : Nat → Int32) : Prop := ∀ m, m < 6 → ((ho num u v (2 * dot u v m) → o' m = 1) ∧ (¬ ho num u v (2 * dot u v m) → o' m = o m))
theorem me_look (num : Nat → Int32) (u v : Int32) (c o : Nat → Int32) : ∃ c' o', f_Hull_lookAlong u v c o num = some (c', o') ∧ addC num u v c c' ∧ addO num u v o o' := by
  rw [f_Hull_lookAlong]
  obtain ⟨al, re, fu, hl, he⟩ := ml_look1 num u v 15 40 0 0 0 (-1) (by omega) (by omega) (Or.inl ⟨rfl, rfl, fun p hp => absurd hp (by omega)⟩)
  have he' : ∀ k, f_Hull_lookAlong_L12 u v num 40 0 0 0 (-1) k = k al re fu := he
  rw [he']
  have hO : addO num u v o (lo u v re fu 0 o) := by
    intro m hm
    simp only [lo]
    have key : ho num u v (2 * dot u v m) ↔ (fu = -1 ∨ re < 2 * dot u v m) := by
      rcases hl with ⟨h1, h2, h3⟩ | ⟨q, h1, h2, h3, h4, h5, h6⟩
      · exact ⟨fun _ => Or.inl h1, fun _ p hp hn => absurd (h3 p hp) hn⟩
      · constructor
        · intro h
          right
          rw [h4]
          exact h q h1 h3
        · intro h p hp hn
          have a := i_le.mp (h5 p hp hn)
          rcases h with h | h
          · rw [h2] at h
            exact absurd h (by rw [mq_m1 (by omega)]; exact id)
          · have b := i_lt.mp h
            exact i_lt.mpr (by omega)
    constructor
    · intro h
      rw [if_pos ⟨by omega, hm, key.mp h⟩]
    · intro h
      rw [if_neg (fun h3 => h (key.mpr h3.2.2))]
  rcases hl with ⟨h1, h2, h3⟩ | ⟨q, h1, h2, h3, h4, h5, h6⟩
  · rw [h2, if_pos rfl, ml_look2']
    refine ⟨_, _, rfl, fun p hp => ⟨fun h => ?_, fun _ => rfl⟩, hO⟩
    exact absurd (h3 p hp) h.1
  · rcases h6 with ⟨a, b⟩ | ⟨a, p, b1, b2, b3, b4⟩
    · rw [a, if_neg (by decide), h2]
      simp (disch := omega) only [mq_n0, mn_cl, mq_no, false_or, ↓reduceIte, z1]
      rw [← h2, ml_look2']
      refine ⟨_, _, rfl, fun p hp => ?_, hO⟩
      have hq : hc num u v q := ⟨h3, fun r hr hn hne => by rw [← h4]; exact b r hr hn hne⟩
      by_cases e : p = q
      · subst e
        exact ⟨fun _ => up_eq, fun h => absurd hq h⟩
      · rw [up_ne e]
        refine ⟨fun h => ?_, fun _ => rfl⟩
        have x := i_lt.mp (h.2 q h1 h3 (fun e' => e e'.symm))
        have y := i_lt.mp (hq.2 p hp h.1 e)
        omega
    · rw [a, if_pos rfl, ml_look2']
      refine ⟨_, _, rfl, fun r hr => ⟨fun h => ?_, fun _ => rfl⟩, hO⟩
      exfalso
      by_cases e : r = q
      · subst e
        have x := i_lt.mp (h.2 p b1 b3 b2)
        rw [← h4, b4] at x
        omega
      · have x := i_lt.mp (h.2 q h1 h3 (fun e' => e e'.symm))
        have y := i_le.mp (h5 r hr h.1)
        rw [h4] at y
        omega
