-- MATHEMATICS 13: the squares that are there
theorem ml_keep15 {mA mB : Nat → Int64} : ∀ (d n i : Nat) (x y : Nat → Int64), i + d = 36 → d < n → (∀ c, c < i → x c = mA c ∧ y c = mB c) → ∃ x' y' : Nat → Int64, (∀ c, c < 36 → x' c = mA c ∧ y' c = mB c) ∧ ∀ K, f_Mo_keep_L15 mA mB n (nI i) x y K = K x' y' := by
  intro d
  induction d with
  | zero =>
    intro n i x y hk hn h
    obtain ⟨n, rfl⟩ : ∃ q, n = q + 1 := ⟨n - 1, by omega⟩
    have e : i = 36 := by omega
    subst e
    refine ⟨x, y, h, fun K => ?_⟩
    simp (disch := omega) only [f_Mo_keep_L15, mq_l36, Nat.le_refl, ↓reduceIte]
  | succ d ih =>
    intro n i x y hk hn h
    obtain ⟨n, rfl⟩ : ∃ q, n = q + 1 := ⟨n - 1, by omega⟩
    obtain ⟨x', y', h1, h2⟩ := ih n (i + 1) (vp_updL x i (mA i)) (vp_updL y i (mB i)) (by omega) (by omega) (fun c hc => by
      by_cases e : c = i
      · subst e; exact ⟨uL_eq, uL_eq⟩
      · rw [uL_ne e, uL_ne e]; exact h c (by omega))
    refine ⟨x', y', h1, fun K => ?_⟩
    rw [← h2 K]
    simp (disch := omega) only [f_Mo_keep_L15, mq_l36, mq_n0, mn_cl, mq_no, false_or, ↓reduceIte, mq_1]
theorem mq_a36 (b : Nat) : (36 : Int32) + nI b = nI (36 + b) := mq_add 36 b
theorem ml_keep53 {mA mB : Nat → Int64} : ∀ (d n i : Nat) (x y : Nat → Int64), i + d = 6 → d < n → (∀ c, c < i → x c = mA (36 + c) ∧ y c = mB (36 + c)) → ∃ x' y' : Nat → Int64, (∀ c, c < 6 → x' c = mA (36 + c) ∧ y' c = mB (36 + c)) ∧ ∀ K, f_Mo_keep_L53 mA mB n (nI i) x y K = K x' y' := by
  intro d
  induction d with
  | zero =>
    intro n i x y hk hn h
    obtain ⟨n, rfl⟩ : ∃ q, n = q + 1 := ⟨n - 1, by omega⟩
    have e : i = 6 := by omega
    subst e
    refine ⟨x, y, h, fun K => ?_⟩
    simp (disch := omega) only [f_Mo_keep_L53, mq_l6, Nat.le_refl, ↓reduceIte]
  | succ d ih =>
    intro n i x y hk hn h
    obtain ⟨n, rfl⟩ : ∃ q, n = q + 1 := ⟨n - 1, by omega⟩
    obtain ⟨x', y', h1, h2⟩ := ih n (i + 1) (vp_updL x i (mA (36 + i))) (vp_updL y i (mB (36 + i))) (by omega) (by omega) (fun c hc => by
      by_cases e : c = i
      · subst e; exact ⟨uL_eq, uL_eq⟩
      · rw [uL_ne e, uL_ne e]; exact h c (by omega))
    refine ⟨x', y', h1, fun K => ?_⟩
    rw [← h2 K]
    simp (disch := omega) only [f_Mo_keep_L53, mq_l6, mq_a36, mq_n0, mn_cl, mq_no, false_or, ↓reduceIte, mq_1]
/-- what the reference keeps of the squares -/
def KP (T : Nat → Nat → Int64) (s : Nat) (wA wB rA rB : Nat → Int64) : Prop := ∀ j, j < s → ¬ (SA T j).1 j j = 0 →
  wA (SQ T j) = (SA T j).1 j j / dv ((SA T j).1 j j) (2 * (SA T j).2) ∧ wB (SQ T j) = (2 * (SA T j).2) / dv ((SA T j).1 j j) (2 * (SA T j).2) ∧
  ∀ c, c < s → rA (6 * SQ T j + c) = (if j ≤ c then (SA T j).1 j c else 0) / dv (if j ≤ c then (SA T j).1 j c else 0) ((SA T j).1 j j) ∧ rB (6 * SQ T j + c) = (SA T j).1 j j / dv (if j ≤ c then (SA T j).1 j c else 0) ((SA T j).1 j j)
theorem me_keep {T : Nat → Nat → Int64} {s : Nat} (hs : s ≤ 6) {mA mB : Nat → Int64} (h : MK T s s mA mB) (z : Int32) (wA wB rA rB : Nat → Int64) : ∃ wA' wB' rA' rB', KP T s wA' wB' rA' rB' ∧ f_Mo_keep z wA wB rA rB mA mB = some (1, z, wA', wB', rA', rB') := by
  obtain ⟨rA', rB', a1, a2⟩ := ml_keep15 (mA := mA) (mB := mB) 36 40 0 rA rB (by omega) (by omega) (fun c hc => by omega)
  obtain ⟨wA', wB', b1, b2⟩ := ml_keep53 (mA := mA) (mB := mB) 6 40 0 wA wB (by omega) (by omega) (fun c hc => by omega)
  refine ⟨wA', wB', rA', rB', fun j hj h0 => ?_, ?_⟩
  · have hq := SQ_le (T := T) j
    obtain ⟨c1, c2, c3⟩ := h j hj h0
    obtain ⟨e1, e2⟩ := b1 (SQ T j) (by omega)
    refine ⟨by rw [e1, c1], by rw [e2, c2], fun c hc => ?_⟩
    obtain ⟨f1, f2⟩ := a1 (6 * SQ T j + c) (by omega)
    rw [f1, f2]
    exact c3 c hc
  · rw [f_Mo_keep]
    exact (a2 _).trans (b2 _)
theorem SQ_hit {T : Nat → Nat → Int64} : ∀ s z, z < SQ T s → ∃ j, j < s ∧ ¬ (SA T j).1 j j = 0 ∧ SQ T j = z := by
  intro s
  induction s with
  | zero => intro z h; rw [SQ] at h; omega
  | succ s ih =>
    intro z h
    rw [SQ] at h
    split at h
    · obtain ⟨j, h1, h2, h3⟩ := ih z h
      exact ⟨j, by omega, h2, h3⟩
    · rename_i h0
      by_cases e : z = SQ T s
      · exact ⟨s, by omega, h0, e.symm⟩
      · obtain ⟨j, h1, h2, h3⟩ := ih z (by omega)
        exact ⟨j, by omega, h2, h3⟩
theorem SA_before {T : Nat → Nat → Int64} : ∀ i, (SQ T i = 0 ∧ (SA T i).2 = 1) ∨ ∃ j, j < i ∧ ¬ (SA T j).1 j j = 0 ∧ SQ T i = SQ T j + 1 ∧ (SA T i).2 = (SA T j).1 j j := by
  intro i
  induction i with
  | zero => exact Or.inl ⟨rfl, rfl⟩
  | succ i ih =>
    by_cases h0 : (SA T i).1 i i = 0
    · rw [SA, SQ, if_pos h0, if_pos h0]
      rcases ih with h | ⟨j, h1, h2⟩
      · exact Or.inl h
      · exact Or.inr ⟨j, by omega, h2⟩
    · rw [SA, SQ, if_neg h0, if_neg h0]
      exact Or.inr ⟨i, by omega, h0, rfl, rfl⟩
/-- the squares that are there, on both sides -/
def SR (s : Nat) (th sz : Int32) (l : Nat → Int64) (q : Nat → Int32) (isT sqs : Int32) (wA wB rA rB : Nat → Int64) : Prop :=
  th = isT ∧ (th = 0 ∨ (th = 1 ∧ ∃ T : Nat → Nat → Int64, (∀ a c, a ≤ c → c < s → (T a c).toInt.natAbs ≤ 30) ∧ good T s ∧ UT s (SA T s).1 l ∧ QM T s q ∧ sz = nI (SQ T s) ∧ sqs = nI (SQ T s) ∧ KP T s wA wB rA rB))
theorem me_pivot {T : Nat → Nat → Int64} {s j : Nat} {l : Nat → Int64} {q : Nat → Int32} (hs : s ≤ 6) (hj : j < s) (h0 : ¬ (SA T j).1 j j = 0) (hl : UT s (SA T s).1 l) (hq : QM T s q) : f_Steps_pivot (nI (SQ T j)) l q = some ((SA T j).1 j j) := by
  have hz := SQ_le (T := T) j
  simp (disch := omega) only [f_Steps_pivot, mq_n0, mn_cl, mq_no, false_or, ↓reduceIte, hq j hj h0]
  rw [l_cell j j (by omega) (by omega), Option.bind_some]
  simp (disch := omega) only [mq_n0, mn_cl, mq_no, false_or, ↓reduceIte]
  rw [hl j j (by omega) hj, SA_row' (by omega)]
theorem two_pos {b : Int64} (h1 : 0 < b.toInt) (h2 : b.toInt ≤ 2 ^ 61) : 0 < 2 * b := by
  rw [Int64.lt_iff_toInt_lt, Int64.toInt_mul]
  have e : (2 : Int64).toInt = 2 := rfl
  have z : (0 : Int64).toInt = 0 := rfl
  rw [e, z, Int.bmod_eq_of_le_mul_two] <;> omega
theorem piv_pos {T : Nat → Nat → Int64} {s j : Nat} (hj : j < s) (hg : good T s) (h0 : ¬ (SA T j).1 j j = 0) : 0 < ((SA T j).1 j j).toInt := by
  have h1 := Int64.le_iff_toInt_le.mp (hg j hj).1
  have h2 := l_z h0
  have z : (0 : Int64).toInt = 0 := rfl
  omega
theorem me_weight {T : Nat → Nat → Int64} {s j : Nat} {l : Nat → Int64} {q : Nat → Int32} (hs : s ≤ 6) (hj : j < s) (h0 : ¬ (SA T j).1 j j = 0) (hl : UT s (SA T s).1 l) (hq : QM T s q) (hg : good T s) (hT : ∀ a c, a ≤ c → c < s → (T a c).toInt.natAbs ≤ 30) (p : Int32) :
    f_Steps_weightAbove (nI (SQ T j)) l q = some ((SA T j).1 j j) ∧ f_Steps_weightBelow (nI (SQ T j)) l q = some (2 * (SA T j).2) ∧
    f_Sq_partOf ((SA T j).1 j j) (2 * (SA T j).2) p = some (if p = 0 then (SA T j).1 j j / dv ((SA T j).1 j j) (2 * (SA T j).2) else (2 * (SA T j).2) / dv ((SA T j).1 j j) (2 * (SA T j).2)) := by
  have hz := SQ_le (T := T) j
  have hw := piv_pos hj hg h0
  refine ⟨?_, ?_, ?_⟩
  · rw [f_Steps_weightAbove, me_pivot hs hj h0 hl hq, Option.bind_some]
  · rw [f_Steps_weightBelow]
    rcases SA_before (T := T) j with ⟨a1, a2⟩ | ⟨i, a1, a2, a3, a4⟩
    · rw [a1, a2, if_pos (show nI 0 = 0 from rfl)]
    · rw [if_neg (show ¬ nI (SQ T j) = 0 from fun h => by have := (mn_eq (b := 0) (by omega) (by omega)).mp h; omega), a3, show nI (SQ T i + 1) - 1 = nI (SQ T i) by rw [← mq_1]; grind, me_pivot hs (by omega) a2 hl hq, Option.bind_some, a4]
  · apply me_partOf
    · omega
    · rcases SA_before (T := T) j with ⟨a1, a2⟩ | ⟨i, a1, a2, a3, a4⟩
      · rw [a2]; decide
      · rw [a4]
        have := me_small hT (i := i) (by omega) (by omega) (fun k hk => hg k (by omega)) i i (by omega) (by omega) (by omega)
        have := piv_pos (by omega) hg a2
        exact two_pos (by omega) (by omega)
theorem me_row {T : Nat → Nat → Int64} {s j c : Nat} {l : Nat → Int64} {q : Nat → Int32} (hs : s ≤ 6) (hj : j < s) (hc : c < s) (h0 : ¬ (SA T j).1 j j = 0) (hl : UT s (SA T s).1 l) (hq : QM T s q) (hg : good T s) (hT : ∀ a c, a ≤ c → c < s → (T a c).toInt.natAbs ≤ 30) (p : Int32) :
    f_Steps_rowAbove (nI (SQ T j)) (nI c) l q = some (if j ≤ c then (SA T j).1 j c else 0) ∧ f_Steps_rowBelow (nI (SQ T j)) l q = some ((SA T j).1 j j) ∧
    f_Sq_partOf (if j ≤ c then (SA T j).1 j c else 0) ((SA T j).1 j j) p = some (if p = 0 then (if j ≤ c then (SA T j).1 j c else 0) / dv (if j ≤ c then (SA T j).1 j c else 0) ((SA T j).1 j j) else ((SA T j).1 j j) / dv (if j ≤ c then (SA T j).1 j c else 0) ((SA T j).1 j j)) := by
  have hz := SQ_le (T := T) j
  have hw := piv_pos hj hg h0
  refine ⟨?_, ?_, ?_⟩
  · simp (disch := omega) only [f_Steps_rowAbove, mq_n0, mn_cl, mq_no, false_or, ↓reduceIte, hq j hj h0, mq_le]
    by_cases e : j ≤ c
    · simp only [if_pos e]
      rw [l_cell j c e (by omega), Option.bind_some]
      simp (disch := omega) only [mq_n0, mn_cl, mq_no, false_or, ↓reduceIte]
      rw [hl j c e hc, SA_row' (by omega)]
    · simp only [if_neg e]
  · rw [f_Steps_rowBelow, me_pivot hs hj h0 hl hq, Option.bind_some]
  · apply me_partOf
    · by_cases e : j ≤ c
      · rw [if_pos e]
        by_cases e5 : j ≤ 4
        · have := me_small hT (i := j) e5 hj (fun k hk => hg k (by omega)) j c (by omega) e hc
          omega
        · have : c = j := by omega
          rw [this]; omega
      · rw [if_neg e]; decide
    · exact Int64.lt_iff_toInt_lt.mpr hw
theorem good_agree {T T' : Nat → Nat → Int64} {s : Nat} (h : ∀ a c, a ≤ c → c < s → T a c = T' a c) (hg : good T s) : good T' s := by
  intro i hi
  have hA := SA_agree (w := s - 1) (fun a c hac hc => h a c hac (by omega)) i (by omega)
  obtain ⟨h1, h2⟩ := hg i hi
  have e := hA.1 i i (by omega) (by omega)
  refine ⟨by rw [← e]; exact h1, fun h0 j hj hjs => ?_⟩
  rw [← hA.1 i j (by omega) (by omega)]
  exact h2 (by rw [e]; exact h0) j hj hjs
theorem SQ_agree {T T' : Nat → Nat → Int64} {s : Nat} (h : ∀ a c, a ≤ c → c < s → T a c = T' a c) : ∀ i, i ≤ s → SQ T i = SQ T' i := by
  intro i
  induction i with
  | zero => intro _; rfl
  | succ i ih =>
    intro hi
    have hA := SA_agree (w := s - 1) (fun a c hac hc => h a c hac (by omega)) i (by omega)
    rw [SQ, SQ, hA.1 i i (by omega) (by omega), ih (by omega)]
theorem KP_agree {T T' : Nat → Nat → Int64} {s : Nat} (h : ∀ a c, a ≤ c → c < s → T a c = T' a c) {wA wB rA rB : Nat → Int64} (hk : KP T s wA wB rA rB) : KP T' s wA wB rA rB := by
  intro j hj h0
  have hA := SA_agree (w := s - 1) (fun a c hac hc => h a c hac (by omega)) j (by omega)
  have e := hA.1 j j (by omega) (by omega)
  rw [← e] at h0
  have := hk j hj h0
  rw [← e, ← hA.2, ← SQ_agree h j (by omega)]
  refine ⟨this.1, this.2.1, fun c hc => ?_⟩
  have := this.2.2 c hc
  by_cases e2 : j ≤ c
  · rw [if_pos e2] at this ⊢
    rw [← hA.1 j c e2 (by omega)]
    exact this
  · rw [if_neg e2] at this ⊢
    exact this
