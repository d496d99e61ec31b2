-- MATHEMATICS 2: span, members
def dI (i : Nat) : Int32 := nI i - 4
theorem dI_s {i : Nat} (h : i < 9) : dI i + 1 = dI (i + 1) := (show ∀ i : Nat, i < 9 → dI i + 1 = dI (i + 1) by decide) i h
theorem dI_end {i : Nat} (h : i < 9) : ¬ 4 < dI i := (show ∀ i : Nat, i < 9 → ¬ 4 < dI i by decide) i h
theorem dI_0 : (-4 : Int32) = dI 0 := by decide
/-- what the directions add -/
def adC (Q : Nat → Prop) (c c' : Nat → Int32) (N : Nat) : Prop := ∀ p, p < N → ((Q p → c' p = 1) ∧ (¬ Q p → c' p = c p))
theorem adC_trans {Q R S : Nat → Prop} {c c' c'' : Nat → Int32} {N : Nat} (h : adC Q c c' N) (h' : adC R c' c'' N) (e : ∀ p, S p ↔ Q p ∨ R p) : adC S c c'' N := by
  intro p hp
  refine ⟨fun hs => ?_, fun hs => ?_⟩
  · by_cases r : R p
    · exact (h' p hp).1 r
    · rw [(h' p hp).2 r]
      rcases (e p).mp hs with q | q
      · exact (h p hp).1 q
      · exact absurd q r
  · rw [(h' p hp).2 (fun r => hs ((e p).mpr (Or.inr r))), (h p hp).2 (fun q => hs ((e p).mpr (Or.inl q)))]
theorem ml_span2 (num : Nat → Int32) (u : Int32) : ∀ (d n i : Nat) (c o : Nat → Int32), i + d = 9 → d < n → ∃ c' o', (∀ k, f_Hull_span_L15 u num n (dI i) c o k = k c' o') ∧ adC (fun p => ∃ j, i ≤ j ∧ j < 9 ∧ hc num u (dI j) p) c c' 15 ∧ adC (fun m => ∃ j, i ≤ j ∧ j < 9 ∧ ho num u (dI j) (2 * dot u (dI j) m)) o o' 6 := by
  intro d
  induction d with
  | zero =>
    intro n i c o hi hn
    obtain ⟨n, rfl⟩ : ∃ q, n = q + 1 := ⟨n - 1, by omega⟩
    have e : i = 9 := by omega
    subst e
    refine ⟨c, o, fun k => by rw [f_Hull_span_L15, if_pos (by decide)], fun p _ => ⟨?_, fun _ => rfl⟩, fun p _ => ⟨?_, fun _ => rfl⟩⟩
    · rintro ⟨j, h1, h2, -⟩; omega
    · rintro ⟨j, h1, h2, -⟩; omega
  | succ d ih =>
    intro n i c o hi hn
    obtain ⟨n, rfl⟩ : ∃ q, n = q + 1 := ⟨n - 1, by omega⟩
    obtain ⟨c1, o1, e1, hC, hO⟩ := me_look num u (dI i) c o
    obtain ⟨c2, o2, e2, hC2, hO2⟩ := ih n (i + 1) c1 o1 (by omega) (by omega)
    refine ⟨c2, o2, fun k => by rw [f_Hull_span_L15, if_neg (dI_end (by omega)), e1, dI_s (by omega), Option.bind_some]; exact e2 k, ?_, ?_⟩
    · refine adC_trans (Q := fun p => hc num u (dI i) p) hC hC2 (fun p => ⟨?_, ?_⟩)
      · rintro ⟨j, h1, h2, h3⟩
        rcases Nat.eq_or_lt_of_le h1 with e | e
        · subst e; exact Or.inl h3
        · exact Or.inr ⟨j, e, h2, h3⟩
      · rintro (h | ⟨j, h1, h2, h3⟩)
        · exact ⟨i, Nat.le_refl _, by omega, h⟩
        · exact ⟨j, by omega, h2, h3⟩
    · refine adC_trans (Q := fun m => ho num u (dI i) (2 * dot u (dI i) m)) hO hO2 (fun p => ⟨?_, ?_⟩)
      · rintro ⟨j, h1, h2, h3⟩
        rcases Nat.eq_or_lt_of_le h1 with e | e
        · subst e; exact Or.inl h3
        · exact Or.inr ⟨j, e, h2, h3⟩
      · rintro (h | ⟨j, h1, h2, h3⟩)
        · exact ⟨i, Nat.le_refl _, by omega, h⟩
        · exact ⟨j, by omega, h2, h3⟩
theorem ml_span1 (num : Nat → Int32) : ∀ (d n i : Nat) (c o : Nat → Int32), i + d = 9 → d < n → ∃ c' o', (∀ k, f_Hull_span_L7 num n (dI i) c o k = k c' o') ∧ adC (fun p => ∃ a j, i ≤ a ∧ a < 9 ∧ j < 9 ∧ hc num (dI a) (dI j) p) c c' 15 ∧ adC (fun m => ∃ a j, i ≤ a ∧ a < 9 ∧ j < 9 ∧ ho num (dI a) (dI j) (2 * dot (dI a) (dI j) m)) o o' 6 := by
  intro d
  induction d with
  | zero =>
    intro n i c o hi hn
    obtain ⟨n, rfl⟩ : ∃ q, n = q + 1 := ⟨n - 1, by omega⟩
    have e : i = 9 := by omega
    subst e
    refine ⟨c, o, fun k => by rw [f_Hull_span_L7, if_pos (by decide)], fun p _ => ⟨?_, fun _ => rfl⟩, fun p _ => ⟨?_, fun _ => rfl⟩⟩
    · rintro ⟨a, j, h1, h2, -⟩; omega
    · rintro ⟨a, j, h1, h2, -⟩; omega
  | succ d ih =>
    intro n i c o hi hn
    obtain ⟨n, rfl⟩ : ∃ q, n = q + 1 := ⟨n - 1, by omega⟩
    obtain ⟨c1, o1, e1, hC, hO⟩ := ml_span2 num (dI i) 9 40 0 c o (by omega) (by omega)
    obtain ⟨c2, o2, e2, hC2, hO2⟩ := ih n (i + 1) c1 o1 (by omega) (by omega)
    refine ⟨c2, o2, fun k => by rw [f_Hull_span_L7, if_neg (dI_end (by omega)), dI_s (by omega), dI_0, e1, e2], ?_, ?_⟩
    · refine adC_trans hC hC2 (fun p => ⟨?_, ?_⟩)
      · rintro ⟨a, j, h1, h2, h3, h4⟩
        rcases Nat.eq_or_lt_of_le h1 with e | e
        · subst e; exact Or.inl ⟨j, by omega, h3, h4⟩
        · exact Or.inr ⟨a, j, e, h2, h3, h4⟩
      · rintro (⟨j, h1, h2, h3⟩ | ⟨a, j, h1, h2, h3⟩)
        · exact ⟨i, j, Nat.le_refl _, by omega, h2, h3⟩
        · exact ⟨a, j, by omega, h2, h3⟩
    · refine adC_trans hO hO2 (fun p => ⟨?_, ?_⟩)
      · rintro ⟨a, j, h1, h2, h3, h4⟩
        rcases Nat.eq_or_lt_of_le h1 with e | e
        · subst e; exact Or.inl ⟨j, by omega, h3, h4⟩
        · exact Or.inr ⟨a, j, e, h2, h3, h4⟩
      · rintro (⟨j, h1, h2, h3⟩ | ⟨a, j, h1, h2, h3⟩)
        · exact ⟨i, j, Nat.le_refl _, by omega, h2, h3⟩
        · exact ⟨a, j, by omega, h2, h3⟩
/-- p is a corner, m lies outside, as the class tells them -/
def isC (num : Nat → Int32) (p : Nat) : Prop := ∃ a j, a < 9 ∧ j < 9 ∧ hc num (dI a) (dI j) p
def isO (num : Nat → Int32) (m : Nat) : Prop := ∃ a j, a < 9 ∧ j < 9 ∧ ho num (dI a) (dI j) (2 * dot (dI a) (dI j) m)
-- members by a mask
def cnt (M : Nat) : Nat → Nat
  | 0 => 0
  | i + 1 => cnt M i + (if M.testBit i then 1 else 0)
def mlen (M : Nat) : Nat := cnt M 6
def mat (M k : Nat) : Nat := ((List.range 6).filter (fun m => M.testBit m)).getD k 0
theorem mat_cnt : ∀ M, M < 64 → ∀ m, m < 6 → M.testBit m = true → mat M (cnt M m) = m := by decide +kernel
theorem mat_in : ∀ M, M < 64 → ∀ k, k < 6 → k < mlen M → M.testBit (mat M k) = true ∧ cnt M (mat M k) = k ∧ mat M k < 6 := by decide +kernel
theorem cnt_le : ∀ M, M < 64 → ∀ m, m < 6 → cnt M m ≤ m ∧ (M.testBit m = true → cnt M m < mlen M) := by decide +kernel
theorem mlen_le : ∀ M, M < 64 → mlen M ≤ 6 := by decide +kernel
/-- the class's members are M's -/
def memC (M : Nat) (mem : Nat → Int32) : Prop := ∀ k, k < mlen M → mem k = nI (mat M k)
theorem ml_gather (M : Nat) (hM : M < 64) (o : Nat → Int32) (ho : ∀ m, m < 6 → (o m = 0 ↔ M.testBit m = true)) : ∀ (d n i : Nat) (mem : Nat → Int32), i + d = 6 → d < n → (∀ m, m < i → M.testBit m = true → mem (cnt M m) = nI m) → ∃ mem', (∀ k, f_Hull_gatherMembers_L7 o n (nI i) (nI (cnt M i)) mem k = k (nI (mlen M)) mem') ∧ ∀ m, m < 6 → M.testBit m = true → mem' (cnt M m) = nI m := by
  intro d
  induction d with
  | zero =>
    intro n i mem hi hn h
    obtain ⟨n, rfl⟩ : ∃ q, n = q + 1 := ⟨n - 1, by omega⟩
    have e : i = 6 := by omega
    subst e
    exact ⟨mem, fun k => by rw [f_Hull_gatherMembers_L7, if_pos (by decide)]; rfl, h⟩
  | succ d ih =>
    intro n i mem hi hn h
    obtain ⟨n, rfl⟩ : ∃ q, n = q + 1 := ⟨n - 1, by omega⟩
    have hc := (cnt_le M hM i (by omega)).1
    simp (disch := omega) only [f_Hull_gatherMembers_L7, mq_l6, mq_n0, mn_cl, mq_no, false_or, ↓reduceIte, mq_1]
    by_cases h0 : M.testBit i = true
    · simp only [if_pos ((ho i (by omega)).mpr h0)]
      have e : cnt M i + 1 = cnt M (i + 1) := by simp [cnt, h0]
      rw [e]
      refine ih n (i + 1) _ (by omega) (by omega) (fun m hm hb => ?_)
      by_cases hmi : m = i
      · subst hmi; exact up_eq
      · rw [up_ne]
        · exact h m (by omega) hb
        · intro e2
          have a := mat_cnt M hM m (by omega) hb
          have b := mat_cnt M hM i (by omega) h0
          rw [e2, b] at a
          exact hmi a.symm
    · simp only [if_neg (fun x => h0 ((ho i (by omega)).mp x))]
      have e : cnt M i = cnt M (i + 1) := by simp [cnt, h0]
      rw [e]
      refine ih n (i + 1) _ (by omega) (by omega) (fun m hm hb => ?_)
      by_cases hmi : m = i
      · subst hmi; exact absurd hb h0
      · exact h m (by omega) hb
/-- a mask of what holds below 6 -/
theorem mask6 (Q : Nat → Prop) : ∃ M, M < 64 ∧ ∀ m, m < 6 → (Q m ↔ M.testBit m = true) := by
  have key : ∀ b0 b1 b2 b3 b4 b5 : Bool, ∃ M, M < 64 ∧ M.testBit 0 = b0 ∧ M.testBit 1 = b1 ∧ M.testBit 2 = b2 ∧ M.testBit 3 = b3 ∧ M.testBit 4 = b4 ∧ M.testBit 5 = b5 := by
    intro b0 b1 b2 b3 b4 b5
    refine ⟨b0.toNat + 2 * b1.toNat + 4 * b2.toNat + 8 * b3.toNat + 16 * b4.toNat + 32 * b5.toNat, ?_⟩
    revert b0 b1 b2 b3 b4 b5
    decide +kernel
  classical
  obtain ⟨M, h, h0, h1, h2, h3, h4, h5⟩ := key (decide (Q 0)) (decide (Q 1)) (decide (Q 2)) (decide (Q 3)) (decide (Q 4)) (decide (Q 5))
  refine ⟨M, h, fun m hm => ?_⟩
  have : m = 0 ∨ m = 1 ∨ m = 2 ∨ m = 3 ∨ m = 4 ∨ m = 5 := by omega
  rcases this with e | e | e | e | e | e <;> subst e
  · rw [h0, decide_eq_true_iff]
  · rw [h1, decide_eq_true_iff]
  · rw [h2, decide_eq_true_iff]
  · rw [h3, decide_eq_true_iff]
  · rw [h4, decide_eq_true_iff]
  · rw [h5, decide_eq_true_iff]
theorem me_span (num c o mem : Nat → Int32) : ∃ M c' o' mem', M < 64 ∧ (∀ m, m < 6 → (isO num m ↔ ¬ M.testBit m = true)) ∧ f_Hull_span c o mem num = some (nI (mlen M), c', o', mem') ∧ memC M mem' ∧ (∀ p, p < 15 → ((isC num p → c' p = 1) ∧ (¬ isC num p → c' p = 0))) := by
  obtain ⟨M, hM, hQ⟩ := mask6 (fun m => ¬ isO num m)
  rw [f_Hull_span, me_forget]
  obtain ⟨c1, o1, e1, hC, hO⟩ := ml_span1 num 9 40 0 (fl 15 0 0 c) (fl 6 0 0 o) (by omega) (by omega)
  have hO' : ∀ m, m < 6 → (o1 m = 0 ↔ M.testBit m = true) := by
    intro m hm
    rw [← hQ m hm]
    have a := hO m hm
    have z : fl 6 0 0 o m = 0 := by simp only [fl]; rw [if_pos (by omega)]
    by_cases q : isO num m
    · obtain ⟨x, y, hx, hy, hh⟩ := q
      rw [a.1 ⟨x, y, by omega, hx, hy, hh⟩]
      exact ⟨fun h => absurd h (by decide), fun h => absurd ⟨x, y, hx, hy, hh⟩ h⟩
    · rw [a.2 (fun ⟨x, y, _, hx, hy, hh⟩ => q ⟨x, y, hx, hy, hh⟩), z]
      exact ⟨fun _ => q, fun _ => rfl⟩
  obtain ⟨mem', e2, hm2⟩ := ml_gather M hM o1 hO' 6 40 0 mem (by omega) (by omega) (fun m hm => absurd hm (by omega))
  have e2' : ∀ k, f_Hull_gatherMembers_L7 o1 40 0 0 mem k = k (nI (mlen M)) mem' := e2
  refine ⟨M, c1, o1, mem', hM, fun m hm => ?_, ?_, ?_, fun p hp => ?_⟩
  · rw [← hQ m hm]
    exact ⟨fun h h' => h' h, fun h => Classical.byContradiction h⟩
  · rw [Option.bind_some]
    dsimp only
    rw [dI_0, e1, f_Hull_gatherMembers, e2', Option.bind_some]
  · intro k hk
    obtain ⟨a, b, c⟩ := mat_in M hM k (by have := mlen_le M hM; omega) hk
    have := hm2 (mat M k) c a
    rw [b] at this
    exact this
  · have a := hC p hp
    have z : fl 15 0 0 c p = 0 := by simp only [fl]; rw [if_pos (by omega)]
    rw [z] at a
    exact ⟨fun ⟨x, y, hx, hy, hh⟩ => a.1 ⟨x, y, by omega, hx, hy, hh⟩, fun h => a.2 (fun ⟨x, y, _, hx, hy, hh⟩ => h ⟨x, y, hx, hy, hh⟩)⟩
