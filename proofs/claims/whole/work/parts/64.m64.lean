-- MATHEMATICS 4: isCovered of the model
def cl (U q : Nat) : Nat := if U = 1 then q * (q + 1) / 2 else q
def PU (U : Nat) : Nat := if U = 1 then 5 else 15
def mF (U q : Nat) : Int32 := if q < PU U then pwA (cl U q) else 0
def mS (U q : Nat) : Int32 := if q < PU U then pwB (cl U q) else 0
theorem PU_le (U : Nat) : PU U ≤ 15 := by simp only [PU]; split <;> omega
theorem mF_at {U q : Nat} (h : q < PU U) : mF U q = pwA (cl U q) := if_pos h
theorem mS_at {U q : Nat} (h : q < PU U) : mS U q = pwB (cl U q) := if_pos h
theorem tri5 : ∀ q, q < 5 → q * (q + 1) / 2 < 15 := by decide +kernel
theorem tri5m : ∀ q, q < 5 → ∀ r, r < 5 → q ≤ r → q * (q + 1) / 2 ≤ r * (r + 1) / 2 := by decide +kernel
theorem cl_lt {U q : Nat} (h : q < PU U) : cl U q < 15 := by
  simp only [PU, cl] at *
  split at h
  · rename_i e; rw [if_pos e]; exact tri5 q h
  · rename_i e; rw [if_neg e]; exact h
theorem cl_le {U q r : Nat} (h : q < PU U) (h' : r < PU U) (hl : q ≤ r) : cl U q ≤ cl U r := by
  simp only [PU, cl] at *
  split at h
  · rename_i e; rw [if_pos e] at h' ⊢; rw [if_pos e]; exact tri5m q h r h' hl
  · rename_i e; rw [if_neg e, if_neg e]; exact hl
theorem me_area {i j : Nat} (hi : i < 15) (hj : j < 15) (p q : Int32) (f s : Nat → Int32) : f_Mo_area (nI i) (nI j) p q f s = some ((((f j) - (f i)) * (q - (s i))) - (((s j) - (s i)) * (p - (f i)))) := by
  rw [f_Mo_area]
  simp (disch := omega) only [mq_n0, mn_cl, mq_no, false_or, ↓reduceIte]
theorem mc_btw {i j i' j' : Nat} (hi : i < 15) (hj : j < 15) (hi' : i' < 15) (hj' : j' < 15) (p q : Int32) {f s f' s' : Nat → Int32} (e1 : f i = f' i') (e2 : f j = f' j') (e3 : s i = s' i') (e4 : s j = s' j') : f_Mo_isBetween (nI i) (nI j) p q f s = f_Mo_isBetween (nI i') (nI j') p q f' s' := by
  simp (disch := omega) only [f_Mo_isBetween, me_area, mq_n0, mn_cl, mq_no, false_or, ↓reduceIte, e1, e2, e3, e4]
theorem mc_cov {i j k i' j' k' : Nat} (hi : i < 15) (hj : j < 15) (hk : k < 15) (hi' : i' < 15) (hj' : j' < 15) (hk' : k' < 15) (p q : Int32) {f s f' s' : Nat → Int32} (e1 : f i = f' i') (e2 : f j = f' j') (e5 : f k = f' k') (e3 : s i = s' i') (e4 : s j = s' j') (e6 : s k = s' k') : f_Mo_covers (nI i) (nI j) (nI k) p q f s = f_Mo_covers (nI i') (nI j') (nI k') p q f' s' := by
  rw [f_Mo_covers, f_Mo_covers, mc_btw hi hj hi' hj' p q e1 e2 e3 e4, mc_btw hj hk hj' hk' p q e2 e5 e4 e6, mc_btw hi hk hi' hk' p q e1 e5 e3 e6]
  simp (disch := omega) only [me_area, e1, e2, e3, e4, e5, e6]
/-- the model's own covers is the class's, one power for the other -/
theorem mc_cvs {U i j k : Nat} (hi : i < PU U) (hj : j < PU U) (hk : k < PU U) (p q : Int32) : f_Mo_covers (nI i) (nI j) (nI k) p q (mF U) (mS U) = f_Mo_covers (nI (cl U i)) (nI (cl U j)) (nI (cl U k)) p q pwA pwB := by
  have := PU_le U
  exact mc_cov (by omega) (by omega) (by omega) (cl_lt hi) (cl_lt hj) (cl_lt hk) p q (mF_at hi) (mF_at hj) (mF_at hk) (mS_at hi) (mS_at hj) (mS_at hk)
def isT (but : Int32) (num : Nat → Int32) (a : Nat) : Prop := ¬ nI a = but ∧ ¬ num a = 0
theorem me_isT {a : Nat} (ha : a < 15) (but : Int32) (num : Nat → Int32) : (isT but num a ∧ f_Mo_isTerm (nI a) but num = some 1) ∨ (¬ isT but num a ∧ f_Mo_isTerm (nI a) but num = some 0) := by
  rw [f_Mo_isTerm]
  simp (disch := omega) only [mq_n0, mn_cl, mq_no, false_or, ↓reduceIte]
  by_cases h : nI a = but
  · right; rw [if_pos h]; exact ⟨fun h' => h'.1 h, rfl⟩
  · rw [if_neg h]
    by_cases h0 : num a = 0
    · right; rw [if_pos h0]; exact ⟨fun h' => h'.2 h0, rfl⟩
    · left; rw [if_neg h0]; exact ⟨⟨h, h0⟩, rfl⟩
theorem i_10 : ¬ (1 : Int32) = 0 := by decide
theorem i_01 : ¬ (0 : Int32) = 1 := by decide
theorem ml_cov3 {f s num : Nat → Int32} {x1 x2 but : Int32} {i j : Nat} (hij : j ≤ i) (hi : i < 15) (h01 : ∀ k, k ≤ j → f_Mo_covers (nI i) (nI j) (nI k) x1 x2 f s = some 1 ∨ f_Mo_covers (nI i) (nI j) (nI k) x1 x2 f s = some 0) : ∀ (d n c : Nat) (b : Int32), c + d = j + 1 → d < n → (b = 0 ∨ b = 1) → ∃ b' : Int32, (b' = 0 ∨ b' = 1) ∧ (b' = 1 ↔ b = 1 ∨ (isT but num j ∧ ∃ k, c ≤ k ∧ k ≤ j ∧ isT but num k ∧ f_Mo_covers (nI i) (nI j) (nI k) x1 x2 f s = some 1)) ∧ ∀ k, f_Mo_isCovered_L43 (nI j) (nI i) x1 x2 but f s num n (nI c) b k = k b' := by
  intro d
  induction d with
  | zero =>
    intro n c b hc hn hb
    obtain ⟨n, rfl⟩ : ∃ q, n = q + 1 := ⟨n - 1, by omega⟩
    refine ⟨b, hb, ⟨fun h => Or.inl h, ?_⟩, fun k => by rw [f_Mo_isCovered_L43, if_pos ((mn_lti (by omega) (by omega)).mpr (by omega))]⟩
    rintro (h | ⟨-, k, h1, h2, -⟩)
    · exact h
    · omega
  | succ d ih =>
    intro n c b hc hn hb
    obtain ⟨n, rfl⟩ : ∃ q, n = q + 1 := ⟨n - 1, by omega⟩
    have hlt : ¬ nI j < nI c := fun h => by have := (mn_lti (by omega) (by omega)).mp h; omega
    simp only [f_Mo_isCovered_L43, if_neg hlt, mq_1]
    rcases me_isT (a := j) (by omega) but num with ⟨tj, ej⟩ | ⟨tj, ej⟩
    · simp only [ej, Option.bind_some, if_neg i_10]
      rcases hb with hb | hb
      · subst hb
        simp only [if_pos]
        rcases me_isT (a := c) (by omega) but num with ⟨tc, ec⟩ | ⟨tc, ec⟩
        · simp only [ec, Option.bind_some, if_neg i_10]
          rcases h01 c (by omega) with hv | hv
          · simp only [hv, Option.bind_some, if_neg i_10]
            obtain ⟨b', g1, g2, g3⟩ := ih n (c + 1) 1 (by omega) (by omega) (Or.inr rfl)
            refine ⟨b', g1, ⟨fun _ => Or.inr ⟨tj, c, by omega, by omega, tc, hv⟩, fun _ => g2.mpr (Or.inl rfl)⟩, g3⟩
          · simp only [hv, Option.bind_some, if_pos]
            obtain ⟨b', g1, g2, g3⟩ := ih n (c + 1) 0 (by omega) (by omega) (Or.inl rfl)
            refine ⟨b', g1, ⟨fun h => ?_, fun h => ?_⟩, g3⟩
            · rcases g2.mp h with h | ⟨h, k, h1, h2, h3⟩
              · exact absurd h i_01
              · exact Or.inr ⟨h, k, by omega, h2, h3⟩
            · rcases h with h | ⟨h, k, h1, h2, h3, h4⟩
              · exact absurd h i_01
              · refine g2.mpr (Or.inr ⟨h, k, ?_, h2, h3, h4⟩)
                rcases Nat.eq_or_lt_of_le h1 with e | e
                · subst e; rw [hv] at h4; exact absurd (Option.some.inj h4) i_01
                · exact e
        · simp only [ec, Option.bind_some, if_pos]
          obtain ⟨b', g1, g2, g3⟩ := ih n (c + 1) 0 (by omega) (by omega) (Or.inl rfl)
          refine ⟨b', g1, ⟨fun h => ?_, fun h => ?_⟩, g3⟩
          · rcases g2.mp h with h | ⟨h, k, h1, h2, h3⟩
            · exact absurd h i_01
            · exact Or.inr ⟨h, k, by omega, h2, h3⟩
          · rcases h with h | ⟨h, k, h1, h2, h3, h4⟩
            · exact absurd h i_01
            · refine g2.mpr (Or.inr ⟨h, k, ?_, h2, h3, h4⟩)
              rcases Nat.eq_or_lt_of_le h1 with e | e
              · subst e; exact absurd h3 tc
              · exact e
      · subst hb
        simp only [if_neg i_10]
        exact ⟨1, Or.inr rfl, ⟨fun _ => Or.inl (by trivial), fun _ => rfl⟩, fun k => rfl⟩
    · simp only [ej, Option.bind_some, if_pos]
      exact ⟨b, hb, ⟨fun h => Or.inl h, fun h => h.elim id (fun h' => absurd h'.1 tj)⟩, fun k => rfl⟩
theorem ml_cov2 {f s num : Nat → Int32} {x1 x2 but : Int32} {i : Nat} (hi : i < 15) (h01 : ∀ j k, j ≤ i → k ≤ j → f_Mo_covers (nI i) (nI j) (nI k) x1 x2 f s = some 1 ∨ f_Mo_covers (nI i) (nI j) (nI k) x1 x2 f s = some 0) : ∀ (d n c : Nat) (b : Int32), c + d = i + 1 → d < n → (b = 0 ∨ b = 1) → ∃ b' : Int32, (b' = 0 ∨ b' = 1) ∧ (b' = 1 ↔ b = 1 ∨ (isT but num i ∧ ∃ j k, c ≤ j ∧ j ≤ i ∧ k ≤ j ∧ isT but num j ∧ isT but num k ∧ f_Mo_covers (nI i) (nI j) (nI k) x1 x2 f s = some 1)) ∧ ∀ k, f_Mo_isCovered_L18 (nI i) x1 x2 but f s num n (nI c) b k = k b' := by
  intro d
  induction d with
  | zero =>
    intro n c b hc hn hb
    obtain ⟨n, rfl⟩ : ∃ q, n = q + 1 := ⟨n - 1, by omega⟩
    refine ⟨b, hb, ⟨fun h => Or.inl h, ?_⟩, fun k => by rw [f_Mo_isCovered_L18, if_pos ((mn_lti (by omega) (by omega)).mpr (by omega))]⟩
    rintro (h | ⟨-, j, k, h1, h2, -⟩)
    · exact h
    · omega
  | succ d ih =>
    intro n c b hc hn hb
    obtain ⟨n, rfl⟩ : ∃ q, n = q + 1 := ⟨n - 1, by omega⟩
    have hlt : ¬ nI i < nI c := fun h => by have := (mn_lti (by omega) (by omega)).mp h; omega
    simp only [f_Mo_isCovered_L18, if_neg hlt, mq_1]
    rcases me_isT (a := i) (by omega) but num with ⟨ti, ei⟩ | ⟨ti, ei⟩
    · simp only [ei, Option.bind_some, if_neg i_10]
      rcases hb with hb | hb
      · subst hb
        simp only [if_pos]
        obtain ⟨b1, a1, a2, a3⟩ := ml_cov3 (f := f) (s := s) (num := num) (x1 := x1) (x2 := x2) (but := but) (i := i) (j := c) (by omega) hi (fun k hk => h01 c k (by omega) hk) (c + 1) 40 0 0 (by omega) (by omega) (Or.inl rfl)
        have a3' : ∀ k, f_Mo_isCovered_L43 (nI c) (nI i) x1 x2 but f s num 40 0 0 k = k b1 := a3
        obtain ⟨b2, g1, g2, g3⟩ := ih n (c + 1) b1 (by omega) (by omega) a1
        refine ⟨b2, g1, ⟨fun h => ?_, fun h => ?_⟩, fun k => by rw [a3', g3]⟩
        · rcases g2.mp h with h | ⟨h, j, k, h1, h2, h3⟩
          · rcases a2.mp h with h | ⟨h, k, h1, h2, h3, h4⟩
            · exact absurd h i_01
            · exact Or.inr ⟨ti, c, k, Nat.le_refl _, by omega, h2, h, h3, h4⟩
          · exact Or.inr ⟨h, j, k, by omega, h2, h3⟩
        · rcases h with h | ⟨h, j, k, h1, h2, h3, h4, h5, h6⟩
          · exact absurd h i_01
          · rcases Nat.eq_or_lt_of_le h1 with e | e
            · subst e; exact g2.mpr (Or.inl (a2.mpr (Or.inr ⟨h4, k, by omega, h3, h5, h6⟩)))
            · exact g2.mpr (Or.inr ⟨h, j, k, e, h2, h3, h4, h5, h6⟩)
      · subst hb
        simp only [if_neg i_10]
        exact ⟨1, Or.inr rfl, ⟨fun _ => Or.inl (by trivial), fun _ => rfl⟩, fun k => rfl⟩
    · simp only [ei, Option.bind_some, if_pos]
      exact ⟨b, hb, ⟨fun h => Or.inl h, fun h => h.elim id (fun h' => absurd h'.1 ti)⟩, fun k => rfl⟩
theorem ml_cov1 {f s num : Nat → Int32} {x1 x2 but : Int32} {P : Nat} (hP : P ≤ 15) (h01 : ∀ i j k, i < P → j ≤ i → k ≤ j → f_Mo_covers (nI i) (nI j) (nI k) x1 x2 f s = some 1 ∨ f_Mo_covers (nI i) (nI j) (nI k) x1 x2 f s = some 0) : ∀ (d n c : Nat) (b : Int32), c + d = P → d < n → (b = 0 ∨ b = 1) → ∃ b' : Int32, (b' = 0 ∨ b' = 1) ∧ (b' = 1 ↔ b = 1 ∨ (∃ i j k, c ≤ i ∧ i < P ∧ j ≤ i ∧ k ≤ j ∧ isT but num i ∧ isT but num j ∧ isT but num k ∧ f_Mo_covers (nI i) (nI j) (nI k) x1 x2 f s = some 1)) ∧ ∀ k, f_Mo_isCovered_L6 x1 x2 but (nI P) f s num n (nI c) b k = k b' := by
  intro d
  induction d with
  | zero =>
    intro n c b hc hn hb
    obtain ⟨n, rfl⟩ : ∃ q, n = q + 1 := ⟨n - 1, by omega⟩
    refine ⟨b, hb, ⟨fun h => Or.inl h, ?_⟩, fun k => by rw [f_Mo_isCovered_L6, if_pos ((mn_le (by omega) (by omega)).mpr (by omega))]⟩
    rintro (h | ⟨i, j, k, h1, h2, -⟩)
    · exact h
    · omega
  | succ d ih =>
    intro n c b hc hn hb
    obtain ⟨n, rfl⟩ : ∃ q, n = q + 1 := ⟨n - 1, by omega⟩
    have hlt : ¬ nI P ≤ nI c := fun h => by have := (mn_le (by omega) (by omega)).mp h; omega
    simp only [f_Mo_isCovered_L6, if_neg hlt, mq_1]
    obtain ⟨b1, a1, a2, a3⟩ := ml_cov2 (f := f) (s := s) (num := num) (x1 := x1) (x2 := x2) (but := but) (i := c) (by omega) (fun j k hj hk => h01 c j k (by omega) hj hk) (c + 1) 40 0 b (by omega) (by omega) hb
    have a3' : ∀ k, f_Mo_isCovered_L18 (nI c) x1 x2 but f s num 40 0 b k = k b1 := a3
    obtain ⟨b2, g1, g2, g3⟩ := ih n (c + 1) b1 (by omega) (by omega) a1
    refine ⟨b2, g1, ⟨fun h => ?_, fun h => ?_⟩, fun k => by rw [a3', g3]⟩
    · rcases g2.mp h with h | ⟨i, j, k, h1, h2, h3⟩
      · rcases a2.mp h with h | ⟨h, j, k, h1, h2, h3, h4⟩
        · exact Or.inl h
        · exact Or.inr ⟨c, j, k, Nat.le_refl _, by omega, h2, h3, h, h4⟩
      · exact Or.inr ⟨i, j, k, by omega, h2, h3⟩
    · rcases h with h | ⟨i, j, k, h1, h2, h3, h4, h5, h6⟩
      · exact g2.mpr (Or.inl (a2.mpr (Or.inl h)))
      · rcases Nat.eq_or_lt_of_le h1 with e | e
        · subst e; exact g2.mpr (Or.inl (a2.mpr (Or.inr ⟨h5, j, k, by omega, h3, h4, h6⟩)))
        · exact g2.mpr (Or.inr ⟨i, j, k, e, h2, h3, h4, h5, h6⟩)
theorem me_cov {f s num : Nat → Int32} {x1 x2 but : Int32} {P : Nat} (hP : P ≤ 15) (h01 : ∀ i j k, i < P → j ≤ i → k ≤ j → f_Mo_covers (nI i) (nI j) (nI k) x1 x2 f s = some 1 ∨ f_Mo_covers (nI i) (nI j) (nI k) x1 x2 f s = some 0) : ∃ b : Int32, (b = 0 ∨ b = 1) ∧ (b = 1 ↔ ∃ i j k, i < P ∧ j ≤ i ∧ k ≤ j ∧ isT but num i ∧ isT but num j ∧ isT but num k ∧ f_Mo_covers (nI i) (nI j) (nI k) x1 x2 f s = some 1) ∧ f_Mo_isCovered x1 x2 but (nI P) f s num = some b := by
  obtain ⟨b, h1, h2, h3⟩ := ml_cov1 (f := f) (s := s) (num := num) (x1 := x1) (x2 := x2) (but := but) hP h01 P 40 0 0 (by omega) (by omega) (Or.inl rfl)
  have h3' : ∀ k, f_Mo_isCovered_L6 x1 x2 but (nI P) f s num 40 0 0 k = k b := h3
  refine ⟨b, h1, h2.trans ⟨fun h => ?_, fun ⟨i, j, k, h⟩ => Or.inr ⟨i, j, k, by omega, h⟩⟩, ?_⟩
  · rcases h with h | ⟨i, j, k, -, h⟩
    · exact absurd h i_01
    · exact ⟨i, j, k, h⟩
  · rw [f_Mo_isCovered, h3']
    rcases h1 with e | e <;> subst e <;> rfl
