-- MATHEMATICS 5: corners and members, class and model
/-- the numbers of both sides -/
def NR (U : Nat) (cn mn : Nat → Int32) : Prop := (∀ q, q < PU U → mn q = cn (cl U q)) ∧ (∀ p, p < 15 → ¬ cn p = 0 → ∃ q, q < PU U ∧ cl U q = p)
theorem tri5i : ∀ q, q < 5 → ∀ r, r < 5 → q * (q + 1) / 2 ≤ r * (r + 1) / 2 → q ≤ r := by decide +kernel
theorem cl_le' {U q r : Nat} (h : q < PU U) (h' : r < PU U) (hl : cl U q ≤ cl U r) : q ≤ r := by
  simp only [PU, cl] at *
  split at h
  · rename_i e; rw [if_pos e] at h'; rw [if_pos e, if_pos e] at hl; exact tri5i q h r h' hl
  · rename_i e; rw [if_neg e, if_neg e] at hl; exact hl
theorem cl_inj {U q r : Nat} (h : q < PU U) (h' : r < PU U) (hl : cl U q = cl U r) : q = r := by
  have a := cl_le' h h' (by omega)
  have b := cl_le' h' h (by omega)
  omega
/-- triples of the model and of the class -/
theorem tr_iff {U : Nat} {T S : Nat → Prop} (hT : ∀ q, q < PU U → (T q ↔ S (cl U q))) (hS : ∀ p, p < 15 → S p → ∃ q, q < PU U ∧ cl U q = p) (x1 x2 : Int32) : (∃ i j k, i < PU U ∧ j ≤ i ∧ k ≤ j ∧ T i ∧ T j ∧ T k ∧ f_Mo_covers (nI i) (nI j) (nI k) x1 x2 (mF U) (mS U) = some 1) ↔ (∃ i j k, i < 15 ∧ j ≤ i ∧ k ≤ j ∧ S i ∧ S j ∧ S k ∧ f_Mo_covers (nI i) (nI j) (nI k) x1 x2 pwA pwB = some 1) := by
  constructor
  · rintro ⟨i, j, k, h1, h2, h3, h4, h5, h6, h7⟩
    have hj : j < PU U := by omega
    have hk : k < PU U := by omega
    rw [mc_cvs h1 hj hk] at h7
    exact ⟨cl U i, cl U j, cl U k, cl_lt h1, cl_le hj h1 h2, cl_le hk hj h3, (hT i h1).mp h4, (hT j hj).mp h5, (hT k hk).mp h6, h7⟩
  · rintro ⟨i, j, k, h1, h2, h3, h4, h5, h6, h7⟩
    obtain ⟨i', a1, a2⟩ := hS i h1 h4
    obtain ⟨j', b1, b2⟩ := hS j (by omega) h5
    obtain ⟨k', c1, c2⟩ := hS k (by omega) h6
    subst a2; subst b2; subst c2
    exact ⟨i', j', k', a1, cl_le' b1 a1 h2, cl_le' c1 b1 h3, (hT i' a1).mpr h4, (hT j' b1).mpr h5, (hT k' c1).mpr h6, by rw [mc_cvs a1 b1 c1]; exact h7⟩
theorem m01_of {U : Nat} {x1 x2 : Int32} (h : ∀ i j k, i < 15 → j ≤ i → k ≤ j → f_Mo_covers (nI i) (nI j) (nI k) x1 x2 pwA pwB = some 1 ∨ f_Mo_covers (nI i) (nI j) (nI k) x1 x2 pwA pwB = some 0) : ∀ i j k, i < PU U → j ≤ i → k ≤ j → f_Mo_covers (nI i) (nI j) (nI k) x1 x2 (mF U) (mS U) = some 1 ∨ f_Mo_covers (nI i) (nI j) (nI k) x1 x2 (mF U) (mS U) = some 0 := by
  intro i j k hi hj hk
  have hj' : j < PU U := by omega
  have hk' : k < PU U := by omega
  rw [mc_cvs hi hj' hk']
  exact h _ _ _ (cl_lt hi) (cl_le hj' hi hj) (cl_le hk' hj' hk)
theorem me_corner {U : Nat} {cn mn : Nat → Int32} (hN : NR U cn mn) {q : Nat} (hq : q < PU U) : (isC cn (cl U q) ∧ f_Mo_isCorner (nI q) (nI (PU U)) (mF U) (mS U) mn = some 1) ∨ (¬ isC cn (cl U q) ∧ f_Mo_isCorner (nI q) (nI (PU U)) (mF U) (mS U) mn = some 0) := by
  have hP := PU_le U
  rw [f_Mo_isCorner]
  simp (disch := omega) only [mq_n0, mn_cl, mq_no, false_or, ↓reduceIte]
  rw [mF_at hq, mS_at hq, hN.1 q hq]
  by_cases h0 : cn (cl U q) = 0
  · right
    rw [if_pos h0]
    exact ⟨fun ⟨a, j, _, _, h⟩ => h.1 h0, rfl⟩
  · rw [if_neg h0]
    obtain ⟨b, h1, h2, h3⟩ := me_cov (f := mF U) (s := mS U) (num := mn) (x1 := pwA (cl U q)) (x2 := pwB (cl U q)) (but := nI q) hP (m01_of (fun i j k hi hj hk => cvs_01 (cl_lt hq) hi hj hk))
    rw [h3, Option.bind_some]
    have e : isC cn (cl U q) ↔ ¬ b = 1 := by
      rw [h2, tr_iff (S := fun p => ¬ p = cl U q ∧ ¬ cn p = 0) (fun r hr => ?_) (fun p hp hs => hN.2 p hp hs.2)]
      · rw [show (∃ i j k, i < 15 ∧ j ≤ i ∧ k ≤ j ∧ (¬ i = cl U q ∧ ¬ cn i = 0) ∧ (¬ j = cl U q ∧ ¬ cn j = 0) ∧ (¬ k = cl U q ∧ ¬ cn k = 0) ∧ f_Mo_covers (nI i) (nI j) (nI k) (pwA (cl U q)) (pwB (cl U q)) pwA pwB = some 1) ↔ _ from key (cl_lt hq) (fun p => ¬ p = cl U q ∧ ¬ cn p = 0)]
        constructor
        · rintro ⟨a, j, ha, hj, h⟩ h'
          exact h' ⟨a, j, ha, hj, fun r hr hs => h.2 r hr hs.2 hs.1⟩
        · intro h
          obtain ⟨a, j, ha, hj, h⟩ := Classical.not_not.mp h
          exact ⟨a, j, ha, hj, h0, fun r hr hn hne => h r hr ⟨hne, hn⟩⟩
      · simp only [isT]
        rw [hN.1 r hr, mn_eq (by omega) (by omega)]
        constructor
        · rintro ⟨a, b⟩
          exact ⟨fun e => a (cl_inj hr hq e), b⟩
        · rintro ⟨a, b⟩
          exact ⟨fun e => a (by rw [e]), b⟩
    rcases h1 with hb | hb
    · left; subst hb; exact ⟨e.mpr i_01, rfl⟩
    · right; subst hb; exact ⟨fun h => e.mp h rfl, rfl⟩
def dbl (m : Nat) : Nat := ([0, 3, 5, 10, 12, 14] : List Nat).getD m 0
theorem dbl_ok : ∀ m, m < 6 → dbl m < 15 ∧ 2 * pwA m = pwA (dbl m) ∧ 2 * pwB m = pwB (dbl m) := by decide +kernel
theorem dbl_dot : ∀ m, m < 6 → ∀ a, a < 9 → ∀ j, j < 9 → 2 * dot (dI a) (dI j) m = dot (dI a) (dI j) (dbl m) := by decide +kernel
theorem far_ok' : ∀ P, P < 9 → ∀ i, i < 15 → ∀ j, j < i + 1 → ∀ k, k < j + 1 → f_Mo_covers (nI i) (nI j) (nI k) (2 * pwA (P + 6)) (2 * pwB (P + 6)) pwA pwB = some 0 := by decide +kernel
theorem far_ok (P : Nat) (hP : P < 15) (h6 : 6 ≤ P) (i : Nat) (hi : i < 15) (j : Nat) (hj : j < i + 1) (k : Nat) (hk : k < j + 1) : f_Mo_covers (nI i) (nI j) (nI k) (2 * pwA P) (2 * pwB P) pwA pwB = some 0 := by
  have := far_ok' (P - 6) (by omega) i hi j hj k hk
  rw [Nat.sub_add_cancel h6] at this
  exact this
/-- a power of the model is a member exactly where it lies not outside -/
theorem me_mem {U : Nat} {cn mn : Nat → Int32} (hN : NR U cn mn) {q : Nat} (hq : q < PU U) : ((cl U q < 6 ∧ ¬ isO cn (cl U q)) ∧ f_Mo_isCovered (2 * mF U q) (2 * mS U q) (-1) (nI (PU U)) (mF U) (mS U) mn = some 1) ∨ (¬ (cl U q < 6 ∧ ¬ isO cn (cl U q)) ∧ f_Mo_isCovered (2 * mF U q) (2 * mS U q) (-1) (nI (PU U)) (mF U) (mS U) mn = some 0) := by
  have hP := PU_le U
  rw [mF_at hq, mS_at hq]
  have hT : ∀ r, r < PU U → (isT (-1) mn r ↔ ¬ cn (cl U r) = 0) := by
    intro r hr
    simp only [isT]
    rw [hN.1 r hr, mq_m1 (by omega)]
    exact ⟨fun h => h.2, fun h => ⟨id, h⟩⟩
  by_cases h6 : cl U q < 6
  · obtain ⟨d1, d2, d3⟩ := dbl_ok _ h6
    rw [d2, d3]
    obtain ⟨b, h1, h2, h3⟩ := me_cov (f := mF U) (s := mS U) (num := mn) (x1 := pwA (dbl (cl U q))) (x2 := pwB (dbl (cl U q))) (but := -1) hP (m01_of (fun i j k hi hj hk => cvs_01 d1 hi hj hk))
    rw [h3]
    rw [tr_iff (S := fun p => ¬ cn p = 0) hT (fun p hp hs => hN.2 p hp hs)] at h2
    rw [show (∃ i j k, i < 15 ∧ j ≤ i ∧ k ≤ j ∧ (¬ cn i = 0) ∧ (¬ cn j = 0) ∧ (¬ cn k = 0) ∧ f_Mo_covers (nI i) (nI j) (nI k) (pwA (dbl (cl U q))) (pwB (dbl (cl U q))) pwA pwB = some 1) ↔ _ from key d1 (fun p => ¬ cn p = 0)] at h2
    have e : isO cn (cl U q) ↔ ∃ a j, a < 9 ∧ j < 9 ∧ ∀ r, r < 15 → ¬ cn r = 0 → dot (dI a) (dI j) r < dot (dI a) (dI j) (dbl (cl U q)) := by
      constructor
      · rintro ⟨a, j, ha, hj, h⟩
        refine ⟨a, j, ha, hj, fun r hr hn => ?_⟩
        rw [← dbl_dot _ h6 a ha j hj]
        exact h r hr hn
      · rintro ⟨a, j, ha, hj, h⟩
        refine ⟨a, j, ha, hj, fun r hr hn => ?_⟩
        rw [dbl_dot _ h6 a ha j hj]
        exact h r hr hn
    rw [← e] at h2
    rcases h1 with hb | hb
    · right; subst hb; exact ⟨fun h => i_01 (h2.mpr h.2), rfl⟩
    · left; subst hb; exact ⟨⟨h6, h2.mp rfl⟩, rfl⟩
  · right
    refine ⟨fun h => h6 h.1, ?_⟩
    have hz : ∀ i j k, i < 15 → j ≤ i → k ≤ j → f_Mo_covers (nI i) (nI j) (nI k) (2 * pwA (cl U q)) (2 * pwB (cl U q)) pwA pwB = some 0 := fun i j k hi hj hk => far_ok _ (cl_lt hq) (by omega) i hi j (by omega) k (by omega)
    obtain ⟨b, h1, h2, h3⟩ := me_cov (f := mF U) (s := mS U) (num := mn) (x1 := 2 * pwA (cl U q)) (x2 := 2 * pwB (cl U q)) (but := -1) hP (m01_of (fun i j k hi hj hk => Or.inr (hz i j k hi hj hk)))
    rw [h3]
    rcases h1 with hb | hb
    · rw [hb]
    · exfalso
      rw [tr_iff (S := fun p => ¬ cn p = 0) hT (fun p hp hs => hN.2 p hp hs)] at h2
      obtain ⟨i, j, k, g1, g2, g3, -, -, -, g7⟩ := h2.mp hb
      rw [hz i j k g1 g2 g3] at g7
      exact i_01 (Option.some.inj g7)
/-- with one unknown the members lie on the line -/
theorem mask_U {U M : Nat} {cn mn : Nat → Int32} (hN : NR U cn mn) (hO : ∀ m, m < 6 → (isO cn m ↔ ¬ M.testBit m = true)) (hU : U = 1) : M.testBit 2 = false ∧ M.testBit 4 = false ∧ M.testBit 5 = false := by
  have key : ∀ m, m < 6 → (0 : Int32) < 2 * dot (dI 4) (dI 5) m → M.testBit m = false := by
    intro m hm h
    have : isO cn m := by
      refine ⟨4, 5, by omega, by omega, fun r hr hn => ?_⟩
      obtain ⟨q, h1, h2⟩ := hN.2 r hr hn
      subst h2
      rw [show dot (dI 4) (dI 5) (cl U q) = 0 by
        subst hU
        exact (show ∀ q, q < 5 → dot (dI 4) (dI 5) (cl 1 q) = 0 by decide +kernel) q h1]
      exact h
    have := (hO m hm).mp this
    exact Bool.eq_false_iff.mpr this
  exact ⟨key 2 (by omega) (by decide +kernel), key 4 (by omega) (by decide +kernel), key 5 (by omega) (by decide +kernel)⟩
/-- the masks that occur -/
def MU (U M : Nat) : Prop := M < 64 ∧ (U = 1 ∨ U = 2) ∧ (U = 1 → (M.testBit 2 = false ∧ M.testBit 4 = false ∧ M.testBit 5 = false))
def ci (U m : Nat) : Nat := if U = 1 then (if m = 3 then 2 else m) else m
def cm (U M : Nat) : Nat → Nat
  | 0 => 0
  | q + 1 => cm U M q + (if M.testBit (cl U q) then 1 else 0)
theorem cm_end1 : ∀ M, M < 64 → (M.testBit 2 = false ∧ M.testBit 4 = false ∧ M.testBit 5 = false) → cm 1 M 5 = mlen M ∧ ∀ k, k < 6 → k < mlen M → ci 1 (mat M k) < 5 ∧ cl 1 (ci 1 (mat M k)) = mat M k ∧ cm 1 M (ci 1 (mat M k)) = k := by decide +kernel
theorem cm_end2 : ∀ M, M < 64 → cm 2 M 15 = mlen M ∧ ∀ k, k < 6 → k < mlen M → ci 2 (mat M k) < 15 ∧ cl 2 (ci 2 (mat M k)) = mat M k ∧ cm 2 M (ci 2 (mat M k)) = k := by decide +kernel
theorem cm_b1 : ∀ M, M < 64 → (M.testBit 2 = false ∧ M.testBit 4 = false ∧ M.testBit 5 = false) → ∀ q, q < 5 → M.testBit (cl 1 q) = true → cm 1 M q < 6 := by decide +kernel
theorem cm_b2 : ∀ M, M < 64 → ∀ q, q < 15 → M.testBit (cl 2 q) = true → cm 2 M q < 6 := by decide +kernel
theorem cm_end {U M : Nat} (h : MU U M) : cm U M (PU U) = mlen M ∧ ∀ k, k < mlen M → ci U (mat M k) < PU U ∧ cl U (ci U (mat M k)) = mat M k ∧ cm U M (ci U (mat M k)) = k := by
  obtain ⟨h1, h2, h3⟩ := h
  have hl := mlen_le M h1
  rcases h2 with e | e
  · subst e
    obtain ⟨a, b⟩ := cm_end1 M h1 (h3 rfl)
    exact ⟨a, fun k hk => b k (by omega) hk⟩
  · subst e
    obtain ⟨a, b⟩ := cm_end2 M h1
    exact ⟨a, fun k hk => b k (by omega) hk⟩
theorem cm_b {U M : Nat} (h : MU U M) {q : Nat} (hq : q < PU U) (hb : M.testBit (cl U q) = true) : cm U M q < 6 := by
  obtain ⟨h1, h2, h3⟩ := h
  rcases h2 with e | e
  · subst e; exact cm_b1 M h1 (h3 rfl) q hq hb
  · subst e; exact cm_b2 M h1 q hq hb
theorem cm_mono {U M a b : Nat} (h : a ≤ b) : cm U M a ≤ cm U M b := by
  induction h with
  | refl => exact Nat.le_refl _
  | step h ih => rw [cm]; omega
theorem cm_lt {U M a b : Nat} (h : a < b) (ha : M.testBit (cl U a) = true) : cm U M a < cm U M b := by
  have := cm_mono (U := U) (M := M) (show a + 1 ≤ b from h)
  rw [cm, if_pos ha] at this
  omega
/-- the model's members -/
def memM (U M : Nat) (bas : Nat → Int32) : Prop := ∀ k, k < mlen M → bas k = nI (ci U (mat M k))
theorem ml_find {U M : Nat} (hMU : MU U M) {cn mn : Nat → Int32} (hN : NR U cn mn) (hO : ∀ m, m < 6 → (isO cn m ↔ ¬ M.testBit m = true)) : ∀ (d n q : Nat) (bas : Nat → Int32), q + d = PU U → d < n → (∀ r, r < q → M.testBit (cl U r) = true → bas (cm U M r) = nI r) → ∃ bas', (∀ r, r < PU U → M.testBit (cl U r) = true → bas' (cm U M r) = nI r) ∧ ∀ k, f_Mo_findBasis_L7 (nI (PU U)) (mF U) (mS U) mn n (nI q) (nI (cm U M q)) bas k = k (nI (mlen M)) bas' := by
  have hP := PU_le U
  intro d
  induction d with
  | zero =>
    intro n q bas hq hn h
    obtain ⟨n, rfl⟩ : ∃ q, n = q + 1 := ⟨n - 1, by omega⟩
    have e : q = PU U := by omega
    subst e
    exact ⟨bas, h, fun k => by rw [f_Mo_findBasis_L7, if_pos ((mn_le (by omega) (by omega)).mpr (Nat.le_refl _)), (cm_end hMU).1]⟩
  | succ d ih =>
    intro n q bas hq hn h
    obtain ⟨n, rfl⟩ : ∃ q, n = q + 1 := ⟨n - 1, by omega⟩
    have hlt : ¬ nI (PU U) ≤ nI q := fun h => by have := (mn_le (by omega) (by omega)).mp h; omega
    have hqP : q < PU U := by omega
    have hcm : cm U M q < 1000 := by
      have : ∀ q, cm U M q ≤ q := by
        intro q
        induction q with
        | zero => exact Nat.le_refl _
        | succ q ih => rw [cm]; split <;> omega
      have := this q
      omega
    simp (disch := omega) only [f_Mo_findBasis_L7, if_neg hlt, mq_n0, mn_cl, mq_no, false_or, ↓reduceIte, mq_1]
    rcases me_mem hN hqP with ⟨⟨h6, ho⟩, e⟩ | ⟨ho, e⟩
    · have hb : M.testBit (cl U q) = true := Classical.byContradiction (fun h' => ho ((hO _ h6).mpr h'))
      have hc6 := cm_b hMU hqP hb
      rw [e]
      simp (disch := omega) only [Option.bind_some, if_neg i_10, mq_no, ↓reduceIte]
      have e1 : cm U M q + 1 = cm U M (q + 1) := by rw [cm, if_pos hb]
      rw [e1]
      refine ih n (q + 1) _ (by omega) (by omega) (fun r hr hbr => ?_)
      by_cases er : r = q
      · subst er; exact up_eq
      · rw [up_ne]
        · exact h r (by omega) hbr
        · have := cm_lt (U := U) (M := M) (show r < q by omega) hbr
          omega
    · have hb : ¬ M.testBit (cl U q) = true := by
        intro hb
        by_cases h6 : cl U q < 6
        · exact ho ⟨h6, fun h' => (hO _ h6).mp h' hb⟩
        · rw [Nat.testBit_lt_two_pow (show M < 2 ^ (cl U q) from Nat.lt_of_lt_of_le hMU.1 (Nat.pow_le_pow_right (n := 2) (by omega) (show 6 ≤ cl U q by omega)))] at hb
          exact absurd hb (by decide)
      rw [e]
      simp only [Option.bind_some, if_pos]
      have e1 : cm U M q = cm U M (q + 1) := by rw [cm, if_neg hb]; rfl
      rw [e1]
      refine ih n (q + 1) _ (by omega) (by omega) (fun r hr hbr => ?_)
      by_cases er : r = q
      · subst er; exact absurd hbr hb
      · exact h r (by omega) hbr
theorem me_find {U M : Nat} (hMU : MU U M) {cn mn : Nat → Int32} (hN : NR U cn mn) (hO : ∀ m, m < 6 → (isO cn m ↔ ¬ M.testBit m = true)) (bas : Nat → Int32) : ∃ bas', memM U M bas' ∧ f_Mo_findBasis (nI (PU U)) (mF U) (mS U) mn bas = some (nI (mlen M), bas') := by
  have hP := PU_le U
  obtain ⟨bas', h1, h2⟩ := ml_find hMU hN hO (PU U) 40 0 bas (by omega) (by omega) (fun r hr => absurd hr (by omega))
  have h2' : ∀ k, f_Mo_findBasis_L7 (nI (PU U)) (mF U) (mS U) mn 40 0 0 bas k = k (nI (mlen M)) bas' := h2
  refine ⟨bas', fun k hk => ?_, by rw [f_Mo_findBasis, h2']⟩
  obtain ⟨a, b, c⟩ := (cm_end hMU).2 k hk
  have := h1 (ci U (mat M k)) a (by rw [b]; exact (mat_in M hMU.1 k (by have := mlen_le M hMU.1; omega) hk).1)
  rw [c] at this
  exact this
