-- MATHEMATICS 7: the pairs as the model finds them
def cq (U p : Nat) : Nat := if U = 1 then (if p = 3 then 2 else if p = 6 then 3 else if p = 10 then 4 else p) else p
theorem pr1_ok : ∀ a, a < 3 → ∀ b, b < 3 → f_Mo_powerOf (mF 1 a + mF 1 b) (mS 1 a + mS 1 b) (nI 5) (mF 1) (mS 1) = some (nI (cq 1 (prd (cl 1 a) (cl 1 b)))) ∧ cq 1 (prd (cl 1 a) (cl 1 b)) < 5 ∧ cl 1 (cq 1 (prd (cl 1 a) (cl 1 b))) = prd (cl 1 a) (cl 1 b) := by decide +kernel
theorem pr2_ok : ∀ a, a < 6 → ∀ b, b < 6 → f_Mo_powerOf (mF 2 a + mF 2 b) (mS 2 a + mS 2 b) (nI 15) (mF 2) (mS 2) = some (nI (cq 2 (prd (cl 2 a) (cl 2 b)))) ∧ cq 2 (prd (cl 2 a) (cl 2 b)) < 15 ∧ cl 2 (cq 2 (prd (cl 2 a) (cl 2 b))) = prd (cl 2 a) (cl 2 b) := by decide +kernel
theorem ci1_lt : ∀ M, M < 64 → (M.testBit 2 = false ∧ M.testBit 4 = false ∧ M.testBit 5 = false) → ∀ k, k < 6 → k < mlen M → ci 1 (mat M k) < 3 := by decide +kernel
theorem me_prod {U M : Nat} (hMU : MU U M) {bas : Nat → Int32} (hb : memM U M bas) {i j : Nat} (hi : i < mlen M) (hj : j < mlen M) : f_Mo_product (nI i) (nI j) (nI (PU U)) (mF U) (mS U) bas = some (nI (cq U (prd (mat M i) (mat M j)))) ∧ cq U (prd (mat M i) (mat M j)) < PU U ∧ cl U (cq U (prd (mat M i) (mat M j))) = prd (mat M i) (mat M j) := by
  have hl := mlen_le M hMU.1
  have hP := PU_le U
  obtain ⟨i1, i2, -⟩ := (cm_end hMU).2 i hi
  obtain ⟨j1, j2, -⟩ := (cm_end hMU).2 j hj
  have key : f_Mo_powerOf (mF U (ci U (mat M i)) + mF U (ci U (mat M j))) (mS U (ci U (mat M i)) + mS U (ci U (mat M j))) (nI (PU U)) (mF U) (mS U) = some (nI (cq U (prd (mat M i) (mat M j)))) ∧ cq U (prd (mat M i) (mat M j)) < PU U ∧ cl U (cq U (prd (mat M i) (mat M j))) = prd (mat M i) (mat M j) := by
    have i2' := i2
    have j2' := j2
    rw [← i2', ← j2']
    obtain ⟨h1, h2, h3⟩ := hMU
    rcases h2 with e | e
    · subst e
      have a := ci1_lt M h1 (h3 rfl) i (by omega) hi
      have b := ci1_lt M h1 (h3 rfl) j (by omega) hj
      rw [i2, j2]
      have := pr1_ok _ a _ b
      rw [i2, j2] at this
      exact this
    · subst e
      have a : ci 2 (mat M i) < 6 := mat6 h1 hi
      have b : ci 2 (mat M j) < 6 := mat6 h1 hj
      rw [i2, j2]
      have := pr2_ok _ a _ b
      rw [i2, j2] at this
      exact this
  refine ⟨?_, key.2⟩
  rw [f_Mo_product]
  simp (disch := omega) only [mq_n0, mn_cl, mq_no, false_or, ↓reduceIte]
  rw [hb i hi, hb j hj]
  simp (disch := omega) only [mq_n0, mn_cl, mq_no, false_or, ↓reduceIte]
  rw [key.1, Option.bind_some]
def HK (M n p : Nat) (a b : Int32) : Prop := (hg M n p = 99 → a = -1) ∧ (¬ hg M n p = 99 → a = nI (pI M (hg M n p)) ∧ b = nI (pJ M (hg M n p)))
theorem m1_lt : (-1 : Int32) < 0 := by decide
theorem ml_mp3 {U M : Nat} (hMU : MU U M) {bas : Nat → Int32} (hb : memM U M bas) {q : Nat} (hq : q < PU U) {i : Nat} (hi : i < mlen M) : ∀ (d n j : Nat) (hf hs : Nat → Int32), i ≤ j → j + d = mlen M → d < n → HK M (idx (mlen M) i j) (cl U q) (hf q) (hs q) → ∃ hf' hs', HK M (idx (mlen M) i (mlen M)) (cl U q) (hf' q) (hs' q) ∧ (∀ r, ¬ r = q → hf' r = hf r ∧ hs' r = hs r) ∧ ∀ k, f_Mo_pairs_L29 (nI i) (nI q) (nI (PU U)) (nI (mlen M)) (mF U) (mS U) bas n (nI j) hf hs k = k hf' hs' := by
  have hl := mlen_le M hMU.1
  have hP := PU_le U
  intro d
  induction d with
  | zero =>
    intro n j hf hs hij hj hn hK
    obtain ⟨n, rfl⟩ : ∃ q, n = q + 1 := ⟨n - 1, by omega⟩
    have e : j = mlen M := by omega
    subst e
    exact ⟨hf, hs, hK, fun r _ => ⟨rfl, rfl⟩, fun k => by rw [f_Mo_pairs_L29, if_pos ((mn_le (by omega) (by omega)).mpr (Nat.le_refl _))]⟩
  | succ d ih =>
    intro n j hf hs hij hj hn hK
    obtain ⟨n, rfl⟩ : ∃ q, n = q + 1 := ⟨n - 1, by omega⟩
    have hlt : ¬ nI (mlen M) ≤ nI j := fun h => by have := (mn_le (by omega) (by omega)).mp h; omega
    have hjl : j < mlen M := by omega
    obtain ⟨x1, x2, x3, x4⟩ := idx_ok (mlen M) (by omega) i hi j hjl hij
    obtain ⟨y1, y2, y3⟩ := me_prod hMU hb hi hjl
    have hpw : prd (mat M i) (mat M j) = pw M (idx (mlen M) i j) := by rw [pw, pI, pJ, x1, x2]
    have hnp := (idx_end (mlen M) (by omega)).2.2
    rw [hpw] at y1 y2 y3
    have eq1 : (cq U (pw M (idx (mlen M) i j)) = q) ↔ pw M (idx (mlen M) i j) = cl U q := by
      constructor
      · intro h; rw [← h, y3]
      · intro h
        rw [← y3] at h
        exact cl_inj y2 hq h
    have hglt := hg_lt (M := M) (p := cl U q) (idx (mlen M) i j)
    -- the two ends of a step
    have go : ∀ (hf1 hs1 : Nat → Int32), HK M (idx (mlen M) i (j + 1)) (cl U q) (hf1 q) (hs1 q) → (∀ r, ¬ r = q → hf1 r = hf r ∧ hs1 r = hs r) → (∀ k, f_Mo_pairs_L29 (nI i) (nI q) (nI (PU U)) (nI (mlen M)) (mF U) (mS U) bas (n + 1) (nI j) hf hs k = f_Mo_pairs_L29 (nI i) (nI q) (nI (PU U)) (nI (mlen M)) (mF U) (mS U) bas n (nI (j + 1)) hf1 hs1 k) → ∃ hf' hs', HK M (idx (mlen M) i (mlen M)) (cl U q) (hf' q) (hs' q) ∧ (∀ r, ¬ r = q → hf' r = hf r ∧ hs' r = hs r) ∧ ∀ k, f_Mo_pairs_L29 (nI i) (nI q) (nI (PU U)) (nI (mlen M)) (mF U) (mS U) bas (n + 1) (nI j) hf hs k = k hf' hs' := by
      intro hf1 hs1 g1 g2 g3
      obtain ⟨hf', hs', r1, r2, r3⟩ := ih n (j + 1) hf1 hs1 (by omega) (by omega) (by omega) g1
      refine ⟨hf', hs', r1, fun r hr => ?_, fun k => by rw [g3, r3]⟩
      rw [(r2 r hr).1, (r2 r hr).2]
      exact g2 r hr
    by_cases hb1 : pw M (idx (mlen M) i j) = cl U q ∧ (hg M (idx (mlen M) i j) (cl U q) = 99 ∨ i = j)
    · refine go (upd hf q (nI i)) (upd hs q (nI j)) ?_ (fun r hr => ⟨up_ne hr, up_ne hr⟩) (fun k => ?_)
      · rw [x4, up_eq, up_eq]
        have e : hg M (idx (mlen M) i j + 1) (cl U q) = idx (mlen M) i j := by
          rw [hg, if_pos ⟨hb1.1, by rw [pI, pJ, x1, x2]; exact hb1.2⟩]
        refine ⟨fun h => by omega, fun _ => ?_⟩
        rw [e, pI, pJ, x1, x2]
        exact ⟨rfl, rfl⟩
      · rw [f_Mo_pairs_L29, if_neg hlt, y1, Option.bind_some]
        simp (disch := omega) only [mq_n0, mn_cl, mq_no, false_or, ↓reduceIte, mq_1, ct_jn, mq_eq, eq1.mpr hb1.1]
        by_cases h9 : hg M (idx (mlen M) i j) (cl U q) = 99
        · rw [if_pos (by rw [hK.1 h9]; exact m1_lt)]
          simp only [if_neg i_10]
        · rcases hb1.2 with h | h
          · exact absurd h h9
          · rw [if_neg (by rw [(hK.2 h9).1]; exact mn_n0 (by
              have := (pI_ok hMU.1 (n := hg M (idx (mlen M) i j) (cl U q)) (by
                have : nP M = np (mlen M) := rfl
                omega)).2.1
              have := (pI_ok hMU.1 (n := hg M (idx (mlen M) i j) (cl U q)) (by
                have : nP M = np (mlen M) := rfl
                omega)).1
              omega)), if_pos h]
            simp only [if_neg i_10]
    · have e : hg M (idx (mlen M) i j + 1) (cl U q) = hg M (idx (mlen M) i j) (cl U q) := by
        rw [hg, if_neg (by rw [pI, pJ, x1, x2]; exact hb1)]
      have hK' : HK M (idx (mlen M) i (j + 1)) (cl U q) (hf q) (hs q) := by
        rw [x4]
        simp only [HK, e]
        exact hK
      refine go (upd hf q (hf q)) (upd hs q (hs q)) (by rw [up_eq, up_eq]; exact hK') (fun r hr => ⟨up_ne hr, up_ne hr⟩) (fun k => ?_)
      rw [f_Mo_pairs_L29, if_neg hlt, y1, Option.bind_some]
      simp (disch := omega) only [mq_n0, mn_cl, mq_no, false_or, ↓reduceIte, mq_1, ct_jn, mq_eq]
      by_cases hp : pw M (idx (mlen M) i j) = cl U q
      · have h9 : ¬ hg M (idx (mlen M) i j) (cl U q) = 99 := fun h => hb1 ⟨hp, Or.inl h⟩
        rw [if_pos (eq1.mpr hp), if_neg (by rw [(hK.2 h9).1]; exact mn_n0 (by
              have := (pI_ok hMU.1 (n := hg M (idx (mlen M) i j) (cl U q)) (by
                have : nP M = np (mlen M) := rfl
                omega)).2.1
              have := (pI_ok hMU.1 (n := hg M (idx (mlen M) i j) (cl U q)) (by
                have : nP M = np (mlen M) := rfl
                omega)).1
              omega)), if_neg (fun h => hb1 ⟨hp, Or.inr h⟩)]
      · rw [if_neg (fun h => hp (eq1.mp h))]
theorem ml_mp2 {U M : Nat} (hMU : MU U M) {bas : Nat → Int32} (hb : memM U M bas) {q : Nat} (hq : q < PU U) : ∀ (d n i : Nat) (hf hs : Nat → Int32), i + d = mlen M → d < n → HK M (idx (mlen M) i i) (cl U q) (hf q) (hs q) → ∃ hf' hs', HK M (nP M) (cl U q) (hf' q) (hs' q) ∧ (∀ r, ¬ r = q → hf' r = hf r ∧ hs' r = hs r) ∧ ∀ k, f_Mo_pairs_L19 (nI q) (nI (PU U)) (nI (mlen M)) (mF U) (mS U) bas n (nI i) hf hs k = k hf' hs' := by
  have hl := mlen_le M hMU.1
  intro d
  induction d with
  | zero =>
    intro n i hf hs hi hn hK
    obtain ⟨n, rfl⟩ : ∃ q, n = q + 1 := ⟨n - 1, by omega⟩
    have e : i = mlen M := by omega
    subst e
    rw [(idx_end (mlen M) (by omega)).2.1] at hK
    exact ⟨hf, hs, hK, fun r _ => ⟨rfl, rfl⟩, fun k => by rw [f_Mo_pairs_L19, if_pos ((mn_le (by omega) (by omega)).mpr (Nat.le_refl _))]⟩
  | succ d ih =>
    intro n i hf hs hi hn hK
    obtain ⟨n, rfl⟩ : ∃ q, n = q + 1 := ⟨n - 1, by omega⟩
    have hlt : ¬ nI (mlen M) ≤ nI i := fun h => by have := (mn_le (by omega) (by omega)).mp h; omega
    have hil : i < mlen M := by omega
    obtain ⟨f1, s1, a1, a2, a3⟩ := ml_mp3 hMU hb hq hil (mlen M - i) 40 i hf hs (Nat.le_refl _) (by omega) (by omega) hK
    rw [idx_row (mlen M) (by omega) i hil] at a1
    obtain ⟨f2, s2, b1, b2, b3⟩ := ih n (i + 1) f1 s1 (by omega) (by omega) a1
    refine ⟨f2, s2, b1, fun r hr => ?_, fun k => by rw [f_Mo_pairs_L19, if_neg hlt, a3, mq_1, b3]⟩
    rw [(b2 r hr).1, (b2 r hr).2]
    exact a2 r hr
/-- the model's hanging pairs -/
def MHg (U M : Nat) (hf hs : Nat → Int32) : Prop := ∀ q, q < PU U → HK M (nP M) (cl U q) (hf q) (hs q)
theorem ml_mp1 {U M : Nat} (hMU : MU U M) {bas : Nat → Int32} (hb : memM U M bas) : ∀ (d n q : Nat) (hf hs : Nat → Int32), q + d = PU U → d < n → (∀ r, r < q → HK M (nP M) (cl U r) (hf r) (hs r)) → ∃ hf' hs', MHg U M hf' hs' ∧ ∀ k, f_Mo_pairs_L2 (nI (PU U)) (nI (mlen M)) (mF U) (mS U) bas n (nI q) hf hs k = k hf' hs' := by
  have hl := mlen_le M hMU.1
  have hP := PU_le U
  intro d
  induction d with
  | zero =>
    intro n q hf hs hq hn hK
    obtain ⟨n, rfl⟩ : ∃ q, n = q + 1 := ⟨n - 1, by omega⟩
    have e : q = PU U := by omega
    subst e
    exact ⟨hf, hs, hK, fun k => by rw [f_Mo_pairs_L2, if_pos ((mn_le (by omega) (by omega)).mpr (Nat.le_refl _))]⟩
  | succ d ih =>
    intro n q hf hs hq hn hK
    obtain ⟨n, rfl⟩ : ∃ q, n = q + 1 := ⟨n - 1, by omega⟩
    have hlt : ¬ nI (PU U) ≤ nI q := fun h => by have := (mn_le (by omega) (by omega)).mp h; omega
    have z := (idx_end (mlen M) (by omega)).1
    obtain ⟨f1, s1, a1, a2, a3⟩ := ml_mp2 hMU hb (show q < PU U by omega) (mlen M) 40 0 (upd hf q (-1)) hs (by omega) (by omega) (by
      rw [z, up_eq]
      exact ⟨fun _ => rfl, fun h => absurd rfl h⟩)
    have a3' : ∀ k, f_Mo_pairs_L19 (nI q) (nI (PU U)) (nI (mlen M)) (mF U) (mS U) bas 40 0 (upd hf q (-1)) hs k = k f1 s1 := a3
    obtain ⟨f2, s2, b1, b2⟩ := ih n (q + 1) f1 s1 (by omega) (by omega) (fun r hr => by
      by_cases e : r = q
      · subst e; exact a1
      · rw [(a2 r e).1, (a2 r e).2, up_ne e]; exact hK r (by omega))
    refine ⟨f2, s2, b1, fun k => ?_⟩
    rw [f_Mo_pairs_L2, if_neg hlt]
    simp (disch := omega) only [mq_n0, mn_cl, mq_no, false_or, ↓reduceIte, mq_1]
    rw [a3', b2]
theorem hg_some {M n : Nat} : ∀ N, n < N → ¬ hg M N (pw M n) = 99 ∨ N = 99 + 1 ∨ 99 < N := by
  intro N
  induction N with
  | zero => intro h; omega
  | succ N ih =>
    intro h
    by_cases h99 : 99 ≤ N
    · right; omega
    · left
      rw [hg]
      split
      · omega
      · rename_i hc
        by_cases e : N = n
        · subst e
          intro h'
          exact hc ⟨rfl, Or.inl h'⟩
        · rcases ih (by omega) with h' | h' | h'
          · exact h'
          · omega
          · omega
theorem hN_some {M n : Nat} (hM : M < 64) (hn : n < nP M) : ¬ hN M (pw M n) = 99 ∧ hN M (pw M n) < nP M := by
  have hl := nP_le hM
  have a := hg_some (M := M) (n := n) (nP M) hn
  have b := hg_lt (M := M) (p := pw M n) (nP M)
  simp only [hN]
  omega
theorem fr_iff {M n : Nat} : fr M n = true ↔ ¬ hN M (pw M n) = n := by
  simp only [fr, Bool.not_eq_true', ← Bool.not_eq_true]
  exact ⟨fun h' e => h' (by rw [e]; exact Nat.beq_refl n), fun h' e => h' (Nat.eq_of_beq_eq_true e)⟩
/-- the model's free pairs -/
def MF (M n : Nat) (ff fs : Nat → Int32) : Prop := ∀ m, m < n → fr M m = true → ff (fc M m) = nI (pI M m) ∧ fs (fc M m) = nI (pJ M m)
theorem MF_step {M n : Nat} {ff fs : Nat → Int32} (h : MF M n ff fs) (hf : fr M n = true) : MF M (n + 1) (upd ff (fc M n) (nI (pI M n))) (upd fs (fc M n) (nI (pJ M n))) := by
  intro m hm hfm
  by_cases e : m = n
  · subst e; exact ⟨up_eq, up_eq⟩
  · have := fc_lt (M := M) (show m < n by omega) hfm
    rw [up_ne (by omega), up_ne (by omega)]
    exact h m (by omega) hfm
theorem ml_mf2 {U M : Nat} (hMU : MU U M) {bas : Nat → Int32} (hb : memM U M bas) {hf hs : Nat → Int32} (hH : MHg U M hf hs) {i : Nat} (hi : i < mlen M) : ∀ (d n j : Nat) (ff fs : Nat → Int32), i ≤ j → j + d = mlen M → d < n → MF M (idx (mlen M) i j) ff fs → ∃ ff' fs', MF M (idx (mlen M) i (mlen M)) ff' fs' ∧ ∀ k, f_Mo_pairs_L145 (nI i) (nI (PU U)) (nI (mlen M)) (mF U) (mS U) bas hf hs n (nI j) (nI (fc M (idx (mlen M) i j))) ff fs k = k (nI (fc M (idx (mlen M) i (mlen M)))) ff' fs' := by
  have hl := mlen_le M hMU.1
  have hP := PU_le U
  intro d
  induction d with
  | zero =>
    intro n j ff fs hij hj hn hF
    obtain ⟨n, rfl⟩ : ∃ q, n = q + 1 := ⟨n - 1, by omega⟩
    have e : j = mlen M := by omega
    subst e
    exact ⟨ff, fs, hF, fun k => by rw [f_Mo_pairs_L145, if_pos ((mn_le (by omega) (by omega)).mpr (Nat.le_refl _))]⟩
  | succ d ih =>
    intro n j ff fs hij hj hn hF
    obtain ⟨n, rfl⟩ : ∃ q, n = q + 1 := ⟨n - 1, by omega⟩
    have hlt : ¬ nI (mlen M) ≤ nI j := fun h => by have := (mn_le (by omega) (by omega)).mp h; omega
    have hjl : j < mlen M := by omega
    obtain ⟨x1, x2, x3, x4⟩ := idx_ok (mlen M) (by omega) i hi j hjl hij
    obtain ⟨y1, y2, y3⟩ := me_prod hMU hb hi hjl
    have hpw : prd (mat M i) (mat M j) = pw M (idx (mlen M) i j) := by rw [pw, pI, pJ, x1, x2]
    have hnp := (idx_end (mlen M) (by omega)).2.2
    rw [hpw] at y1 y2 y3
    have hfc := fc_le (M := M) (idx (mlen M) i j)
    have hK := hH _ y2
    rw [y3] at hK
    obtain ⟨z1, z2⟩ := hN_some hMU.1 (n := idx (mlen M) i j) x3
    obtain ⟨k1, k2⟩ := hK.2 z1
    obtain ⟨p1, p2, p3⟩ := pI_ok hMU.1 z2
    have e0 : hg M (nP M) (pw M (idx (mlen M) i j)) = hN M (pw M (idx (mlen M) i j)) := rfl
    rw [e0] at k1 k2
    have eqF : (pI M (hN M (pw M (idx (mlen M) i j))) = i ∧ pJ M (hN M (pw M (idx (mlen M) i j))) = j) ↔ ¬ fr M (idx (mlen M) i j) = true := by
      rw [fr_iff, Classical.not_not]
      constructor
      · rintro ⟨a, b⟩
        rw [← p3, a, b]
      · intro h
        rw [h, pI, pJ]
        exact ⟨x1, x2⟩
    by_cases hfr : fr M (idx (mlen M) i j) = true
    · have e3 : fc M (idx (mlen M) i j) + 1 = fc M (idx (mlen M) i (j + 1)) := by rw [x4, fc, if_pos hfr]
      have hF' := MF_step hF hfr
      rw [← x4, pI, pJ, x1, x2] at hF'
      obtain ⟨ff', fs', r1, r2⟩ := ih n (j + 1) _ _ (by omega) (by omega) (by omega) hF'
      refine ⟨ff', fs', r1, fun k => ?_⟩
      rw [f_Mo_pairs_L145, if_neg hlt, y1, Option.bind_some]
      simp (disch := omega) only [mq_n0, mn_cl, mq_no, false_or, ↓reduceIte, mq_1, k1, k2, mq_eq]
      rw [e3, r2]
      by_cases c : pI M (hN M (pw M (idx (mlen M) i j))) = i
      · rw [if_pos c, if_neg (fun c2 => eqF.mp ⟨c, c2⟩ hfr)]
      · rw [if_neg c]
    · have e3 : fc M (idx (mlen M) i j) = fc M (idx (mlen M) i (j + 1)) := by rw [x4, fc, if_neg hfr]; rfl
      obtain ⟨ff', fs', r1, r2⟩ := ih n (j + 1) ff fs (by omega) (by omega) (by omega) (by
        rw [x4]
        intro m hm hfm
        by_cases e : m = idx (mlen M) i j
        · subst e; exact absurd hfm hfr
        · exact hF m (by omega) hfm)
      refine ⟨ff', fs', r1, fun k => ?_⟩
      rw [f_Mo_pairs_L145, if_neg hlt, y1, Option.bind_some]
      simp (disch := omega) only [mq_n0, mn_cl, mq_no, false_or, ↓reduceIte, mq_1, k1, k2, mq_eq]
      obtain ⟨c1, c2⟩ := eqF.mpr hfr
      rw [if_pos c1, if_pos c2, e3, r2]
theorem ml_mf1 {U M : Nat} (hMU : MU U M) {bas : Nat → Int32} (hb : memM U M bas) {hf hs : Nat → Int32} (hH : MHg U M hf hs) : ∀ (d n i : Nat) (ff fs : Nat → Int32), i + d = mlen M → d < n → MF M (idx (mlen M) i i) ff fs → ∃ ff' fs', MF M (nP M) ff' fs' ∧ ∀ k, f_Mo_pairs_L135 (nI (PU U)) (nI (mlen M)) (mF U) (mS U) bas hf hs n (nI i) (nI (fc M (idx (mlen M) i i))) ff fs k = k (nI (FF M)) ff' fs' := by
  have hl := mlen_le M hMU.1
  intro d
  induction d with
  | zero =>
    intro n i ff fs hi hn hF
    obtain ⟨n, rfl⟩ : ∃ q, n = q + 1 := ⟨n - 1, by omega⟩
    have e : i = mlen M := by omega
    subst e
    rw [(idx_end (mlen M) (by omega)).2.1] at hF ⊢
    exact ⟨ff, fs, hF, fun k => by rw [f_Mo_pairs_L135, if_pos ((mn_le (by omega) (by omega)).mpr (Nat.le_refl _))]; rfl⟩
  | succ d ih =>
    intro n i ff fs hi hn hF
    obtain ⟨n, rfl⟩ : ∃ q, n = q + 1 := ⟨n - 1, by omega⟩
    have hlt : ¬ nI (mlen M) ≤ nI i := fun h => by have := (mn_le (by omega) (by omega)).mp h; omega
    have hil : i < mlen M := by omega
    obtain ⟨f1, s1, a1, a3⟩ := ml_mf2 hMU hb hH hil (mlen M - i) 40 i ff fs (Nat.le_refl _) (by omega) (by omega) hF
    rw [idx_row (mlen M) (by omega) i hil] at a1 a3
    obtain ⟨f2, s2, b1, b3⟩ := ih n (i + 1) f1 s1 (by omega) (by omega) a1
    exact ⟨f2, s2, b1, fun k => by rw [f_Mo_pairs_L135, if_neg hlt, a3, mq_1, b3]⟩
theorem me_pairs {U M : Nat} (hMU : MU U M) {bas : Nat → Int32} (hb : memM U M bas) (ff fs hf hs : Nat → Int32) : ∃ ff' fs' hf' hs', MHg U M hf' hs' ∧ MF M (nP M) ff' fs' ∧ f_Mo_pairs (nI (PU U)) (nI (mlen M)) (mF U) (mS U) bas ff fs hf hs = some (nI (FF M), ff', fs', hf', hs') := by
  have hl := mlen_le M hMU.1
  have hP := PU_le U
  obtain ⟨hf', hs', a1, a2⟩ := ml_mp1 hMU hb (PU U) 40 0 hf hs (by omega) (by omega) (fun r h => absurd h (by omega))
  have a2' : ∀ k, f_Mo_pairs_L2 (nI (PU U)) (nI (mlen M)) (mF U) (mS U) bas 40 0 hf hs k = k hf' hs' := a2
  have z := (idx_end (mlen M) (by omega)).1
  obtain ⟨ff', fs', b1, b2⟩ := ml_mf1 hMU hb a1 (mlen M) 40 0 ff fs (by omega) (by omega) (by rw [z]; exact fun m h => absurd h (by omega))
  rw [z] at b2
  have b2' : ∀ k, f_Mo_pairs_L135 (nI (PU U)) (nI (mlen M)) (mF U) (mS U) bas hf' hs' 40 0 0 ff fs k = k (nI (FF M)) ff' fs' := b2
  exact ⟨ff', fs', hf', hs', a1, b1, by rw [f_Mo_pairs, a2', b2']⟩
