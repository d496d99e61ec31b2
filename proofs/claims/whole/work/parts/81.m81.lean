-- MATHEMATICS 21: clear, basis, member, put, at
theorem me_R807 {U : Nat} {L : Nat} {xs : Nat → Int32} {th : Int32} {cn ct : Nat → Int32} {hsz : Int32} {cor mem : Nat → Int32} {psz fsz : Int32} {sec cel pow sha han fre : Nat → Int32} {ssz : Int32} {sl : Nat → Int64} {sq : Nat → Int32} {ms isT sqs : Int32} {mn bas mt : Nat → Int32} {wA wB rA rB : Nat → Int64}
    (h : INV U th cn ct hsz cor mem psz fsz sec cel pow sha han fre ssz sl sq ms isT sqs mn bas mt wA wB rA rB) (out : Nat → Int32) :
    ∃ th' cn' ct' hsz' cor' out' mem' psz' fsz' sec' cel' pow' sha' han' fre' t ms' isT' mn' bas' mt', INV U th' cn' ct' hsz' cor' mem' psz' fsz' sec' cel' pow' sha' han' fre' ssz sl sq ms' isT' sqs mn' bas' mt' wA wB rA rB ∧
      ∀ k, f_La_law_R807 L xs cn ct cor out mem sec cel pow sha han fre (nI (PU U)) (mF U) (mS U) mn bas mt k = k th' cn' ct' hsz' cor' out' mem' psz' fsz' sec' cel' pow' sha' han' fre' t ms' isT' mn' bas' mt' := by
  obtain ⟨M, hB, hT⟩ := h
  have hU := hB.mu.2.1
  have hP := PU_le U
  have hN : NR U (fl 15 0 0 cn) (fl 15 0 0 mn) := by
    refine ⟨fun q hq => ?_, fun p hp hn => ?_⟩
    · have := cl_lt hq
      unfold fl
      rw [if_pos (by omega), if_pos (by omega)]
    · unfold fl at hn
      rw [if_pos (by omega)] at hn
      exact absurd rfl hn
  obtain ⟨M', cor', out', mem', sec', cel', pow', sha', han', fre', bas', n1, n2, n3⟩ := me_anew hU hN (fun p hp => by
    unfold fl
    rw [if_pos (by omega)]
    exact (by decide : (0 : Int32).toInt.natAbs ≤ 15)) ct cor out mem sec cel pow sha han fre bas mt
  have c1 : ∀ k, f_Mo_clear_L7 40 0 mn k = k (fl 15 0 0 mn) := fun k => ml_clear 15 40 0 mn (by omega) (by omega)
  refine ⟨0, fl 15 0 0 cn, fl 36 0 0 ct, nI (mlen M'), cor', out', mem', nI (nP M'), nI (FF M'), sec', cel', pow', sha', han', fre', 0, nI (mlen M'), 0, fl 15 0 0 mn, bas', fl 36 0 0 mt, ⟨M', n1, IT_new M' ct mt ssz sl sq sqs wA wB rA rB⟩, fun k => ?_⟩
  rw [f_La_law_R807, f_Sq_clear, me_fill15, Option.bind_some, n2, Option.bind_some, Option.bind_some]
  dsimp only
  rw [f_Mo_clear, c1, n3, Option.bind_some, Option.bind_some]
-- basis
def od (p : Nat) : Prop := ¬ (pwA p - pwA p / 2 * 2) = 0 ∨ ¬ (pwB p - pwB p / 2 * 2) = 0
def bar (cn : Nat → Int32) (p : Nat) : Prop := isC cn p ∧ (od p ∨ ¬ 0 ≤ cn p)
theorem par_ok : ∀ p, p < 15 → ((pwA p - pwA p / 2 * 2) = 0 ∨ (pwA p - pwA p / 2 * 2) = 1) ∧ ((pwB p - pwB p / 2 * 2) = 0 ∨ (pwB p - pwB p / 2 * 2) = 1) := by decide +kernel
theorem ml_hbc {cn cor : Nat → Int32} (hc : ∀ p, p < 15 → ((isC cn p → cor p = 1) ∧ (¬ isC cn p → cor p = 0))) : ∀ (d n p : Nat), p + d = 15 → d < n →
    ((∃ r, p ≤ r ∧ r < 15 ∧ bar cn r) ∧ ∀ K, f_Hull_hasBarredCorner_L2 cor cn n (nI p) K = some 1) ∨ (¬ (∃ r, p ≤ r ∧ r < 15 ∧ bar cn r) ∧ ∀ K, f_Hull_hasBarredCorner_L2 cor cn n (nI p) K = K ()) := by
  intro d
  induction d with
  | zero =>
    intro n p hk hn
    obtain ⟨n, rfl⟩ : ∃ q, n = q + 1 := ⟨n - 1, by omega⟩
    have e : p = 15 := by omega
    subst e
    refine Or.inr ⟨fun ⟨r, h1, h2, _⟩ => by omega, fun K => ?_⟩
    simp (disch := omega) only [f_Hull_hasBarredCorner_L2, mq_l15, Nat.le_refl, ↓reduceIte]
  | succ d ih =>
    intro n p hk hn
    obtain ⟨n, rfl⟩ : ∃ q, n = q + 1 := ⟨n - 1, by omega⟩
    by_cases hb : bar cn p
    · refine Or.inl ⟨⟨p, Nat.le_refl _, by omega, hb⟩, fun K => ?_⟩
      have h1 : cor p = 1 := (hc p (by omega)).1 hb.1
      rw [f_Hull_hasBarredCorner_L2]
      unfold ct_jn
      simp (disch := omega) only [mq_l15, mq_n0, mn_cl, mq_no, false_or, ↓reduceIte, h1, i_10]
      rcases hb.2 with (ho | ho) | ho
      · rw [if_neg ho]
      · by_cases hA : (pwA p - pwA p / 2 * 2) = 0
        · rw [if_pos hA, if_neg ho]
        · rw [if_neg hA]
      · by_cases hA : (pwA p - pwA p / 2 * 2) = 0
        · rw [if_pos hA]
          by_cases hBB : (pwB p - pwB p / 2 * 2) = 0
          · rw [if_pos hBB, if_neg ho]
          · rw [if_neg hBB]
        · rw [if_neg hA]
    · have hst : ∀ K, f_Hull_hasBarredCorner_L2 cor cn (n + 1) (nI p) K = f_Hull_hasBarredCorner_L2 cor cn n (nI (p + 1)) K := by
        intro K
        rw [f_Hull_hasBarredCorner_L2]
        unfold ct_jn
        simp (disch := omega) only [mq_l15, mq_n0, mn_cl, mq_no, false_or, ↓reduceIte, mq_1]
        by_cases hC : isC cn p
        · have hno : ¬ (od p ∨ ¬ 0 ≤ cn p) := fun h => hb ⟨hC, h⟩
          have hA : (pwA p - pwA p / 2 * 2) = 0 := Decidable.not_not.mp (fun h => hno (Or.inl (Or.inl h)))
          have hBB : (pwB p - pwB p / 2 * 2) = 0 := Decidable.not_not.mp (fun h => hno (Or.inl (Or.inr h)))
          have h0 : 0 ≤ cn p := Decidable.not_not.mp (fun h => hno (Or.inr h))
          rw [if_pos hA, if_pos hBB, (hc p (by omega)).1 hC, if_neg i_10, if_pos h0]
        · have h0 := (hc p (by omega)).2 hC
          simp only [h0, ↓reduceIte]
          by_cases hA : (pwA p - pwA p / 2 * 2) = 0
          · rw [if_pos hA]
            by_cases hBB : (pwB p - pwB p / 2 * 2) = 0
            · rw [if_pos hBB]
            · rw [if_neg hBB]
          · rw [if_neg hA]
      rcases ih n (p + 1) (by omega) (by omega) with ⟨⟨r, r1, r2, r3⟩, r4⟩ | ⟨r1, r2⟩
      · exact Or.inl ⟨⟨r, by omega, r2, r3⟩, fun K => by rw [hst K, r4 K]⟩
      · refine Or.inr ⟨fun ⟨r, h1, h2, h3⟩ => ?_, fun K => by rw [hst K, r2 K]⟩
        by_cases e : r = p
        · subst e; exact hb h3
        · exact r1 ⟨r, by omega, h2, h3⟩
theorem ml_bas {U : Nat} {cn mn : Nat → Int32} (hN : NR U cn mn) {t : Int32} : ∀ (d n q : Nat), q + d = PU U → d < n →
    ((∃ r, q ≤ r ∧ r < PU U ∧ bar cn (cl U r)) ∧ ∀ K, f_Mo_basis_L7 t (nI (PU U)) (mF U) (mS U) mn n (nI q) K = some (-1, t)) ∨ (¬ (∃ r, q ≤ r ∧ r < PU U ∧ bar cn (cl U r)) ∧ ∀ K, f_Mo_basis_L7 t (nI (PU U)) (mF U) (mS U) mn n (nI q) K = K ()) := by
  have hP := PU_le U
  intro d
  induction d with
  | zero =>
    intro n q hk hn
    obtain ⟨n, rfl⟩ : ∃ q, n = q + 1 := ⟨n - 1, by omega⟩
    have e : q = PU U := by omega
    subst e
    refine Or.inr ⟨fun ⟨r, h1, h2, _⟩ => by omega, fun K => ?_⟩
    simp (disch := omega) only [f_Mo_basis_L7, mq_le, Nat.le_refl, ↓reduceIte]
  | succ d ih =>
    intro n q hk hn
    obtain ⟨n, rfl⟩ : ∃ q, n = q + 1 := ⟨n - 1, by omega⟩
    have hq : q < PU U := by omega
    have hcl := cl_lt hq
    obtain ⟨pA, pB⟩ := par_ok (cl U q) hcl
    by_cases hb : bar cn (cl U q)
    · refine Or.inl ⟨⟨q, Nat.le_refl _, hq, hb⟩, fun K => ?_⟩
      rcases me_corner hN hq with ⟨c1, c2⟩ | ⟨c1, c2⟩
      · rw [f_Mo_basis_L7, c2, Option.bind_some]
        simp (disch := omega) only [mq_le, mq_n0, mn_cl, mq_no, false_or, ↓reduceIte, i_10, mF_at hq, mS_at hq, hN.1 q hq]
        by_cases hA : (pwA (cl U q) - pwA (cl U q) / 2 * 2) = 1
        · rw [if_pos hA]
        · rw [if_neg hA]
          by_cases hBB : (pwB (cl U q) - pwB (cl U q) / 2 * 2) = 1
          · rw [if_pos hBB]
          · rw [if_neg hBB]
            rcases hb.2 with (ho | ho) | ho
            · exact absurd (pA.resolve_right hA) ho
            · exact absurd (pB.resolve_right hBB) ho
            · rw [if_neg ho]
      · exact absurd hb.1 c1
    · have hst : ∀ K, f_Mo_basis_L7 t (nI (PU U)) (mF U) (mS U) mn (n + 1) (nI q) K = f_Mo_basis_L7 t (nI (PU U)) (mF U) (mS U) mn n (nI (q + 1)) K := by
        intro K
        rcases me_corner hN hq with ⟨c1, c2⟩ | ⟨c1, c2⟩
        · have hno : ¬ (od (cl U q) ∨ ¬ 0 ≤ cn (cl U q)) := fun h => hb ⟨c1, h⟩
          have hA : (pwA (cl U q) - pwA (cl U q) / 2 * 2) = 0 := Decidable.not_not.mp (fun h => hno (Or.inl (Or.inl h)))
          have hBB : (pwB (cl U q) - pwB (cl U q) / 2 * 2) = 0 := Decidable.not_not.mp (fun h => hno (Or.inl (Or.inr h)))
          have h0 : 0 ≤ cn (cl U q) := Decidable.not_not.mp (fun h => hno (Or.inr h))
          rw [f_Mo_basis_L7, c2, Option.bind_some]
          simp (disch := omega) only [mq_le, mq_n0, mn_cl, mq_no, false_or, ↓reduceIte, i_10, mF_at hq, mS_at hq, hN.1 q hq, hA, hBB, i_01, h0, mq_1]
        · rw [f_Mo_basis_L7, c2, Option.bind_some]
          simp (disch := omega) only [mq_le, mq_no, ↓reduceIte, mq_1]
      rcases ih n (q + 1) (by omega) (by omega) with ⟨⟨r, r1, r2, r3⟩, r4⟩ | ⟨r1, r2⟩
      · exact Or.inl ⟨⟨r, by omega, r2, r3⟩, fun K => by rw [hst K, r4 K]⟩
      · refine Or.inr ⟨fun ⟨r, h1, h2, h3⟩ => ?_, fun K => by rw [hst K, r2 K]⟩
        by_cases e : r = q
        · subst e; exact hb h3
        · exact r1 ⟨r, by omega, h2, h3⟩
theorem isC_ne {cn : Nat → Int32} {p : Nat} (h : isC cn p) : ¬ cn p = 0 := by
  obtain ⟨a, j, _, _, h⟩ := h
  exact h.1
theorem me_R207 {U L : Nat} {xs : Nat → Int32} {th : Int32} {cn ct : Nat → Int32} {hsz : Int32} {cor mem : Nat → Int32} {psz fsz : Int32} {sec cel pow sha han fre : Nat → Int32} {ssz : Int32} {sl : Nat → Int64} {sq : Nat → Int32} {ms isT sqs : Int32} {mn bas mt : Nat → Int32} {wA wB rA rB : Nat → Int64}
    (h : INV U th cn ct hsz cor mem psz fsz sec cel pow sha han fre ssz sl sq ms isT sqs mn bas mt wA wB rA rB) :
    ∃ t, ∀ k, f_La_law_R207 L xs cn hsz cor (nI (PU U)) ms (mF U) (mS U) mn k = k t := by
  obtain ⟨M, hB, hT⟩ := h
  have hP := PU_le U
  refine ⟨0, fun k => ?_⟩
  rcases ml_hbc hB.co 15 40 0 (by omega) (by omega) with ⟨⟨r, r1, r2, r3⟩, a2⟩ | ⟨a1, a2⟩
  · have a2' : ∀ K, f_Hull_hasBarredCorner_L2 cor cn 40 0 K = some 1 := a2
    obtain ⟨q, hq, e⟩ := hB.nr.2 r r2 (isC_ne r3.1)
    rcases ml_bas hB.nr (t := 0) (PU U) 40 0 (by omega) (by omega) with ⟨-, b2⟩ | ⟨b1, -⟩
    · have b2' : ∀ K, f_Mo_basis_L7 0 (nI (PU U)) (mF U) (mS U) mn 40 0 K = some (-1, 0) := b2
      rw [f_La_law_R207, f_Sq_basis, f_Hull_hasBarredCorner, a2', Option.bind_some, if_neg i_10, Option.bind_some, f_Mo_basis, b2', Option.bind_some]
      dsimp only
      rw [if_pos rfl]
    · exact absurd ⟨q, by omega, hq, by rw [e]; exact r3⟩ b1
  · have a2' : ∀ K, f_Hull_hasBarredCorner_L2 cor cn 40 0 K = K () := a2
    rcases ml_bas hB.nr (t := 0) (PU U) 40 0 (by omega) (by omega) with ⟨⟨r, r1, r2, r3⟩, -⟩ | ⟨-, b2⟩
    · exact absurd ⟨cl U r, by omega, cl_lt r2, r3⟩ a1
    · have b2' : ∀ K, f_Mo_basis_L7 0 (nI (PU U)) (mF U) (mS U) mn 40 0 K = K () := b2
      rw [f_La_law_R207, f_Sq_basis, f_Hull_hasBarredCorner, a2', Option.bind_some, if_pos rfl, Option.bind_some, f_Mo_basis, b2', Option.bind_some]
      dsimp only
      rw [hB.hs, hB.ms, if_pos rfl]
-- member
theorem me_isM {s : Nat} (hs : s ≤ 6) (p : Int32) : (∃ x, x < s ∧ p = nI x ∧ f_Sq_isMember p (nI s) = some 1 ∧ f_Mo_isOut p (nI s) = some 0) ∨ (f_Sq_isMember p (nI s) = some 0 ∧ f_Mo_isOut p (nI s) = some 1) := by
  unfold f_Sq_isMember f_Mo_isOut
  by_cases h1 : p < 0
  · right; rw [if_pos h1, if_pos h1]; exact ⟨rfl, rfl⟩
  · by_cases h2 : nI s ≤ p
    · right
      rw [if_neg h1, if_neg h1, if_pos h2, if_neg (fun h => by rw [i_le] at h2; rw [i_lt] at h; omega)]
      exact ⟨rfl, rfl⟩
    · left
      have e0 : (0 : Int32).toInt = 0 := rfl
      rw [i_lt] at h1
      rw [i_le, nI_toInt (by omega)] at h2
      have e : p = nI p.toInt.toNat := i_inj (by rw [nI_toInt (by omega)]; omega)
      refine ⟨p.toInt.toNat, by omega, e, ?_, ?_⟩
      · rw [if_neg (by rw [i_lt]; omega), if_neg (by rw [i_le, nI_toInt (by omega)]; omega)]
      · rw [if_neg (by rw [i_lt]; omega), if_pos (by rw [i_lt, nI_toInt (by omega)]; omega)]
theorem me_let (x : Int32) : (x = 0) ∨ (x = 1) ∨ (¬ x = 0 ∧ ¬ x = 1 ∧ (x < 0 ∨ (¬ x < 0 ∧ ¬ x ≤ 1))) := by
  have e0 : (0 : Int32).toInt = 0 := rfl
  have e1 : (1 : Int32).toInt = 1 := rfl
  by_cases h0 : x = 0
  · exact Or.inl h0
  · by_cases h1 : x = 1
    · exact Or.inr (Or.inl h1)
    · refine Or.inr (Or.inr ⟨h0, h1, ?_⟩)
      by_cases h2 : x < 0
      · exact Or.inl h2
      · refine Or.inr ⟨h2, fun h => ?_⟩
        rw [i_lt] at h2
        rw [i_le] at h
        have : x.toInt = 0 ∨ x.toInt = 1 := by omega
        rcases this with e | e
        · exact h0 (i_inj (by rw [e, e0]))
        · exact h1 (i_inj (by rw [e, e1]))
theorem rf1 : f_Mo_refuses 1 0 0 = some (1, 1) := rfl
theorem rf11 : f_Mo_refuses 1 1 0 = some (1, 1) := rfl
theorem rf2 : f_Mo_refuses 0 1 0 = some (1, 2) := rfl
theorem rf0 : f_Mo_refuses 0 0 0 = some (0, 0) := rfl
theorem R237_ok {L i : Nat} {xs : Nat → Int32} (hi : i + 3 < L) (hL : L ≤ 2049) {ms : Int32} {fi se bas : Nat → Int32} {out : Nat → Int64} {r t : Int32} (h : f_Mo_member (xs (i + 1)) (xs (i + 2)) ms fi se bas = some (r, t)) (ho : t = 0 → out 0 = r.toInt64) : ∀ k, f_La_law_R237 L xs (nI i) ms fi se bas out t k = k t := by
  intro k
  rw [f_La_law_R237]
  simp (disch := omega) only [mq_1, mq_2, mw_n0, mw_cl, mq_no, false_or, ↓reduceIte]
  rw [h, Option.bind_some]
  dsimp only
  rw [me_thr, Option.bind_some, if_pos rfl]
  by_cases e : t = 0
  · rw [if_pos e, if_neg o_nk, o_eq (ho e)]
  · rw [if_neg e]
theorem ne21 : ¬ (some (some 2) : Option (Option Nat)) = some (some 1) := by decide
theorem ne23 : ¬ (some (some 2) : Option (Option Nat)) = some (some 3) := by decide
theorem ne13 : ¬ (some (some 1) : Option (Option Nat)) = some (some 3) := by decide
theorem ne12 : ¬ (some (some 1) : Option (Option Nat)) = some (some 2) := by decide
theorem ne31 : ¬ (some (some 3) : Option (Option Nat)) = some (some 1) := by decide
theorem ne32 : ¬ (some (some 3) : Option (Option Nat)) = some (some 2) := by decide
theorem nen1 : ¬ (some none : Option (Option Nat)) = some (some 1) := by decide
theorem nen2 : ¬ (some none : Option (Option Nat)) = some (some 2) := by decide
theorem nen3 : ¬ (some none : Option (Option Nat)) = some (some 3) := by decide
theorem me_R220 {U L i : Nat} {xs : Nat → Int32} (hi : i + 3 < L) (hL : L ≤ 2049) {th : Int32} {cn ct : Nat → Int32} {hsz : Int32} {cor mem : Nat → Int32} {psz fsz : Int32} {sec cel pow sha han fre : Nat → Int32} {ssz : Int32} {sl : Nat → Int64} {sq : Nat → Int32} {ms isT sqs : Int32} {mn bas mt : Nat → Int32} {wA wB rA rB : Nat → Int64}
    (h : INV U th cn ct hsz cor mem psz fsz sec cel pow sha han fre ssz sl sq ms isT sqs mn bas mt wA wB rA rB) (o : Nat → Int64) :
    ∃ t o', ∀ k, f_La_law_R220 L xs (nI i) hsz mem ms (mF U) (mS U) bas o k = k t o' := by
  obtain ⟨M, hB, hT⟩ := h
  have hM := hB.mu.1
  have hl := mlen_le M hM
  have hP := PU_le U
  rw [hB.hs, hB.ms]
  generalize ha : xs (i + 1) = a
  generalize hb : xs (i + 2) = b
  rcases me_isM hl a with ⟨x, x1, x2, x3, x4⟩ | ⟨x3, x4⟩
  · obtain ⟨c1, c2, c3⟩ := (cm_end hB.mu).2 x x1
    have hm6 := mat6 hM x1
    have hmem : mem x = nI (mat M x) := hB.mc x x1
    have hbas : bas x = nI (ci U (mat M x)) := hB.mm x x1
    have okc : ∀ r : Int32, g_Sq_member a b (nI (mlen M)) = some none → f_Sq_member a b (nI (mlen M)) mem = some (.inr r) → f_Mo_member a b (nI (mlen M)) (mF U) (mS U) bas = some (r, 0) → ∃ t o', ∀ k, f_La_law_R220 L xs (nI i) (nI (mlen M)) mem (nI (mlen M)) (mF U) (mS U) bas o k = k t o' := by
      intro r g1 g2 g3
      refine ⟨0, vp_updL o 0 r.toInt64, fun k => ?_⟩
      have := R237_ok (xs := xs) hi hL (out := vp_updL o 0 r.toInt64) (by rw [ha, hb]; exact g3) (fun _ => uL_eq)
      have hla : f_La_member a b (nI (mlen M)) mem o = some (0, vp_updL o 0 r.toInt64) := by
        rw [f_La_member, g2, Option.bind_some]
        rfl
      rw [f_La_law_R220]
      simp (disch := omega) only [mq_1, mq_2, mw_n0, mw_cl, mq_no, false_or, ↓reduceIte, ha, hb]
      rw [g1, if_neg nen1, if_neg nen2, if_pos rfl, hla, Option.bind_some]
      dsimp only
      rw [this]
    rcases me_let b with e | e | ⟨e1, e2, e3⟩
    · refine okc (pwA (mat M x)) ?_ ?_ ?_
      · rw [g_Sq_member, x3, Option.bind_some, if_neg i_10, if_pos e]
      · rw [f_Sq_member, x3, Option.bind_some, if_neg i_10, if_pos e, x2]
        simp (disch := omega) only [mq_n0, mn_cl, mq_no, false_or, ↓reduceIte, hmem, e]
      · rw [f_Mo_member, x4, Option.bind_some]
        unfold ct_jn
        dsimp only
        rw [if_neg (by rw [e]; decide), if_pos (by rw [e]; decide), rf0, Option.bind_some]
        dsimp only
        rw [if_pos rfl, if_pos e, x2]
        simp (disch := omega) only [mq_n0, mn_cl, mq_no, false_or, ↓reduceIte, hbas, mF_at c1, c2]
    · have hb0 : ¬ b = 0 := by rw [e]; decide
      refine okc (pwB (mat M x)) ?_ ?_ ?_
      · rw [g_Sq_member, x3, Option.bind_some, if_neg i_10, if_neg hb0, if_pos e]
      · rw [f_Sq_member, x3, Option.bind_some, if_neg i_10, if_neg hb0, if_pos e, x2]
        simp (disch := omega) only [mq_n0, mn_cl, mq_no, false_or, ↓reduceIte, hmem, hb0]
      · rw [f_Mo_member, x4, Option.bind_some]
        unfold ct_jn
        dsimp only
        rw [if_neg (by rw [e]; decide), if_pos (by rw [e]; decide), rf0, Option.bind_some]
        dsimp only
        rw [if_pos rfl, if_neg hb0, x2]
        simp (disch := omega) only [mq_n0, mn_cl, mq_no, false_or, ↓reduceIte, hbas, mS_at c1, c2]
    · refine ⟨2, o, fun k => ?_⟩
      have hm : f_Mo_member a b (nI (mlen M)) (mF U) (mS U) bas = some (0, 2) := by
        rw [f_Mo_member, x4, Option.bind_some]
        unfold ct_jn
        dsimp only
        rcases e3 with e3 | ⟨e3, e4⟩
        · rw [if_pos e3, rf2, Option.bind_some]
          dsimp only
          rw [if_neg i_10]
        · rw [if_neg e3, if_neg e4, rf2, Option.bind_some]
          dsimp only
          rw [if_neg i_10]
      have := R237_ok (xs := xs) hi hL (out := o) (by rw [ha, hb]; exact hm) (fun e => absurd e (by decide))
      have hg : g_Sq_member a b (nI (mlen M)) = some (some 1) := by
        rw [g_Sq_member, x3, Option.bind_some, if_neg i_10, if_neg e1, if_neg e2]
      rw [f_La_law_R220]
      simp (disch := omega) only [mq_1, mq_2, mw_n0, mw_cl, mq_no, false_or, ↓reduceIte, ha, hb]
      rw [if_pos hg, this]
  · refine ⟨1, o, fun k => ?_⟩
    have hm : f_Mo_member a b (nI (mlen M)) (mF U) (mS U) bas = some (0, 1) := by
      rw [f_Mo_member, x4, Option.bind_some]
      unfold ct_jn
      dsimp only
      by_cases e1 : b < 0
      · rw [if_pos e1, rf11, Option.bind_some]
        dsimp only
        rw [if_neg i_10]
      · rw [if_neg e1]
        by_cases e2 : b ≤ 1
        · rw [if_pos e2, rf1, Option.bind_some]
          dsimp only
          rw [if_neg i_10]
        · rw [if_neg e2, rf11, Option.bind_some]
          dsimp only
          rw [if_neg i_10]
    have := R237_ok (xs := xs) hi hL (out := o) (by rw [ha, hb]; exact hm) (fun e => absurd e (by decide))
    have hg : g_Sq_member a b (nI (mlen M)) = some (some 2) := by
      rw [g_Sq_member, x3, Option.bind_some, if_pos rfl]
    rw [f_La_law_R220]
    simp (disch := omega) only [mq_1, mq_2, mw_n0, mw_cl, mq_no, false_or, ↓reduceIte, ha, hb]
    rw [hg, if_neg ne21, if_pos rfl, this]
