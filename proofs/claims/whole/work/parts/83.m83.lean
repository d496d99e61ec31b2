-- MATHEMATICS 23: check, squares, free
theorem TT_tr {ct mt : Nat → Int32} (h : TR ct mt) {s : Nat} (hs : s ≤ 6) : ∀ a c, a ≤ c → c < s → TT ct a c = TT mt a c := by
  intro a c hac hc
  unfold TT
  rw [(h a c hac (by omega)).1]
theorem TT_30 {ct : Nat → Int32} (h : ∀ a c, a ≤ c → c < 6 → sm 30 (ct (6 * a + c))) {s : Nat} (hs : s ≤ 6) : ∀ a c, a ≤ c → c < s → (TT ct a c).toInt.natAbs ≤ 30 := by
  intro a c hac hc
  unfold TT
  rw [Int32.toInt_toInt64]
  exact h a c hac (by omega)
theorem i_20 : ¬ (2 : Int32) = -1 := by decide
theorem me_R443 {U L : Nat} {xs : Nat → Int32} {th : Int32} {cn ct : Nat → Int32} {hsz : Int32} {cor mem : Nat → Int32} {psz fsz : Int32} {sec cel pow sha han fre : Nat → Int32} {ssz : Int32} {sl : Nat → Int64} {sq : Nat → Int32} {ms isT sqs : Int32} {mn bas mt : Nat → Int32} {wA wB rA rB : Nat → Int64}
    (h : INV U th cn ct hsz cor mem psz fsz sec cel pow sha han fre ssz sl sq ms isT sqs mn bas mt wA wB rA rB) (rest : Nat → Int32) (mds : Int32) (l mA mB : Nat → Int64) :
    ∃ th' rest' ssz' sl' sq' t isT' sqs' mds' wA' wB' rA' rB' l' mA' mB', INV U th' cn ct hsz cor mem psz fsz sec cel pow sha han fre ssz' sl' sq' ms isT' sqs' mn bas mt wA' wB' rA' rB' ∧
      ∀ k, f_La_law_R443 L xs cn ct hsz psz cel pow sha rest ssz sl sq (nI (PU U)) ms sqs mds (mF U) (mS U) mn bas mt wA wB rA rB l mA mB k = k th' rest' ssz' sl' sq' t isT' sqs' mds' wA' wB' rA' rB' l' mA' mB' := by
  obtain ⟨M, hB, hT⟩ := h
  have hM := hB.mu.1
  have hl := mlen_le M hM
  have hag := TT_tr hT.tr hl
  have q1 := hB.hs
  subst q1
  have q2 := hB.ms
  subst q2
  have q3 := hB.ps
  subst q3
  obtain ⟨b, rest', b1, b2, b3⟩ := me_make hB.mu hB.mm hB.nr hB.pa hT.tr rest
  rcases b1 with rfl | rfl
  · refine ⟨0, rest', ssz, sl, sq, 0, 0, sqs, mds, wA, wB, rA, rB, l, mA, mB, ⟨M, hB, hT.tr, hT.t30, rfl, Or.inl rfl⟩, fun k => ?_⟩
    rw [f_La_law_R443, f_Sq_check, b2, Option.bind_some]
    dsimp only
    rw [if_pos rfl, Option.bind_some]
    dsimp only
    rw [f_Mo_check, b3, Option.bind_some, if_pos rfl, Option.bind_some]
    dsimp only
    rw [if_pos rfl]
  · rcases me_failing (s := mlen M) hl sl sq ct with ⟨g, l1, s1, c1, c2, c3⟩ | ⟨w, z, l1, s1, c1, c2⟩
    · rcases me_steps (s := mlen M) hl l mA mB mt with ⟨-, l2, mA', mB', d1, d2⟩ | ⟨g', _⟩
      · obtain ⟨wA', wB', rA', rB', e1, e2⟩ := me_keep (s := mlen M) hl d1 (nI (SQ (TT mt) (mlen M))) wA wB rA rB
        refine ⟨1, rest', nI (SQ (TT ct) (mlen M)), l1, s1, 0, 1, nI (SQ (TT mt) (mlen M)), nI (SQ (TT mt) (mlen M)), wA', wB', rA', rB', l2, mA', mB', ⟨M, hB, hT.tr, hT.t30, rfl, Or.inr ⟨rfl, TT ct, TT_30 hT.t30 hl, g, c1, c2, rfl, ?_, KP_agree (fun a c hac hc => (hag a c hac hc).symm) e1⟩⟩, fun k => ?_⟩
        · rw [SQ_agree hag (mlen M) (Nat.le_refl _)]
        · rw [f_La_law_R443, f_Sq_check, b2, Option.bind_some]
          dsimp only
          rw [if_neg i_10, c3, Option.bind_some]
          dsimp only
          rw [if_pos rfl, Option.bind_some]
          dsimp only
          rw [f_Mo_check, b3, Option.bind_some, if_neg i_10, d2, Option.bind_some]
          dsimp only
          rw [if_neg i_10, e2, Option.bind_some, Option.bind_some]
          dsimp only
          rw [if_pos rfl]
      · exact absurd (good_agree hag g) g'
    · have hng : ¬ good (TT ct) (mlen M) := c1.2 (TT ct) (fun a c _ _ => rfl)
      rcases me_steps (s := mlen M) hl l mA mB mt with ⟨g', _⟩ | ⟨-, z', l2, mA', mB', d2⟩
      · exact absurd (good_agree (fun a c hac hc => (hag a c hac hc).symm) g') hng
      · refine ⟨0, rest', z, l1, s1, 0, 0, sqs, z', wA, wB, rA, rB, l2, mA', mB', ⟨M, hB, hT.tr, hT.t30, rfl, Or.inl rfl⟩, fun k => ?_⟩
        have hw := c1.1
        rw [f_La_law_R443, f_Sq_check, b2, Option.bind_some]
        dsimp only
        rw [if_neg i_10, c2, Option.bind_some]
        dsimp only
        rw [if_neg (mn_m1 (by omega)), Option.bind_some]
        dsimp only
        rw [f_Mo_check, b3, Option.bind_some, if_neg i_10, d2, Option.bind_some]
        dsimp only
        rw [if_pos rfl, Option.bind_some]
        dsimp only
        rw [if_pos rfl]
theorem rfx1 (x y : Int32) : f_Mo_refuses 1 x y = some (1, 1) := by
  unfold f_Mo_refuses ct_jn
  dsimp only
  rw [if_neg i_10, if_neg (by decide)]
theorem rfx2 (y : Int32) : f_Mo_refuses 0 1 y = some (1, 2) := by
  unfold f_Mo_refuses ct_jn
  dsimp only
  rw [if_pos rfl, if_neg i_10, if_neg (by decide)]
theorem rf3 : f_Mo_refuses 0 0 1 = some (1, 3) := rfl
theorem R461_ok {L : Nat} {xs : Nat → Int32} {isT sqs : Int32} {out : Nat → Int64} {r t : Int32} (h : f_Mo_squares isT sqs = some (r, t)) (ho : t = 0 → out 0 = r.toInt64) : ∀ k, f_La_law_R461 L xs isT sqs out t k = k t := by
  intro k
  rw [f_La_law_R461, h, Option.bind_some]
  dsimp only
  rw [me_thr, Option.bind_some, if_pos rfl]
  by_cases e : t = 0
  · rw [if_pos e, if_neg o_nk, o_eq (ho e)]
  · rw [if_neg e]
theorem me_R456 {U L : Nat} {xs : Nat → Int32} {th : Int32} {cn ct : Nat → Int32} {hsz : Int32} {cor mem : Nat → Int32} {psz fsz : Int32} {sec cel pow sha han fre : Nat → Int32} {ssz : Int32} {sl : Nat → Int64} {sq : Nat → Int32} {ms isT sqs : Int32} {mn bas mt : Nat → Int32} {wA wB rA rB : Nat → Int64}
    (h : INV U th cn ct hsz cor mem psz fsz sec cel pow sha han fre ssz sl sq ms isT sqs mn bas mt wA wB rA rB) (o : Nat → Int64) :
    ∃ t o', ∀ k, f_La_law_R456 L xs th ssz isT sqs o k = k t o' := by
  obtain ⟨M, hB, hT⟩ := h
  obtain ⟨e, hS⟩ := hT.sr
  subst e
  rcases hS with e | ⟨e, T, s1, s2, s3, s4, s5, s6, s7⟩
  · subst e
    refine ⟨1, o, fun k => ?_⟩
    have := R461_ok (L := L) (xs := xs) (isT := 0) (sqs := sqs) (out := o) (r := 0) (t := 1) (by
      unfold f_Mo_squares ct_jn
      dsimp only
      rw [if_pos rfl, rf1, Option.bind_some]
      dsimp only
      rw [if_neg i_10]) (fun e => absurd e (by decide))
    rw [f_La_law_R456, g_Sq_squares, if_pos rfl, if_pos rfl, this]
  · subst e s5 s6
    refine ⟨0, vp_updL o 0 (nI (SQ T (mlen M))).toInt64, fun k => ?_⟩
    have := R461_ok (L := L) (xs := xs) (isT := 1) (sqs := nI (SQ T (mlen M))) (out := vp_updL o 0 (nI (SQ T (mlen M))).toInt64) (r := nI (SQ T (mlen M))) (t := 0) (by
      unfold f_Mo_squares ct_jn
      dsimp only
      rw [if_neg i_10, rf0, Option.bind_some]
      dsimp only
      rw [if_pos rfl]) (fun e => uL_eq)
    have hla : f_La_squares 1 (nI (SQ T (mlen M))) o = some (0, vp_updL o 0 (nI (SQ T (mlen M))).toInt64) := by
      rw [f_La_squares, f_Sq_squares, if_neg i_10, Option.bind_some]
      rfl
    rw [f_La_law_R456, g_Sq_squares, if_neg i_10, if_neg nen3, if_pos rfl, hla, Option.bind_some]
    dsimp only
    rw [this]
theorem me_R646 {U L : Nat} {xs : Nat → Int32} {th : Int32} {cn ct : Nat → Int32} {hsz : Int32} {cor mem : Nat → Int32} {psz fsz : Int32} {sec cel pow sha han fre : Nat → Int32} {ssz : Int32} {sl : Nat → Int64} {sq : Nat → Int32} {ms isT sqs : Int32} {mn bas mt : Nat → Int32} {wA wB rA rB : Nat → Int64}
    (h : INV U th cn ct hsz cor mem psz fsz sec cel pow sha han fre ssz sl sq ms isT sqs mn bas mt wA wB rA rB) (ff fs hf hs : Nat → Int32) :
    ∃ t fr' ff' fs' hf' hs', ∀ k, f_La_law_R646 L xs fsz (nI (PU U)) ms (mF U) (mS U) bas ff fs hf hs k = k t fr' ff' fs' hf' hs' := by
  obtain ⟨M, hB, hT⟩ := h
  obtain ⟨ff', fs', hf', hs', p1, p2, p3⟩ := me_pairs hB.mu hB.mm ff fs hf hs
  refine ⟨0, nI (FF M), ff', fs', hf', hs', fun k => ?_⟩
  rw [f_La_law_R646, f_Sq_free, Option.bind_some, hB.ms, hB.fs, f_Mo_free, p3, Option.bind_some, Option.bind_some]
  dsimp only
  rw [if_pos rfl]
-- weight and row
theorem R517_ok {L i : Nat} {xs : Nat → Int32} (hi : i + 3 < L) (hL : L ≤ 2049) {isT sqs : Int32} {wA wB : Nat → Int64} {out : Nat → Int64} {r : Int64} {t : Int32} (h : f_Mo_weight (xs (i + 1)) (xs (i + 2)) isT sqs wA wB = some (r, t)) (ho : t = 0 → out 0 = r) : ∀ k, f_La_law_R517 L xs (nI i) isT sqs wA wB out t k = k t := by
  intro k
  rw [f_La_law_R517]
  simp (disch := omega) only [mq_1, mq_2, mw_n0, mw_cl, mq_no, false_or, ↓reduceIte]
  rw [h, Option.bind_some]
  dsimp only
  rw [me_thr, Option.bind_some, if_pos rfl]
  by_cases e : t = 0
  · rw [if_pos e, if_neg o_nk, o_eq (ho e)]
  · rw [if_neg e]
theorem R590_ok {L i : Nat} {xs : Nat → Int32} (hi : i + 3 < L) (hL : L ≤ 2049) {ms isT sqs : Int32} {rA rB : Nat → Int64} {out : Nat → Int64} {r : Int64} {t : Int32} (h : f_Mo_row (xs (i + 1)) (xs (i + 2)) (xs (i + 3)) ms isT sqs rA rB = some (r, t)) (ho : t = 0 → out 0 = r) : ∀ k, f_La_law_R590 L xs (nI i) ms isT sqs rA rB out t k = k t := by
  intro k
  rw [f_La_law_R590]
  simp (disch := omega) only [mq_1, mq_2, mq_3, mw_n0, mw_cl, mq_no, false_or, ↓reduceIte]
  rw [h, Option.bind_some]
  dsimp only
  rw [me_thr, Option.bind_some, if_pos rfl]
  by_cases e : t = 0
  · rw [if_pos e, if_neg o_nk, o_eq (ho e)]
  · rw [if_neg e]
theorem me_isS {s : Nat} (hs : s ≤ 6) (p : Int32) : (∃ x, x < s ∧ p = nI x ∧ f_Sq_isSquare p (nI s) = some 1 ∧ f_Mo_isNoSquare p (nI s) = some 0) ∨ (f_Sq_isSquare p (nI s) = some 0 ∧ f_Mo_isNoSquare p (nI s) = some 1) := me_isM hs p
theorem me_nos (p z : Int32) : ∃ r, f_Mo_isNoSquare p z = some r := by
  unfold f_Mo_isNoSquare
  split
  · exact ⟨_, rfl⟩
  · split <;> exact ⟨_, rfl⟩
theorem me_isP (x : Int32) : (x = 0 ∧ f_Sq_isPart x = some 1 ∧ ¬ x < 0 ∧ x ≤ 1) ∨ (x = 1 ∧ f_Sq_isPart x = some 1 ∧ ¬ x < 0 ∧ x ≤ 1) ∨ (f_Sq_isPart x = some 0 ∧ (x < 0 ∨ (¬ x < 0 ∧ ¬ x ≤ 1))) := by
  rcases me_let x with e | e | ⟨e1, e2, e3⟩
  · subst e; exact Or.inl ⟨rfl, rfl, by decide, by decide⟩
  · subst e; exact Or.inr (Or.inl ⟨rfl, rfl, by decide, by decide⟩)
  · refine Or.inr (Or.inr ⟨?_, e3⟩)
    unfold f_Sq_isPart
    rw [if_neg e1, if_neg e2]
theorem me_R500 {U L i : Nat} {xs : Nat → Int32} (hi : i + 3 < L) (hL : L ≤ 2049) {th : Int32} {cn ct : Nat → Int32} {hsz : Int32} {cor mem : Nat → Int32} {psz fsz : Int32} {sec cel pow sha han fre : Nat → Int32} {ssz : Int32} {sl : Nat → Int64} {sq : Nat → Int32} {ms isT sqs : Int32} {mn bas mt : Nat → Int32} {wA wB rA rB : Nat → Int64}
    (h : INV U th cn ct hsz cor mem psz fsz sec cel pow sha han fre ssz sl sq ms isT sqs mn bas mt wA wB rA rB) (o : Nat → Int64) :
    ∃ t o', ∀ k, f_La_law_R500 L xs (nI i) th ssz sl sq isT sqs wA wB o k = k t o' := by
  obtain ⟨M, hB, hT⟩ := h
  have hM := hB.mu.1
  have hl := mlen_le M hM
  generalize ha : xs (i + 1) = a
  generalize hb : xs (i + 2) = b
  obtain ⟨e, hS⟩ := hT.sr
  subst e
  rcases hS with e | ⟨e, T, s1, s2, s3, s4, s5, s6, s7⟩
  · subst e
    refine ⟨1, o, fun k => ?_⟩
    have hm : f_Mo_weight a b 0 sqs wA wB = some (0, 1) := by
      obtain ⟨r, hr⟩ := me_nos a sqs
      unfold f_Mo_weight ct_jn
      dsimp only
      rw [if_pos rfl, hr, Option.bind_some]
      by_cases e1 : b < 0
      · rw [if_pos e1, rfx1, Option.bind_some]
        dsimp only
        rw [if_neg i_10]
      · rw [if_neg e1]
        by_cases e2 : b ≤ 1
        · rw [if_pos e2, rfx1, Option.bind_some]
          dsimp only
          rw [if_neg i_10]
        · rw [if_neg e2, rfx1, Option.bind_some]
          dsimp only
          rw [if_neg i_10]
    have := R517_ok (xs := xs) hi hL (out := o) (by rw [ha, hb]; exact hm) (fun e => absurd e (by decide))
    have hg : g_Sq_weight a b 0 ssz = some (some 3) := by rw [g_Sq_weight, if_pos rfl]
    rw [f_La_law_R500]
    simp (disch := omega) only [mq_1, mq_2, mw_n0, mw_cl, mq_no, false_or, ↓reduceIte, ha, hb]
    rw [hg, if_neg ne31, if_neg ne32, if_pos rfl, this]
  · subst e s5 s6
    have hz := SQ_le (T := T) (mlen M)
    rcases me_isS (show SQ T (mlen M) ≤ 6 by omega) a with ⟨x, x1, x2, x3, x4⟩ | ⟨x3, x4⟩
    · obtain ⟨j, j1, j2, j3⟩ := SQ_hit (mlen M) x x1
      subst j3
      obtain ⟨v1, v2, v3⟩ := me_weight hl j1 j2 s3 s4 s2 s1 b
      obtain ⟨k1, k2, -⟩ := s7 j j1 j2
      have hj := SQ_le (T := T) j
      have okc : ∀ r : Int64, f_Sq_isPart b = some 1 → f_Sq_partOf ((SA T j).1 j j) (2 * (SA T j).2) b = some r → f_Mo_weight a b 1 (nI (SQ T (mlen M))) wA wB = some (r, 0) → ∃ t o', ∀ k, f_La_law_R500 L xs (nI i) 1 (nI (SQ T (mlen M))) sl sq 1 (nI (SQ T (mlen M))) wA wB o k = k t o' := by
        intro r g1 g2 g3
        refine ⟨0, vp_updL o 0 r, fun k => ?_⟩
        have := R517_ok (xs := xs) hi hL (out := vp_updL o 0 r) (by rw [ha, hb]; exact g3) (fun _ => uL_eq)
        have hg : g_Sq_weight a b 1 (nI (SQ T (mlen M))) = some none := by
          rw [g_Sq_weight, if_neg i_10, x3, Option.bind_some, if_neg i_10, g1, Option.bind_some, if_neg i_10]
        have hla : f_La_weight a b 1 (nI (SQ T (mlen M))) sl sq o = some (0, vp_updL o 0 r) := by
          rw [f_La_weight, f_Sq_weight, if_neg i_10, x3, Option.bind_some, if_neg i_10, g1, Option.bind_some, if_neg i_10, x2, v1, Option.bind_some, v2, Option.bind_some, g2, Option.bind_some, Option.bind_some]
          rfl
        rw [f_La_law_R500]
        simp (disch := omega) only [mq_1, mq_2, mw_n0, mw_cl, mq_no, false_or, ↓reduceIte, ha, hb]
        rw [hg, if_neg nen1, if_neg nen2, if_neg nen3, if_pos rfl, hla, Option.bind_some]
        dsimp only
        rw [this]
      rcases me_isP b with ⟨e, p1, p2, p3⟩ | ⟨e, p1, p2, p3⟩ | ⟨p1, p2⟩
      · rw [if_pos e] at v3
        refine okc _ p1 v3 ?_
        unfold f_Mo_weight ct_jn
        dsimp only
        rw [if_neg i_10, x4, Option.bind_some, if_neg p2, if_pos p3, rf0, Option.bind_some]
        dsimp only
        rw [if_pos rfl, if_pos e, x2]
        simp (disch := omega) only [mq_n0, mn_cl, mq_no, false_or, ↓reduceIte, k1]
      · have e0 : ¬ b = 0 := by rw [e]; decide
        rw [if_neg e0] at v3
        refine okc _ p1 v3 ?_
        unfold f_Mo_weight ct_jn
        dsimp only
        rw [if_neg i_10, x4, Option.bind_some, if_neg p2, if_pos p3, rf0, Option.bind_some]
        dsimp only
        rw [if_pos rfl, if_neg e0, x2]
        simp (disch := omega) only [mq_n0, mn_cl, mq_no, false_or, ↓reduceIte, k2]
      · refine ⟨3, o, fun k => ?_⟩
        have hm : f_Mo_weight a b 1 (nI (SQ T (mlen M))) wA wB = some (0, 3) := by
          unfold f_Mo_weight ct_jn
          dsimp only
          rw [if_neg i_10, x4, Option.bind_some]
          rcases p2 with p2 | ⟨p2, p3⟩
          · rw [if_pos p2, rf3, Option.bind_some]
            dsimp only
            rw [if_neg i_10]
          · rw [if_neg p2, if_neg p3, rf3, Option.bind_some]
            dsimp only
            rw [if_neg i_10]
        have := R517_ok (xs := xs) hi hL (out := o) (by rw [ha, hb]; exact hm) (fun e => absurd e (by decide))
        have hg : g_Sq_weight a b 1 (nI (SQ T (mlen M))) = some (some 1) := by
          rw [g_Sq_weight, if_neg i_10, x3, Option.bind_some, if_neg i_10, p1, Option.bind_some, if_pos rfl]
        rw [f_La_law_R500]
        simp (disch := omega) only [mq_1, mq_2, mw_n0, mw_cl, mq_no, false_or, ↓reduceIte, ha, hb]
        rw [if_pos hg, this]
    · refine ⟨2, o, fun k => ?_⟩
      have hm : f_Mo_weight a b 1 (nI (SQ T (mlen M))) wA wB = some (0, 2) := by
        unfold f_Mo_weight ct_jn
        dsimp only
        rw [if_neg i_10, x4, Option.bind_some]
        by_cases e1 : b < 0
        · rw [if_pos e1, rfx2, Option.bind_some]
          dsimp only
          rw [if_neg i_10]
        · rw [if_neg e1]
          by_cases e2 : b ≤ 1
          · rw [if_pos e2, rfx2, Option.bind_some]
            dsimp only
            rw [if_neg i_10]
          · rw [if_neg e2, rfx2, Option.bind_some]
            dsimp only
            rw [if_neg i_10]
      have := R517_ok (xs := xs) hi hL (out := o) (by rw [ha, hb]; exact hm) (fun e => absurd e (by decide))
      have hg : g_Sq_weight a b 1 (nI (SQ T (mlen M))) = some (some 2) := by
        rw [g_Sq_weight, if_neg i_10, x3, Option.bind_some, if_pos rfl]
      rw [f_La_law_R500]
      simp (disch := omega) only [mq_1, mq_2, mw_n0, mw_cl, mq_no, false_or, ↓reduceIte, ha, hb]
      rw [hg, if_neg ne21, if_pos rfl, this]
