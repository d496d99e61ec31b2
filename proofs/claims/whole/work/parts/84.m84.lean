-- MATHEMATICS 24: row, find
theorem me_out (p z : Int32) : ∃ r, f_Mo_isOut p z = some r := me_nos p z
/-- the last test of the reference leaves what is refused already -/
theorem part_any {X : Int32 → Option (Int64 × Int32)} {v : Option (Int64 × Int32)} (b : Int32) (h : ∀ y, X y = v) : (if b < 0 then X 1 else if b ≤ 1 then X 0 else X 1) = v := by
  by_cases e1 : b < 0
  · rw [if_pos e1, h]
  · rw [if_neg e1]
    by_cases e2 : b ≤ 1
    · rw [if_pos e2, h]
    · rw [if_neg e2, h]
theorem me_R567 {U L i : Nat} {xs : Nat → Int32} (hi : i + 3 < L) (hL : L ≤ 2049) {th : Int32} {cn ct : Nat → Int32} {hsz : Int32} {cor mem : Nat → Int32} {psz fsz : Int32} {sec cel pow sha han fre : Nat → Int32} {ssz : Int32} {sl : Nat → Int64} {sq : Nat → Int32} {ms isT sqs : Int32} {mn bas mt : Nat → Int32} {wA wB rA rB : Nat → Int64}
    (h : INV U th cn ct hsz cor mem psz fsz sec cel pow sha han fre ssz sl sq ms isT sqs mn bas mt wA wB rA rB) (o : Nat → Int64) :
    ∃ t o', ∀ k, f_La_law_R567 L xs (nI i) th hsz ssz sl sq ms isT sqs rA rB o k = k t o' := by
  obtain ⟨M, hB, hT⟩ := h
  have hM := hB.mu.1
  have hl := mlen_le M hM
  rw [hB.hs, hB.ms]
  generalize ha : xs (i + 1) = a
  generalize hb : xs (i + 2) = b
  generalize hc : xs (i + 3) = c
  obtain ⟨e, hS⟩ := hT.sr
  subst e
  rcases hS with e | ⟨e, T, s1, s2, s3, s4, s5, s6, s7⟩
  · subst e
    refine ⟨1, o, fun k => ?_⟩
    have hm : f_Mo_row a b c (nI (mlen M)) 0 sqs rA rB = some (0, 1) := by
      obtain ⟨r, hr⟩ := me_nos a sqs
      obtain ⟨r2, hr2⟩ := me_out b (nI (mlen M))
      have key : ∀ x y : Int32, ((f_Mo_refuses 1 x y).bind (fun ((r_6, v_thrown_7) : Int32 × Int32) => (if r_6 = 0 then (if c = 0 then (if ((6 * a) + b) < 0 ∨ 36 ≤ ((6 * a) + b).toNatClampNeg then none else some ((rA ((6 * a) + b).toNatClampNeg), v_thrown_7)) else (if ((6 * a) + b) < 0 ∨ 36 ≤ ((6 * a) + b).toNatClampNeg then none else some ((rB ((6 * a) + b).toNatClampNeg), v_thrown_7))) else some ((0 : Int64), v_thrown_7)))) = some (0, 1) := by
        intro x y
        rw [rfx1, Option.bind_some]
        dsimp only
        rw [if_neg i_10]
      unfold f_Mo_row ct_jn
      dsimp only
      rw [if_pos rfl, hr, Option.bind_some]
      by_cases e1 : r = 0
      · rw [if_pos e1, hr2, Option.bind_some]
        by_cases e2 : r2 = 0
        · rw [if_pos e2]; exact part_any c (fun y => key 0 y)
        · rw [if_neg e2]; exact part_any c (fun y => key 1 y)
      · rw [if_neg e1]; exact part_any c (fun y => key 1 y)
    have := R590_ok (xs := xs) hi hL (out := o) (by rw [ha, hb, hc]; exact hm) (fun e => absurd e (by decide))
    have hg : g_Sq_row a b c 0 (nI (mlen M)) ssz = some (some 3) := by rw [g_Sq_row, if_pos rfl]
    rw [f_La_law_R567]
    simp (disch := omega) only [mq_1, mq_2, mq_3, mw_n0, mw_cl, mq_no, false_or, ↓reduceIte, ha, hb, hc]
    rw [hg, if_neg ne31, if_neg ne32, if_pos rfl, this]
  · subst e s5 s6
    have hz := SQ_le (T := T) (mlen M)
    have key2 : ∀ y : Int32, ((f_Mo_refuses 0 1 y).bind (fun ((r_6, v_thrown_7) : Int32 × Int32) => (if r_6 = 0 then (if c = 0 then (if ((6 * a) + b) < 0 ∨ 36 ≤ ((6 * a) + b).toNatClampNeg then none else some ((rA ((6 * a) + b).toNatClampNeg), v_thrown_7)) else (if ((6 * a) + b) < 0 ∨ 36 ≤ ((6 * a) + b).toNatClampNeg then none else some ((rB ((6 * a) + b).toNatClampNeg), v_thrown_7))) else some ((0 : Int64), v_thrown_7)))) = some (0, 2) := by
      intro y
      rw [rfx2, Option.bind_some]
      dsimp only
      rw [if_neg i_10]
    have ref2 : g_Sq_row a b c 1 (nI (mlen M)) (nI (SQ T (mlen M))) = some (some 2) → f_Mo_row a b c (nI (mlen M)) 1 (nI (SQ T (mlen M))) rA rB = some (0, 2) → ∃ t o', ∀ k, f_La_law_R567 L xs (nI i) 1 (nI (mlen M)) (nI (SQ T (mlen M))) sl sq (nI (mlen M)) 1 (nI (SQ T (mlen M))) rA rB o k = k t o' := by
      intro h1 h2
      refine ⟨2, o, fun k => ?_⟩
      have := R590_ok (xs := xs) hi hL (out := o) (by rw [ha, hb, hc]; exact h2) (fun e => absurd e (by decide))
      rw [f_La_law_R567]
      simp (disch := omega) only [mq_1, mq_2, mq_3, mw_n0, mw_cl, mq_no, false_or, ↓reduceIte, ha, hb, hc]
      rw [h1, if_neg ne21, if_pos rfl, this]
    rcases me_isS (show SQ T (mlen M) ≤ 6 by omega) a with ⟨x, x1, x2, x3, x4⟩ | ⟨x3, x4⟩
    · rcases me_isM hl b with ⟨y, y1, y2, y3, y4⟩ | ⟨y3, y4⟩
      · obtain ⟨j, j1, j2, j3⟩ := SQ_hit (mlen M) x x1
        subst j3
        obtain ⟨v1, v2, v3⟩ := me_row hl j1 y1 j2 s3 s4 s2 s1 c
        obtain ⟨-, -, k3⟩ := s7 j j1 j2
        obtain ⟨k1, k2⟩ := k3 y y1
        have hj := SQ_le (T := T) j
        have okc : ∀ r : Int64, f_Sq_isPart c = some 1 → f_Sq_partOf (if j ≤ y then (SA T j).1 j y else 0) ((SA T j).1 j j) c = some r → f_Mo_row a b c (nI (mlen M)) 1 (nI (SQ T (mlen M))) rA rB = some (r, 0) → ∃ t o', ∀ k, f_La_law_R567 L xs (nI i) 1 (nI (mlen M)) (nI (SQ T (mlen M))) sl sq (nI (mlen M)) 1 (nI (SQ T (mlen M))) rA rB o k = k t o' := by
          intro r g1 g2 g3
          refine ⟨0, vp_updL o 0 r, fun k => ?_⟩
          have := R590_ok (xs := xs) hi hL (out := vp_updL o 0 r) (by rw [ha, hb, hc]; exact g3) (fun _ => uL_eq)
          have hg : g_Sq_row a b c 1 (nI (mlen M)) (nI (SQ T (mlen M))) = some none := by
            rw [g_Sq_row, if_neg i_10, x3, Option.bind_some, if_neg i_10, y3, Option.bind_some, if_neg i_10, g1, Option.bind_some, if_neg i_10]
          have hla : f_La_row a b c 1 (nI (mlen M)) (nI (SQ T (mlen M))) sl sq o = some (0, vp_updL o 0 r) := by
            rw [f_La_row, f_Sq_row, if_neg i_10, x3, Option.bind_some, if_neg i_10, y3, Option.bind_some, if_neg i_10, g1, Option.bind_some, if_neg i_10, x2, y2, v1, Option.bind_some, v2, Option.bind_some, g2, Option.bind_some, Option.bind_some]
            rfl
          rw [f_La_law_R567]
          simp (disch := omega) only [mq_1, mq_2, mq_3, mw_n0, mw_cl, mq_no, false_or, ↓reduceIte, ha, hb, hc]
          rw [hg, if_neg nen1, if_neg nen2, if_neg nen3, if_pos rfl, hla, Option.bind_some]
          dsimp only
          rw [this]
        rcases me_isP c with ⟨e, p1, p2, p3⟩ | ⟨e, p1, p2, p3⟩ | ⟨p1, p2⟩
        · rw [if_pos e] at v3
          refine okc _ p1 v3 ?_
          unfold f_Mo_row ct_jn
          dsimp only
          rw [if_neg i_10, x4, Option.bind_some, if_pos rfl, y4, Option.bind_some, if_pos rfl, if_neg p2, if_pos p3, rf0, Option.bind_some]
          dsimp only
          rw [if_pos rfl, if_pos e, x2, y2]
          simp (disch := omega) only [mq_6, mq_n0, mn_cl, mq_no, false_or, ↓reduceIte, k1]
        · have e0 : ¬ c = 0 := by rw [e]; decide
          rw [if_neg e0] at v3
          refine okc _ p1 v3 ?_
          unfold f_Mo_row ct_jn
          dsimp only
          rw [if_neg i_10, x4, Option.bind_some, if_pos rfl, y4, Option.bind_some, if_pos rfl, if_neg p2, if_pos p3, rf0, Option.bind_some]
          dsimp only
          rw [if_pos rfl, if_neg e0, x2, y2]
          simp (disch := omega) only [mq_6, mq_n0, mn_cl, mq_no, false_or, ↓reduceIte, k2]
        · refine ⟨3, o, fun k => ?_⟩
          have hm : f_Mo_row a b c (nI (mlen M)) 1 (nI (SQ T (mlen M))) rA rB = some (0, 3) := by
            unfold f_Mo_row ct_jn
            dsimp only
            rw [if_neg i_10, x4, Option.bind_some, if_pos rfl, y4, Option.bind_some, if_pos rfl]
            rcases p2 with p2 | ⟨p2, p3⟩
            · rw [if_pos p2, rf3, Option.bind_some]
              dsimp only
              rw [if_neg i_10]
            · rw [if_neg p2, if_neg p3, rf3, Option.bind_some]
              dsimp only
              rw [if_neg i_10]
          have := R590_ok (xs := xs) hi hL (out := o) (by rw [ha, hb, hc]; exact hm) (fun e => absurd e (by decide))
          have hg : g_Sq_row a b c 1 (nI (mlen M)) (nI (SQ T (mlen M))) = some (some 1) := by
            rw [g_Sq_row, if_neg i_10, x3, Option.bind_some, if_neg i_10, y3, Option.bind_some, if_neg i_10, p1, Option.bind_some, if_pos rfl]
          rw [f_La_law_R567]
          simp (disch := omega) only [mq_1, mq_2, mq_3, mw_n0, mw_cl, mq_no, false_or, ↓reduceIte, ha, hb, hc]
          rw [if_pos hg, this]
      · apply ref2
        · rw [g_Sq_row, if_neg i_10, x3, Option.bind_some, if_neg i_10, y3, Option.bind_some, if_pos rfl]
        · unfold f_Mo_row ct_jn
          dsimp only
          rw [if_neg i_10, x4, Option.bind_some, if_pos rfl, y4, Option.bind_some, if_neg i_10]
          exact part_any c key2
    · apply ref2
      · rw [g_Sq_row, if_neg i_10, x3, Option.bind_some, if_pos rfl]
      · unfold f_Mo_row ct_jn
        dsimp only
        rw [if_neg i_10, x4, Option.bind_some, if_neg i_10]
        exact part_any c key2
-- find
theorem R670_ok {L i : Nat} {xs : Nat → Int32} (hi : i + 3 < L) (hL : L ≤ 2049) {pws ms isT sqs mds frs : Int32} {fi se mn bas mt : Nat → Int32} {wA wB rA rB l mA mB : Nat → Int64} {ff fs hf hs tr cu : Nat → Int32} {out : Nat → Int64} {r t isT' sqs' mds' frs' : Int32} {mt' : Nat → Int32} {wA' wB' rA' rB' l' mA' mB' : Nat → Int64} {ff' fs' hf' hs' tr' cu' : Nat → Int32}
    (h : f_Mo_find (xs (i + 1)) pws ms isT sqs mds frs fi se mn bas mt wA wB rA rB l mA mB ff fs hf hs tr cu = some (r, t, isT', sqs', mds', frs', mt', wA', wB', rA', rB', l', mA', mB', ff', fs', hf', hs', tr', cu')) (ho : t = 0 → out 0 = r.toInt64) :
    ∀ k, f_La_law_R670 L xs (nI i) pws ms isT sqs mds frs fi se mn bas mt wA wB rA rB l mA mB ff fs hf hs tr cu out t k = k t isT' sqs' mds' frs' mt' wA' wB' rA' rB' l' mA' mB' ff' fs' hf' hs' tr' cu' := by
  intro k
  rw [f_La_law_R670]
  simp (disch := omega) only [mq_1, mw_n0, mw_cl, mq_no, false_or, ↓reduceIte]
  rw [h, Option.bind_some]
  dsimp only
  rw [me_thr, Option.bind_some, if_pos rfl]
  by_cases e : t = 0
  · rw [if_pos e, if_neg o_nk, o_eq (ho e)]
  · rw [if_neg e]
theorem most_ok (p : Int32) : (∃ mo, mo ≤ 2 ∧ p = nI mo ∧ g_Sq_find p = some none ∧ ¬ p < 0 ∧ p ≤ 2) ∨ (g_Sq_find p = some (some 1) ∧ (p < 0 ∨ (¬ p < 0 ∧ ¬ p ≤ 2))) := by
  unfold g_Sq_find
  by_cases h1 : p < 0
  · exact Or.inr ⟨by rw [if_pos h1], Or.inl h1⟩
  · by_cases h2 : p ≤ 2
    · left
      have e0 : (0 : Int32).toInt = 0 := rfl
      have e2 : (2 : Int32).toInt = 2 := rfl
      have h1' := h1
      have h2' := h2
      rw [i_lt] at h1'
      rw [i_le] at h2'
      exact ⟨p.toInt.toNat, by omega, i_inj (by rw [nI_toInt (by omega)]; omega), by rw [if_neg h1, if_pos h2], h1, h2⟩
    · exact Or.inr ⟨by rw [if_neg h1, if_neg h2], Or.inr ⟨h1, h2⟩⟩
theorem wi_sm {x : Int32} (h : wi x) : sm 30 x := by
  obtain ⟨h1, h2⟩ := h
  unfold sm
  rw [i_lt] at h1 h2
  have e1 : (-30 : Int32).toInt = -30 := rfl
  have e2 : (30 : Int32).toInt = 30 := rfl
  omega
theorem sm_le {a b : Nat} {x : Int32} (h : sm a x) (hab : a ≤ b) : sm b x := by
  unfold sm at *; omega
theorem tv_sm {M mo n i : Nat} (hM : M < 64) (hm : mo ≤ 2) {cn : Nat → Int32} (hf : fit M cn (vec mo (FF M) n)) (hi : i < nP M) : sm 30 (tv M cn (vec mo (FF M) n) i) := by
  unfold tv
  by_cases e : fr M i = true
  · rw [if_pos e]; exact sm_le (vec_sm hm) (by omega)
  · rw [if_neg e]
    exact wi_sm (hf _ (pw_lt hM hi) (hN_some hM hi).1)
theorem me_R659 {U L i : Nat} {xs : Nat → Int32} (hi : i + 3 < L) (hL : L ≤ 2049) {th : Int32} {cn ct : Nat → Int32} {hsz : Int32} {cor mem : Nat → Int32} {psz fsz : Int32} {sec cel pow sha han fre : Nat → Int32} {ssz : Int32} {sl : Nat → Int64} {sq : Nat → Int32} {ms isT sqs : Int32} {mn bas mt : Nat → Int32} {wA wB rA rB : Nat → Int64}
    (h : INV U th cn ct hsz cor mem psz fsz sec cel pow sha han fre ssz sl sq ms isT sqs mn bas mt wA wB rA rB) (st sr sc slf : Nat → Int32) (sz : Int32) (ssl : Nat → Int64) (ssq : Nat → Int32) (mds frs : Int32) (l mA mB : Nat → Int64) (ff fs hf hs tr cu : Nat → Int32) (o : Nat → Int64) :
    ∃ th' ct' ssz' sl' sq' st' sr' sc' slf' sz' ssl' ssq' t isT' sqs' mds' frs' mt' wA' wB' rA' rB' l' mA' mB' ff' fs' hf' hs' tr' cu' o', INV U th' cn ct' hsz cor mem psz fsz sec cel pow sha han fre ssz' sl' sq' ms isT' sqs' mn bas mt' wA' wB' rA' rB' ∧
      ∀ k, f_La_law_R659 L xs (nI i) th cn ct hsz psz fsz sec cel pow sha han fre ssz sl sq st sr sc slf sz ssl ssq (nI (PU U)) ms isT sqs mds frs (mF U) (mS U) mn bas mt wA wB rA rB l mA mB ff fs hf hs tr cu o k = k th' ct' ssz' sl' sq' st' sr' sc' slf' sz' ssl' ssq' t isT' sqs' mds' frs' mt' wA' wB' rA' rB' l' mA' mB' ff' fs' hf' hs' tr' cu' o' := by
  have hI := h
  obtain ⟨M, hB, hT⟩ := h
  have hM := hB.mu.1
  have hl := mlen_le M hM
  have q1 := hB.hs
  subst q1
  have q2 := hB.ms
  subst q2
  have q3 := hB.ps
  subst q3
  have q4 := hB.fs
  subst q4
  generalize ha : xs (i + 1) = a
  rcases most_ok a with ⟨mo, hm, rfl, g1, g2, g3⟩ | ⟨g1, g2⟩
  · have hB2 := B_le hm (FF_le M hM)
    obtain ⟨t', r', ch', lf', z', l', q', hC⟩ := me_tried hM hm hB.pa hB.ph (PF_f hM hB.pf) hB.n15 st sr sc slf sz ssl ssq
    obtain ⟨mds', l2, mA', mB', ff', fs', hf', hs', tr', cu', hD⟩ := me_findM hB.mu hm hB.mm hB.nr isT sqs mds frs mt wA wB rA rB l mA mB ff fs hf hs tr cu
    rcases hC with ⟨c1, n, c2, c3, c4, c5, c6, c7, c8⟩ | ⟨c1, c2⟩
    · rcases hD with ⟨n2, t2, wA', wB', rA', rB', ⟨d1, d2, d3, d4, d5, d6, d7⟩, d8⟩ | ⟨d1, d2⟩
      · have en : n2 = n := by
          rcases Nat.lt_trichotomy n2 n with e | e | e
          · exact absurd d2.2 (c4 n2 e)
          · exact e
          · exact absurd ⟨c1, c3⟩ (d3 n e)
        subst en
        have hcp : ∀ x, x < 36 → va_cpy t' ct (0 : Int32).toNatClampNeg (0 : Int32).toNatClampNeg (36 : Int32).toNatClampNeg x = t' x := fun x hx => sb_cpy0 hx
        generalize hct : va_cpy t' ct (0 : Int32).toNatClampNeg (0 : Int32).toNatClampNeg (36 : Int32).toNatClampNeg = ct' at hcp
        have hag : ∀ a c, a ≤ c → c < mlen M → TT t' a c = TT ct' a c := fun a c hac hc => by
          unfold TT; rw [hcp _ (by omega)]
        have htr : TR ct' t2 := by
          intro a c hac hc
          have e : t2 (6 * a + c) = ct' (6 * a + c) := by
            rw [hcp _ (by omega)]
            by_cases e : c < mlen M
            · obtain ⟨e1, e2, e3, -⟩ := idx_ok (mlen M) (by omega) a (by omega) c e hac
              have a1 := c7 (idx (mlen M) a c) e3
              have a2 := d6 (idx (mlen M) a c) e3
              unfold cN pI pJ at a1 a2
              rw [e1, e2] at a1 a2
              rw [a1, a2]
            · rw [c5 a c hac (by omega) hc, d5 a c hac (by omega) hc]
          exact ⟨e, by rw [← e]; exact d4 c a hc (by omega)⟩
        have h30 : ∀ a c, a ≤ c → c < 6 → sm 30 (ct' (6 * a + c)) := by
          intro a c hac hc
          rw [hcp _ (by omega)]
          by_cases e : c < mlen M
          · obtain ⟨e1, e2, e3, -⟩ := idx_ok (mlen M) (by omega) a (by omega) c e hac
            have a1 := c7 (idx (mlen M) a c) e3
            unfold cN pI pJ at a1
            rw [e1, e2] at a1
            rw [a1]
            exact tv_sm hM hm c3.1 e3
          · rw [c5 a c hac (by omega) hc]
            exact (by decide : (0 : Int32).toInt.natAbs ≤ 30)
        rcases me_failing (s := mlen M) hl sl sq ct' with ⟨gg, l1, s1, f1, f2, f3⟩ | ⟨w, zz, l1, s1, f1, f2⟩
        · refine ⟨1, ct', nI (SQ (TT ct') (mlen M)), l1, s1, t', r', ch', lf', z', l', q', 0, 1, nI (SQ (TT t2) (mlen M)), mds', nI (FF M), t2, wA', wB', rA', rB', l2, mA', mB', ff', fs', hf', hs', tr', cu', vp_updL o 0 (nI n2).toInt64, ⟨M, hB, htr, h30, rfl, Or.inr ⟨rfl, TT ct', TT_30 h30 hl, gg, f1, f2, rfl, ?_, KP_agree (fun a c hac hc => (TT_tr htr hl a c hac hc).symm) d7⟩⟩, fun k => ?_⟩
          · rw [SQ_agree (TT_tr htr hl) (mlen M) (Nat.le_refl _)]
          · have := R670_ok (xs := xs) hi hL (out := vp_updL o 0 (nI n2).toInt64) (by rw [ha]; exact d8) (fun _ => uL_eq)
            have hn1 : ¬ nI n2 = -1 := fun e => nI_pos (n := n2) (by omega) (by rw [e]; decide)
            have hla : f_La_find (nI mo) th cn ct (nI (mlen M)) (nI (nP M)) (nI (FF M)) sec cel pow sha han fre ssz sl sq st sr sc slf sz ssl ssq o = some (0, 1, ct', nI (SQ (TT ct') (mlen M)), l1, s1, t', r', ch', lf', z', l', q', vp_updL o 0 (nI n2).toInt64) := by
              rw [f_La_find, f_Sq_find, if_neg g2, if_pos g3, c8, Option.bind_some]
              dsimp only
              rw [if_neg hn1, hct, f3, Option.bind_some]
              dsimp only
              rw [if_pos rfl, Option.bind_some]
              rfl
            rw [f_La_law_R659]
            simp (disch := omega) only [mq_1, mw_n0, mw_cl, mq_no, false_or, ↓reduceIte, ha]
            rw [g1, if_neg nen1, if_pos rfl, hla, Option.bind_some]
            dsimp only
            rw [this]
        · exact absurd (good_agree hag c6) (f1.2 (TT ct') (fun a c _ _ => rfl))
      · exact absurd ⟨c1, c3⟩ (d1 n c2)
    · rcases hD with ⟨n2, t2, wA', wB', rA', rB', ⟨d1, d2, d3, d4, d5, d6, d7⟩, d8⟩ | ⟨d1, d2⟩
      · exfalso
        rcases c1 with c1 | c1
        · exact c1 d2.1
        · exact c1 n2 d1 d2.2
      · refine ⟨th, ct, ssz, sl, sq, t', r', ch', lf', z', l', q', 0, isT, sqs, mds', nI (FF M), mt, wA, wB, rA, rB, l2, mA', mB', ff', fs', hf', hs', tr', cu', vp_updL o 0 (-1 : Int32).toInt64, hI, fun k => ?_⟩
        have := R670_ok (xs := xs) hi hL (out := vp_updL o 0 (-1 : Int32).toInt64) (by rw [ha]; exact d2) (fun _ => uL_eq)
        have hla : f_La_find (nI mo) th cn ct (nI (mlen M)) (nI (nP M)) (nI (FF M)) sec cel pow sha han fre ssz sl sq st sr sc slf sz ssl ssq o = some (0, th, ct, ssz, sl, sq, t', r', ch', lf', z', l', q', vp_updL o 0 (-1 : Int32).toInt64) := by
          rw [f_La_find, f_Sq_find, if_neg g2, if_pos g3, c2, Option.bind_some]
          dsimp only
          rw [if_pos rfl, Option.bind_some]
          rfl
        rw [f_La_law_R659]
        simp (disch := omega) only [mq_1, mw_n0, mw_cl, mq_no, false_or, ↓reduceIte, ha]
        rw [g1, if_neg nen1, if_pos rfl, hla, Option.bind_some]
        dsimp only
        rw [this]
  · refine ⟨th, ct, ssz, sl, sq, st, sr, sc, slf, sz, ssl, ssq, 1, isT, sqs, mds, frs, mt, wA, wB, rA, rB, l, mA, mB, ff, fs, hf, hs, tr, cu, o, hI, fun k => ?_⟩
    have hm : f_Mo_find a (nI (PU U)) (nI (mlen M)) isT sqs mds frs (mF U) (mS U) mn bas mt wA wB rA rB l mA mB ff fs hf hs tr cu = some (0, 1, isT, sqs, mds, frs, mt, wA, wB, rA, rB, l, mA, mB, ff, fs, hf, hs, tr, cu) := by
      unfold f_Mo_find ct_jn
      dsimp only
      rcases g2 with g2 | ⟨g2, g3⟩
      · rw [if_pos g2, rf1, Option.bind_some]
        dsimp only
        rw [if_neg i_10]
      · rw [if_neg g2, if_neg g3, rf1, Option.bind_some]
        dsimp only
        rw [if_neg i_10]
    have := R670_ok (xs := xs) hi hL (out := o) (by rw [ha]; exact hm) (fun e => absurd e (by decide))
    rw [f_La_law_R659]
    simp (disch := omega) only [mq_1, mw_n0, mw_cl, mq_no, false_or, ↓reduceIte, ha]
    rw [if_pos g1, this]
