-- MATHEMATICS 22: put, at
theorem R311_ok {L i : Nat} {xs : Nat → Int32} (hi : i + 3 < L) (hL : L ≤ 2049) {ms isT : Int32} {mt : Nat → Int32} {out : Nat → Int64} {r t isT' : Int32} {mt' : Nat → Int32} (h : f_Mo_put (xs (i + 1)) (xs (i + 2)) (xs (i + 3)) ms isT mt = some (r, t, isT', mt')) (ho : t = 0 → out 0 = if r = 0 then 0 else 1) : ∀ k, f_La_law_R311 L xs (nI i) ms isT mt out t k = k t isT' mt' := by
  intro k
  rw [f_La_law_R311]
  simp (disch := omega) only [mq_1, mq_2, mq_3, mw_n0, mw_cl, mq_no, false_or, ↓reduceIte]
  rw [h, Option.bind_some]
  dsimp only
  rw [me_thr, Option.bind_some, if_pos rfl]
  by_cases e : t = 0
  · have := ho e
    rw [if_pos e, if_neg o_nk]
    by_cases e2 : r = 0
    · rw [if_pos e2] at this
      rw [if_pos e2, o_eq this]
    · rw [if_neg e2] at this
      rw [if_neg e2, o_eq this]
  · rw [if_neg e]
theorem R392_ok {L i : Nat} {xs : Nat → Int32} (hi : i + 3 < L) (hL : L ≤ 2049) {ms : Int32} {mt : Nat → Int32} {out : Nat → Int64} {r t : Int32} (h : f_Mo_at (xs (i + 1)) (xs (i + 2)) ms mt = some (r, t)) (ho : t = 0 → out 0 = r.toInt64) : ∀ k, f_La_law_R392 L xs (nI i) ms mt out t k = k t := by
  intro k
  rw [f_La_law_R392]
  simp (disch := omega) only [mq_1, mq_2, mw_n0, mw_cl, mq_no, false_or, ↓reduceIte]
  rw [h, Option.bind_some]
  dsimp only
  rw [me_thr, Option.bind_some, if_pos rfl]
  by_cases e : t = 0
  · rw [if_pos e, if_neg o_nk, o_eq (ho e)]
  · rw [if_neg e]
theorem me_w30 (x : Int32) : (sm 30 x ∧ ¬ x < -30 ∧ x ≤ 30 ∧ f_Sq_within x 30 = some 1) ∨ ((x < -30 ∨ (¬ x < -30 ∧ ¬ x ≤ 30)) ∧ f_Sq_within x 30 = some 0) := by
  unfold f_Sq_within sm
  have e1 : (-30 : Int32).toInt = -30 := rfl
  have e2 : (30 : Int32).toInt = 30 := rfl
  by_cases h1 : x < -30
  · exact Or.inr ⟨Or.inl h1, by rw [if_pos h1]⟩
  · by_cases h2 : 30 < x
    · exact Or.inr ⟨Or.inr ⟨h1, fun h => by rw [i_lt] at h2; rw [i_le] at h; omega⟩, by rw [if_neg h1, if_pos h2]⟩
    · refine Or.inl ⟨?_, h1, ?_, by rw [if_neg h1, if_neg h2]⟩
      · rw [i_lt] at h1 h2; omega
      · rw [i_lt] at h1 h2; rw [i_le]; omega
/-- the cell of two members, whichever comes first -/
def ce (x y : Nat) : Nat := if y < x then 6 * y + x else 6 * x + y
theorem me_ce {x y : Nat} (hx : x < 6) (hy : y < 6) : f_Sq_cellOf (nI x) (nI y) = some (nI (ce x y)) ∧ ce x y < 36 := by
  unfold f_Sq_cellOf ce
  simp (disch := omega) only [mq_lt, mq_6']
  by_cases h : y < x
  · rw [if_pos h, if_pos h]; exact ⟨rfl, by omega⟩
  · rw [if_neg h, if_neg h]; exact ⟨rfl, by omega⟩
theorem TR_at {ct mt : Nat → Int32} (h : TR ct mt) {x y : Nat} (hx : x < 6) (hy : y < 6) : mt (6 * x + y) = ct (ce x y) := by
  unfold ce
  by_cases e : y < x
  · rw [if_pos e]; exact (h y x (by omega) hx).2
  · rw [if_neg e]; exact (h x y (by omega) hy).1
theorem TR_upd {ct mt : Nat → Int32} (h : TR ct mt) {x y : Nat} {v : Int32} (hx : x < 6) (hy : y < 6) : TR (upd ct (ce x y) v) (upd (upd mt (6 * x + y) v) (6 * y + x) v) := by
  intro i j hij hj
  obtain ⟨h1, h2⟩ := h i j hij hj
  by_cases e : (i = x ∧ j = y) ∨ (i = y ∧ j = x)
  · have ec : 6 * i + j = ce x y := by unfold ce; split <;> omega
    rw [ec, up_eq]
    rcases e with ⟨e1, e2⟩ | ⟨e1, e2⟩
    · subst e1 e2
      rw [up_eq]
      refine ⟨?_, rfl⟩
      rw [← ec]
      by_cases e3 : 6 * i + j = 6 * j + i
      · rw [e3, up_eq]
      · rw [up_ne e3, up_eq]
    · subst e1 e2
      refine ⟨?_, ?_⟩
      · rw [← ec, up_eq]
      · by_cases e3 : 6 * j + i = 6 * i + j
        · rw [e3, up_eq]
        · rw [up_ne e3, up_eq]
  · have ec : ¬ 6 * i + j = ce x y := by unfold ce; split <;> omega
    rw [up_ne ec, up_ne (by omega), up_ne (by omega), up_ne (by omega), up_ne (by omega)]
    exact ⟨h1, h2⟩
theorem me_R288 {U L i : Nat} {xs : Nat → Int32} (hi : i + 3 < L) (hL : L ≤ 2049) {th : Int32} {cn ct : Nat → Int32} {hsz : Int32} {cor mem : Nat → Int32} {psz fsz : Int32} {sec cel pow sha han fre : Nat → Int32} {ssz : Int32} {sl : Nat → Int64} {sq : Nat → Int32} {ms isT sqs : Int32} {mn bas mt : Nat → Int32} {wA wB rA rB : Nat → Int64}
    (h : INV U th cn ct hsz cor mem psz fsz sec cel pow sha han fre ssz sl sq ms isT sqs mn bas mt wA wB rA rB) (o : Nat → Int64) :
    ∃ th' ct' t isT' mt' o', INV U th' cn ct' hsz cor mem psz fsz sec cel pow sha han fre ssz sl sq ms isT' sqs mn bas mt' wA wB rA rB ∧
      ∀ k, f_La_law_R288 L xs (nI i) th ct hsz ms isT mt o k = k th' ct' t isT' mt' o' := by
  have hI := h
  obtain ⟨M, hB, hT⟩ := h
  have hM := hB.mu.1
  have hl := mlen_le M hM
  generalize ha : xs (i + 1) = a
  generalize hb : xs (i + 2) = b
  generalize hv : xs (i + 3) = v
  -- the call is refused: g is its exception, c the law's number for it
  have ref1 : g_Sq_put a b v hsz = some (some 2) → f_Mo_put a b v ms isT mt = some (0, 1, isT, mt) → ∃ th' ct' t isT' mt' o', INV U th' cn ct' hsz cor mem psz fsz sec cel pow sha han fre ssz sl sq ms isT' sqs mn bas mt' wA wB rA rB ∧ ∀ k, f_La_law_R288 L xs (nI i) th ct hsz ms isT mt o k = k th' ct' t isT' mt' o' := by
    intro h1 h2
    refine ⟨th, ct, 1, isT, mt, o, hI, fun k => ?_⟩
    have := R311_ok (xs := xs) hi hL (out := o) (by rw [ha, hb, hv]; exact h2) (fun e => absurd e (by decide))
    rw [f_La_law_R288]
    simp (disch := omega) only [mq_1, mq_2, mq_3, mw_n0, mw_cl, mq_no, false_or, ↓reduceIte, ha, hb, hv]
    rw [h1, if_neg ne21, if_pos rfl, this]
  have ref2 : g_Sq_put a b v hsz = some (some 1) → f_Mo_put a b v ms isT mt = some (0, 2, isT, mt) → ∃ th' ct' t isT' mt' o', INV U th' cn ct' hsz cor mem psz fsz sec cel pow sha han fre ssz sl sq ms isT' sqs mn bas mt' wA wB rA rB ∧ ∀ k, f_La_law_R288 L xs (nI i) th ct hsz ms isT mt o k = k th' ct' t isT' mt' o' := by
    intro h1 h2
    refine ⟨th, ct, 2, isT, mt, o, hI, fun k => ?_⟩
    have := R311_ok (xs := xs) hi hL (out := o) (by rw [ha, hb, hv]; exact h2) (fun e => absurd e (by decide))
    rw [f_La_law_R288]
    simp (disch := omega) only [mq_1, mq_2, mq_3, mw_n0, mw_cl, mq_no, false_or, ↓reduceIte, ha, hb, hv]
    rw [if_pos h1, this]
  rw [hB.hs, hB.ms] at ref1 ref2 ⊢
  -- what the reference makes of v
  have hv4 : ∀ (s : Int32) (X : Int32 → Option (Int32 × Int32 × Int32 × (Nat → Int32))), (X 0 = X 1) → (if v < -30 then X 1 else if v ≤ 30 then X 0 else X 1) = X 1 := by
    intro s X hX
    by_cases e1 : v < -30
    · rw [if_pos e1]
    · rw [if_neg e1]
      by_cases e2 : v ≤ 30
      · rw [if_pos e2, hX]
      · rw [if_neg e2]
  rcases me_isM hl a with ⟨x, x1, x2, x3, x4⟩ | ⟨x3, x4⟩
  · rcases me_isM hl b with ⟨y, y1, y2, y3, y4⟩ | ⟨y3, y4⟩
    · obtain ⟨k1, k2⟩ := me_ce (show x < 6 by omega) (show y < 6 by omega)
      have hta := TR_at hT.tr (show x < 6 by omega) (show y < 6 by omega)
      rcases me_w30 v with ⟨w1, w2, w3, w4⟩ | ⟨w1, w2⟩
      · have hg : g_Sq_put a b v (nI (mlen M)) = some none := by
          rw [g_Sq_put, x3, Option.bind_some, if_neg i_10, y3, Option.bind_some, if_neg i_10, w4, Option.bind_some, if_neg i_10]
        by_cases hs : ct (ce x y) = v
        · have hc : f_La_put a b v th ct (nI (mlen M)) o = some (0, th, ct, vp_updL o 0 0) := by
            rw [f_La_put, f_Sq_put, x3, Option.bind_some, if_neg i_10, y3, Option.bind_some, if_neg i_10, w4, Option.bind_some, if_neg i_10, x2, y2, k1, Option.bind_some]
            simp (disch := omega) only [mq_n0, mn_cl, mq_no, false_or, ↓reduceIte, hs]
            rfl
          have hm : f_Mo_put a b v (nI (mlen M)) isT mt = some (0, 0, isT, mt) := by
            rw [f_Mo_put, x4, Option.bind_some]
            unfold ct_jn
            dsimp only
            rw [if_pos rfl, y4, Option.bind_some, if_pos rfl, if_neg w2, if_pos w3, rf0, Option.bind_some]
            dsimp only
            rw [if_pos rfl, x2, y2]
            simp (disch := omega) only [mq_6, mq_n0, mn_cl, mq_no, false_or, ↓reduceIte, hta, hs]
          refine ⟨th, ct, 0, isT, mt, vp_updL o 0 0, by rw [hB.hs, hB.ms] at hI; exact hI, fun k => ?_⟩
          have := R311_ok (xs := xs) hi hL (out := vp_updL o 0 0) (by rw [ha, hb, hv]; exact hm) (fun e => by rw [uL_eq]; rfl)
          rw [f_La_law_R288]
          simp (disch := omega) only [mq_1, mq_2, mq_3, mw_n0, mw_cl, mq_no, false_or, ↓reduceIte, ha, hb, hv]
          rw [hg, if_neg nen1, if_neg nen2, if_pos rfl, hc, Option.bind_some]
          dsimp only
          rw [this]
        · have hc : f_La_put a b v th ct (nI (mlen M)) o = some (0, 0, upd ct (ce x y) v, vp_updL o 0 1) := by
            rw [f_La_put, f_Sq_put, x3, Option.bind_some, if_neg i_10, y3, Option.bind_some, if_neg i_10, w4, Option.bind_some, if_neg i_10, x2, y2, k1, Option.bind_some]
            simp (disch := omega) only [mq_n0, mn_cl, mq_no, false_or, ↓reduceIte, hs]
            rfl
          have hm : f_Mo_put a b v (nI (mlen M)) isT mt = some (1, 0, 0, upd (upd mt (6 * x + y) v) (6 * y + x) v) := by
            rw [f_Mo_put, x4, Option.bind_some]
            unfold ct_jn
            dsimp only
            rw [if_pos rfl, y4, Option.bind_some, if_pos rfl, if_neg w2, if_pos w3, rf0, Option.bind_some]
            dsimp only
            rw [if_pos rfl, x2, y2]
            simp (disch := omega) only [mq_6, mq_n0, mn_cl, mq_no, false_or, ↓reduceIte, hta, hs]
          rw [hB.hs, hB.ms] at hB
          refine ⟨0, upd ct (ce x y) v, 0, 0, upd (upd mt (6 * x + y) v) (6 * y + x) v, vp_updL o 0 1, ⟨M, hB, TR_upd hT.tr (by omega) (by omega), fun p c hpc hc6 => ?_, rfl, Or.inl rfl⟩, fun k => ?_⟩
          · by_cases e : 6 * p + c = ce x y
            · rw [e, up_eq]; exact w1
            · rw [up_ne e]; exact hT.t30 p c hpc hc6
          · have := R311_ok (xs := xs) hi hL (out := vp_updL o 0 1) (by rw [ha, hb, hv]; exact hm) (fun e => by rw [uL_eq]; rfl)
            rw [f_La_law_R288]
            simp (disch := omega) only [mq_1, mq_2, mq_3, mw_n0, mw_cl, mq_no, false_or, ↓reduceIte, ha, hb, hv]
            rw [hg, if_neg nen1, if_neg nen2, if_pos rfl, hc, Option.bind_some]
            dsimp only
            rw [this]
      · apply ref2
        · rw [g_Sq_put, x3, Option.bind_some, if_neg i_10, y3, Option.bind_some, if_neg i_10, w2, Option.bind_some, if_pos rfl]
        · rw [f_Mo_put, x4, Option.bind_some]
          unfold ct_jn
          dsimp only
          rw [if_pos rfl, y4, Option.bind_some, if_pos rfl]
          rcases w1 with w1 | ⟨w1, w3⟩
          · rw [if_pos w1, rf2, Option.bind_some]
            dsimp only
            rw [if_neg i_10]
          · rw [if_neg w1, if_neg w3, rf2, Option.bind_some]
            dsimp only
            rw [if_neg i_10]
    · apply ref1
      · rw [g_Sq_put, x3, Option.bind_some, if_neg i_10, y3, Option.bind_some, if_pos rfl]
      · rw [f_Mo_put, x4, Option.bind_some]
        unfold ct_jn
        dsimp only
        rw [if_pos rfl, y4, Option.bind_some, if_neg i_10]
        by_cases e1 : v < -30
        · rw [if_pos e1, rf11, Option.bind_some]
          dsimp only
          rw [if_neg i_10]
        · rw [if_neg e1]
          by_cases e2 : v ≤ 30
          · rw [if_pos e2, rf1, Option.bind_some]
            dsimp only
            rw [if_neg i_10]
          · rw [if_neg e2, rf11, Option.bind_some]
            dsimp only
            rw [if_neg i_10]
  · apply ref1
    · rw [g_Sq_put, x3, Option.bind_some, if_pos rfl]
    · rw [f_Mo_put, x4, Option.bind_some]
      unfold ct_jn
      dsimp only
      rw [if_neg i_10]
      by_cases e1 : v < -30
      · rw [if_pos e1, rf11, Option.bind_some]
        dsimp only
        rw [if_neg i_10]
      · rw [if_neg e1]
        by_cases e2 : v ≤ 30
        · rw [if_pos e2, rf1, Option.bind_some]
          dsimp only
          rw [if_neg i_10]
        · rw [if_neg e2, rf11, Option.bind_some]
          dsimp only
          rw [if_neg i_10]
theorem me_R375 {U L i : Nat} {xs : Nat → Int32} (hi : i + 3 < L) (hL : L ≤ 2049) {th : Int32} {cn ct : Nat → Int32} {hsz : Int32} {cor mem : Nat → Int32} {psz fsz : Int32} {sec cel pow sha han fre : Nat → Int32} {ssz : Int32} {sl : Nat → Int64} {sq : Nat → Int32} {ms isT sqs : Int32} {mn bas mt : Nat → Int32} {wA wB rA rB : Nat → Int64}
    (h : INV U th cn ct hsz cor mem psz fsz sec cel pow sha han fre ssz sl sq ms isT sqs mn bas mt wA wB rA rB) (o : Nat → Int64) :
    ∃ t o', ∀ k, f_La_law_R375 L xs (nI i) ct hsz ms mt o k = k t o' := by
  obtain ⟨M, hB, hT⟩ := h
  have hM := hB.mu.1
  have hl := mlen_le M hM
  rw [hB.hs, hB.ms]
  generalize ha : xs (i + 1) = a
  generalize hb : xs (i + 2) = b
  have ref : g_Sq_at a b (nI (mlen M)) = some (some 2) → f_Mo_at a b (nI (mlen M)) mt = some (0, 1) → ∃ t o', ∀ k, f_La_law_R375 L xs (nI i) ct (nI (mlen M)) (nI (mlen M)) mt o k = k t o' := by
    intro h1 h2
    refine ⟨1, o, fun k => ?_⟩
    have := R392_ok (xs := xs) hi hL (out := o) (by rw [ha, hb]; exact h2) (fun e => absurd e (by decide))
    rw [f_La_law_R375]
    simp (disch := omega) only [mq_1, mq_2, mw_n0, mw_cl, mq_no, false_or, ↓reduceIte, ha, hb]
    rw [if_pos h1, this]
  rcases me_isM hl a with ⟨x, x1, x2, x3, x4⟩ | ⟨x3, x4⟩
  · rcases me_isM hl b with ⟨y, y1, y2, y3, y4⟩ | ⟨y3, y4⟩
    · obtain ⟨k1, k2⟩ := me_ce (show x < 6 by omega) (show y < 6 by omega)
      have hta := TR_at hT.tr (show x < 6 by omega) (show y < 6 by omega)
      have hg : g_Sq_at a b (nI (mlen M)) = some none := by
        rw [g_Sq_at, x3, Option.bind_some, if_neg i_10, y3, Option.bind_some, if_neg i_10]
      have hc : f_La_at a b ct (nI (mlen M)) o = some (0, vp_updL o 0 (ct (ce x y)).toInt64) := by
        rw [f_La_at, f_Sq_at, x3, Option.bind_some, if_neg i_10, y3, Option.bind_some, if_neg i_10, x2, y2, k1, Option.bind_some]
        simp (disch := omega) only [mq_n0, mn_cl, mq_no, false_or, ↓reduceIte]
        rfl
      have hm : f_Mo_at a b (nI (mlen M)) mt = some (ct (ce x y), 0) := by
        rw [f_Mo_at, x4, Option.bind_some]
        unfold ct_jn
        dsimp only
        rw [if_pos rfl, y4, Option.bind_some, if_pos rfl, rf0, Option.bind_some]
        dsimp only
        rw [if_pos rfl, x2, y2]
        simp (disch := omega) only [mq_6, mq_n0, mn_cl, mq_no, false_or, ↓reduceIte, hta]
      refine ⟨0, vp_updL o 0 (ct (ce x y)).toInt64, fun k => ?_⟩
      have := R392_ok (xs := xs) hi hL (out := vp_updL o 0 (ct (ce x y)).toInt64) (by rw [ha, hb]; exact hm) (fun e => uL_eq)
      rw [f_La_law_R375]
      simp (disch := omega) only [mq_1, mq_2, mw_n0, mw_cl, mq_no, false_or, ↓reduceIte, ha, hb]
      rw [hg, if_neg nen2, if_pos rfl, hc, Option.bind_some]
      dsimp only
      rw [this]
    · apply ref
      · rw [g_Sq_at, x3, Option.bind_some, if_neg i_10, y3, Option.bind_some, if_pos rfl]
      · rw [f_Mo_at, x4, Option.bind_some]
        unfold ct_jn
        dsimp only
        rw [if_pos rfl, y4, Option.bind_some, if_neg i_10, rf1, Option.bind_some]
        dsimp only
        rw [if_neg i_10]
  · apply ref
    · rw [g_Sq_at, x3, Option.bind_some, if_pos rfl]
    · rw [f_Mo_at, x4, Option.bind_some]
      unfold ct_jn
      dsimp only
      rw [if_neg i_10, rf1, Option.bind_some]
      dsimp only
      rw [if_neg i_10]
