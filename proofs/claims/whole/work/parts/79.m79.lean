-- MATHEMATICS 19: the reference's search
theorem ml_gs {mo F n : Nat} (hm : mo ≤ 2) (hF : F ≤ 6) (hn : n < (2 * mo + 1) ^ F) : ∀ (j N : Nat) (ct : Nat → Int32), j ≤ F → j < N → (∀ f, f < j → ct f = vec mo F n f) → (∀ f, j ≤ f → f < F → ct f = nI 0 - nI mo) → n + 1 = (Xp (2 * mo + 1) F n j + 1) * (2 * mo + 1) ^ (F - j) →
    (∃ g ct', g < F ∧ dg (2 * mo + 1) F n g + 1 < 2 * mo + 1 ∧ n + 1 = (Xp (2 * mo + 1) F n (g + 1) + 1) * (2 * mo + 1) ^ (F - (g + 1)) ∧ (∀ f, f ≤ g → ct' f = vec mo F n f) ∧ (∀ f, g < f → f < F → ct' f = nI 0 - nI mo) ∧ ∀ K, f_Mo_goesOn_L7 (nI mo) N (tM j) ct K = K (nI g) ct') ∨
    (n + 1 = (2 * mo + 1) ^ F ∧ ∃ ct', ∀ K, f_Mo_goesOn_L7 (nI mo) N (tM j) ct K = K (-1) ct') := by
  intro j
  induction j with
  | zero =>
    intro N ct hj hN hc1 hc2 hX
    obtain ⟨N, rfl⟩ : ∃ q, N = q + 1 := ⟨N - 1, by omega⟩
    have h0 := Xp_lt (B := 2 * mo + 1) (F := F) (n := n) (f := 0) (by omega) hn
    rw [Nat.pow_zero] at h0
    refine Or.inr ⟨by rw [hX, show Xp (2 * mo + 1) F n 0 = 0 by omega, Nat.zero_add, Nat.one_mul, Nat.sub_zero], ct, fun K => ?_⟩
    rw [f_Mo_goesOn_L7, if_pos (show tM 0 < 0 by decide)]
    rfl
  | succ g ih =>
    intro N ct hj hN hc1 hc2 hX
    obtain ⟨N, rfl⟩ : ∃ q, N = q + 1 := ⟨N - 1, by omega⟩
    have hd := dg_lt (B := 2 * mo + 1) (F := F) (n := n) (f := g) (by omega)
    have hs := Xp_step (B := 2 * mo + 1) (F := F) (n := n) (f := g) (by omega)
    have hcg : ct g = nI (dg (2 * mo + 1) F n g) - nI mo := hc1 g (by omega)
    by_cases h2 : dg (2 * mo + 1) F n g = 2 * mo
    · have heq : ct g = nI mo := by rw [hcg, v_eq hm hd]; exact h2
      have hst : ∀ K, f_Mo_goesOn_L7 (nI mo) (N + 1) (tM (g + 1)) ct K = f_Mo_goesOn_L7 (nI mo) N (tM g) (upd ct g (-nI mo)) K := by
        intro K
        rw [tM_s, f_Mo_goesOn_L7, ← tM_p]
        simp (disch := omega) only [mq_n0, mn_cl, mq_no, false_or, ↓reduceIte, heq]
      have hX' : n + 1 = (Xp (2 * mo + 1) F n g + 1) * (2 * mo + 1) ^ (F - g) := by
        rw [hX, hs, h2, show F - g = (F - (g + 1)) + 1 by omega, Nat.pow_succ]
        generalize Xp (2 * mo + 1) F n g = X, (2 * mo + 1) ^ (F - (g + 1)) = P
        grind
      rcases ih N (upd ct g (-nI mo)) (by omega) (by omega) (fun f hf => by rw [up_ne (by omega)]; exact hc1 f (by omega)) (fun f h1 h2 => by
        by_cases e : f = g
        · subst e; rw [up_eq, v_0]
        · rw [up_ne e]; exact hc2 f (by omega) h2) hX' with ⟨g', ct', a1, a2, a3, a4, a5, a6⟩ | ⟨a1, ct', a2⟩
      · exact Or.inl ⟨g', ct', a1, a2, a3, a4, a5, fun K => by rw [hst K, a6 K]⟩
      · exact Or.inr ⟨a1, ct', fun K => by rw [hst K, a2 K]⟩
    · have hne : ¬ ct g = nI mo := by rw [hcg, v_eq hm hd]; exact h2
      refine Or.inl ⟨g, ct, by omega, by omega, hX, fun f hf => hc1 f (by omega), fun f h1 h2 => hc2 f (by omega) h2, fun K => ?_⟩
      rw [tM_s, f_Mo_goesOn_L7]
      simp (disch := omega) only [mq_n0, mn_cl, mq_no, false_or, ↓reduceIte, hne]
theorem me_goes {mo F n : Nat} (hm : mo ≤ 2) (hF : F ≤ 6) (hn : n < (2 * mo + 1) ^ F) {ct : Nat → Int32} (hc : ∀ f, f < F → ct f = vec mo F n f) :
    (n + 1 < (2 * mo + 1) ^ F ∧ ∃ ct', (∀ f, f < F → ct' f = vec mo F (n + 1) f) ∧ f_Mo_goesOn (nI mo) (nI F) ct = some (1, ct')) ∨
    (n + 1 = (2 * mo + 1) ^ F ∧ ∃ ct', f_Mo_goesOn (nI mo) (nI F) ct = some (0, ct')) := by
  have e0 : nI F - 1 = tM F := by rw [← tM_p]; grind
  rcases ml_gs hm hF hn F 40 ct (Nat.le_refl _) (by omega) hc (fun f h1 h2 => by omega) (by rw [Xp_end, Nat.sub_self, Nat.pow_zero, Nat.mul_one]) with ⟨g, ct', a1, a2, a3, a4, a5, a6⟩ | ⟨a1, ct', a2⟩
  · refine Or.inl ⟨?_, upd ct' g (ct' g + 1), fun f hf => ?_, ?_⟩
    · rw [a3]; exact nx_in (by omega) a1 hn a2
    · unfold vec
      rw [a3, nx_dg (by omega) a1 a2 f hf]
      by_cases e1 : f < g
      · rw [up_ne (by omega), a4 f (by omega), if_pos e1]; rfl
      · by_cases e2 : f = g
        · subst e2
          rw [up_eq, if_neg (by omega), if_pos rfl, a4 f (Nat.le_refl _)]
          unfold vec
          rw [v_1]
        · rw [up_ne e2, if_neg e1, if_neg e2, a5 f (by omega) hf]
    · rw [f_Mo_goesOn, e0, a6]
      simp (disch := omega) only [nI_pos' (mn_lt _), mq_n0, mn_cl, mq_no, false_or, ↓reduceIte]
  · refine Or.inr ⟨a1, ct', ?_⟩
    rw [f_Mo_goesOn, e0, a2, if_neg (by decide)]
theorem ml_f31 {F : Nat} (hF : F ≤ 6) {x : Int32} : ∀ (d n i : Nat) (c : Nat → Int32), i + d = F → d < n → (∀ f, f < i → c f = -x) → ∃ c', (∀ f, f < F → c' f = -x) ∧ ∀ K, f_Mo_find_L31 x (nI F) n (nI i) c K = K c' := by
  intro d
  induction d with
  | zero =>
    intro n i c hk hn h
    obtain ⟨n, rfl⟩ : ∃ q, n = q + 1 := ⟨n - 1, by omega⟩
    have e : i = F := by omega
    subst e
    refine ⟨c, h, fun K => ?_⟩
    simp (disch := omega) only [f_Mo_find_L31, mq_le, Nat.le_refl, ↓reduceIte]
  | succ d ih =>
    intro n i c hk hn h
    obtain ⟨n, rfl⟩ : ∃ q, n = q + 1 := ⟨n - 1, by omega⟩
    obtain ⟨c', h1, h2⟩ := ih n (i + 1) (upd c i (-x)) (by omega) (by omega) (fun f hf => by
      by_cases e : f = i
      · subst e; exact up_eq
      · rw [up_ne e]; exact h f (by omega))
    refine ⟨c', h1, fun K => ?_⟩
    rw [← h2 K]
    simp (disch := omega) only [f_Mo_find_L31, mq_le, mq_n0, mn_cl, mq_no, false_or, ↓reduceIte, mq_1]
theorem ml_f93 {t : Nat → Int32} : ∀ (d n i : Nat) (c : Nat → Int32), i + d = 36 → d < n → (∀ f, f < i → c f = t f) → ∃ c', (∀ f, f < 36 → c' f = t f) ∧ ∀ K, f_Mo_find_L93 t n (nI i) c K = K c' := by
  intro d
  induction d with
  | zero =>
    intro n i c hk hn h
    obtain ⟨n, rfl⟩ : ∃ q, n = q + 1 := ⟨n - 1, by omega⟩
    have e : i = 36 := by omega
    subst e
    refine ⟨c, h, fun K => ?_⟩
    simp (disch := omega) only [f_Mo_find_L93, mq_l36, Nat.le_refl, ↓reduceIte]
  | succ d ih =>
    intro n i c hk hn h
    obtain ⟨n, rfl⟩ : ∃ q, n = q + 1 := ⟨n - 1, by omega⟩
    obtain ⟨c', h1, h2⟩ := ih n (i + 1) (upd c i (t i)) (by omega) (by omega) (fun f hf => by
      by_cases e : f = i
      · subst e; exact up_eq
      · rw [up_ne e]; exact h f (by omega))
    refine ⟨c', h1, fun K => ?_⟩
    rw [← h2 K]
    simp (disch := omega) only [f_Mo_find_L93, mq_l36, mq_n0, mn_cl, mq_no, false_or, ↓reduceIte, mq_1]
abbrev FT := Int32 × Int32 × Int32 × Int32 × Int32 × Int32 × (Nat → Int32) × (Nat → Int64) × (Nat → Int64) × (Nat → Int64) × (Nat → Int64) × (Nat → Int64) × (Nat → Int64) × (Nat → Int64) × (Nat → Int32) × (Nat → Int32) × (Nat → Int32) × (Nat → Int32) × (Nat → Int32) × (Nat → Int32)
abbrev FK := Int32 → (Nat → Int64) → (Nat → Int64) → (Nat → Int64) → (Nat → Int32) → (Nat → Int32) → Option FT
/-- the table that the choice n tells, as the reference has it -/
def FO (M mo : Nat) (cn : Nat → Int32) (n : Nat) (t : Nat → Int32) (wA wB rA rB : Nat → Int64) : Prop :=
  n < (2 * mo + 1) ^ FF M ∧ (allT M cn ∧ OK M cn (vec mo (FF M) n)) ∧ (∀ m, m < n → ¬ (allT M cn ∧ OK M cn (vec mo (FF M) m))) ∧ SY t ∧ ZB (mlen M) t ∧ (∀ i, i < nP M → t (cN M i) = tv M cn (vec mo (FF M) n) i) ∧ KP (TT t) (mlen M) wA wB rA rB
def FR (M mo : Nat) (cn : Nat → Int32) (th : Int32) (ff fs hf hs : Nat → Int32) (E : FK → Option FT) : Prop :=
  (∃ n t wA wB rA rB ms l mA mB tr ct, FO M mo cn n t wA wB rA rB ∧ ∀ K, E K = some (nI n, th, 1, nI (SQ (TT t) (mlen M)), ms, nI (FF M), t, wA, wB, rA, rB, l, mA, mB, ff, fs, hf, hs, tr, ct)) ∨
  ((∀ m, m < (2 * mo + 1) ^ FF M → ¬ (allT M cn ∧ OK M cn (vec mo (FF M) m))) ∧ ∃ ms l mA mB tr ct, ∀ K, E K = K ms l mA mB tr ct)
theorem FR_eq {M mo : Nat} {cn : Nat → Int32} {th : Int32} {ff fs hf hs : Nat → Int32} {E E' : FK → Option FT} (h : ∀ K, E K = E' K) (hr : FR M mo cn th ff fs hf hs E') : FR M mo cn th ff fs hf hs E := by
  have : E = E' := funext h
  rw [this]; exact hr
theorem ml_f57 {U M mo : Nat} (hMU : MU U M) (hm : mo ≤ 2) {bas cn mn : Nat → Int32} (hb : memM U M bas) (hN' : NR U cn mn) {ff fs hf hs : Nat → Int32} (hF : MFf M ff fs) (hH : MHg U M hf hs) (th : Int32) (tb : Nat → Int32) (wA wB rA rB : Nat → Int64) : ∀ (D n N : Nat) (ms : Int32) (l mA mB : Nat → Int64) (tr ct : Nat → Int32), n < (2 * mo + 1) ^ FF M → n + D = (2 * mo + 1) ^ FF M → D < N → (∀ f, f < FF M → ct f = vec mo (FF M) n f) → (∀ m, m < n → ¬ (allT M cn ∧ OK M cn (vec mo (FF M) m))) →
    FR M mo cn th ff fs hf hs (fun K => f_Mo_find_L57 (nI mo) th (nI (PU U)) (nI (mlen M)) (nI (FF M)) (mF U) (mS U) mn bas tb wA wB rA rB ff fs hf hs N 1 (nI n) ms l mA mB tr ct K) := by
  have hM := hMU.1
  have h6 := FF_le M hM
  have hl6 := mlen_le M hM
  intro D
  induction D with
  | zero => intro n N ms l mA mB tr ct h1 h2; omega
  | succ D ih =>
    intro n N ms l mA mB tr ct h1 h2 h3 hc hbad
    obtain ⟨N, rfl⟩ : ∃ q, N = q + 1 := ⟨N - 1, by omega⟩
    obtain ⟨b, t', a1, a2, a3, a4, a5, a6⟩ := me_hangs hMU hb hN' hF hH ct tr
    -- when the choice n tells no good table
    have cont : ¬ (allT M cn ∧ OK M cn (vec mo (FF M) n)) → ∀ ms l mA mB tr, FR M mo cn th ff fs hf hs (fun K => (f_Mo_goesOn (nI mo) (nI (FF M)) ct).bind (fun (r, c) => f_Mo_find_L57 (nI mo) th (nI (PU U)) (nI (mlen M)) (nI (FF M)) (mF U) (mS U) mn bas tb wA wB rA rB ff fs hf hs N r (nI (n + 1)) ms l mA mB tr c K)) := by
      intro hno ms l mA mB tr
      have hbad' : ∀ m, m < n + 1 → ¬ (allT M cn ∧ OK M cn (vec mo (FF M) m)) := by
        intro m hm'
        by_cases e : m = n
        · subst e; exact hno
        · exact hbad m (by omega)
      rcases me_goes hm h6 h1 hc with ⟨g1, ct', g2, g3⟩ | ⟨g1, ct', g2⟩
      · refine FR_eq (fun K => ?_) (ih (n + 1) N ms l mA mB tr ct' g1 (by omega) (by omega) g2 hbad')
        rw [g3, Option.bind_some]
      · refine Or.inr ⟨fun m hm' => hbad' m (by omega), ms, l, mA, mB, tr, ct', fun K => ?_⟩
        obtain ⟨N, rfl⟩ : ∃ q, N = q + 1 := ⟨N - 1, by omega⟩
        dsimp only
        rw [g2, Option.bind_some]
        dsimp only
        rw [f_Mo_find_L57, if_pos rfl]
    have hOK : OK M cn (vec mo (FF M) n) ↔ OK M cn ct := ⟨OK_ext hM (fun f hf => hc f hf), OK_ext hM (fun f hf => (hc f hf).symm)⟩
    rcases a1 with rfl | rfl
    · have hno : ¬ (allT M cn ∧ OK M cn (vec mo (FF M) n)) := by
        rintro ⟨h1, h2⟩
        exact i_01 (a2.mpr ⟨h1, (hOK.mp h2).1⟩)
      refine FR_eq (fun K => ?_) (cont hno ms l mA mB t')
      rw [f_Mo_find_L57, if_neg i_10, a6, Option.bind_some]
      dsimp only
      rw [if_pos rfl, mq_1]
    · obtain ⟨hT, hfit⟩ := a2.mp rfl
      have hmk : f_Mo_makes (nI (PU U)) (nI (mlen M)) (mF U) (mS U) mn bas t' = some 1 := by
        rcases me_makes hMU hb t' mn with ⟨-, h⟩ | ⟨h, -⟩
        · exact h
        · exfalso
          apply h
          intro r hr
          rw [SM_SC hM (ct := t') (fun i j hij hj => ⟨rfl, (a3 j i hj (by omega))⟩), SC_ok hM hT a5 (cl_lt hr), hN'.1 r hr]
      have hTT := TT_TB hM a5
      rcases me_steps (s := mlen M) hl6 l mA mB t' with ⟨g, l', mA', mB', k1, k2⟩ | ⟨g, z, l', mA', mB', k2⟩
      · obtain ⟨t2, c1, c2⟩ := ml_f93 (t := t') 36 40 0 tb (by omega) (by omega) (fun f hf => by omega)
        have c2' : ∀ K, f_Mo_find_L93 t' 40 0 tb K = K t2 := c2
        obtain ⟨wA', wB', rA', rB', e1, e2⟩ := me_keep (s := mlen M) hl6 k1 (nI (SQ (TT t') (mlen M))) wA wB rA rB
        have hag : ∀ a c, a ≤ c → c < mlen M → TT t' a c = TT t2 a c := fun a c hac hc' => by
          unfold TT; rw [c1 _ (by omega)]
        refine Or.inl ⟨n, t2, wA', wB', rA', rB', nI (SQ (TT t') (mlen M)), l', mA', mB', t', ct, ⟨h1, ⟨hT, hOK.mpr ⟨hfit, good_agree hTT g⟩⟩, hbad, fun a c ha hc' => ?_, fun a c hac hs hc' => ?_, fun i hi => ?_, KP_agree hag e1⟩, fun K => ?_⟩
        · rw [c1 _ (by omega), c1 _ (by omega)]; exact a3 a c ha hc'
        · rw [c1 _ (by omega)]; exact a4 a c hac hs hc'
        · rw [c1 _ (cN_lt hM hi), a5 i hi]
          exact ag_tv (w := 6) hM (fun f hf _ _ _ _ => (hc f hf)) hi (by have := (pI_ok hM hi).2.1; omega)
        · dsimp only
          rw [f_Mo_find_L57, if_neg i_10, a6, Option.bind_some]
          dsimp only
          rw [if_neg i_10, hmk, Option.bind_some, if_neg i_10, k2, Option.bind_some]
          dsimp only
          rw [if_neg i_10, c2', e2, Option.bind_some, SQ_agree hag (mlen M) (Nat.le_refl _)]
      · have hno : ¬ (allT M cn ∧ OK M cn (vec mo (FF M) n)) := by
          rintro ⟨h1, h2⟩
          exact g (good_agree (fun a c hac hc' => (hTT a c hac hc').symm) (hOK.mp h2).2)
        refine FR_eq (fun K => ?_) (cont hno z l' mA' mB' t')
        rw [f_Mo_find_L57, if_neg i_10, a6, Option.bind_some]
        dsimp only
        rw [if_neg i_10, hmk, Option.bind_some, if_neg i_10, k2, Option.bind_some]
        dsimp only
        rw [if_pos rfl, mq_1]
theorem me_findM {U M mo : Nat} (hMU : MU U M) (hm : mo ≤ 2) {bas cn mn : Nat → Int32} (hb : memM U M bas) (hN' : NR U cn mn) (isT sqs ms fre : Int32) (tb : Nat → Int32) (wA wB rA rB l mA mB : Nat → Int64) (ff fs hf hs tr ct : Nat → Int32) :
    ∃ (ms' : Int32) (l' mA' mB' : Nat → Int64) (ff' fs' hf' hs' tr' ct' : Nat → Int32),
    (∃ n t wA' wB' rA' rB', FO M mo cn n t wA' wB' rA' rB' ∧ f_Mo_find (nI mo) (nI (PU U)) (nI (mlen M)) isT sqs ms fre (mF U) (mS U) mn bas tb wA wB rA rB l mA mB ff fs hf hs tr ct = some (nI n, 0, 1, nI (SQ (TT t) (mlen M)), ms', nI (FF M), t, wA', wB', rA', rB', l', mA', mB', ff', fs', hf', hs', tr', ct')) ∨
    ((∀ m, m < (2 * mo + 1) ^ FF M → ¬ (allT M cn ∧ OK M cn (vec mo (FF M) m))) ∧ f_Mo_find (nI mo) (nI (PU U)) (nI (mlen M)) isT sqs ms fre (mF U) (mS U) mn bas tb wA wB rA rB l mA mB ff fs hf hs tr ct = some (-1, 0, isT, sqs, ms', nI (FF M), tb, wA, wB, rA, rB, l', mA', mB', ff', fs', hf', hs', tr', ct')) := by
  have hM := hMU.1
  have h6 := FF_le M hM
  have hB := B_le hm h6
  obtain ⟨ff', fs', hf', hs', p1, p2, p3⟩ := me_pairs hMU hb ff fs hf hs
  obtain ⟨c1, d1, d2⟩ := ml_f31 (x := nI mo) h6 (FF M) 40 0 ct (by omega) (by omega) (fun f hf => by omega)
  have d2' : ∀ K, f_Mo_find_L31 (nI mo) (nI (FF M)) 40 0 ct K = K c1 := d2
  have hpos : 0 < (2 * mo + 1) ^ FF M := Nat.pow_pos (by omega)
  have hloop := ml_f57 hMU hm hb hN' (MF_f hM p2) p1 0 tb wA wB rA rB ((2 * mo + 1) ^ FF M) 0 20000 ms l mA mB tr c1 hpos (by omega) (by omega) (fun f hf => by
    rw [d1 f hf, v_0]; unfold vec; rw [dg0]) (fun m hm' => by omega)
  have e : f_Mo_find (nI mo) (nI (PU U)) (nI (mlen M)) isT sqs ms fre (mF U) (mS U) mn bas tb wA wB rA rB l mA mB ff fs hf hs tr ct = f_Mo_find_L57 (nI mo) 0 (nI (PU U)) (nI (mlen M)) (nI (FF M)) (mF U) (mS U) mn bas tb wA wB rA rB ff' fs' hf' hs' 20000 1 (nI 0) ms l mA mB tr c1 (fun ms' l' mA' mB' tr' ct' => some (((-1) : Int32), 0, isT, sqs, ms', nI (FF M), tb, wA, wB, rA, rB, l', mA', mB', ff', fs', hf', hs', tr', ct')) := by
    have h2 : nI mo ≤ 2 := (nI_leI (b := 2) (by omega) (by omega)).mpr hm
    unfold f_Mo_find ct_jn
    dsimp only
    rw [if_neg (mn_n0 (by omega)), if_pos h2]
    have hr : f_Mo_refuses 0 0 0 = some (0, 0) := rfl
    rw [hr, Option.bind_some]
    dsimp only
    rw [if_pos rfl, p3, Option.bind_some]
    dsimp only
    rw [d2']
    rfl
  rcases hloop with ⟨n, t, wA', wB', rA', rB', ms', l', mA', mB', tr', ct', q1, q2⟩ | ⟨q1, ms', l', mA', mB', tr', ct', q2⟩
  · exact ⟨ms', l', mA', mB', ff', fs', hf', hs', tr', ct', Or.inl ⟨n, t, wA', wB', rA', rB', q1, by rw [e]; exact q2 _⟩⟩
  · exact ⟨ms', l', mA', mB', ff', fs', hf', hs', tr', ct', Or.inr ⟨q1, by rw [e]; exact q2 _⟩⟩
