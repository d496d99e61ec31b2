-- MATHEMATICS 17: the class's search
theorem ml_mark {x : Int32} : ∀ (d n i : Nat) (c : Nat → Int32), i + d = 6 → d < n → ∃ c', (∀ f, f < 6 → c' f = if f < i then c f else x) ∧ ∀ K, f_Search_markFrom_L2 x n (nI i) c K = K c' := by
  intro d
  induction d with
  | zero =>
    intro n i c hk hn
    obtain ⟨n, rfl⟩ : ∃ q, n = q + 1 := ⟨n - 1, by omega⟩
    have e : i = 6 := by omega
    subst e
    refine ⟨c, fun f hf => by rw [if_pos hf], fun K => ?_⟩
    simp (disch := omega) only [f_Search_markFrom_L2, mq_l6, Nat.le_refl, ↓reduceIte]
  | succ d ih =>
    intro n i c hk hn
    obtain ⟨n, rfl⟩ : ∃ q, n = q + 1 := ⟨n - 1, by omega⟩
    obtain ⟨c', h1, h2⟩ := ih n (i + 1) (upd c i x) (by omega) (by omega)
    refine ⟨c', fun f hf => ?_, fun K => ?_⟩
    · rw [h1 f hf]
      by_cases e : f = i
      · subst e; rw [if_pos (by omega), up_eq, if_neg (by omega)]
      · by_cases e2 : f < i
        · rw [if_pos (by omega), up_ne e, if_pos e2]
        · rw [if_neg (by omega), if_neg e2]
    · rw [← h2 K]
      simp (disch := omega) only [f_Search_markFrom_L2, mq_l6, mq_n0, mn_cl, mq_no, false_or, ↓reduceIte, mq_1]
theorem me_mark {x : Int32} (i : Nat) (hi : i ≤ 6) (c : Nat → Int32) : ∃ c', (∀ f, f < 6 → c' f = if f < i then c f else x) ∧ f_Search_markFrom (nI i) x c = some c' := by
  obtain ⟨c', h1, h2⟩ := ml_mark (x := x) (6 - i) 40 i c (by omega) (by omega)
  exact ⟨c', h1, by rw [f_Search_markFrom, h2]⟩
def LFi (M f k : Nat) (lf : Nat → Int32) : Prop := ∀ w, w < 6 → ∃ l, l ≤ FF M ∧ lf w = tM l ∧ ∀ f' n', (f' < f ∧ n' < nP M ∨ f' = f ∧ n' < k) → pw M n' = pw M (frk M f') → pJ M n' ≤ w → f' < l
theorem ml_lf33 {M f : Nat} (hM : M < 64) (hf : f < FF M) {sec cel pow sha : Nat → Int32} (hA : PAr M (nP M) sec cel pow sha) : ∀ (d n k : Nat) (lf : Nat → Int32), k + d = nP M → d < n → LFi M f k lf → ∃ lf', LFi M f (nP M) lf' ∧ ∀ K, f_Search_findLastFree_L33 (nI (pw M (frk M f))) (nI f) (nI (nP M)) sec pow n (nI k) lf K = K lf' := by
  have h21 := nP_le hM
  have hl := mlen_le M hM
  have h6 := FF_le M hM
  obtain ⟨q1, q2, q3, q4⟩ := frk_ok M hM f hf
  have hq := pw_lt hM q1
  intro d
  induction d with
  | zero =>
    intro n k lf hk hn h
    obtain ⟨n, rfl⟩ : ∃ q, n = q + 1 := ⟨n - 1, by omega⟩
    have e : k = nP M := by omega
    subst e
    refine ⟨lf, h, fun K => ?_⟩
    simp (disch := omega) only [f_Search_findLastFree_L33, mq_le, Nat.le_refl, ↓reduceIte]
  | succ d ih =>
    intro n k lf hk hn h
    obtain ⟨n, rfl⟩ : ∃ q, n = q + 1 := ⟨n - 1, by omega⟩
    obtain ⟨b1, b2, b3, b4⟩ := hA k (by omega)
    obtain ⟨-, c2, -⟩ := pI_ok hM (show k < nP M by omega)
    have hp := pw_lt hM (show k < nP M by omega)
    by_cases e : pw M k = pw M (frk M f)
    · obtain ⟨c', m1, m2⟩ := me_mark (x := nI f) (pJ M k) (by omega) lf
      obtain ⟨lf', a1, a2⟩ := ih n (k + 1) c' (by omega) (by omega) (fun w hw => by
        rw [m1 w hw]
        by_cases e2 : w < pJ M k
        · rw [if_pos e2]
          obtain ⟨l, l1, l2, l3⟩ := h w hw
          refine ⟨l, l1, l2, fun f' n' hfn hpw hj => ?_⟩
          by_cases e3 : f' = f ∧ n' = k
          · obtain ⟨rfl, rfl⟩ := e3; omega
          · exact l3 f' n' (by omega) hpw hj
        · rw [if_neg e2]
          exact ⟨f + 1, by omega, (tM_s f).symm, fun f' n' hfn hpw hj => by omega⟩)
      refine ⟨lf', a1, fun K => ?_⟩
      rw [← a2 K, f_Search_findLastFree_L33]
      simp (disch := omega) only [mq_le, mq_n0, mn_cl, mq_no, false_or, ↓reduceIte, mq_1, b3, b1, e]
      rw [m2, Option.bind_some]
    · obtain ⟨lf', a1, a2⟩ := ih n (k + 1) lf (by omega) (by omega) (fun w hw => by
        obtain ⟨l, l1, l2, l3⟩ := h w hw
        refine ⟨l, l1, l2, fun f' n' hfn hpw hj => ?_⟩
        by_cases e3 : f' = f ∧ n' = k
        · obtain ⟨rfl, rfl⟩ := e3; exact absurd hpw e
        · exact l3 f' n' (by omega) hpw hj)
      refine ⟨lf', a1, fun K => ?_⟩
      rw [← a2 K, f_Search_findLastFree_L33]
      simp (disch := omega) only [mq_le, mq_n0, mn_cl, mq_no, false_or, ↓reduceIte, mq_1, b3, mq_eq, e]
theorem ml_lf10 {M : Nat} (hM : M < 64) {sec cel pow sha fre : Nat → Int32} (hA : PAr M (nP M) sec cel pow sha) (hF : PFf M fre) : ∀ (d n f : Nat) (lf : Nat → Int32), f + d = FF M → d < n → LFi M f 0 lf → ∃ lf', LFi M (FF M) 0 lf' ∧ ∀ K, f_Search_findLastFree_L10 (nI (nP M)) (nI (FF M)) sec pow fre n (nI f) lf K = K lf' := by
  have h21 := nP_le hM
  have h6 := FF_le M hM
  intro d
  induction d with
  | zero =>
    intro n f lf hk hn h
    obtain ⟨n, rfl⟩ : ∃ q, n = q + 1 := ⟨n - 1, by omega⟩
    have e : f = FF M := by omega
    subst e
    refine ⟨lf, h, fun K => ?_⟩
    simp (disch := omega) only [f_Search_findLastFree_L10, mq_le, Nat.le_refl, ↓reduceIte]
  | succ d ih =>
    intro n f lf hk hn h
    obtain ⟨n, rfl⟩ : ∃ q, n = q + 1 := ⟨n - 1, by omega⟩
    obtain ⟨q1, q2, q3, q4⟩ := frk_ok M hM f (by omega)
    obtain ⟨b1, b2, b3, b4⟩ := hA (frk M f) q1
    obtain ⟨lf1, a1, a2⟩ := ml_lf33 (f := f) hM (by omega) hA (nP M) 40 0 lf (by omega) (by omega) h
    have a2' : ∀ K, f_Search_findLastFree_L33 (nI (pw M (frk M f))) (nI f) (nI (nP M)) sec pow 40 0 lf K = K lf1 := a2
    obtain ⟨lf', c1, c2⟩ := ih n (f + 1) lf1 (by omega) (by omega) (fun w hw => by
      obtain ⟨l, l1, l2, l3⟩ := a1 w hw
      exact ⟨l, l1, l2, fun f' n' hfn hpw hj => l3 f' n' (by omega) hpw hj⟩)
    refine ⟨lf', c1, fun K => ?_⟩
    rw [← c2 K, f_Search_findLastFree_L10]
    simp (disch := omega) only [mq_le, mq_n0, mn_cl, mq_no, false_or, ↓reduceIte, mq_1, hF f (by omega), b3]
    exact a2' _
theorem me_lf {M : Nat} (hM : M < 64) {sec cel pow sha fre : Nat → Int32} (hA : PAr M (nP M) sec cel pow sha) (hF : PFf M fre) (lf : Nat → Int32) : ∃ lf', LFi M (FF M) 0 lf' ∧ f_Search_findLastFree lf (nI (nP M)) (nI (FF M)) sec pow fre = some lf' := by
  have h6 := FF_le M hM
  obtain ⟨lf', a1, a2⟩ := ml_lf10 hM hA hF (FF M) 40 0 (fl 6 0 (-1) lf) (by omega) (by omega) (fun w hw => ⟨0, by omega, by unfold fl; rw [if_pos ⟨by omega, hw⟩]; rfl, fun f' n' hfn => by omega⟩)
  refine ⟨lf', a1, ?_⟩
  rw [f_Search_findLastFree, me_fill6, Option.bind_some]
  exact a2 _
def allT (M : Nat) (cn : Nat → Int32) : Prop := ∀ p, p < 15 → ¬ cn p = 0 → ¬ hN M p = 99
theorem ml_hat {M : Nat} (hM : M < 64) {han cn : Nat → Int32} (hH : PH M (nP M) han) : ∀ (d n p : Nat), p + d = 15 → d < n →
    ((∀ p', p ≤ p' → p' < 15 → ¬ cn p' = 0 → ¬ hN M p' = 99) ∧ ∀ K, f_Pairs_haveAllTerms_L2 han cn n (nI p) K = K ()) ∨ (¬ (∀ p', p ≤ p' → p' < 15 → ¬ cn p' = 0 → ¬ hN M p' = 99) ∧ ∀ K, f_Pairs_haveAllTerms_L2 han cn n (nI p) K = some 0) := by
  have h21 := nP_le hM
  intro d
  induction d with
  | zero =>
    intro n p hk hn
    obtain ⟨n, rfl⟩ : ∃ q, n = q + 1 := ⟨n - 1, by omega⟩
    have e : p = 15 := by omega
    subst e
    refine Or.inl ⟨fun p' h1 h2 => by omega, fun K => ?_⟩
    simp (disch := omega) only [f_Pairs_haveAllTerms_L2, mq_l15, Nat.le_refl, ↓reduceIte]
  | succ d ih =>
    intro n p hk hn
    obtain ⟨n, rfl⟩ : ∃ q, n = q + 1 := ⟨n - 1, by omega⟩
    have hhp : han p = toI (hN M p) := hH p (by omega)
    have hlt : hN M p = 99 ∨ hN M p < 90 := by
      have a := hg_lt (M := M) (p := p) (nP M)
      unfold hN; omega
    have hst : ∀ K, f_Pairs_haveAllTerms_L2 han cn (n + 1) (nI p) K = if cn p = 0 then f_Pairs_haveAllTerms_L2 han cn n (nI (p + 1)) K else if hN M p = 99 then some 0 else f_Pairs_haveAllTerms_L2 han cn n (nI (p + 1)) K := by
      intro K
      rw [f_Pairs_haveAllTerms_L2]
      simp (disch := omega) only [mq_l15, mq_n0, mn_cl, mq_no, false_or, ↓reduceIte, mq_1, hhp, toI_m1 hlt]
    by_cases hgo : cn p = 0 ∨ ¬ hN M p = 99
    · have hst' : ∀ K, f_Pairs_haveAllTerms_L2 han cn (n + 1) (nI p) K = f_Pairs_haveAllTerms_L2 han cn n (nI (p + 1)) K := by
        intro K
        rw [hst K]
        by_cases h0 : cn p = 0
        · rw [if_pos h0]
        · rw [if_neg h0, if_neg (fun h => hgo.elim h0 (fun h' => h' h))]
      rcases ih n (p + 1) (by omega) (by omega) with ⟨a1, a2⟩ | ⟨a1, a2⟩
      · refine Or.inl ⟨fun p' h1 h2 h3 => ?_, fun K => by rw [hst' K, a2 K]⟩
        by_cases e : p' = p
        · subst e
          rcases hgo with h | h
          · exact absurd h h3
          · exact h
        · exact a1 p' (by omega) h2 h3
      · exact Or.inr ⟨fun h => a1 (fun p' h1 h2 h3 => h p' (by omega) h2 h3), fun K => by rw [hst' K, a2 K]⟩
    · have h0 : ¬ cn p = 0 := fun h => hgo (Or.inl h)
      have h9 : hN M p = 99 := Decidable.not_not.mp (fun h => hgo (Or.inr h))
      refine Or.inr ⟨fun h => h p (by omega) (by omega) h0 h9, fun K => ?_⟩
      rw [hst K, if_neg h0, if_pos h9]
theorem me_hat {M : Nat} (hM : M < 64) {han : Nat → Int32} (cn : Nat → Int32) (hH : PH M (nP M) han) : (allT M cn ∧ f_Pairs_haveAllTerms han cn = some 1) ∨ (¬ allT M cn ∧ f_Pairs_haveAllTerms han cn = some 0) := by
  rcases ml_hat (cn := cn) hM hH 15 40 0 (by omega) (by omega) with ⟨a1, a2⟩ | ⟨a1, a2⟩
  · have a2' : ∀ K, f_Pairs_haveAllTerms_L2 han cn 40 0 K = K () := a2
    exact Or.inl ⟨fun p hp => a1 p (by omega) hp, by rw [f_Pairs_haveAllTerms, a2']⟩
  · have a2' : ∀ K, f_Pairs_haveAllTerms_L2 han cn 40 0 K = some 0 := a2
    exact Or.inr ⟨fun h => a1 (fun p' _ h2 h3 => h p' h2 h3), by rw [f_Pairs_haveAllTerms, a2']⟩
theorem OK_ext {M : Nat} (hM : M < 64) {cn ch ch' : Nat → Int32} (h : ∀ f, f < FF M → ch' f = ch f) (hk : OK M cn ch) : OK M cn ch' := by
  have hl := mlen_le M hM
  have ha : ag M 6 ch ch' := fun f hf _ _ _ _ => h f hf
  refine ⟨fun p hp hx => ?_, good_agree (fun a c hac hc => ?_) hk.2⟩
  · obtain ⟨g1, g2⟩ := hN_ok hx
    have e := ag_hv (cn := cn) ha g1 (by have := (pI_ok hM g1).2.1; omega)
    rw [g2] at e
    rw [e]
    exact hk.1 p hp hx
  · obtain ⟨e1, e2, e3, -⟩ := idx_ok (mlen M) (by omega) a (by omega) c hc hac
    unfold TB
    rw [ag_tv hM ha e3 (by unfold pJ; omega)]
theorem B_le {mo F : Nat} (hm : mo ≤ 2) (hF : F ≤ 6) : (2 * mo + 1) ^ F ≤ 15625 := by
  have h1 : (2 * mo + 1) ^ F ≤ 5 ^ F := Nat.pow_le_pow_left (by omega) F
  have h2 : 5 ^ F ≤ 5 ^ 6 := Nat.pow_le_pow_right (by omega) hF
  exact Nat.le_trans h1 h2
theorem ml_ta {M mo : Nat} (hM : M < 64) (hm : mo ≤ 2) {sec cel pow sha han fre cn lf : Nat → Int32} (hA : PAr M (nP M) sec cel pow sha) (hH : PH M (nP M) han) (hF : PFf M fre) (hn15 : ∀ p, p < 15 → sm 15 (cn p)) (hlf : LFi M (FF M) 0 lf) : ∀ (D n k N : Nat) (t r ch : Nat → Int32) (z : Int32) (l : Nat → Int64) (q : Nat → Int32), n < (2 * mo + 1) ^ FF M → (2 * mo + 1) ^ FF M ≤ n + D → D ≤ N → k ≤ n → (∀ f, f < FF M → ch f = vec mo (FF M) n f) → ZB (mlen M) t → (∀ m, m < n → ¬ OK M cn (vec mo (FF M) m)) →
    ∃ (t' r' ch' : Nat → Int32) (z' : Int32) (l' : Nat → Int64) (q' : Nat → Int32),
    ((∃ n', n' < (2 * mo + 1) ^ FF M ∧ OK M cn (vec mo (FF M) n') ∧ (∀ m, m < n' → ¬ OK M cn (vec mo (FF M) m)) ∧ ZB (mlen M) t' ∧ good (TT t') (mlen M) ∧ (∀ n, n < nP M → t' (cN M n) = tv M cn (vec mo (FF M) n') n) ∧
      ∀ K, f_Search_triedAhead_L33 (nI (mlen M)) (nI mo) lf (nI (FF M)) sec cel pow sha han fre cn N (nI k) t r ch z l q K = some (nI n', t', r', ch', lf, z', l', q')) ∨
    ((∀ m, m < (2 * mo + 1) ^ FF M → ¬ OK M cn (vec mo (FF M) m)) ∧
      ∀ K, f_Search_triedAhead_L33 (nI (mlen M)) (nI mo) lf (nI (FF M)) sec cel pow sha han fre cn N (nI k) t r ch z l q K = some (-1, t', r', ch', lf, z', l', q'))) := by
  have h6 := FF_le M hM
  have hl6 := mlen_le M hM
  have hB := B_le hm h6
  intro D
  induction D with
  | zero => intro n k N t r ch z l q h1 h2; omega
  | succ D ih =>
    intro n k N t r ch z l q h1 h2 h3 h4 hc hz hbad
    obtain ⟨N, rfl⟩ : ∃ q, N = q + 1 := ⟨N - 1, by omega⟩
    obtain ⟨x, t1, r1, z1, l1, q1, w1, w2, w3⟩ := me_wrong (ch := ch) hM hA hH hF hn15 (fun f hf => by rw [hc f hf]; exact vec_sm hm) t r hz z l q
    have hk : ¬ (15625 : Int32) ≤ nI k := by
      rw [show (15625 : Int32) = nI 15625 from rfl, nI_leI (by omega) (by omega)]
      omega
    rcases w3 with ⟨rfl, ok, g, htv⟩ | ⟨w, hw, rfl, hb⟩
    · refine ⟨t1, r1, ch, z1, l1, q1, Or.inl ⟨n, h1, OK_ext hM (fun f hf => (hc f hf).symm) ok, hbad, w1, g, fun i hi => ?_, fun K => ?_⟩⟩
      · rw [htv i hi]
        exact ag_tv (w := 6) hM (fun f hf _ _ _ _ => hc f hf) hi (by have := (pI_ok hM hi).2.1; omega)
      · rw [f_Search_triedAhead_L33, if_neg hk, w2, Option.bind_some]
        dsimp only
        rw [if_pos rfl, me_pl h6 h1 hc, Option.bind_some]
    · obtain ⟨lw, v1, v2, v3⟩ := hlf w (by omega)
      have hst : ∀ K, f_Search_triedAhead_L33 (nI (mlen M)) (nI mo) lf (nI (FF M)) sec cel pow sha han fre cn (N + 1) (nI k) t r ch z l q K = ((f_Search_goOn (tM lw) (nI mo) ch).bind (fun (r_29, v_chosen_30) => (if r_29 = 0 then some (((-1) : Int32), t1, r1, v_chosen_30, lf, z1, l1, q1) else (f_Search_triedAhead_L33 (nI (mlen M)) (nI mo) lf (nI (FF M)) sec cel pow sha han fre cn N (nI (k + 1)) t1 r1 v_chosen_30 z1 l1 q1 K)))) := by
        intro K
        rw [f_Search_triedAhead_L33, if_neg hk, w2, Option.bind_some]
        dsimp only
        simp (disch := omega) only [mn_m1, mq_n0, mn_cl, mq_no, false_or, ↓reduceIte, v2, mq_1]
      have hsame : ∀ m, (∀ f, f < lw → dg (2 * mo + 1) (FF M) m f = dg (2 * mo + 1) (FF M) n f) → ¬ OK M cn (vec mo (FF M) m) := by
        intro m hd
        apply hb
        intro f hf i hi hp hj
        have := v3 f i (Or.inl ⟨hf, hi⟩) hp hj
        rw [hc f hf]
        unfold vec
        rw [hd f this]
      rcases me_go hm h6 v1 h1 hc with ⟨n', ch', a1, a2, a3, a4, a5⟩ | ⟨a1, a2⟩
      · have hbad' : ∀ m, m < n' → ¬ OK M cn (vec mo (FF M) m) := by
          intro m hm'
          by_cases e : m < n
          · exact hbad m e
          · exact hsame m (fun f hf => a3 m (by omega) hm' f hf)
        have hst' : ∀ K, f_Search_triedAhead_L33 (nI (mlen M)) (nI mo) lf (nI (FF M)) sec cel pow sha han fre cn (N + 1) (nI k) t r ch z l q K = f_Search_triedAhead_L33 (nI (mlen M)) (nI mo) lf (nI (FF M)) sec cel pow sha han fre cn N (nI (k + 1)) t1 r1 ch' z1 l1 q1 K := by
          intro K
          rw [hst K, a5, Option.bind_some]
          dsimp only
          rw [if_neg i_10]
        obtain ⟨t', r', c', z', l', q', hh⟩ := ih n' (k + 1) N t1 r1 ch' z1 l1 q1 a2 (by omega) (by omega) (by omega) a4 w1 hbad'
        refine ⟨t', r', c', z', l', q', ?_⟩
        rcases hh with ⟨m, b1, b2, b3, b4, b5, b6, b7⟩ | ⟨b1, b2⟩
        · exact Or.inl ⟨m, b1, b2, b3, b4, b5, b6, fun K => by rw [hst' K, b7 K]⟩
        · exact Or.inr ⟨b1, fun K => by rw [hst' K, b2 K]⟩
      · refine ⟨t1, r1, ch, z1, l1, q1, Or.inr ⟨fun m hm' => ?_, fun K => ?_⟩⟩
        · by_cases e : m < n
          · exact hbad m e
          · exact hsame m (fun f hf => a1 m (by omega) hm' f hf)
        · rw [hst K, a2, Option.bind_some]
          dsimp only
          rw [if_pos rfl]
theorem dg0 {B F f : Nat} : dg B F 0 f = 0 := by
  unfold dg Xp
  rw [Nat.zero_div, Nat.zero_mod]
theorem me_tried {M mo : Nat} (hM : M < 64) (hm : mo ≤ 2) {sec cel pow sha han fre cn : Nat → Int32} (hA : PAr M (nP M) sec cel pow sha) (hH : PH M (nP M) han) (hF : PFf M fre) (hn15 : ∀ p, p < 15 → sm 15 (cn p)) (t r ch lf : Nat → Int32) (z : Int32) (l : Nat → Int64) (q : Nat → Int32) :
    ∃ (t' r' ch' lf' : Nat → Int32) (z' : Int32) (l' : Nat → Int64) (q' : Nat → Int32),
    ((allT M cn ∧ ∃ n', n' < (2 * mo + 1) ^ FF M ∧ OK M cn (vec mo (FF M) n') ∧ (∀ m, m < n' → ¬ OK M cn (vec mo (FF M) m)) ∧ ZB (mlen M) t' ∧ good (TT t') (mlen M) ∧ (∀ n, n < nP M → t' (cN M n) = tv M cn (vec mo (FF M) n') n) ∧
      f_Search_triedAhead (nI (mlen M)) (nI mo) t r ch lf z l q (nI (nP M)) (nI (FF M)) sec cel pow sha han fre cn = some (nI n', t', r', ch', lf', z', l', q')) ∨
    ((¬ allT M cn ∨ ∀ m, m < (2 * mo + 1) ^ FF M → ¬ OK M cn (vec mo (FF M) m)) ∧
      f_Search_triedAhead (nI (mlen M)) (nI mo) t r ch lf z l q (nI (nP M)) (nI (FF M)) sec cel pow sha han fre cn = some (-1, t', r', ch', lf', z', l', q'))) := by
  have h6 := FF_le M hM
  have hB := B_le hm h6
  rcases me_hat hM cn hH with ⟨a1, a2⟩ | ⟨a1, a2⟩
  · obtain ⟨c1, b1, b2⟩ := me_sb (mo := nI mo) 0 (by omega) ch
    obtain ⟨lf1, d1, d2⟩ := me_lf hM hA hF lf
    have hpos : 0 < (2 * mo + 1) ^ FF M := Nat.pow_pos (by omega)
    obtain ⟨t', r', ch', z', l', q', hh⟩ := ml_ta hM hm hA hH hF hn15 d1 ((2 * mo + 1) ^ FF M) 0 0 15626 (fl 36 0 0 t) r c1 z l q hpos (by omega) (by omega) (by omega) (fun f hf => by
      rw [b1 f (by omega), if_neg (by omega), v_0]
      unfold vec
      rw [dg0]) (fun a c hac hs hc => by unfold fl; rw [if_pos (by omega)]) (fun m hm' => by omega)
    have e : ∀ X, f_Search_triedAhead_L33 (nI (mlen M)) (nI mo) lf1 (nI (FF M)) sec cel pow sha han fre cn 15626 (nI 0) (fl 36 0 0 t) r c1 z l q (fun t2 r2 c2 z2 l2 q2 => some (((-1) : Int32), t2, r2, c2, lf1, z2, l2, q2)) = X → f_Search_triedAhead (nI (mlen M)) (nI mo) t r ch lf z l q (nI (nP M)) (nI (FF M)) sec cel pow sha han fre cn = X := by
      intro X hX
      rw [f_Search_triedAhead, a2, Option.bind_some, if_neg i_10, me_fill36, Option.bind_some, show ((-1) : Int32) = tM 0 from rfl, b2, Option.bind_some, d2, Option.bind_some]
      exact hX
    refine ⟨t', r', ch', lf1, z', l', q', ?_⟩
    rcases hh with ⟨m, f1, f2, f3, f4, f5, f6, f7⟩ | ⟨f1, f2⟩
    · exact Or.inl ⟨a1, m, f1, f2, f3, f4, f5, f6, e _ (f7 _)⟩
    · exact Or.inr ⟨Or.inr f1, e _ (f2 _)⟩
  · refine ⟨t, r, ch, lf, z, l, q, Or.inr ⟨Or.inl a1, ?_⟩⟩
    rw [f_Search_triedAhead, a2, Option.bind_some, if_pos rfl]
