-- MATHEMATICS 15: wrongMember
/-- nothing stands behind the members -/
def ZB (s : Nat) (t : Nat → Int32) : Prop := ∀ a c, a ≤ c → s ≤ c → c < 6 → t (6 * a + c) = 0
def PFf (M : Nat) (fre : Nat → Int32) : Prop := ∀ f, f < FF M → fre f = nI (frk M f)
theorem PF_f {M : Nat} (hM : M < 64) {fre : Nat → Int32} (h : PF M fre) : PFf M fre := by
  intro f hf
  obtain ⟨h1, h2, h3, -⟩ := frk_ok M hM f hf
  have := h (frk M f) h1 h2
  rw [h3] at this
  exact this
theorem ZB_upd {M n : Nat} {t : Nat → Int32} {v : Int32} (hM : M < 64) (hn : n < nP M) (h : ZB (mlen M) t) : ZB (mlen M) (upd t (cN M n) v) := by
  intro a c hac hs hc
  obtain ⟨h1, h2, -⟩ := pI_ok hM hn
  have := mlen_le M hM
  rw [up_ne (by unfold cN; omega)]
  exact h a c hac hs hc
theorem ml_w11 {M : Nat} (hM : M < 64) {sec cel pow sha fre cn ch : Nat → Int32} (hA : PAr M (nP M) sec cel pow sha) (hF : PFf M fre) : ∀ (d n f : Nat) (t r : Nat → Int32), f + d = FF M → d < n →
    ZB (mlen M) t → (∀ g, g < f → t (cN M (frk M g)) = ch g) → (∀ p, p < 15 → r p = 2 * (cn p - sF M ch p f)) →
    ∃ t' r', ZB (mlen M) t' ∧ (∀ g, g < FF M → t' (cN M (frk M g)) = ch g) ∧ (∀ p, p < 15 → r' p = 2 * rr M cn ch p) ∧
      ∀ K, f_Search_wrongMember_L11 ch (nI (FF M)) cel pow sha fre n (nI f) t r K = K t' r' := by
  have h6 := FF_le M hM
  have h21 := nP_le hM
  intro d
  induction d with
  | zero =>
    intro n f t r hk hn hz ht hr
    obtain ⟨n, rfl⟩ : ∃ q, n = q + 1 := ⟨n - 1, by omega⟩
    have e : f = FF M := by omega
    subst e
    refine ⟨t, r, hz, ht, hr, fun K => ?_⟩
    simp (disch := omega) only [f_Search_wrongMember_L11, mq_le, Nat.le_refl, ↓reduceIte]
  | succ d ih =>
    intro n f t r hk hn hz ht hr
    obtain ⟨n, rfl⟩ : ∃ q, n = q + 1 := ⟨n - 1, by omega⟩
    obtain ⟨a1, a2, a3, a4⟩ := frk_ok M hM f (by omega)
    obtain ⟨b1, b2, b3, b4⟩ := hA (frk M f) a1
    have hp := pw_lt hM a1
    have hc := cN_lt hM a1
    obtain ⟨t', r', h1, h2, h3, h4⟩ := ih n (f + 1) (upd t (cN M (frk M f)) (ch f)) (upd r (pw M (frk M f)) (r (pw M (frk M f)) - 2 * ch f)) (by omega) (by omega) (ZB_upd hM a1 hz) (fun g hg => by
      by_cases e : g = f
      · subst e; exact up_eq
      · rw [up_ne (fun e2 => e (by
          obtain ⟨c1, c2, c3, c4⟩ := frk_ok M hM g (by omega)
          rw [← c3, ← a3, cN_inj hM c1 a1 e2]))]
        exact ht g (by omega)) (fun p hp => by
      rw [sF_s]
      by_cases e : p = pw M (frk M f)
      · rw [if_pos e.symm, e, up_eq, hr _ (by omega)]; grind
      · rw [if_neg (fun h => e h.symm), up_ne e, hr p hp]; grind)
    refine ⟨t', r', h1, h2, h3, fun K => ?_⟩
    have hA' : cel (frk M f) = nI (cN M (frk M f)) := b2
    have hS : sha (frk M f) = 2 := by rw [b4, if_neg a4]; rfl
    rw [← h4 K]
    simp (disch := omega) only [f_Search_wrongMember_L11, mq_le, mq_n0, mn_cl, mq_no, false_or, ↓reduceIte, mq_1, hF f (by omega), b3, hA', hS]
theorem me_wi (x : Int32) : (wi x ∧ f_Sq_within x 30 = some 1) ∨ (¬ wi x ∧ f_Sq_within x 30 = some 0) := by
  unfold wi f_Sq_within
  by_cases h1 : x < -30
  · exact Or.inr ⟨fun h => h.1 h1, by rw [if_pos h1]⟩
  · by_cases h2 : 30 < x
    · exact Or.inr ⟨fun h => h.2 h2, by rw [if_neg h1, if_pos h2]⟩
    · exact Or.inl ⟨⟨h1, h2⟩, by rw [if_neg h1, if_neg h2]⟩
theorem hN_ok {M p : Nat} (h : ¬ hN M p = 99) : hN M p < nP M ∧ pw M (hN M p) = p := by
  have a := hg_lt (M := M) (p := p) (nP M)
  have b := hg_pw (M := M) (p := p) (nP M)
  unfold hN at *
  exact ⟨by omega, by omega⟩
theorem hN_nf {M p : Nat} (h : ¬ hN M p = 99) : fr M (hN M p) = false := by
  have := (hN_ok h).2
  by_cases e : fr M (hN M p) = true
  · rw [fr_iff, this] at e; exact absurd rfl e
  · simpa using e
theorem ml_w87 {M : Nat} (hM : M < 64) {sec cel pow sha han cn ch r : Nat → Int32} (hA : PAr M (nP M) sec cel pow sha) (hH : PH M (nP M) han) (hn15 : ∀ p, p < 15 → sm 15 (cn p)) (hc2 : ∀ f, f < FF M → sm 2 (ch f)) (hr : ∀ p, p < 15 → r p = 2 * rr M cn ch p) {z : Int32} {l : Nat → Int64} {q : Nat → Int32} : ∀ (d n p : Nat) (t : Nat → Int32), p + d = 15 → d < n →
    ZB (mlen M) t → (∀ g, g < FF M → t (cN M (frk M g)) = ch g) → (∀ p', p' < p → ¬ hN M p' = 99 → t (cN M (hN M p')) = hv M cn ch p' ∧ wi (hv M cn ch p')) →
    (∃ t', ZB (mlen M) t' ∧ (∀ g, g < FF M → t' (cN M (frk M g)) = ch g) ∧ (∀ p', p' < 15 → ¬ hN M p' = 99 → t' (cN M (hN M p')) = hv M cn ch p' ∧ wi (hv M cn ch p')) ∧
      ∀ K, f_Search_wrongMember_L87 r z l q sec cel sha han n (nI p) t K = K t') ∨
    (∃ t' p', ZB (mlen M) t' ∧ p' < 15 ∧ ¬ hN M p' = 99 ∧ ¬ wi (hv M cn ch p') ∧ ∀ K, f_Search_wrongMember_L87 r z l q sec cel sha han n (nI p) t K = some (nI (pJ M (hN M p')), t', r, z, l, q)) := by
  have h6 := FF_le M hM
  have h21 := nP_le hM
  intro d
  induction d with
  | zero =>
    intro n p t hk hn hz ht hh
    obtain ⟨n, rfl⟩ : ∃ q, n = q + 1 := ⟨n - 1, by omega⟩
    have e : p = 15 := by omega
    subst e
    refine Or.inl ⟨t, hz, ht, hh, fun K => ?_⟩
    simp (disch := omega) only [f_Search_wrongMember_L87, mq_l15, Nat.le_refl, ↓reduceIte]
  | succ d ih =>
    intro n p t hk hn hz ht hh
    obtain ⟨n, rfl⟩ : ∃ q, n = q + 1 := ⟨n - 1, by omega⟩
    have hhp : han p = toI (hN M p) := hH p (by omega)
    by_cases h99 : hN M p = 99
    · have hp1 : han p = -1 := by rw [hhp, h99]; rfl
      have hst : ∀ K, f_Search_wrongMember_L87 r z l q sec cel sha han (n + 1) (nI p) t K = f_Search_wrongMember_L87 r z l q sec cel sha han n (nI (p + 1)) t K := by
        intro K
        rw [f_Search_wrongMember_L87]
        simp (disch := omega) only [mq_l15, mq_n0, mn_cl, mq_no, false_or, ↓reduceIte, mq_1, hp1]
      rcases ih n (p + 1) t (by omega) (by omega) hz ht (fun p' hp' hx => by
        by_cases e : p' = p
        · subst e; exact absurd h99 hx
        · exact hh p' (by omega) hx) with ⟨t', c1, c2, c3, c4⟩ | ⟨t', p', c1, c2, c3, c4, c5⟩
      · exact Or.inl ⟨t', c1, c2, c3, fun K => by rw [hst K, c4 K]⟩
      · exact Or.inr ⟨t', p', c1, c2, c3, c4, fun K => by rw [hst K, c5 K]⟩
    · obtain ⟨a1, a2⟩ := hN_ok h99
      have hp1 : han p = nI (hN M p) := by rw [hhp]; unfold toI; rw [if_neg h99]
      obtain ⟨b1, b2, b3, b4⟩ := hA (hN M p) a1
      have hA' : cel (hN M p) = nI (cN M (hN M p)) := b2
      have hcl := cN_lt hM a1
      have hnum : (if sha (hN M p) = 1 then r p else r p / 2) = hv M cn ch p := by
        rw [b4, hr p (by omega)]
        unfold hv
        by_cases e : pI M (hN M p) = pJ M (hN M p)
        · rw [if_pos e, if_pos (show nI 1 = 1 from rfl), if_pos e]
        · rw [if_neg e, if_neg (show ¬ nI 2 = 1 by decide), if_neg e, half (rr_sm hM (hn15 p (by omega)) hc2)]
      have hst : ∀ K, f_Search_wrongMember_L87 r z l q sec cel sha han (n + 1) (nI p) t K = ((f_Sq_within (hv M cn ch p) (30 : Int32)).bind (fun r_9 => (if r_9 = 0 then some (nI (pJ M (hN M p)), t, r, z, l, q) else f_Search_wrongMember_L87 r z l q sec cel sha han n (nI (p + 1)) (upd t (cN M (hN M p)) (hv M cn ch p)) K))) := by
        intro K
        rw [f_Search_wrongMember_L87]
        unfold ct_jn
        rw [← hnum]
        simp (disch := omega) only [mq_l15, mq_n0, mn_cl, mq_no, false_or, ↓reduceIte, mq_1, hp1, mn_m1, hA', b1]
        by_cases e : sha (hN M p) = 1
        · simp only [if_pos e]
        · simp only [if_neg e]
      rcases me_wi (hv M cn ch p) with ⟨w1, w2⟩ | ⟨w1, w2⟩
      · have hst' : ∀ K, f_Search_wrongMember_L87 r z l q sec cel sha han (n + 1) (nI p) t K = f_Search_wrongMember_L87 r z l q sec cel sha han n (nI (p + 1)) (upd t (cN M (hN M p)) (hv M cn ch p)) K := by
          intro K
          rw [hst K, w2, Option.bind_some, if_neg i_10]
        rcases ih n (p + 1) (upd t (cN M (hN M p)) (hv M cn ch p)) (by omega) (by omega) (ZB_upd hM a1 hz) (fun g hg => by
          obtain ⟨f1, f2, f3, f4⟩ := frk_ok M hM g hg
          rw [up_ne (fun e => by
            have e2 := cN_inj hM f1 a1 e
            rw [e2, hN_nf h99] at f2
            exact absurd f2 (by decide))]
          exact ht g hg) (fun p' hp' hx => by
          by_cases e : p' = p
          · subst e; exact ⟨up_eq, w1⟩
          · obtain ⟨g1, g2⟩ := hN_ok hx
            rw [up_ne (fun e3 => e (by
              have e2 := cN_inj hM g1 a1 e3
              rw [← g2, ← a2, e2]))]
            exact hh p' (by omega) hx) with ⟨t', c1, c2, c3, c4⟩ | ⟨t', p', c1, c2, c3, c4, c5⟩
        · exact Or.inl ⟨t', c1, c2, c3, fun K => by rw [hst' K, c4 K]⟩
        · exact Or.inr ⟨t', p', c1, c2, c3, c4, fun K => by rw [hst' K, c5 K]⟩
      · refine Or.inr ⟨t, p, hz, by omega, h99, w1, fun K => ?_⟩
        rw [hst K, w2, Option.bind_some, if_pos rfl]
/-- ch' is as ch for all that matters up to member w -/
def ag (M w : Nat) (ch ch' : Nat → Int32) : Prop := ∀ f, f < FF M → ∀ n, n < nP M → pw M n = pw M (frk M f) → pJ M n ≤ w → ch' f = ch f
theorem sf_ext {f g : Nat → Int32} : ∀ d, (∀ x, x < d → f x = g x) → sf f 0 d = sf g 0 d := by
  intro d h
  exact sf_congr d 0 (fun x _ hx => h x (by omega))
theorem ag_hv {M w n : Nat} {cn ch ch' : Nat → Int32} (h : ag M w ch ch') (hn : n < nP M) (hw : pJ M n ≤ w) : hv M cn ch' (pw M n) = hv M cn ch (pw M n) := by
  have e : rr M cn ch' (pw M n) = rr M cn ch (pw M n) := by
    unfold rr sF
    rw [sf_ext (FF M) (fun f hf => ?_)]
    by_cases e : pw M (frk M f) = pw M n
    · rw [if_pos e, if_pos e, h f hf n hn e.symm hw]
    · rw [if_neg e, if_neg e]
  unfold hv
  rw [e]
theorem ag_tv {M w n : Nat} {cn ch ch' : Nat → Int32} (hM : M < 64) (h : ag M w ch ch') (hn : n < nP M) (hw : pJ M n ≤ w) : tv M cn ch' n = tv M cn ch n := by
  unfold tv
  by_cases e : fr M n = true
  · rw [if_pos e, if_pos e]
    obtain ⟨a1, a2⟩ := frk_fc hM hn e
    exact h (fc M n) a2 n hn (by rw [a1]) hw
  · rw [if_neg e, if_neg e]
    exact ag_hv h hn hw
theorem tv_h {M p : Nat} {cn ch : Nat → Int32} (h : ¬ hN M p = 99) : tv M cn ch (hN M p) = hv M cn ch p := by
  unfold tv
  rw [hN_nf h, (hN_ok h).2]
  rfl
theorem tv_all {M : Nat} {cn ch t : Nat → Int32} (hM : M < 64) (h1 : ∀ g, g < FF M → t (cN M (frk M g)) = ch g) (h2 : ∀ p', p' < 15 → ¬ hN M p' = 99 → t (cN M (hN M p')) = hv M cn ch p') : ∀ n, n < nP M → t (cN M n) = tv M cn ch n := by
  intro n hn
  unfold tv
  by_cases e : fr M n = true
  · rw [if_pos e]
    obtain ⟨a1, a2⟩ := frk_fc hM hn e
    have := h1 (fc M n) a2
    rw [a1] at this
    exact this
  · rw [if_neg e]
    have e2 : hN M (pw M n) = n := by
      rw [fr_iff] at e
      exact Decidable.not_not.mp e
    have := h2 (pw M n) (pw_lt hM hn) (hN_some hM hn).1
    rw [e2] at this
    exact this
theorem TT_TB {M : Nat} {cn ch t : Nat → Int32} (hM : M < 64) (h : ∀ n, n < nP M → t (cN M n) = tv M cn ch n) : ∀ a c, a ≤ c → c < mlen M → TT t a c = TB M cn ch a c := by
  intro a c hac hc
  have hl := mlen_le M hM
  obtain ⟨e1, e2, e3, -⟩ := idx_ok (mlen M) (by omega) a (by omega) c hc hac
  have := h (idx (mlen M) a c) e3
  unfold TT TB
  rw [← this]
  unfold cN pI pJ
  rw [e1, e2]
theorem me_wrong {M : Nat} (hM : M < 64) {sec cel pow sha han fre cn ch : Nat → Int32} (hA : PAr M (nP M) sec cel pow sha) (hH : PH M (nP M) han) (hF : PFf M fre) (hn15 : ∀ p, p < 15 → sm 15 (cn p)) (hc2 : ∀ f, f < FF M → sm 2 (ch f)) (t r : Nat → Int32) (hz : ZB (mlen M) t) (z : Int32) (l : Nat → Int64) (q : Nat → Int32) :
    ∃ (x : Int32) (t' r' : Nat → Int32) (z' : Int32) (l' : Nat → Int64) (q' : Nat → Int32), ZB (mlen M) t' ∧ f_Search_wrongMember (nI (mlen M)) t r ch z l q (nI (FF M)) sec cel pow sha han fre cn = some (x, t', r', z', l', q') ∧
      ((x = -1 ∧ OK M cn ch ∧ good (TT t') (mlen M) ∧ ∀ n, n < nP M → t' (cN M n) = tv M cn ch n) ∨
       (∃ w, w < mlen M ∧ x = nI w ∧ ∀ ch', ag M w ch ch' → ¬ OK M cn ch')) := by
  have hl := mlen_le M hM
  obtain ⟨r1, a1, a2⟩ := me_dbl r cn
  obtain ⟨t2, r2, b1, b2, b3, b4⟩ := ml_w11 (cn := cn) (ch := ch) hM hA hF (FF M) 40 0 t r1 (by omega) (by have := FF_le M hM; omega) hz (fun g hg => by omega) (fun p hp => by rw [a1 p hp]; unfold sF; rw [sf]; grind)
  have b4' : ∀ K, f_Search_wrongMember_L11 ch (nI (FF M)) cel pow sha fre 40 0 t r1 K = K t2 r2 := b4
  rcases ml_w87 (z := z) (l := l) (q := q) hM hA hH hn15 hc2 b3 15 40 0 t2 (by omega) (by omega) b1 b2 (fun p' hp' => by omega) with ⟨t', c1, c2, c3, c4⟩ | ⟨t', p', c1, c2, c3, c4, c5⟩
  · have c4' : ∀ K, f_Search_wrongMember_L87 r2 z l q sec cel sha han 40 0 t2 K = K t' := c4
    have htv := tv_all (cn := cn) (ch := ch) hM c2 (fun p' hp' hx => (c3 p' hp' hx).1)
    have hTT := TT_TB hM htv
    rcases me_failing (s := mlen M) hl l q t' with ⟨g, l', q', d1, d2, d3⟩ | ⟨w, z', l', q', d1, d2⟩
    · refine ⟨-1, t', r2, nI (SQ (TT t') (mlen M)), l', q', c1, ?_, Or.inl ⟨rfl, ⟨fun p hp hx => (c3 p hp hx).2, good_agree hTT g⟩, g, htv⟩⟩
      rw [f_Search_wrongMember, a2, Option.bind_some, b4', c4', d3, Option.bind_some]
    · refine ⟨nI w, t', r2, z', l', q', c1, ?_, Or.inr ⟨w, d1.1, rfl, fun ch' hag hok => ?_⟩⟩
      · rw [f_Search_wrongMember, a2, Option.bind_some, b4', c4', d2, Option.bind_some]
      · refine d1.2 (TB M cn ch') (fun a c hac hc => ?_) hok.2
        have hws := d1.1
        rw [hTT a c hac (by omega)]
        obtain ⟨e1, e2, e3, -⟩ := idx_ok (mlen M) (by omega) a (by omega) c (by omega) hac
        unfold TB
        rw [ag_tv hM hag e3 (by unfold pJ; rw [e2]; exact hc)]
  · have c5' : ∀ K, f_Search_wrongMember_L87 r2 z l q sec cel sha han 40 0 t2 K = _ := c5
    obtain ⟨g1, g2⟩ := hN_ok c3
    refine ⟨nI (pJ M (hN M p')), t', r2, z, l, q, c1, ?_, Or.inr ⟨pJ M (hN M p'), (pI_ok hM g1).2.1, rfl, fun ch' hag hok => c4 ?_⟩⟩
    · rw [f_Search_wrongMember, a2, Option.bind_some, b4', c5']
    · have e := ag_hv (cn := cn) hag g1 (Nat.le_refl _)
      rw [g2] at e
      rw [← e]
      exact hok.1 p' c2 c3
