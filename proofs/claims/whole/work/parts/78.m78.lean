-- MATHEMATICS 18: the reference's tables told by a choice
def SY (t : Nat → Int32) : Prop := ∀ a c, a < 6 → c < 6 → t (6 * a + c) = t (6 * c + a)
/-- a number put at both places of a pair -/
def u2 (M : Nat) (t : Nat → Int32) (n : Nat) (v : Int32) : Nat → Int32 := upd (upd t (6 * pI M n + pJ M n) v) (6 * pJ M n + pI M n) v
theorem u2_at {M n a c : Nat} {t : Nat → Int32} {v : Int32} (hM : M < 64) (hn : n < nP M) (ha : a < 6) (hc : c < 6) : u2 M t n v (6 * a + c) = if (a = pI M n ∧ c = pJ M n) ∨ (a = pJ M n ∧ c = pI M n) then v else t (6 * a + c) := by
  obtain ⟨h1, h2, -⟩ := pI_ok hM hn
  have := mlen_le M hM
  unfold u2
  by_cases e1 : a = pJ M n ∧ c = pI M n
  · obtain ⟨rfl, rfl⟩ := e1
    rw [up_eq, if_pos (Or.inr ⟨rfl, rfl⟩)]
  · rw [up_ne (by omega)]
    by_cases e2 : a = pI M n ∧ c = pJ M n
    · obtain ⟨rfl, rfl⟩ := e2
      rw [up_eq, if_pos (Or.inl ⟨rfl, rfl⟩)]
    · rw [up_ne (by omega), if_neg (by omega)]
theorem u2_SY {M n : Nat} {t : Nat → Int32} {v : Int32} (hM : M < 64) (hn : n < nP M) (h : SY t) : SY (u2 M t n v) := by
  intro a c ha hc
  rw [u2_at hM hn ha hc, u2_at hM hn hc ha, h a c ha hc]
  by_cases e : (a = pI M n ∧ c = pJ M n) ∨ (a = pJ M n ∧ c = pI M n)
  · rw [if_pos e, if_pos (by omega)]
  · rw [if_neg e, if_neg (by omega)]
theorem u2_ZB {M n : Nat} {t : Nat → Int32} {v : Int32} (hM : M < 64) (hn : n < nP M) (h : ZB (mlen M) t) : ZB (mlen M) (u2 M t n v) := by
  obtain ⟨h1, h2, -⟩ := pI_ok hM hn
  intro a c hac hs hc
  rw [u2_at hM hn (by omega) hc, if_neg (by omega)]
  exact h a c hac hs hc
theorem u2_eq {M n : Nat} {t : Nat → Int32} {v : Int32} (hM : M < 64) (hn : n < nP M) : u2 M t n v (cN M n) = v := by
  obtain ⟨h1, h2, -⟩ := pI_ok hM hn
  have := mlen_le M hM
  unfold cN
  rw [u2_at hM hn (by omega) (by omega), if_pos (Or.inl ⟨rfl, rfl⟩)]
theorem u2_ne {M n n' : Nat} {t : Nat → Int32} {v : Int32} (hM : M < 64) (hn : n < nP M) (hn' : n' < nP M) (h : ¬ n' = n) : u2 M t n v (cN M n') = t (cN M n') := by
  obtain ⟨h1, h2, h3⟩ := pI_ok hM hn
  obtain ⟨h1', h2', h3'⟩ := pI_ok hM hn'
  have := mlen_le M hM
  unfold cN
  rw [u2_at hM hn (by omega) (by omega), if_neg (fun e => h (by
    have e1 : pI M n' = pI M n := by omega
    have e2 : pJ M n' = pJ M n := by omega
    rw [← h3, ← h3', e1, e2]))]
def MFf (M : Nat) (ff fs : Nat → Int32) : Prop := ∀ f, f < FF M → ff f = nI (pI M (frk M f)) ∧ fs f = nI (pJ M (frk M f))
theorem MF_f {M : Nat} (hM : M < 64) {ff fs : Nat → Int32} (h : MF M (nP M) ff fs) : MFf M ff fs := by
  intro f hf
  obtain ⟨h1, h2, h3, -⟩ := frk_ok M hM f hf
  have := h (frk M f) h1 h2
  rw [h3] at this
  exact this
theorem ml_h2 : ∀ (d n i : Nat) (t : Nat → Int32), i + d = 36 → d < n → (∀ K, f_Mo_hangs_L2 n (nI i) t K = K (fl 36 i 0 t)) := by
  intro d
  induction d with
  | zero =>
    intro n i t hk hn K
    obtain ⟨n, rfl⟩ : ∃ q, n = q + 1 := ⟨n - 1, by omega⟩
    have e : i = 36 := by omega
    subst e
    simp (disch := omega) only [f_Mo_hangs_L2, mq_l36, Nat.le_refl, ↓reduceIte, fl_end]
  | succ d ih =>
    intro n i t hk hn K
    obtain ⟨n, rfl⟩ : ∃ q, n = q + 1 := ⟨n - 1, by omega⟩
    simp (disch := omega) only [f_Mo_hangs_L2, mq_l36, mq_n0, mn_cl, mq_no, false_or, ↓reduceIte, mq_1]
    rw [ih n (i + 1) _ (by omega) (by omega) K, fl_step (by omega)]
theorem ml_h23 {M : Nat} (hM : M < 64) {ff fs ch : Nat → Int32} (hF : MFf M ff fs) : ∀ (d n f : Nat) (t : Nat → Int32), f + d = FF M → d < n → SY t → ZB (mlen M) t → (∀ g, g < f → t (cN M (frk M g)) = ch g) →
    ∃ t', SY t' ∧ ZB (mlen M) t' ∧ (∀ g, g < FF M → t' (cN M (frk M g)) = ch g) ∧ ∀ K, f_Mo_hangs_L23 (nI (FF M)) ff fs ch n (nI f) t K = K t' := by
  have h6 := FF_le M hM
  have hl := mlen_le M hM
  intro d
  induction d with
  | zero =>
    intro n f t hk hn hs hz ht
    obtain ⟨n, rfl⟩ : ∃ q, n = q + 1 := ⟨n - 1, by omega⟩
    have e : f = FF M := by omega
    subst e
    refine ⟨t, hs, hz, ht, fun K => ?_⟩
    simp (disch := omega) only [f_Mo_hangs_L23, mq_le, Nat.le_refl, ↓reduceIte]
  | succ d ih =>
    intro n f t hk hn hs hz ht
    obtain ⟨n, rfl⟩ : ∃ q, n = q + 1 := ⟨n - 1, by omega⟩
    obtain ⟨a1, a2, a3, a4⟩ := frk_ok M hM f (by omega)
    obtain ⟨b1, b2⟩ := hF f (by omega)
    obtain ⟨p1, p2, p3⟩ := pI_ok hM a1
    obtain ⟨t', h1, h2, h3, h4⟩ := ih n (f + 1) (u2 M t (frk M f) (ch f)) (by omega) (by omega) (u2_SY hM a1 hs) (u2_ZB hM a1 hz) (fun g hg => by
      by_cases e : g = f
      · subst e; exact u2_eq hM a1
      · obtain ⟨c1, c2, c3, c4⟩ := frk_ok M hM g (by omega)
        rw [u2_ne hM a1 c1 (fun e2 => e (by rw [← c3, ← a3, e2]))]
        exact ht g (by omega))
    refine ⟨t', h1, h2, h3, fun K => ?_⟩
    rw [← h4 K]
    unfold u2
    simp (disch := omega) only [f_Mo_hangs_L23, mq_le, mq_6, mq_n0, mn_cl, mq_no, false_or, ↓reduceIte, mq_1, b1, b2]
theorem ml_h144 {U M : Nat} (hMU : MU U M) {bas : Nat → Int32} (hb : memM U M bas) {ff fs ch : Nat → Int32} (hF : MFf M ff fs) {q : Nat} (hq : q < PU U) (x : Int32) : ∀ (d n f : Nat), f + d = FF M → d < n → ∀ K, f_Mo_hangs_L144 (nI q) (nI (PU U)) (nI (FF M)) (mF U) (mS U) bas ff fs ch n (nI f) (x - sF M ch (cl U q) f) K = K (x - sF M ch (cl U q) (FF M)) := by
  have hM := hMU.1
  have h6 := FF_le M hM
  have hl := mlen_le M hM
  have hP := PU_le U
  intro d
  induction d with
  | zero =>
    intro n f hk hn K
    obtain ⟨n, rfl⟩ : ∃ q, n = q + 1 := ⟨n - 1, by omega⟩
    have e : f = FF M := by omega
    subst e
    simp (disch := omega) only [f_Mo_hangs_L144, mq_le, Nat.le_refl, ↓reduceIte]
  | succ d ih =>
    intro n f hk hn K
    obtain ⟨n, rfl⟩ : ∃ q, n = q + 1 := ⟨n - 1, by omega⟩
    obtain ⟨a1, a2, a3, a4⟩ := frk_ok M hM f (by omega)
    obtain ⟨b1, b2⟩ := hF f (by omega)
    obtain ⟨p1, p2, p3⟩ := pI_ok hM a1
    obtain ⟨y1, y2, y3⟩ := me_prod hMU hb (show pI M (frk M f) < mlen M by omega) p2
    rw [← ih n (f + 1) (by omega) (by omega) K, f_Mo_hangs_L144]
    simp (disch := omega) only [mq_le, mq_n0, mn_cl, mq_no, false_or, ↓reduceIte, mq_1, b1, b2]
    rw [y1, Option.bind_some]
    simp (disch := omega) only [mq_eq]
    rw [sF_s]
    have e : (cq U (prd (mat M (pI M (frk M f))) (mat M (pJ M (frk M f)))) = q) ↔ pw M (frk M f) = cl U q := by
      constructor
      · intro h; rw [← h, y3]; rfl
      · intro h
        apply cl_inj y2 hq
        rw [y3, ← h]; rfl
    by_cases h : pw M (frk M f) = cl U q
    · rw [if_pos (e.mpr h), if_pos h]
      congr 1
      grind
    · rw [if_neg (fun h' => h (e.mp h')), if_neg h]
      congr 1
      grind
def cond (U M : Nat) (cn mn ch : Nat → Int32) (q : Nat) : Prop := (hN M (cl U q) = 99 → mn q = 0) ∧ (¬ hN M (cl U q) = 99 → wi (hv M cn ch (cl U q)))
theorem ml_h95 {U M : Nat} (hMU : MU U M) {bas cn mn : Nat → Int32} (hb : memM U M bas) (hN' : NR U cn mn) {ff fs hf hs ch : Nat → Int32} (hF : MFf M ff fs) (hH : MHg U M hf hs) : ∀ (d n q : Nat) (b : Int32) (t : Nat → Int32), q + d = PU U → d < n → (b = 0 ∨ b = 1) → SY t → ZB (mlen M) t → (∀ g, g < FF M → t (cN M (frk M g)) = ch g) → (∀ q', q' < q → ¬ hN M (cl U q') = 99 → t (cN M (hN M (cl U q'))) = hv M cn ch (cl U q')) →
    ∃ (b' : Int32) (t' : Nat → Int32), (b' = 0 ∨ b' = 1) ∧ (b' = 1 ↔ b = 1 ∧ ∀ q', q ≤ q' → q' < PU U → cond U M cn mn ch q') ∧ SY t' ∧ ZB (mlen M) t' ∧ (∀ g, g < FF M → t' (cN M (frk M g)) = ch g) ∧ (∀ q', q' < PU U → ¬ hN M (cl U q') = 99 → t' (cN M (hN M (cl U q'))) = hv M cn ch (cl U q')) ∧
      ∀ K, f_Mo_hangs_L95 (nI (PU U)) (nI (FF M)) (mF U) (mS U) mn bas ff fs hf hs ch n (nI q) b t K = K b' t' := by
  have hM := hMU.1
  have h6 := FF_le M hM
  have hl := mlen_le M hM
  have hP := PU_le U
  intro d
  induction d with
  | zero =>
    intro n q b t hk hn hb01 hsy hz ht hh
    obtain ⟨n, rfl⟩ : ∃ q, n = q + 1 := ⟨n - 1, by omega⟩
    have e : q = PU U := by omega
    subst e
    refine ⟨b, t, hb01, ⟨fun h => ⟨h, fun q' h1 h2 => by omega⟩, fun h => h.1⟩, hsy, hz, ht, hh, fun K => ?_⟩
    simp (disch := omega) only [f_Mo_hangs_L95, mq_le, Nat.le_refl, ↓reduceIte]
  | succ d ih =>
    intro n q b t hk hn hb01 hsy hz ht hh
    obtain ⟨n, rfl⟩ : ∃ q, n = q + 1 := ⟨n - 1, by omega⟩
    obtain ⟨k1, k2⟩ := hH q (by omega)
    -- one step
    have step : ∃ (b1 : Int32) (t1 : Nat → Int32), (b1 = 0 ∨ b1 = 1) ∧ (b1 = 1 ↔ b = 1 ∧ cond U M cn mn ch q) ∧ SY t1 ∧ ZB (mlen M) t1 ∧ (∀ g, g < FF M → t1 (cN M (frk M g)) = ch g) ∧ (∀ q', q' < q + 1 → ¬ hN M (cl U q') = 99 → t1 (cN M (hN M (cl U q'))) = hv M cn ch (cl U q')) ∧
        ∀ K, f_Mo_hangs_L95 (nI (PU U)) (nI (FF M)) (mF U) (mS U) mn bas ff fs hf hs ch (n + 1) (nI q) b t K = f_Mo_hangs_L95 (nI (PU U)) (nI (FF M)) (mF U) (mS U) mn bas ff fs hf hs ch n (nI (q + 1)) b1 t1 K := by
      by_cases h99 : hN M (cl U q) = 99
      · have hq1 : hf q = -1 := k1 h99
        have hst : ∀ K, f_Mo_hangs_L95 (nI (PU U)) (nI (FF M)) (mF U) (mS U) mn bas ff fs hf hs ch (n + 1) (nI q) b t K = f_Mo_hangs_L95 (nI (PU U)) (nI (FF M)) (mF U) (mS U) mn bas ff fs hf hs ch n (nI (q + 1)) (if b = 0 then 0 else if mn q = 0 then 1 else 0) t K := by
          intro K
          rw [f_Mo_hangs_L95]
          unfold ct_jn
          simp (disch := omega) only [mq_le, mq_n0, mn_cl, mq_no, false_or, ↓reduceIte, mq_1, hq1, show ¬ (0 : Int32) ≤ -1 by decide]
          by_cases e1 : b = 0
          · simp only [if_pos e1]
          · by_cases e2 : mn q = 0
            · simp only [if_neg e1, if_pos e2]
            · simp only [if_neg e1, if_neg e2]
        refine ⟨_, t, ?_, ?_, hsy, hz, ht, fun q' hq' hx => ?_, hst⟩
        · by_cases e1 : b = 0
          · rw [if_pos e1]; exact Or.inl rfl
          · by_cases e2 : mn q = 0
            · rw [if_neg e1, if_pos e2]; exact Or.inr rfl
            · rw [if_neg e1, if_neg e2]; exact Or.inl rfl
        · by_cases e1 : b = 0
          · rw [if_pos e1]
            exact ⟨fun h => absurd h i_01, fun h => absurd (h.1.symm.trans e1) i_10⟩
          · have e1' : b = 1 := hb01.resolve_left e1
            by_cases e2 : mn q = 0
            · rw [if_neg e1, if_pos e2]
              exact ⟨fun _ => ⟨e1', fun _ => e2, fun h => absurd h99 h⟩, fun _ => rfl⟩
            · rw [if_neg e1, if_neg e2]
              exact ⟨fun h => absurd h i_01, fun h => absurd (h.2.1 h99) e2⟩
        · by_cases e : q' = q
          · subst e; exact absurd h99 hx
          · exact hh q' (by omega) hx
      · obtain ⟨g1, g2⟩ := hN_ok h99
        obtain ⟨k3, k4⟩ := k2 h99
        have k3' : hf q = nI (pI M (hN M (cl U q))) := k3
        have k4' : hs q = nI (pJ M (hN M (cl U q))) := k4
        obtain ⟨p1, p2, p3⟩ := pI_ok hM g1
        have h144 := ml_h144 hMU hb hF (q := q) (by omega) (mn q) (FF M) 40 0 (by omega) (by omega) (ch := ch)
        have hrr : mn q - sF M ch (cl U q) (FF M) = rr M cn ch (cl U q) := by unfold rr; rw [hN'.1 q (by omega)]
        have h144' : ∀ K, f_Mo_hangs_L144 (nI q) (nI (PU U)) (nI (FF M)) (mF U) (mS U) bas ff fs ch 40 0 (mn q) K = K (rr M cn ch (cl U q)) := by
          intro K
          have := h144 K
          rw [hrr] at this
          rw [show mn q - sF M ch (cl U q) 0 = mn q by unfold sF; rw [sf]; grind] at this
          exact this
        have hst : ∀ K, f_Mo_hangs_L95 (nI (PU U)) (nI (FF M)) (mF U) (mS U) mn bas ff fs hf hs ch (n + 1) (nI q) b t K = f_Mo_hangs_L95 (nI (PU U)) (nI (FF M)) (mF U) (mS U) mn bas ff fs hf hs ch n (nI (q + 1)) (if b = 0 then 0 else if hv M cn ch (cl U q) < -30 then 0 else if 30 < hv M cn ch (cl U q) then 0 else 1) (u2 M t (hN M (cl U q)) (hv M cn ch (cl U q))) K := by
          intro K
          rw [f_Mo_hangs_L95]
          unfold ct_jn
          simp (disch := omega) only [mq_le, mq_n0, mn_cl, mq_no, false_or, ↓reduceIte, mq_1, k3', k4', nI_pos' (mn_lt _), mq_6, mq_eq]
          rw [h144']
          unfold hv u2
          by_cases e : pI M (hN M (cl U q)) = pJ M (hN M (cl U q))
          · simp only [if_pos e]
            by_cases e1 : b = 0
            · simp only [if_pos e1]
            · by_cases e2 : 2 * rr M cn ch (cl U q) < -30
              · simp only [if_neg e1, if_pos e2]
              · by_cases e3 : 30 < 2 * rr M cn ch (cl U q)
                · simp only [if_neg e1, if_neg e2, if_pos e3]
                · simp only [if_neg e1, if_neg e2, if_neg e3]
          · simp only [if_neg e]
            by_cases e1 : b = 0
            · simp only [if_pos e1]
            · by_cases e2 : rr M cn ch (cl U q) < -30
              · simp only [if_neg e1, if_pos e2]
              · by_cases e3 : 30 < rr M cn ch (cl U q)
                · simp only [if_neg e1, if_neg e2, if_pos e3]
                · simp only [if_neg e1, if_neg e2, if_neg e3]
        refine ⟨_, _, ?_, ?_, u2_SY hM g1 hsy, u2_ZB hM g1 hz, fun g hg => ?_, fun q' hq' hx => ?_, hst⟩
        · by_cases e1 : b = 0
          · rw [if_pos e1]; exact Or.inl rfl
          · by_cases e2 : hv M cn ch (cl U q) < -30
            · rw [if_neg e1, if_pos e2]; exact Or.inl rfl
            · by_cases e3 : 30 < hv M cn ch (cl U q)
              · rw [if_neg e1, if_neg e2, if_pos e3]; exact Or.inl rfl
              · rw [if_neg e1, if_neg e2, if_neg e3]; exact Or.inr rfl
        · by_cases e1 : b = 0
          · rw [if_pos e1]
            exact ⟨fun h => absurd h i_01, fun h => absurd (h.1.symm.trans e1) i_10⟩
          · have e1' : b = 1 := hb01.resolve_left e1
            by_cases e2 : hv M cn ch (cl U q) < -30
            · rw [if_neg e1, if_pos e2]
              exact ⟨fun h => absurd h i_01, fun h => absurd e2 (h.2.2 h99).1⟩
            · by_cases e3 : 30 < hv M cn ch (cl U q)
              · rw [if_neg e1, if_neg e2, if_pos e3]
                exact ⟨fun h => absurd h i_01, fun h => absurd e3 (h.2.2 h99).2⟩
              · rw [if_neg e1, if_neg e2, if_neg e3]
                exact ⟨fun _ => ⟨e1', fun h => absurd h h99, fun _ => ⟨e2, e3⟩⟩, fun _ => rfl⟩
        · obtain ⟨f1, f2, f3, f4⟩ := frk_ok M hM g hg
          rw [u2_ne hM g1 f1 (fun e => by
            rw [e, hN_nf h99] at f2
            exact absurd f2 (by decide))]
          exact ht g hg
        · by_cases e : q' = q
          · subst e; exact u2_eq hM g1
          · obtain ⟨e1, e2⟩ := hN_ok hx
            rw [u2_ne hM g1 e1 (fun e3 => e (by
              apply cl_inj (U := U) (by omega) (by omega)
              rw [← e2, ← g2, e3]))]
            exact hh q' (by omega) hx
    obtain ⟨b1, t1, s1, s2, s3, s4, s5, s6, s7⟩ := step
    obtain ⟨b', t', r1, r2, r3, r4, r5, r6, r7⟩ := ih n (q + 1) b1 t1 (by omega) (by omega) s1 s3 s4 s5 s6
    refine ⟨b', t', r1, ?_, r3, r4, r5, r6, fun K => by rw [s7 K, r7 K]⟩
    rw [r2, s2]
    constructor
    · rintro ⟨⟨h1, h2⟩, h3⟩
      refine ⟨h1, fun q' hq1 hq2 => ?_⟩
      by_cases e : q' = q
      · subst e; exact h2
      · exact h3 q' (by omega) hq2
    · rintro ⟨h1, h2⟩
      exact ⟨⟨h1, h2 q (by omega) (by omega)⟩, fun q' hq1 hq2 => h2 q' (by omega) hq2⟩
theorem cond_iff {U M : Nat} (hMU : MU U M) {cn mn ch : Nat → Int32} (hN' : NR U cn mn) : (∀ q, q < PU U → cond U M cn mn ch q) ↔ (allT M cn ∧ fit M cn ch) := by
  constructor
  · intro h
    refine ⟨fun p hp hc h9 => ?_, fun p hp hx => ?_⟩
    · obtain ⟨q, hq, rfl⟩ := hN'.2 p hp hc
      have := (h q hq).1 h9
      rw [hN'.1 q hq] at this
      exact hc this
    · obtain ⟨g1, g2⟩ := hN_ok hx
      obtain ⟨q, hq, e⟩ := pw_cl hMU g1
      rw [g2] at e
      subst e
      exact (h q hq).2 hx
  · rintro ⟨h1, h2⟩ q hq
    refine ⟨fun h9 => ?_, fun hx => h2 _ (cl_lt hq) hx⟩
    rw [hN'.1 q hq]
    exact Decidable.not_not.mp (fun h0 => h1 _ (cl_lt hq) h0 h9)
theorem me_hangs {U M : Nat} (hMU : MU U M) {bas cn mn : Nat → Int32} (hb : memM U M bas) (hN' : NR U cn mn) {ff fs hf hs : Nat → Int32} (hF : MFf M ff fs) (hH : MHg U M hf hs) (ch t : Nat → Int32) :
    ∃ (b : Int32) (t' : Nat → Int32), (b = 0 ∨ b = 1) ∧ (b = 1 ↔ allT M cn ∧ fit M cn ch) ∧ SY t' ∧ ZB (mlen M) t' ∧ (∀ n, n < nP M → t' (cN M n) = tv M cn ch n) ∧ f_Mo_hangs (nI (PU U)) (nI (FF M)) (mF U) (mS U) mn bas ff fs hf hs t ch = some (b, t') := by
  have hM := hMU.1
  have h6 := FF_le M hM
  have hP := PU_le U
  have e2 : ∀ K, f_Mo_hangs_L2 40 0 t K = K (fl 36 0 0 t) := ml_h2 36 40 0 t (by omega) (by omega)
  obtain ⟨t1, a1, a2, a3, a4⟩ := ml_h23 (ch := ch) hM hF (FF M) 40 0 (fl 36 0 0 t) (by omega) (by omega) (fun a c ha hc => by unfold fl; rw [if_pos (by omega), if_pos (by omega)]) (fun a c hac hs hc => by unfold fl; rw [if_pos (by omega)]) (fun g hg => by omega)
  have a4' : ∀ K, f_Mo_hangs_L23 (nI (FF M)) ff fs ch 40 0 (fl 36 0 0 t) K = K t1 := a4
  obtain ⟨b, t', r1, r2, r3, r4, r5, r6, r7⟩ := ml_h95 hMU hb hN' hF hH (PU U) 40 0 1 t1 (by omega) (by omega) (Or.inr rfl) a1 a2 a3 (fun q' hq' => by omega)
  have r7' : ∀ K, f_Mo_hangs_L95 (nI (PU U)) (nI (FF M)) (mF U) (mS U) mn bas ff fs hf hs ch 40 0 1 t1 K = K b t' := r7
  refine ⟨b, t', r1, ?_, r3, r4, tv_all hM r5 (fun p hp hx => ?_), ?_⟩
  · rw [r2, ← cond_iff hMU hN']
    exact ⟨fun h q hq => h.2 q (by omega) hq, fun h => ⟨rfl, fun q _ hq => h q hq⟩⟩
  · obtain ⟨g1, g2⟩ := hN_ok hx
    obtain ⟨q, hq, e⟩ := pw_cl hMU g1
    rw [g2] at e
    subst e
    exact r6 q hq hx
  · rw [f_Mo_hangs, e2, a4', r7']
    rcases r1 with e | e
    · rw [e, if_neg (by rw [z0]; exact fun h => h rfl)]
    · rw [e, if_neg (by rw [z1]; exact fun h => h rfl)]
theorem SC_tv {M : Nat} (hM : M < 64) {cn ch t : Nat → Int32} (ht : ∀ n, n < nP M → t (cN M n) = tv M cn ch n) {p : Nat} (hp : p < 15) : ∀ n, n ≤ nP M → sf (cc M t p) 0 n = 2 * sF M ch p (fc M n) + (if hN M p < n then 2 * rr M cn ch p else 0) := by
  have h21 := nP_le hM
  intro n
  induction n with
  | zero =>
    intro _
    rw [sf, if_neg (by omega), fc]
    unfold sF
    rw [sf]
    rfl
  | succ n ih =>
    intro hn
    rw [sf_snoc, ih (by omega), Nat.zero_add]
    have htn := ht n (by omega)
    unfold cN at htn
    unfold cc
    rw [htn]
    unfold tv
    by_cases hf : fr M n = true
    · obtain ⟨a1, a2⟩ := frk_fc hM (show n < nP M by omega) hf
      have hne : ¬ hN M p = n := fun e => by
        have h9 : ¬ hN M p = 99 := by omega
        have := hN_nf h9
        rw [e, hf] at this
        exact absurd this (by decide)
      have hd := (frk_ok M hM (fc M n) a2).2.2.2
      rw [a1] at hd
      have efc : fc M (n + 1) = fc M n + 1 := by rw [fc, if_pos hf]
      rw [efc, sF_s, a1, if_pos hf, if_neg hd]
      have e3 : (hN M p < n + 1) ↔ (hN M p < n) := by omega
      simp only [e3]
      by_cases e : pw M n = p
      · rw [if_pos e, if_pos e]; grind
      · rw [if_neg e, if_neg e]; grind
    · have e2 : hN M (pw M n) = n := by
        rw [fr_iff] at hf
        exact Decidable.not_not.mp hf
      have efc : fc M (n + 1) = fc M n := by rw [fc, if_neg hf, Nat.add_zero]
      rw [efc, if_neg hf]
      by_cases e : pw M n = p
      · rw [e] at e2 ⊢
        have l1 : ¬ hN M p < n := by omega
        have l2 : hN M p < n + 1 := by omega
        rw [if_pos rfl, if_neg l1, if_pos l2]
        unfold hv
        rw [e2]
        by_cases e4 : pI M n = pJ M n
        · rw [if_pos e4, if_pos e4]; grind
        · rw [if_neg e4, if_neg e4]; grind
      · have hne : ¬ hN M p = n := fun h => e (by
          have h9 : ¬ hN M p = 99 := by omega
          rw [← h]
          exact (hN_ok h9).2)
        have e3 : (hN M p < n + 1) ↔ (hN M p < n) := by omega
        simp only [e3]
        rw [if_neg e]; grind
theorem SC_ok {M : Nat} (hM : M < 64) {cn ch t : Nat → Int32} (hT : allT M cn) (ht : ∀ n, n < nP M → t (cN M n) = tv M cn ch n) {p : Nat} (hp : p < 15) : SC M t p = 2 * cn p := by
  have h21 := nP_le hM
  unfold SC
  rw [SC_tv hM ht hp (nP M) (Nat.le_refl _)]
  by_cases h9 : hN M p = 99
  · have h0 : cn p = 0 := Decidable.not_not.mp (fun h => hT p hp h h9)
    have hs : sF M ch p (fc M (nP M)) = 0 := by
      unfold sF
      apply sf_zero
      intro f _ hf
      obtain ⟨f1, -⟩ := frk_ok M hM f (by unfold FF; omega)
      rw [if_neg (fun e => by
        have := (hN_some hM f1).1
        rw [e] at this
        exact this h9)]
    rw [if_neg (by omega), hs, h0]; rfl
  · rw [if_pos (hN_ok h9).1]
    unfold rr FF
    grind
