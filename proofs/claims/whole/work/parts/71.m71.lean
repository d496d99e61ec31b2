-- MATHEMATICS 11: the reference's steps
/-- what is told of the squares of the steps below i -/
def MK (T : Nat → Nat → Int64) (s i : Nat) (mA mB : Nat → Int64) : Prop := ∀ j, j < i → ¬ (SA T j).1 j j = 0 →
  mA (36 + SQ T j) = (SA T j).1 j j / dv ((SA T j).1 j j) (2 * (SA T j).2) ∧ mB (36 + SQ T j) = (2 * (SA T j).2) / dv ((SA T j).1 j j) (2 * (SA T j).2) ∧
  ∀ c, c < s → mA (6 * SQ T j + c) = (if j ≤ c then (SA T j).1 j c else 0) / dv (if j ≤ c then (SA T j).1 j c else 0) ((SA T j).1 j j) ∧ mB (6 * SQ T j + c) = (SA T j).1 j j / dv (if j ≤ c then (SA T j).1 j c else 0) ((SA T j).1 j j)
theorem ml_st225 {i j s : Nat} {w b : Int64} (hij : i < j) (hj : j < s) (hs : s ≤ 6) (hb : ¬ b = 0) : ∀ (d n k : Nat) (l : Nat → Int64), k + d = s → d < n → i < k →
    ∃ l' : Nat → Int64, (∀ a c, a < 6 → c < 6 → l' (6 * a + c) = if a = j ∧ k ≤ c ∧ c < s then (w * l (6 * j + c) - l (6 * i + j) * l (6 * i + c)) / b else l (6 * a + c)) ∧
      ∀ K, f_Mo_steps_L225 (nI j) w (nI i) b (nI s) n (nI k) l K = K l' := by
  intro d
  induction d with
  | zero =>
    intro n k l hk hn hjk
    obtain ⟨n, rfl⟩ : ∃ q, n = q + 1 := ⟨n - 1, by omega⟩
    have e : k = s := by omega
    subst e
    refine ⟨l, fun a c ha hc => ?_, fun K => ?_⟩
    · rw [if_neg (by omega)]
    · simp (disch := omega) only [f_Mo_steps_L225, mq_le, Nat.le_refl, ↓reduceIte]
  | succ d ih =>
    intro n k l hk hn hjk
    obtain ⟨n, rfl⟩ : ∃ q, n = q + 1 := ⟨n - 1, by omega⟩
    obtain ⟨l', h1, h2⟩ := ih n (k + 1) (vp_updL l (6 * j + k) ((w * l (6 * j + k) - l (6 * i + j) * l (6 * i + k)) / b)) (by omega) (by omega) (by omega)
    refine ⟨l', fun a c ha hc => ?_, fun K => ?_⟩
    · rw [h1 a c ha hc]
      by_cases e : a = j ∧ c = k
      · obtain ⟨rfl, rfl⟩ := e
        rw [if_neg (by omega), uL_eq, if_pos ⟨rfl, Nat.le_refl _, by omega⟩]
      · by_cases e2 : a = j ∧ k + 1 ≤ c ∧ c < s
        · rw [if_pos e2, if_pos ⟨e2.1, by omega, e2.2.2⟩, uL_ne (by omega), uL_ne (by omega), uL_ne (by omega)]
        · rw [if_neg e2, if_neg (by omega), uL_ne (by omega)]
    · rw [← h2 K]
      simp (disch := omega) only [f_Mo_steps_L225, mq_le, mq_6, mq_n0, mn_cl, mq_no, false_or, ↓reduceIte, mq_1, hb]
theorem ml_st210 {i s : Nat} {w b : Int64} (hs : s ≤ 6) (hb : ¬ b = 0) (hi : i < s) : ∀ (d n j : Nat) (l : Nat → Int64), j + d = s → d < n → i < j →
    ∃ l' : Nat → Int64, (∀ a c, a < 6 → c < 6 → l' (6 * a + c) = if j ≤ a ∧ a < s ∧ i < c ∧ c < s then (w * l (6 * a + c) - l (6 * i + a) * l (6 * i + c)) / b else l (6 * a + c)) ∧
      ∀ K, f_Mo_steps_L210 w (nI i) b (nI s) n (nI j) l K = K l' := by
  intro d
  induction d with
  | zero =>
    intro n j l hk hn hjk
    obtain ⟨n, rfl⟩ : ∃ q, n = q + 1 := ⟨n - 1, by omega⟩
    have e : j = s := by omega
    subst e
    refine ⟨l, fun a c ha hc => ?_, fun K => ?_⟩
    · rw [if_neg (by omega)]
    · simp (disch := omega) only [f_Mo_steps_L210, mq_le, Nat.le_refl, ↓reduceIte]
  | succ d ih =>
    intro n j l hk hn hjk
    obtain ⟨n, rfl⟩ : ∃ q, n = q + 1 := ⟨n - 1, by omega⟩
    obtain ⟨l1, a1, a2⟩ := ml_st225 (i := i) (j := j) (s := s) (w := w) (b := b) hjk (by omega) hs hb (s - (i + 1)) 40 (i + 1) l (by omega) (by omega) (by omega)
    obtain ⟨l', h1, h2⟩ := ih n (j + 1) l1 (by omega) (by omega) (by omega)
    refine ⟨l', fun a c ha hc => ?_, fun K => ?_⟩
    · rw [h1 a c ha hc]
      by_cases e2 : j + 1 ≤ a ∧ a < s ∧ i < c ∧ c < s
      · rw [if_pos e2, if_pos (by omega), a1 a c ha hc, a1 i a (by omega) ha, a1 i c (by omega) hc, if_neg (by omega), if_neg (by omega), if_neg (by omega)]
      · rw [if_neg e2, a1 a c ha hc]
        by_cases e : a = j ∧ i + 1 ≤ c ∧ c < s
        · obtain ⟨rfl, e3, e4⟩ := e
          rw [if_pos ⟨rfl, e3, e4⟩, if_pos (by omega)]
        · rw [if_neg e, if_neg (by omega)]
    · rw [← h2 K, f_Mo_steps_L210]
      simp (disch := omega) only [mq_le, mq_no, ↓reduceIte, mq_1]
      exact a2 _
theorem ml_st80 {i s : Nat} {l mA mB : Nat → Int64} {z : Int32} (hs : s ≤ 6) (hi : i < s) : ∀ (d n j : Nat), j + d = s → d < n →
    ((∀ c, j ≤ c → c < s → l (6 * i + c) = 0) ∧ ∀ K, f_Mo_steps_L80 (nI i) (nI s) z l mA mB n (nI j) K = K ()) ∨
    (∃ c, j ≤ c ∧ c < s ∧ ¬ l (6 * i + c) = 0 ∧ ∀ K, f_Mo_steps_L80 (nI i) (nI s) z l mA mB n (nI j) K = some (0, z, l, mA, mB)) := by
  intro d
  induction d with
  | zero =>
    intro n j hk hn
    obtain ⟨n, rfl⟩ : ∃ q, n = q + 1 := ⟨n - 1, by omega⟩
    have e : j = s := by omega
    subst e
    refine Or.inl ⟨fun c h1 h2 => by omega, fun K => ?_⟩
    simp (disch := omega) only [f_Mo_steps_L80, mq_le, Nat.le_refl, ↓reduceIte]
  | succ d ih =>
    intro n j hk hn
    obtain ⟨n, rfl⟩ : ∃ q, n = q + 1 := ⟨n - 1, by omega⟩
    by_cases h0 : l (6 * i + j) = 0
    · have hs' : ∀ K, f_Mo_steps_L80 (nI i) (nI s) z l mA mB (n + 1) (nI j) K = f_Mo_steps_L80 (nI i) (nI s) z l mA mB n (nI (j + 1)) K := by
        intro K
        rw [f_Mo_steps_L80]
        simp (disch := omega) only [mq_le, mq_6, mq_n0, mn_cl, mq_no, false_or, ↓reduceIte, mq_1, cx_eq, h0]
      rcases ih n (j + 1) (by omega) (by omega) with ⟨a1, a2⟩ | ⟨c, c1, c2, c3, c4⟩
      · refine Or.inl ⟨fun c h1 h2 => ?_, fun K => by rw [hs' K, a2 K]⟩
        by_cases e : c = j
        · rw [e]; exact h0
        · exact a1 c (by omega) h2
      · exact Or.inr ⟨c, by omega, c2, c3, fun K => by rw [hs' K, c4 K]⟩
    · refine Or.inr ⟨j, by omega, by omega, h0, fun K => ?_⟩
      rw [f_Mo_steps_L80]
      simp (disch := omega) only [mq_le, mq_6, mq_n0, mn_cl, mq_no, false_or, ↓reduceIte, cx_eq, h0]
theorem ml_st139 {i s z : Nat} {w : Int64} {l : Nat → Int64} (hs : s ≤ 6) (hi : i < s) (hz : z < 6) (hw : ¬ w = 0) : ∀ (d n j : Nat) (mA mB : Nat → Int64), j + d = s → d < n →
    ∃ mA' mB' : Nat → Int64, (∀ c, j ≤ c → c < s → mA' (6 * z + c) = (if i ≤ c then l (6 * i + c) else 0) / dv (if i ≤ c then l (6 * i + c) else 0) w ∧ mB' (6 * z + c) = w / dv (if i ≤ c then l (6 * i + c) else 0) w) ∧
      (∀ x, (x < 6 * z + j ∨ 6 * z + 6 ≤ x) → mA' x = mA x ∧ mB' x = mB x) ∧
      ∀ K, f_Mo_steps_L139 w (nI i) (nI s) (nI z) l n (nI j) mA mB K = K mA' mB' := by
  intro d
  induction d with
  | zero =>
    intro n j mA mB hk hn
    obtain ⟨n, rfl⟩ : ∃ q, n = q + 1 := ⟨n - 1, by omega⟩
    have e : j = s := by omega
    subst e
    refine ⟨mA, mB, fun c h1 h2 => by omega, fun x hx => ⟨rfl, rfl⟩, fun K => ?_⟩
    simp (disch := omega) only [f_Mo_steps_L139, mq_le, Nat.le_refl, ↓reduceIte]
  | succ d ih =>
    intro n j mA mB hk hn
    obtain ⟨n, rfl⟩ : ∃ q, n = q + 1 := ⟨n - 1, by omega⟩
    obtain ⟨mA', mB', h1, h2, h3⟩ := ih n (j + 1) (vp_updL mA (6 * z + j) ((if i ≤ j then l (6 * i + j) else 0) / dv (if i ≤ j then l (6 * i + j) else 0) w)) (vp_updL mB (6 * z + j) (w / dv (if i ≤ j then l (6 * i + j) else 0) w)) (by omega) (by omega)
    refine ⟨mA', mB', fun c hc1 hc2 => ?_, fun x hx => ?_, fun K => ?_⟩
    · by_cases e : c = j
      · subst e
        obtain ⟨a1, a2⟩ := h2 (6 * z + c) (Or.inl (by omega))
        rw [a1, a2, uL_eq, uL_eq]
        exact ⟨rfl, rfl⟩
      · exact h1 c (by omega) hc2
    · obtain ⟨a1, a2⟩ := h2 x (by omega)
      rw [a1, a2, uL_ne (by omega), uL_ne (by omega)]
      exact ⟨rfl, rfl⟩
    · rw [← h3 K, f_Mo_steps_L139]
      by_cases e : i ≤ j
      · simp (disch := omega) only [mq_le, mq_6, mq_n0, mn_cl, mq_no, false_or, ↓reduceIte, mq_1, e]
        rw [me_tell (Or.inr hw) (by omega), Option.bind_some]
      · simp (disch := omega) only [mq_le, mq_6, mq_no, ↓reduceIte, mq_1, e]
        rw [me_tell (Or.inr hw) (by omega), Option.bind_some]
theorem ml_st34 {T : Nat → Nat → Int64} {s : Nat} (hs : s ≤ 6) : ∀ (d n i : Nat) (l mA mB : Nat → Int64), i + d = s → d < n → UT s (SA T i).1 l → MK T s i mA mB → (∀ j, j < i → okS T s j) →
    (good T s ∧ ∃ l' mA' mB', MK T s s mA' mB' ∧ ∀ K, f_Mo_steps_L34 (nI s) n (nI i) (SA T i).2 (nI (SQ T i)) l mA mB K = K (nI (SQ T s)) l' mA' mB') ∨
    (¬ good T s ∧ ∃ z l' mA' mB', ∀ K, f_Mo_steps_L34 (nI s) n (nI i) (SA T i).2 (nI (SQ T i)) l mA mB K = some (0, z, l', mA', mB')) := by
  intro d
  induction d with
  | zero =>
    intro n i l mA mB hk hn hl hq ho
    obtain ⟨n, rfl⟩ : ∃ q, n = q + 1 := ⟨n - 1, by omega⟩
    have e : i = s := by omega
    subst e
    refine Or.inl ⟨ho, l, mA, mB, hq, fun K => ?_⟩
    simp (disch := omega) only [f_Mo_steps_L34, mq_le, Nat.le_refl, ↓reduceIte]
  | succ d ih =>
    intro n i l mA mB hk hn hl hq ho
    obtain ⟨n, rfl⟩ : ∃ q, n = q + 1 := ⟨n - 1, by omega⟩
    have hp : l (6 * i + i) = (SA T i).1 i i := hl i i (by omega) (by omega)
    have hsq := SQ_le (T := T) i
    have hst : ∀ K, f_Mo_steps_L34 (nI s) (n + 1) (nI i) (SA T i).2 (nI (SQ T i)) l mA mB K = (if 0 ≤ (SA T i).1 i i then (if (SA T i).1 i i = 0 then (f_Mo_steps_L80 (nI i) (nI s) (nI (SQ T i)) l mA mB 40 (nI (i + 1)) (fun (_ : Unit) => (f_Mo_steps_L34 (nI s) n (nI (i + 1)) (SA T i).2 (nI (SQ T i)) l mA mB K))) else ((f_Mo_tell (36 + nI (SQ T i)) ((SA T i).1 i i) (2 * (SA T i).2) mA mB).bind (fun (a1, b1) => (f_Mo_steps_L139 ((SA T i).1 i i) (nI i) (nI s) (nI (SQ T i)) l 40 0 a1 b1 (fun a2 b2 => (f_Mo_steps_L210 ((SA T i).1 i i) (nI i) (SA T i).2 (nI s) 40 (nI (i + 1)) l (fun (l' : Nat → Int64) => (f_Mo_steps_L34 (nI s) n (nI (i + 1)) ((SA T i).1 i i) (nI (SQ T i + 1)) l' a2 b2 K)))))))) else some ((0 : Int32), nI (SQ T i), l, mA, mB)) := by
      intro K
      rw [f_Mo_steps_L34]
      simp (disch := omega) only [mq_le, mq_6, mq_n0, mn_cl, mq_no, false_or, ↓reduceIte, mq_1, cx_ge, cx_eq, hp]
    by_cases h1 : 0 ≤ (SA T i).1 i i
    · by_cases h0 : (SA T i).1 i i = 0
      · rcases ml_st80 (i := i) (s := s) (l := l) (mA := mA) (mB := mB) (z := nI (SQ T i)) hs (by omega) (s - (i + 1)) 40 (i + 1) (by omega) (by omega) with ⟨a1, a2⟩ | ⟨c, c1, c2, c3, c4⟩
        · have eA : SA T (i + 1) = SA T i := by rw [SA, if_pos h0]
          have eQ : SQ T (i + 1) = SQ T i := by rw [SQ, if_pos h0]
          have hst' : ∀ K, f_Mo_steps_L34 (nI s) (n + 1) (nI i) (SA T i).2 (nI (SQ T i)) l mA mB K = f_Mo_steps_L34 (nI s) n (nI (i + 1)) (SA T (i + 1)).2 (nI (SQ T (i + 1))) l mA mB K := by
            intro K
            rw [hst K, if_pos h1, if_pos h0, a2, eA, eQ]
          have hok : okS T s i := ⟨h1, fun _ j hj hjs => by rw [← hl i j (by omega) hjs]; exact a1 j hj hjs⟩
          have ih' := ih n (i + 1) l mA mB (by omega) (by omega) (by rw [eA]; exact hl) (fun j hj hn0 => by
            by_cases e : j = i
            · subst e; exact absurd h0 hn0
            · exact hq j (by omega) hn0) (fun j hj => by
            by_cases e : j = i
            · subst e; exact hok
            · exact ho j (by omega))
          rcases ih' with ⟨g, l', q', r', b1, b2⟩ | ⟨g, z, l', q', r', b2⟩
          · exact Or.inl ⟨g, l', q', r', b1, fun K => by rw [hst' K, b2 K]⟩
          · exact Or.inr ⟨g, z, l', q', r', fun K => by rw [hst' K, b2 K]⟩
        · refine Or.inr ⟨fun hg => c3 ?_, nI (SQ T i), l, mA, mB, fun K => ?_⟩
          · rw [hl i c (by omega) c2]
            exact (hg i (by omega)).2 h0 c (by omega) c2
          · rw [hst K, if_pos h1, if_pos h0, c4]
      · have hb := SA_pos (T := T) (s := s) i ho
        have hb0 : ¬ (SA T i).2 = 0 := fun e => by rw [e] at hb; exact absurd hb (by decide)
        obtain ⟨l1, d1, d2⟩ := ml_st210 (i := i) (s := s) (w := (SA T i).1 i i) (b := (SA T i).2) hs hb0 (by omega) (s - (i + 1)) 40 (i + 1) l (by omega) (by omega) (by omega)
        obtain ⟨mA', mB', e1, e2, e3⟩ := ml_st139 (i := i) (s := s) (z := SQ T i) (w := (SA T i).1 i i) (l := l) hs (by omega) (by omega) h0 s 40 0 (vp_updL mA (36 + SQ T i) ((SA T i).1 i i / dv ((SA T i).1 i i) (2 * (SA T i).2))) (vp_updL mB (36 + SQ T i) ((2 * (SA T i).2) / dv ((SA T i).1 i i) (2 * (SA T i).2))) (by omega) (by omega)
        have e3' : ∀ K, f_Mo_steps_L139 ((SA T i).1 i i) (nI i) (nI s) (nI (SQ T i)) l 40 0 _ _ K = K mA' mB' := e3
        have eA : SA T (i + 1) = (fun a c => if i < a then ((SA T i).1 i i * (SA T i).1 a c - (SA T i).1 i a * (SA T i).1 i c) / (SA T i).2 else (SA T i).1 a c, (SA T i).1 i i) := by rw [SA, if_neg h0]
        have eQ : SQ T (i + 1) = SQ T i + 1 := by rw [SQ, if_neg h0]
        have hst' : ∀ K, f_Mo_steps_L34 (nI s) (n + 1) (nI i) (SA T i).2 (nI (SQ T i)) l mA mB K = f_Mo_steps_L34 (nI s) n (nI (i + 1)) (SA T (i + 1)).2 (nI (SQ T (i + 1))) l1 mA' mB' K := by
          intro K
          rw [hst K, if_pos h1, if_neg h0, show (36 : Int32) + nI (SQ T i) = nI (36 + SQ T i) from mq_add 36 _, me_tell (Or.inl h0) (by omega), Option.bind_some]
          dsimp only
          rw [e3', d2, eA, eQ]
        have hok : okS T s i := ⟨h1, fun h => absurd h h0⟩
        have ih' := ih n (i + 1) l1 mA' mB' (by omega) (by omega) (fun a c hac hc => by
            rw [eA]
            dsimp only
            rw [d1 a c (by omega) (by omega)]
            by_cases e : i < a
            · rw [if_pos (by omega), if_pos e, hl a c hac hc, hl i a (by omega) (by omega), hl i c (by omega) hc]
            · rw [if_neg (by omega), if_neg e, hl a c hac hc]) (fun j hj hn0 => by
            by_cases e : j = i
            · subst e
              obtain ⟨a1, a2⟩ := e2 (36 + SQ T j) (Or.inr (by omega))
              refine ⟨by rw [a1, uL_eq], by rw [a2, uL_eq], fun c hc => ?_⟩
              obtain ⟨b1, b2⟩ := e1 c (by omega) hc
              rw [b1, b2]
              by_cases e : j ≤ c
              · rw [if_pos e, if_pos e, hl j c e hc]; exact ⟨rfl, rfl⟩
              · rw [if_neg e, if_neg e]; exact ⟨rfl, rfl⟩
            · have : SQ T j < SQ T i := by
                have e1 : SQ T (j + 1) = SQ T j + 1 := by rw [SQ, if_neg hn0]
                have e2 := SQ_mono (T := T) (i := j + 1) (i - (j + 1))
                rw [show j + 1 + (i - (j + 1)) = i by omega] at e2
                omega
              obtain ⟨f1, f2, f3⟩ := hq j (by omega) hn0
              obtain ⟨a1, a2⟩ := e2 (36 + SQ T j) (Or.inr (by omega))
              refine ⟨by rw [a1, uL_ne (by omega), f1], by rw [a2, uL_ne (by omega), f2], fun c hc => ?_⟩
              obtain ⟨a1, a2⟩ := e2 (6 * SQ T j + c) (Or.inl (by omega))
              rw [a1, a2, uL_ne (by omega), uL_ne (by omega)]
              exact f3 c hc) (fun j hj => by
            by_cases e : j = i
            · subst e; exact hok
            · exact ho j (by omega))
        rcases ih' with ⟨g, l', q', r', b1, b2⟩ | ⟨g, z, l', q', r', b2⟩
        · exact Or.inl ⟨g, l', q', r', b1, fun K => by rw [hst' K, b2 K]⟩
        · exact Or.inr ⟨g, z, l', q', r', fun K => by rw [hst' K, b2 K]⟩
    · refine Or.inr ⟨fun hg => h1 (hg i (by omega)).1, nI (SQ T i), l, mA, mB, fun K => ?_⟩
      rw [hst K, if_neg h1]
theorem ml_st2 {t : Nat → Int32} : ∀ (d n i : Nat) (l : Nat → Int64), i + d = 36 → d < n → (∀ x, x < i → l x = (t x).toInt64) → ∃ l' : Nat → Int64, (∀ x, x < 36 → l' x = (t x).toInt64) ∧ ∀ K, f_Mo_steps_L2 t n (nI i) l K = K l' := by
  intro d
  induction d with
  | zero =>
    intro n i l hk hn h
    obtain ⟨n, rfl⟩ : ∃ q, n = q + 1 := ⟨n - 1, by omega⟩
    have e : i = 36 := by omega
    subst e
    refine ⟨l, h, fun K => ?_⟩
    simp (disch := omega) only [f_Mo_steps_L2, mq_l36, Nat.le_refl, ↓reduceIte]
  | succ d ih =>
    intro n i l hk hn h
    obtain ⟨n, rfl⟩ : ∃ q, n = q + 1 := ⟨n - 1, by omega⟩
    obtain ⟨l', h1, h2⟩ := ih n (i + 1) (vp_updL l i (t i).toInt64) (by omega) (by omega) (fun x hx => by
      by_cases e : x = i
      · subst e; exact uL_eq
      · rw [uL_ne e]; exact h x (by omega))
    refine ⟨l', h1, fun K => ?_⟩
    rw [← h2 K]
    simp (disch := omega) only [f_Mo_steps_L2, mq_l36, mq_n0, mn_cl, mq_no, false_or, ↓reduceIte, mq_1]
theorem me_steps {s : Nat} (hs : s ≤ 6) (l mA mB : Nat → Int64) (t : Nat → Int32) :
    (good (TT t) s ∧ ∃ l' mA' mB', MK (TT t) s s mA' mB' ∧ f_Mo_steps (nI s) l mA mB t = some (1, nI (SQ (TT t) s), l', mA', mB')) ∨
    (¬ good (TT t) s ∧ ∃ z l' mA' mB', f_Mo_steps (nI s) l mA mB t = some (0, z, l', mA', mB')) := by
  obtain ⟨l1, a1, a2⟩ := ml_st2 (t := t) 36 40 0 l (by omega) (by omega) (fun x hx => by omega)
  have a2' : ∀ K, f_Mo_steps_L2 t 40 0 l K = K l1 := a2
  rcases ml_st34 (T := TT t) (s := s) hs s 40 0 l1 mA mB (by omega) (by omega) (fun a c hac hc => a1 _ (by omega)) (fun j hj => by omega) (fun j hj => by omega) with ⟨g, l', q', r', b1, b3⟩ | ⟨g, z, l', q', r', b2⟩
  · refine Or.inl ⟨g, l', q', r', b1, ?_⟩
    rw [f_Mo_steps, a2']
    exact b3 _
  · refine Or.inr ⟨g, z, l', q', r', ?_⟩
    rw [f_Mo_steps, a2']
    exact b2 _
