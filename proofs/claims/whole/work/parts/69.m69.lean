-- MATHEMATICS 9: the steps on both sides
theorem cx_ge {x : Int64} : (0 ≤ lg_cmp x 0) = (0 ≤ x) := propext (lg_cmp_ge x 0)
theorem cx_gt {x : Int64} : (0 < lg_cmp x 0) = (0 < x) := propext (lg_cmp_gt x 0)
theorem cx_eq {x : Int64} : (lg_cmp x 0 = 0) = (x = 0) := propext (lg_cmp_eq x 0)
theorem uL_eq {f : Nat → Int64} {i : Nat} {v : Int64} : vp_updL f i v i = v := by simp [vp_updL]
theorem uL_ne {f : Nat → Int64} {i j : Nat} {v : Int64} (h : ¬ j = i) : vp_updL f i v j = f j := by simp [vp_updL, h]
/-- what is left ahead of step i, and the w ahead of it -/
def SA (T : Nat → Nat → Int64) : Nat → (Nat → Nat → Int64) × Int64
  | 0 => (T, 1)
  | i + 1 => if (SA T i).1 i i = 0 then SA T i else (fun a c => if i < a then ((SA T i).1 i i * (SA T i).1 a c - (SA T i).1 i a * (SA T i).1 i c) / (SA T i).2 else (SA T i).1 a c, (SA T i).1 i i)
/-- how many squares there are ahead of step i -/
def SQ (T : Nat → Nat → Int64) : Nat → Nat
  | 0 => 0
  | i + 1 => if (SA T i).1 i i = 0 then SQ T i else SQ T i + 1
def okS (T : Nat → Nat → Int64) (s i : Nat) : Prop := 0 ≤ (SA T i).1 i i ∧ ((SA T i).1 i i = 0 → ∀ j, i < j → j < s → (SA T i).1 i j = 0)
def good (T : Nat → Nat → Int64) (s : Nat) : Prop := ∀ i, i < s → okS T s i
theorem SA_stay {T : Nat → Nat → Int64} {i a c : Nat} (h : a ≤ i) : (SA T (i + 1)).1 a c = (SA T i).1 a c := by
  rw [SA]
  split
  · rfl
  · dsimp only
    rw [if_neg (by omega)]
theorem SA_row {T : Nat → Nat → Int64} {a c : Nat} : ∀ d, (SA T (a + d)).1 a c = (SA T a).1 a c := by
  intro d
  induction d with
  | zero => rfl
  | succ d ih => rw [← Nat.add_assoc, SA_stay (by omega), ih]
theorem SA_row' {T : Nat → Nat → Int64} {a c i : Nat} (h : a ≤ i) : (SA T i).1 a c = (SA T a).1 a c := by
  obtain ⟨d, rfl⟩ : ∃ d, i = a + d := ⟨i - a, by omega⟩
  exact SA_row d
theorem SQ_le {T : Nat → Nat → Int64} : ∀ i, SQ T i ≤ i := by
  intro i
  induction i with
  | zero => exact Nat.le_refl _
  | succ i ih => rw [SQ]; split <;> omega
theorem SQ_mono {T : Nat → Nat → Int64} {i : Nat} : ∀ d, SQ T i ≤ SQ T (i + d) := by
  intro d
  induction d with
  | zero => exact Nat.le_refl _
  | succ d ih => rw [← Nat.add_assoc, SQ]; split <;> omega
/-- only the numbers for the members up to w matter up to w -/
theorem SA_agree {T T' : Nat → Nat → Int64} {w : Nat} (h : ∀ a c, a ≤ c → c ≤ w → T a c = T' a c) : ∀ i, i ≤ w → (∀ a c, a ≤ c → c ≤ w → (SA T i).1 a c = (SA T' i).1 a c) ∧ (SA T i).2 = (SA T' i).2 := by
  intro i
  induction i with
  | zero => intro _; exact ⟨h, rfl⟩
  | succ i ih =>
    intro hi
    obtain ⟨h1, h2⟩ := ih (by omega)
    have hp := h1 i i (by omega) (by omega)
    rw [SA, SA, ← hp]
    by_cases h0 : (SA T i).1 i i = 0
    · rw [if_pos h0, if_pos h0]; exact ⟨h1, h2⟩
    · rw [if_neg h0, if_neg h0]
      refine ⟨fun a c hac hc => ?_, rfl⟩
      dsimp only
      by_cases ha : i < a
      · rw [if_pos ha, if_pos ha, h1 a c hac hc, h1 i a (by omega) (by omega), h1 i c (by omega) hc, h2]
      · rw [if_neg ha, if_neg ha, h1 a c hac hc]
theorem SA_pos {T : Nat → Nat → Int64} {s : Nat} : ∀ i, (∀ j, j < i → okS T s j) → 0 < (SA T i).2 := by
  intro i
  induction i with
  | zero => intro _; exact (by decide : (0 : Int64) < 1)
  | succ i ih =>
    intro h
    rw [SA]
    split
    · exact ih (fun j hj => h j (by omega))
    · rename_i h0
      dsimp only
      have := (h i (by omega)).1
      rw [Int64.le_iff_toInt_le] at this
      rw [Int64.lt_iff_toInt_lt]
      have h2 : ¬ ((SA T i).1 i i).toInt = (0 : Int64).toInt := fun e => h0 (Int64.toInt_inj.mp e)
      omega
/-- the array holds the upper triangle of A -/
def UT (s : Nat) (A : Nat → Nat → Int64) (l : Nat → Int64) : Prop := ∀ a c, a ≤ c → c < s → l (6 * a + c) = A a c
theorem l_cell (i j : Nat) (h : i ≤ j) (hj : j < 6) : f_Sq_cellOf (nI i) (nI j) = some (nI (6 * i + j)) := by
  simp (disch := omega) only [f_Sq_cellOf, mq_lt, mq_6']
  rw [if_neg (by omega)]
/-- the innermost loop of takeOffSquare -/
theorem ml_to58 {i j s : Nat} {y w b : Int64} (hij : i < j) (hj : j < s) (hs : s ≤ 6) (hb : ¬ b = 0) : ∀ (d n k : Nat) (l : Nat → Int64), k + d = s → d < n → j ≤ k →
    ∃ l' : Nat → Int64, (∀ a c, a < 6 → c < 6 → l' (6 * a + c) = if a = j ∧ k ≤ c ∧ c < s then (w * l (6 * j + c) - y * l (6 * i + c)) / b else l (6 * a + c)) ∧
      ∀ K, f_Steps_takeOffSquare_L58 y (nI (6 * j)) w (nI (6 * i)) (nI s) b n (nI k) l K = K l' := by
  intro d
  induction d with
  | zero =>
    intro n k l hk hn hjk
    obtain ⟨n, rfl⟩ : ∃ q, n = q + 1 := ⟨n - 1, by omega⟩
    have e : k = s := by omega
    subst e
    refine ⟨l, fun a c ha hc => ?_, fun K => ?_⟩
    · rw [if_neg (by omega)]
    · simp (disch := omega) only [f_Steps_takeOffSquare_L58, mq_le, Nat.le_refl, ↓reduceIte]
  | succ d ih =>
    intro n k l hk hn hjk
    obtain ⟨n, rfl⟩ : ∃ q, n = q + 1 := ⟨n - 1, by omega⟩
    obtain ⟨l', h1, h2⟩ := ih n (k + 1) (vp_updL l (6 * j + k) ((w * l (6 * j + k) - y * l (6 * i + k)) / b)) (by omega) (by omega) (by omega)
    refine ⟨l', fun a c ha hc => ?_, fun K => ?_⟩
    · rw [h1 a c ha hc]
      by_cases e : a = j ∧ c = k
      · obtain ⟨rfl, rfl⟩ := e
        rw [if_neg (by omega), uL_eq, if_pos ⟨rfl, Nat.le_refl _, by omega⟩]
      · by_cases e2 : a = j ∧ k + 1 ≤ c ∧ c < s
        · rw [if_pos e2, if_pos ⟨e2.1, by omega, e2.2.2⟩, uL_ne (by omega), uL_ne (by omega)]
        · rw [if_neg e2, if_neg (by omega), uL_ne (by omega)]
    · rw [← h2 K]
      simp (disch := omega) only [f_Steps_takeOffSquare_L58, mq_le, mq_add, mq_n0, mn_cl, mq_no, false_or, ↓reduceIte, mq_1, hb]
theorem ml_to29 {i s : Nat} {w b : Int64} (hs : s ≤ 6) (hb : ¬ b = 0) : ∀ (d n j : Nat) (l : Nat → Int64), j + d = s → d < n → i < j →
    ∃ l' : Nat → Int64, (∀ a c, a < 6 → c < 6 → l' (6 * a + c) = if j ≤ a ∧ a ≤ c ∧ c < s then (w * l (6 * a + c) - l (6 * i + a) * l (6 * i + c)) / b else l (6 * a + c)) ∧
      ∀ K, f_Steps_takeOffSquare_L29 w (nI (6 * i)) (nI s) b n (nI j) l K = K l' := by
  intro d
  induction d with
  | zero =>
    intro n j l hk hn hjk
    obtain ⟨n, rfl⟩ : ∃ q, n = q + 1 := ⟨n - 1, by omega⟩
    have e : j = s := by omega
    subst e
    refine ⟨l, fun a c ha hc => ?_, fun K => ?_⟩
    · rw [if_neg (by omega)]
    · simp (disch := omega) only [f_Steps_takeOffSquare_L29, mq_le, Nat.le_refl, ↓reduceIte]
  | succ d ih =>
    intro n j l hk hn hjk
    obtain ⟨n, rfl⟩ : ∃ q, n = q + 1 := ⟨n - 1, by omega⟩
    obtain ⟨l1, a1, a2⟩ := ml_to58 (i := i) (j := j) (s := s) (y := l (6 * i + j)) (w := w) (b := b) hjk (by omega) hs hb (d + 1) 40 j l (by omega) (by omega) (by omega)
    obtain ⟨l', h1, h2⟩ := ih n (j + 1) l1 (by omega) (by omega) (by omega)
    refine ⟨l', fun a c ha hc => ?_, fun K => ?_⟩
    · rw [h1 a c ha hc]
      by_cases e2 : j + 1 ≤ a ∧ a ≤ c ∧ c < s
      · rw [if_pos e2, if_pos (by omega), a1 a c ha hc, a1 i a (by omega) ha, a1 i c (by omega) hc, if_neg (by omega), if_neg (by omega), if_neg (by omega)]
      · rw [if_neg e2, a1 a c ha hc]
        by_cases e : a = j ∧ j ≤ c ∧ c < s
        · obtain ⟨rfl, e3, e4⟩ := e
          rw [if_pos ⟨rfl, e3, e4⟩, if_pos (by omega)]
        · rw [if_neg e, if_neg (by omega)]
    · rw [← h2 K, f_Steps_takeOffSquare_L29]
      simp (disch := omega) only [mq_le, mq_add, mq_n0, mn_cl, mq_no, false_or, ↓reduceIte, mq_6'', mq_1]
      exact a2 _
theorem me_takeOff {i s : Nat} {b : Int64} {l : Nat → Int64} (hi : i < s) (hs : s ≤ 6) (hb : 0 < b) :
    ∃ l' : Nat → Int64, (∀ a c, a < 6 → c < 6 → l' (6 * a + c) = if i < a ∧ a ≤ c ∧ c < s then (l (6 * i + i) * l (6 * a + c) - l (6 * i + a) * l (6 * i + c)) / b else l (6 * a + c)) ∧
      f_Steps_takeOffSquare (nI i) (nI s) b l = some l' := by
  have hb0 : ¬ b = 0 := fun e => by rw [e] at hb; exact absurd hb (by decide)
  obtain ⟨l', h1, h2⟩ := ml_to29 (i := i) (s := s) (w := l (6 * i + i)) (b := b) hs hb0 (s - (i + 1)) 40 (i + 1) l (by omega) (by omega) (by omega)
  refine ⟨l', h1, ?_⟩
  simp (disch := omega) only [f_Steps_takeOffSquare, cx_gt, hb, mq_6'', mq_add, mq_n0, mn_cl, mq_no, false_or, ↓reduceIte, mq_1]
  exact h2 _
theorem ml_fnz {i s : Nat} {l : Nat → Int64} (hs : s ≤ 6) : ∀ (d n j : Nat), j + d = s → d < n → i < j →
    ((∀ c, j ≤ c → c < s → l (6 * i + c) = 0) ∧ ∀ K, f_Steps_firstNotZeroBehind_L4 (nI i) (nI s) l n (nI j) K = K ()) ∨
    (∃ c, j ≤ c ∧ c < s ∧ ¬ l (6 * i + c) = 0 ∧ ∀ K, f_Steps_firstNotZeroBehind_L4 (nI i) (nI s) l n (nI j) K = some (nI c)) := by
  intro d
  induction d with
  | zero =>
    intro n j hk hn hjk
    obtain ⟨n, rfl⟩ : ∃ q, n = q + 1 := ⟨n - 1, by omega⟩
    have e : j = s := by omega
    subst e
    refine Or.inl ⟨fun c h1 h2 => by omega, fun K => ?_⟩
    simp (disch := omega) only [f_Steps_firstNotZeroBehind_L4, mq_le, Nat.le_refl, ↓reduceIte]
  | succ d ih =>
    intro n j hk hn hjk
    obtain ⟨n, rfl⟩ : ∃ q, n = q + 1 := ⟨n - 1, by omega⟩
    by_cases h0 : l (6 * i + j) = 0
    · have hs' : ∀ K, f_Steps_firstNotZeroBehind_L4 (nI i) (nI s) l (n + 1) (nI j) K = f_Steps_firstNotZeroBehind_L4 (nI i) (nI s) l n (nI (j + 1)) K := by
        intro K
        rw [f_Steps_firstNotZeroBehind_L4, l_cell i j (by omega) (by omega), Option.bind_some]
        simp (disch := omega) only [mq_le, mq_n0, mn_cl, mq_no, false_or, ↓reduceIte, mq_1, cx_eq, h0]
      rcases ih n (j + 1) (by omega) (by omega) (by omega) with ⟨a1, a2⟩ | ⟨c, c1, c2, c3, c4⟩
      · refine Or.inl ⟨fun c h1 h2 => ?_, fun K => by rw [hs' K, a2 K]⟩
        by_cases e : c = j
        · rw [e]; exact h0
        · exact a1 c (by omega) h2
      · exact Or.inr ⟨c, by omega, c2, c3, fun K => by rw [hs' K, c4 K]⟩
    · refine Or.inr ⟨j, by omega, by omega, h0, fun K => ?_⟩
      rw [f_Steps_firstNotZeroBehind_L4, l_cell i j (by omega) (by omega), Option.bind_some]
      simp (disch := omega) only [mq_le, mq_n0, mn_cl, mq_no, false_or, ↓reduceIte, cx_eq, h0]
theorem me_fnz {i s : Nat} {l : Nat → Int64} (hi : i < s) (hs : s ≤ 6) :
    ((∀ c, i < c → c < s → l (6 * i + c) = 0) ∧ f_Steps_firstNotZeroBehind (nI i) (nI s) l = some (-1)) ∨
    (∃ c, i < c ∧ c < s ∧ ¬ l (6 * i + c) = 0 ∧ f_Steps_firstNotZeroBehind (nI i) (nI s) l = some (nI c)) := by
  rcases ml_fnz (i := i) (s := s) (l := l) hs (s - (i + 1)) 40 (i + 1) (by omega) (by omega) (by omega) with ⟨a1, a2⟩ | ⟨c, c1, c2, c3, c4⟩
  · refine Or.inl ⟨fun c h1 h2 => a1 c (by omega) h2, ?_⟩
    rw [f_Steps_firstNotZeroBehind, mq_1, a2]
  · refine Or.inr ⟨c, by omega, c2, c3, ?_⟩
    rw [f_Steps_firstNotZeroBehind, mq_1, c4]
/-- a failing step fails for all tables that agree up to w -/
def FA (T : Nat → Nat → Int64) (s w : Nat) : Prop := w < s ∧ ∀ T' : Nat → Nat → Int64, (∀ a c, a ≤ c → c ≤ w → T a c = T' a c) → ¬ good T' s
theorem FA_neg {T : Nat → Nat → Int64} {s i : Nat} (hi : i < s) (h : ¬ 0 ≤ (SA T i).1 i i) : FA T s i := by
  refine ⟨hi, fun T' ha hg => h ?_⟩
  rw [(SA_agree ha i (Nat.le_refl _)).1 i i (Nat.le_refl _) (Nat.le_refl _)]
  exact (hg i hi).1
theorem FA_row {T : Nat → Nat → Int64} {s i c : Nat} (hi : i < c) (hc : c < s) (h0 : (SA T i).1 i i = 0) (h : ¬ (SA T i).1 i c = 0) : FA T s c := by
  refine ⟨hc, fun T' ha hg => h ?_⟩
  have := SA_agree ha i (by omega)
  rw [this.1 i c (by omega) (by omega)]
  exact (hg i (by omega)).2 (by rw [← this.1 i i (by omega) (by omega)]; exact h0) c hi hc
/-- squareMember holds the members of the squares -/
def QM (T : Nat → Nat → Int64) (i : Nat) (q : Nat → Int32) : Prop := ∀ j, j < i → ¬ (SA T j).1 j j = 0 → q (SQ T j) = nI j
theorem ml_fm34 {T : Nat → Nat → Int64} {s : Nat} (hs : s ≤ 6) : ∀ (d n i : Nat) (l : Nat → Int64) (q : Nat → Int32), i + d = s → d < n → UT s (SA T i).1 l → QM T i q → (∀ j, j < i → okS T s j) →
    (good T s ∧ ∃ l' q', UT s (SA T s).1 l' ∧ QM T s q' ∧ ∀ K, f_Steps_failingMember_L34 (nI s) n (nI i) (SA T i).2 (nI (SQ T i)) l q K = K (nI (SQ T s)) l' q') ∨
    (∃ w z l' q', FA T s w ∧ ∀ K, f_Steps_failingMember_L34 (nI s) n (nI i) (SA T i).2 (nI (SQ T i)) l q K = some (nI w, z, l', q')) := by
  intro d
  induction d with
  | zero =>
    intro n i l q hk hn hl hq ho
    obtain ⟨n, rfl⟩ : ∃ q, n = q + 1 := ⟨n - 1, by omega⟩
    have e : i = s := by omega
    subst e
    refine Or.inl ⟨ho, l, q, hl, hq, fun K => ?_⟩
    simp (disch := omega) only [f_Steps_failingMember_L34, mq_le, Nat.le_refl, ↓reduceIte]
  | succ d ih =>
    intro n i l q hk hn hl hq ho
    obtain ⟨n, rfl⟩ : ∃ q, n = q + 1 := ⟨n - 1, by omega⟩
    have hp : l (6 * i + i) = (SA T i).1 i i := hl i i (by omega) (by omega)
    have hsq := SQ_le (T := T) i
    have hst : ∀ K, f_Steps_failingMember_L34 (nI s) (n + 1) (nI i) (SA T i).2 (nI (SQ T i)) l q K = (if 0 ≤ (SA T i).1 i i then (if (SA T i).1 i i = 0 then ((f_Steps_firstNotZeroBehind (nI i) (nI s) l).bind (fun r_10 => (if r_10 = (-1) then (f_Steps_failingMember_L34 (nI s) n (nI (i + 1)) (SA T i).2 (nI (SQ T i)) l q K) else some (r_10, (nI (SQ T i)), l, q)))) else ((f_Steps_takeOffSquare (nI i) (nI s) (SA T i).2 l).bind (fun v_left_9 => (f_Steps_failingMember_L34 (nI s) n (nI (i + 1)) ((SA T i).1 i i) (nI (SQ T i + 1)) v_left_9 (upd q (SQ T i) (nI i)) K)))) else some (nI i, nI (SQ T i), l, q)) := by
      intro K
      rw [f_Steps_failingMember_L34, l_cell i i (by omega) (by omega), Option.bind_some]
      simp (disch := omega) only [mq_le, mq_n0, mn_cl, mq_no, false_or, ↓reduceIte, mq_1, cx_ge, cx_eq, hp]
    by_cases h1 : 0 ≤ (SA T i).1 i i
    · by_cases h0 : (SA T i).1 i i = 0
      · rcases me_fnz (i := i) (s := s) (l := l) (by omega) hs with ⟨a1, a2⟩ | ⟨c, c1, c2, c3, c4⟩
        · have eA : SA T (i + 1) = SA T i := by rw [SA, if_pos h0]
          have eQ : SQ T (i + 1) = SQ T i := by rw [SQ, if_pos h0]
          have hst' : ∀ K, f_Steps_failingMember_L34 (nI s) (n + 1) (nI i) (SA T i).2 (nI (SQ T i)) l q K = f_Steps_failingMember_L34 (nI s) n (nI (i + 1)) (SA T (i + 1)).2 (nI (SQ T (i + 1))) l q K := by
            intro K
            rw [hst K, if_pos h1, if_pos h0, a2, Option.bind_some, if_pos rfl, eA, eQ]
          have hok : okS T s i := ⟨h1, fun _ j hj hjs => by rw [← hl i j (by omega) hjs]; exact a1 j hj hjs⟩
          have ih' := ih n (i + 1) l q (by omega) (by omega) (by rw [eA]; exact hl) (fun j hj hn0 => by
            by_cases e : j = i
            · subst e; exact absurd h0 hn0
            · exact hq j (by omega) hn0) (fun j hj => by
            by_cases e : j = i
            · subst e; exact hok
            · exact ho j (by omega))
          rcases ih' with ⟨g, l', q', b1, b2, b3⟩ | ⟨w, z, l', q', b1, b2⟩
          · exact Or.inl ⟨g, l', q', b1, b2, fun K => by rw [hst' K, b3 K]⟩
          · exact Or.inr ⟨w, z, l', q', b1, fun K => by rw [hst' K, b2 K]⟩
        · refine Or.inr ⟨c, nI (SQ T i), l, q, FA_row c1 c2 h0 (by rw [← hl i c (by omega) c2]; exact c3), fun K => ?_⟩
          rw [hst K, if_pos h1, if_pos h0, c4, Option.bind_some, if_neg (fun e => by rw [mq_m1 (by omega)] at e; exact e)]
      · have hb := SA_pos (T := T) (s := s) i ho
        obtain ⟨l1, d1, d2⟩ := me_takeOff (i := i) (s := s) (l := l) (by omega) hs hb
        have eA : SA T (i + 1) = (fun a c => if i < a then ((SA T i).1 i i * (SA T i).1 a c - (SA T i).1 i a * (SA T i).1 i c) / (SA T i).2 else (SA T i).1 a c, (SA T i).1 i i) := by rw [SA, if_neg h0]
        have eQ : SQ T (i + 1) = SQ T i + 1 := by rw [SQ, if_neg h0]
        have hst' : ∀ K, f_Steps_failingMember_L34 (nI s) (n + 1) (nI i) (SA T i).2 (nI (SQ T i)) l q K = f_Steps_failingMember_L34 (nI s) n (nI (i + 1)) (SA T (i + 1)).2 (nI (SQ T (i + 1))) l1 (upd q (SQ T i) (nI i)) K := by
          intro K
          rw [hst K, if_pos h1, if_neg h0, d2, Option.bind_some, eA, eQ]
        have hok : okS T s i := ⟨h1, fun h => absurd h h0⟩
        have ih' := ih n (i + 1) l1 (upd q (SQ T i) (nI i)) (by omega) (by omega) (fun a c hac hc => by
            rw [eA]
            dsimp only
            rw [d1 a c (by omega) (by omega)]
            by_cases e : i < a
            · rw [if_pos ⟨e, hac, hc⟩, if_pos e, hp, hl a c hac hc, hl i a (by omega) (by omega), hl i c (by omega) hc]
            · rw [if_neg (by omega), if_neg e, hl a c hac hc]) (fun j hj hn0 => by
            by_cases e : j = i
            · subst e; exact up_eq
            · have : SQ T j < SQ T i := by
                have e1 : SQ T (j + 1) = SQ T j + 1 := by rw [SQ, if_neg hn0]
                have e2 := SQ_mono (T := T) (i := j + 1) (i - (j + 1))
                rw [show j + 1 + (i - (j + 1)) = i by omega] at e2
                omega
              rw [up_ne (by omega)]
              exact hq j (by omega) hn0) (fun j hj => by
            by_cases e : j = i
            · subst e; exact hok
            · exact ho j (by omega))
        rcases ih' with ⟨g, l', q', b1, b2, b3⟩ | ⟨w, z, l', q', b1, b2⟩
        · exact Or.inl ⟨g, l', q', b1, b2, fun K => by rw [hst' K, b3 K]⟩
        · exact Or.inr ⟨w, z, l', q', b1, fun K => by rw [hst' K, b2 K]⟩
    · refine Or.inr ⟨i, nI (SQ T i), l, q, FA_neg (by omega) h1, fun K => ?_⟩
      rw [hst K, if_neg h1]
/-- a table of 36 as a table of longs -/
def TT (t : Nat → Int32) : Nat → Nat → Int64 := fun a c => (t (6 * a + c)).toInt64
theorem ml_fm2 {t : Nat → Int32} : ∀ (d n i : Nat) (l : Nat → Int64), i + d = 36 → d < n → (∀ x, x < i → l x = (t x).toInt64) → ∃ l' : Nat → Int64, (∀ x, x < 36 → l' x = (t x).toInt64) ∧ ∀ K, f_Steps_failingMember_L2 t n (nI i) l K = K l' := by
  intro d
  induction d with
  | zero =>
    intro n i l hk hn h
    obtain ⟨n, rfl⟩ : ∃ q, n = q + 1 := ⟨n - 1, by omega⟩
    have e : i = 36 := by omega
    subst e
    refine ⟨l, h, fun K => ?_⟩
    simp (disch := omega) only [f_Steps_failingMember_L2, mq_l36, Nat.le_refl, ↓reduceIte]
  | succ d ih =>
    intro n i l hk hn h
    obtain ⟨n, rfl⟩ : ∃ q, n = q + 1 := ⟨n - 1, by omega⟩
    obtain ⟨l', h1, h2⟩ := ih n (i + 1) (vp_updL l i (t i).toInt64) (by omega) (by omega) (fun x hx => by
      by_cases e : x = i
      · subst e; exact uL_eq
      · rw [uL_ne e]; exact h x (by omega))
    refine ⟨l', h1, fun K => ?_⟩
    rw [← h2 K]
    simp (disch := omega) only [f_Steps_failingMember_L2, mq_l36, mq_n0, mn_cl, mq_no, false_or, ↓reduceIte, mq_1]
theorem me_failing {s : Nat} (hs : s ≤ 6) (l : Nat → Int64) (q t : Nat → Int32) :
    (good (TT t) s ∧ ∃ l' q', UT s (SA (TT t) s).1 l' ∧ QM (TT t) s q' ∧ f_Steps_failingMember (nI s) l q t = some (-1, nI (SQ (TT t) s), l', q')) ∨
    (∃ w z l' q', FA (TT t) s w ∧ f_Steps_failingMember (nI s) l q t = some (nI w, z, l', q')) := by
  obtain ⟨l1, a1, a2⟩ := ml_fm2 (t := t) 36 40 0 l (by omega) (by omega) (fun x hx => by omega)
  have a2' : ∀ K, f_Steps_failingMember_L2 t 40 0 l K = K l1 := a2
  rcases ml_fm34 (T := TT t) (s := s) hs s 40 0 l1 q (by omega) (by omega) (fun a c hac hc => a1 _ (by omega)) (fun j hj => by omega) (fun j hj => by omega) with ⟨g, l', q', b1, b2, b3⟩ | ⟨w, z, l', q', b1, b2⟩
  · refine Or.inl ⟨g, l', q', b1, b2, ?_⟩
    rw [f_Steps_failingMember, a2']
    exact b3 _
  · refine Or.inr ⟨w, z, l', q', b1, ?_⟩
    rw [f_Steps_failingMember, a2']
    exact b2 _
