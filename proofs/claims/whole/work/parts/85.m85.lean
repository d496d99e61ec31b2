-- MATHEMATICS 25: value, count
def rz (x : Int32) : Nat → Int64
  | 0 => 1
  | e + 1 => rz x e * x.toInt64
theorem ml_rC (x : Int32) (e : Nat) (he : e < 5) : ∀ (d n i : Nat), i + d = e → d < n → ∀ K, f_Sq_raised_L5 x (nI e) n (nI i) (rz x i) K = K (rz x e) := by
  intro d
  induction d with
  | zero =>
    intro n i hi hn K
    obtain ⟨n, rfl⟩ : ∃ q, n = q + 1 := ⟨n - 1, by omega⟩
    have e : i = e := by omega
    subst e
    simp (disch := omega) only [f_Sq_raised_L5, mq_le, Nat.le_refl, ↓reduceIte]
  | succ d ih =>
    intro n i hi hn K
    obtain ⟨n, rfl⟩ : ∃ q, n = q + 1 := ⟨n - 1, by omega⟩
    rw [← ih n (i + 1) (by omega) (by omega) K]
    simp (disch := omega) only [f_Sq_raised_L5, mq_le, mq_no, ↓reduceIte, mq_1, rz]
theorem ml_rM (x : Int32) (e : Nat) (he : e < 5) : ∀ (d n i : Nat), i + d = e → d < n → ∀ K, f_Mo_raised_L5 x (nI e) n (nI i) (rz x i) K = K (rz x e) := by
  intro d
  induction d with
  | zero =>
    intro n i hi hn K
    obtain ⟨n, rfl⟩ : ∃ q, n = q + 1 := ⟨n - 1, by omega⟩
    have e : i = e := by omega
    subst e
    simp (disch := omega) only [f_Mo_raised_L5, mq_le, Nat.le_refl, ↓reduceIte]
  | succ d ih =>
    intro n i hi hn K
    obtain ⟨n, rfl⟩ : ∃ q, n = q + 1 := ⟨n - 1, by omega⟩
    rw [← ih n (i + 1) (by omega) (by omega) K]
    simp (disch := omega) only [f_Mo_raised_L5, mq_le, mq_no, ↓reduceIte, mq_1, rz]
def RZ (x e : Int32) : Int64 := rz x e.toNatClampNeg
theorem RZ_C (x : Int32) {e : Int32} (h1 : ¬ e < 0) (h2 : ¬ 4 < e) : f_Sq_raised x e = some (RZ x e) := by
  obtain ⟨n, hn, rfl⟩ := small5 h1 h2
  unfold RZ f_Sq_raised
  rw [mn_cl (by omega)]
  exact ml_rC x n hn n 40 0 (by omega) (by omega) _
theorem RZ_M (x : Int32) {e : Int32} (h1 : ¬ e < 0) (h2 : ¬ 4 < e) : f_Mo_raised x e = some (RZ x e) := by
  obtain ⟨n, hn, rfl⟩ := small5 h1 h2
  unfold RZ f_Mo_raised
  rw [mn_cl (by omega)]
  exact ml_rM x n hn n 40 0 (by omega) (by omega) _
def sL (f : Nat → Int64) : Nat → Int64
  | 0 => 0
  | n + 1 => sL f n + f n
def sI (f : Nat → Int32) : Nat → Int32
  | 0 => 0
  | n + 1 => sI f n + f n
theorem sL_ext {f g : Nat → Int64} : ∀ n, (∀ i, i < n → f i = g i) → sL f n = sL g n := by
  intro n
  induction n with
  | zero => intro _; rfl
  | succ n ih => intro h; rw [sL, sL, ih (fun i hi => h i (by omega)), h n (by omega)]
theorem sI_ext {f g : Nat → Int32} : ∀ n, (∀ i, i < n → f i = g i) → sI f n = sI g n := by
  intro n
  induction n with
  | zero => intro _; rfl
  | succ n ih => intro h; rw [sI, sI, ih (fun i hi => h i (by omega)), h n (by omega)]
theorem in1 : ∀ p, p < 15 → (p = 0 ∨ p = 1 ∨ p = 3 ∨ p = 6 ∨ p = 10) ∨ ∀ q, q < 5 → ¬ cl 1 q = p := by decide +kernel
theorem not1 (p : Nat) (h : p = 2 ∨ p = 4 ∨ p = 5 ∨ p = 7 ∨ p = 8 ∨ p = 9 ∨ p = 11 ∨ p = 12 ∨ p = 13 ∨ p = 14) : p < 15 ∧ ∀ q, q < PU 1 → ¬ cl 1 q = p := by
  refine ⟨by omega, fun q hq => ?_⟩
  rcases in1 p (by omega) with h' | h'
  · omega
  · exact h' q hq
theorem sL_U {U : Nat} (hU : U = 1 ∨ U = 2) {f : Nat → Int64} (h : ∀ p, p < 15 → (∀ q, q < PU U → ¬ cl U q = p) → f p = 0) : sL f 15 = sL (fun q => f (cl U q)) (PU U) := by
  rcases hU with e | e
  · subst e
    have z : ∀ p, (p = 2 ∨ p = 4 ∨ p = 5 ∨ p = 7 ∨ p = 8 ∨ p = 9 ∨ p = 11 ∨ p = 12 ∨ p = 13 ∨ p = 14) → f p = 0 := fun p hp => h p (not1 p hp).1 (not1 p hp).2
    have e5 : sL (fun q => f (cl 1 q)) (PU 1) = 0 + f 0 + f 1 + f 3 + f 6 + f 10 := rfl
    have e15 : sL f 15 = 0 + f 0 + f 1 + f 2 + f 3 + f 4 + f 5 + f 6 + f 7 + f 8 + f 9 + f 10 + f 11 + f 12 + f 13 + f 14 := rfl
    rw [e5, e15, z 2 (by omega), z 4 (by omega), z 5 (by omega), z 7 (by omega), z 8 (by omega), z 9 (by omega), z 11 (by omega), z 12 (by omega), z 13 (by omega), z 14 (by omega)]
    simp only [Int64.add_zero]
  · subst e
    exact sL_ext 15 (fun i _ => rfl)
theorem sI_U {U : Nat} (hU : U = 1 ∨ U = 2) {f : Nat → Int32} (h : ∀ p, p < 15 → (∀ q, q < PU U → ¬ cl U q = p) → f p = 0) : sI f 15 = sI (fun q => f (cl U q)) (PU U) := by
  rcases hU with e | e
  · subst e
    have z : ∀ p, (p = 2 ∨ p = 4 ∨ p = 5 ∨ p = 7 ∨ p = 8 ∨ p = 9 ∨ p = 11 ∨ p = 12 ∨ p = 13 ∨ p = 14) → f p = 0 := fun p hp => h p (not1 p hp).1 (not1 p hp).2
    have e5 : sI (fun q => f (cl 1 q)) (PU 1) = 0 + f 0 + f 1 + f 3 + f 6 + f 10 := rfl
    have e15 : sI f 15 = 0 + f 0 + f 1 + f 2 + f 3 + f 4 + f 5 + f 6 + f 7 + f 8 + f 9 + f 10 + f 11 + f 12 + f 13 + f 14 := rfl
    rw [e5, e15, z 2 (by omega), z 4 (by omega), z 5 (by omega), z 7 (by omega), z 8 (by omega), z 9 (by omega), z 11 (by omega), z 12 (by omega), z 13 (by omega), z 14 (by omega)]
    simp only [Int32.add_zero]
  · subst e
    exact sI_ext 15 (fun i _ => rfl)
def tz (cn : Nat → Int32) (x y : Int32) (p : Nat) : Int64 := ((cn p).toInt64 * RZ x (pwA p)) * RZ y (pwB p)
theorem ml_vC (cn : Nat → Int32) (x y : Int32) : ∀ (d n p : Nat), p + d = 15 → d < n → ∀ K, f_Sq_value_L41 x y cn n (nI p) (sL (tz cn x y) p) K = K (sL (tz cn x y) 15) := by
  intro d
  induction d with
  | zero =>
    intro n p hk hn K
    obtain ⟨n, rfl⟩ : ∃ q, n = q + 1 := ⟨n - 1, by omega⟩
    have e : p = 15 := by omega
    subst e
    simp (disch := omega) only [f_Sq_value_L41, mq_l15, Nat.le_refl, ↓reduceIte]
  | succ d ih =>
    intro n p hk hn K
    obtain ⟨n, rfl⟩ : ∃ q, n = q + 1 := ⟨n - 1, by omega⟩
    obtain ⟨⟨a1, a2⟩, a3, a4⟩ := pw_rng p (by omega)
    rw [← ih n (p + 1) (by omega) (by omega) K, f_Sq_value_L41]
    simp (disch := omega) only [mq_l15, mq_n0, mn_cl, mq_no, false_or, ↓reduceIte, mq_1]
    rw [RZ_C x a1 a2, Option.bind_some, RZ_C y a3 a4, Option.bind_some]
    rfl
theorem RZ0 (y : Int32) : RZ y 0 = 1 := rfl
theorem ml_vM {U : Nat} (hU : U = 1 ∨ U = 2) {cn mn : Nat → Int32} (hN : NR U cn mn) (x y : Int32) : ∀ (d n q : Nat), q + d = PU U → d < n → ∀ K, f_Mo_value_L43 x y (nI U) (nI (PU U)) (mF U) (mS U) mn n (nI q) (sL (fun q => tz cn x y (cl U q)) q) K = K (sL (fun q => tz cn x y (cl U q)) (PU U)) := by
  have hP := PU_le U
  intro d
  induction d with
  | zero =>
    intro n q hk hn K
    obtain ⟨n, rfl⟩ : ∃ q, n = q + 1 := ⟨n - 1, by omega⟩
    have e : q = PU U := by omega
    rw [e]
    simp (disch := omega) only [f_Mo_value_L43, mq_le, Nat.le_refl, ↓reduceIte]
  | succ d ih =>
    intro n q hk hn K
    obtain ⟨n, rfl⟩ : ∃ q, n = q + 1 := ⟨n - 1, by omega⟩
    have hq : q < PU U := by omega
    obtain ⟨⟨a1, a2⟩, a3, a4⟩ := pw_rng (cl U q) (cl_lt hq)
    rw [← ih n (q + 1) (by omega) (by omega) K, f_Mo_value_L43]
    simp (disch := omega) only [mq_le, mq_n0, mn_cl, mq_no, false_or, ↓reduceIte, mq_1, mF_at hq, mS_at hq, hN.1 q hq]
    rw [RZ_M x a1 a2, Option.bind_some]
    rcases hU with e | e
    · rw [if_neg (show ¬ nI U = 2 by rw [e]; decide), RZ_M 1 a3 a4, Option.bind_some]
      have hb : pwB (cl U q) = 0 := by subst e; exact b1_0 q hq
      have et : (((cn (cl U q)).toInt64 * RZ x (pwA (cl U q))) * RZ 1 (pwB (cl U q))) = tz cn x y (cl U q) := by
        unfold tz
        rw [hb, RZ0, RZ0]
      rw [et]
      rfl
    · rw [if_pos (show nI U = 2 by rw [e]; rfl), RZ_M y a3 a4, Option.bind_some]
      rfl
theorem me_far (x : Int32) : (f_Sq_within x 100 = some 1 ∧ f_Mo_isFar x = some 0) ∨ (f_Sq_within x 100 = some 0 ∧ f_Mo_isFar x = some 1) := by
  unfold f_Sq_within f_Mo_isFar
  by_cases h1 : x < -100
  · exact Or.inr ⟨by rw [if_pos h1], by rw [if_pos h1]⟩
  · by_cases h2 : 100 < x
    · exact Or.inr ⟨by rw [if_neg h1, if_pos h2], by rw [if_neg h1, if_neg (fun h => by rw [i_lt] at h2; rw [i_le] at h; omega)]⟩
    · refine Or.inl ⟨by rw [if_neg h1, if_neg h2], ?_⟩
      rw [if_neg h1, if_pos (by rw [i_le]; rw [i_lt] at h2; omega)]
theorem R732_ok {L i : Nat} {xs : Nat → Int32} (hi : i + 3 < L) (hL : L ≤ 2049) {un pws : Int32} {fi se mn : Nat → Int32} {out : Nat → Int64} {r : Int64} {t : Int32} (h : f_Mo_value (xs (i + 1)) (xs (i + 2)) un pws fi se mn = some (r, t)) (ho : t = 0 → out 0 = r) : ∀ k, f_La_law_R732 L xs (nI i) un pws fi se mn out t k = k t := by
  intro k
  rw [f_La_law_R732]
  simp (disch := omega) only [mq_1, mq_2, mw_n0, mw_cl, mq_no, false_or, ↓reduceIte]
  rw [h, Option.bind_some]
  dsimp only
  rw [me_thr, Option.bind_some, if_pos rfl]
  by_cases e : t = 0
  · rw [if_pos e, if_neg o_nk, o_eq (ho e)]
  · rw [if_neg e]
theorem me_R715 {U L i : Nat} {xs : Nat → Int32} (hi : i + 3 < L) (hL : L ≤ 2049) {th : Int32} {cn ct : Nat → Int32} {hsz : Int32} {cor mem : Nat → Int32} {psz fsz : Int32} {sec cel pow sha han fre : Nat → Int32} {ssz : Int32} {sl : Nat → Int64} {sq : Nat → Int32} {ms isT sqs : Int32} {mn bas mt : Nat → Int32} {wA wB rA rB : Nat → Int64}
    (h : INV U th cn ct hsz cor mem psz fsz sec cel pow sha han fre ssz sl sq ms isT sqs mn bas mt wA wB rA rB) (o : Nat → Int64) :
    ∃ t o', ∀ k, f_La_law_R715 L xs (nI i) (nI U) cn (nI U) (nI (PU U)) (mF U) (mS U) mn o k = k t o' := by
  obtain ⟨M, hB, hT⟩ := h
  have hU := hB.mu.2.1
  have hP := PU_le U
  generalize ha : xs (i + 1) = a
  generalize hb : xs (i + 2) = b
  have hsum : sL (tz cn a b) 15 = sL (fun q => tz cn a b (cl U q)) (PU U) := sL_U hU (fun p hp hn => by
    have h0 : cn p = 0 := Decidable.not_not.mp (fun h0 => by
      obtain ⟨q, hq, e⟩ := hB.nr.2 p hp h0
      exact hn q hq e)
    unfold tz
    rw [h0, show (0 : Int32).toInt64 = 0 from rfl, Int64.zero_mul, Int64.zero_mul])
  have hvC : ∀ K, f_Sq_value_L41 a b cn 40 0 0 K = K (sL (tz cn a b) 15) := fun K => ml_vC cn a b 15 40 0 (by omega) (by omega) K
  have hvM : ∀ K, f_Mo_value_L43 a b (nI U) (nI (PU U)) (mF U) (mS U) mn 40 0 0 K = K (sL (tz cn a b) 15) := fun K => by
    rw [hsum]
    exact ml_vM hU hB.nr a b (PU U) 40 0 (by omega) (by omega) K
  have ref : g_Sq_value a b (nI U) = some (some 1) → f_Mo_value a b (nI U) (nI (PU U)) (mF U) (mS U) mn = some (0, 1) → ∃ t o', ∀ k, f_La_law_R715 L xs (nI i) (nI U) cn (nI U) (nI (PU U)) (mF U) (mS U) mn o k = k t o' := by
    intro h1 h2
    refine ⟨1, o, fun k => ?_⟩
    have := R732_ok (xs := xs) hi hL (out := o) (by rw [ha, hb]; exact h2) (fun e => absurd e (by decide))
    rw [f_La_law_R715]
    simp (disch := omega) only [mq_1, mq_2, mw_n0, mw_cl, mq_no, false_or, ↓reduceIte, ha, hb]
    rw [if_pos h1, this]
  have okc : g_Sq_value a b (nI U) = some none → f_Sq_value a b (nI U) cn = some (.inr (sL (tz cn a b) 15)) → f_Mo_value a b (nI U) (nI (PU U)) (mF U) (mS U) mn = some (sL (tz cn a b) 15, 0) → ∃ t o', ∀ k, f_La_law_R715 L xs (nI i) (nI U) cn (nI U) (nI (PU U)) (mF U) (mS U) mn o k = k t o' := by
    intro h1 h2 h3
    refine ⟨0, vp_updL o 0 (sL (tz cn a b) 15), fun k => ?_⟩
    have := R732_ok (xs := xs) hi hL (out := vp_updL o 0 (sL (tz cn a b) 15)) (by rw [ha, hb]; exact h3) (fun _ => uL_eq)
    have hla : f_La_value a b (nI U) cn o = some (0, vp_updL o 0 (sL (tz cn a b) 15)) := by
      rw [f_La_value, h2, Option.bind_some]
      rfl
    rw [f_La_law_R715]
    simp (disch := omega) only [mq_1, mq_2, mw_n0, mw_cl, mq_no, false_or, ↓reduceIte, ha, hb]
    rw [h1, if_neg nen1, if_pos rfl, hla, Option.bind_some]
    dsimp only
    rw [this]
  rcases me_far a with ⟨a1, a2⟩ | ⟨a1, a2⟩
  · by_cases e : nI U = 2
    · rcases me_far b with ⟨b1, b2⟩ | ⟨b1, b2⟩
      · apply okc
        · rw [g_Sq_value, a1, Option.bind_some, if_neg i_10, if_pos e, b1, Option.bind_some, if_neg i_10]
        · rw [f_Sq_value, a1, Option.bind_some, if_neg i_10, if_pos e, b1, Option.bind_some, if_neg i_10, hvC]
        · rw [f_Mo_value, a2, Option.bind_some]
          unfold ct_jn
          dsimp only
          rw [if_pos rfl, if_pos e, b2, Option.bind_some, if_pos rfl, rf0, Option.bind_some]
          dsimp only
          rw [if_pos rfl, hvM]
      · apply ref
        · rw [g_Sq_value, a1, Option.bind_some, if_neg i_10, if_pos e, b1, Option.bind_some, if_pos rfl]
        · rw [f_Mo_value, a2, Option.bind_some]
          unfold ct_jn
          dsimp only
          rw [if_pos rfl, if_pos e, b2, Option.bind_some, if_neg i_10, rf1, Option.bind_some]
          dsimp only
          rw [if_neg i_10]
    · apply okc
      · rw [g_Sq_value, a1, Option.bind_some, if_neg i_10, if_neg e]
      · rw [f_Sq_value, a1, Option.bind_some, if_neg i_10, if_neg e, hvC]
      · rw [f_Mo_value, a2, Option.bind_some]
        unfold ct_jn
        dsimp only
        rw [if_pos rfl, if_neg e, rf0, Option.bind_some]
        dsimp only
        rw [if_pos rfl, hvM]
  · apply ref
    · rw [g_Sq_value, a1, Option.bind_some, if_pos rfl]
    · rw [f_Mo_value, a2, Option.bind_some]
      unfold ct_jn
      dsimp only
      rw [if_neg i_10, rf1, Option.bind_some]
      dsimp only
      rw [if_neg i_10]
-- count
def zo (c : Nat → Int32) (p : Nat) : Int32 := if c p = 0 then 0 else 1
theorem ml_tc (c : Nat → Int32) : ∀ (d n p : Nat), p + d = 15 → d < n → ∀ K, f_Sq_termCount_L4 c n (nI p) (sI (zo c) p) K = K (sI (zo c) 15) := by
  intro d
  induction d with
  | zero =>
    intro n p hk hn K
    obtain ⟨n, rfl⟩ : ∃ q, n = q + 1 := ⟨n - 1, by omega⟩
    have e : p = 15 := by omega
    subst e
    simp (disch := omega) only [f_Sq_termCount_L4, mq_l15, Nat.le_refl, ↓reduceIte]
  | succ d ih =>
    intro n p hk hn K
    obtain ⟨n, rfl⟩ : ∃ q, n = q + 1 := ⟨n - 1, by omega⟩
    rw [← ih n (p + 1) (by omega) (by omega) K, f_Sq_termCount_L4]
    simp (disch := omega) only [mq_l15, mq_n0, mn_cl, mq_no, false_or, ↓reduceIte, mq_1]
    rw [sI]
    unfold zo
    by_cases e : c p = 0
    · rw [if_pos e, if_pos e, Int32.add_zero]
    · rw [if_neg e, if_neg e]
theorem ml_cc (c : Nat → Int32) : ∀ (d n p : Nat), p + d = 15 → d < n → ∀ K, f_Hull_cornerCount_L4 c n (nI p) (sI (zo c) p) K = K (sI (zo c) 15) := by
  intro d
  induction d with
  | zero =>
    intro n p hk hn K
    obtain ⟨n, rfl⟩ : ∃ q, n = q + 1 := ⟨n - 1, by omega⟩
    have e : p = 15 := by omega
    subst e
    simp (disch := omega) only [f_Hull_cornerCount_L4, mq_l15, Nat.le_refl, ↓reduceIte]
  | succ d ih =>
    intro n p hk hn K
    obtain ⟨n, rfl⟩ : ∃ q, n = q + 1 := ⟨n - 1, by omega⟩
    rw [← ih n (p + 1) (by omega) (by omega) K, f_Hull_cornerCount_L4]
    simp (disch := omega) only [mq_l15, mq_n0, mn_cl, mq_no, false_or, ↓reduceIte, mq_1]
    rw [sI]
    unfold zo
    by_cases e : c p = 0
    · rw [if_pos e, if_pos e, Int32.add_zero]
    · rw [if_neg e, if_neg e]
theorem ml_co {U : Nat} {cn mn cor : Nat → Int32} (hN : NR U cn mn) (hc : ∀ p, p < 15 → ((isC cn p → cor p = 1) ∧ (¬ isC cn p → cor p = 0))) : ∀ (d n q : Nat), q + d = PU U → d < n → ∀ K, f_Mo_count_L12 (nI (PU U)) (mF U) (mS U) mn n (nI q) (sI (fun q => zo cor (cl U q)) q) (sI (fun q => zo cn (cl U q)) q) K = K (sI (fun q => zo cor (cl U q)) (PU U)) (sI (fun q => zo cn (cl U q)) (PU U)) := by
  have hP := PU_le U
  intro d
  induction d with
  | zero =>
    intro n q hk hn K
    obtain ⟨n, rfl⟩ : ∃ q, n = q + 1 := ⟨n - 1, by omega⟩
    have e : q = PU U := by omega
    rw [e]
    simp (disch := omega) only [f_Mo_count_L12, mq_le, Nat.le_refl, ↓reduceIte]
  | succ d ih =>
    intro n q hk hn K
    obtain ⟨n, rfl⟩ : ∃ q, n = q + 1 := ⟨n - 1, by omega⟩
    have hq : q < PU U := by omega
    have hcl := cl_lt hq
    rw [← ih n (q + 1) (by omega) (by omega) K, f_Mo_count_L12]
    unfold ct_jn
    simp (disch := omega) only [mq_le, mq_n0, mn_cl, mq_no, false_or, ↓reduceIte, mq_1, hN.1 q hq]
    have e1 : (if cn (cl U q) = 0 then (0 : Int32) else 1) = zo cn (cl U q) := rfl
    rcases me_corner hN hq with ⟨c1, c2⟩ | ⟨c1, c2⟩
    · have hz : zo cor (cl U q) = 1 := by unfold zo; rw [(hc _ hcl).1 c1, if_neg i_10]
      rw [c2]
      simp only [Option.bind_some, i_10, ↓reduceIte]
      rw [sI, sI, hz]
      by_cases e : cn (cl U q) = 0
      · rw [if_pos e]; unfold zo; rw [if_pos e]
      · rw [if_neg e]; unfold zo; rw [if_neg e]
    · have hz : zo cor (cl U q) = 0 := by unfold zo; rw [(hc _ hcl).2 c1, if_pos rfl]
      rw [c2]
      simp only [Option.bind_some, ↓reduceIte]
      rw [sI, sI, hz]
      by_cases e : cn (cl U q) = 0
      · rw [if_pos e]; unfold zo; rw [if_pos e]
      · rw [if_neg e]; unfold zo; rw [if_neg e]
theorem me_R782 {U L i : Nat} {xs : Nat → Int32} (hi : i + 3 < L) (hL : L ≤ 2049) {th : Int32} {cn ct : Nat → Int32} {hsz : Int32} {cor mem : Nat → Int32} {psz fsz : Int32} {sec cel pow sha han fre : Nat → Int32} {ssz : Int32} {sl : Nat → Int64} {sq : Nat → Int32} {ms isT sqs : Int32} {mn bas mt : Nat → Int32} {wA wB rA rB : Nat → Int64}
    (h : INV U th cn ct hsz cor mem psz fsz sec cel pow sha han fre ssz sl sq ms isT sqs mn bas mt wA wB rA rB) :
    ∃ t, ∀ k, f_La_law_R782 L xs (nI i) (nI U) cn cor (nI U) (nI (PU U)) (mF U) (mS U) mn k = k t := by
  obtain ⟨M, hB, hT⟩ := h
  have hU := hB.mu.2.1
  have hP := PU_le U
  refine ⟨0, fun k => ?_⟩
  generalize ha : xs (i + 1) = a
  have h0 : ∀ p, p < 15 → (∀ q, q < PU U → ¬ cl U q = p) → cn p = 0 := fun p hp hn => Decidable.not_not.mp (fun h0 => by
    obtain ⟨q, hq, e⟩ := hB.nr.2 p hp h0
    exact hn q hq e)
  have s1 : sI (zo cn) 15 = sI (fun q => zo cn (cl U q)) (PU U) := sI_U hU (fun p hp hn => by
    unfold zo; rw [if_pos (h0 p hp hn)])
  have s2 : sI (zo cor) 15 = sI (fun q => zo cor (cl U q)) (PU U) := sI_U hU (fun p hp hn => by
    unfold zo
    rw [if_pos ((hB.co p hp).2 (fun hc => isC_ne hc (h0 p hp hn)))])
  have c1 : f_Sq_termCount cn = some (sI (zo cn) 15) := by
    rw [f_Sq_termCount]
    exact ml_tc cn 15 40 0 (by omega) (by omega) _
  have c2 : f_Hull_cornerCount cor = some (sI (zo cor) 15) := by
    rw [f_Hull_cornerCount]
    exact ml_cc cor 15 40 0 (by omega) (by omega) _
  have c3 : ∀ K, f_Mo_count_L12 (nI (PU U)) (mF U) (mS U) mn 40 0 0 0 K = K (sI (zo cor) 15) (sI (zo cn) 15) := fun K => by
    rw [s1, s2]
    exact ml_co hB.nr hB.co (PU U) 40 0 (by omega) (by omega) K
  rw [f_La_law_R782]
  simp (disch := omega) only [mq_1, mw_n0, mw_cl, mq_no, false_or, ↓reduceIte, ha]
  rw [f_Sq_count, f_Mo_count, c3]
  by_cases e0 : a = 0
  · rw [if_pos e0, if_pos e0, c1, Option.bind_some, Option.bind_some, Option.bind_some]
    dsimp only
    rw [if_pos rfl]
  · rw [if_neg e0, if_neg e0]
    by_cases e1 : a = 1
    · rw [if_pos e1, if_pos e1, Option.bind_some, Option.bind_some]
      dsimp only
      rw [if_pos rfl]
    · rw [if_neg e1, if_neg e1]
      by_cases e2 : a = 2
      · rw [if_pos e2, if_pos e2, c2, Option.bind_some, Option.bind_some, Option.bind_some]
        dsimp only
        rw [if_pos rfl]
      · rw [if_neg e2, if_neg e2, Option.bind_some, Option.bind_some]
        dsimp only
        rw [if_pos rfl]
