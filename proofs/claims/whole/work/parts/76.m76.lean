-- MATHEMATICS 16: the choices in their order
/-- the number that the first f digits of n make -/
def Xp (B F n f : Nat) : Nat := n / B ^ (F - f)
def dg (B F n f : Nat) : Nat := Xp B F n (f + 1) % B
def vec (mo F n : Nat) : Nat → Int32 := fun f => nI (dg (2 * mo + 1) F n f) - nI mo
theorem Xp_sub {B F n f g : Nat} (h : f ≤ g) (hg : g ≤ F) : Xp B F n f = Xp B F n g / B ^ (g - f) := by
  unfold Xp
  rw [Nat.div_div_eq_div_mul, ← Nat.pow_add]
  congr 2
  omega
theorem Xp_end {B F n : Nat} : Xp B F n F = n := by
  unfold Xp; rw [Nat.sub_self, Nat.pow_zero, Nat.div_one]
theorem Xp_lt {B F n f : Nat} (hf : f ≤ F) (hn : n < B ^ F) : Xp B F n f < B ^ f := by
  unfold Xp
  apply Nat.div_lt_of_lt_mul
  rw [← Nat.pow_add]
  rw [show F - f + f = F by omega]
  exact hn
theorem Xp_step {B F n f : Nat} (hf : f < F) : Xp B F n (f + 1) = Xp B F n f * B + dg B F n f := by
  have h := Xp_sub (B := B) (F := F) (n := n) (f := f) (g := f + 1) (by omega) (by omega)
  rw [show f + 1 - f = 1 by omega, Nat.pow_one] at h
  unfold dg
  rw [h, Nat.mul_comm]
  exact (Nat.div_add_mod _ _).symm
theorem dg_lt {B F n f : Nat} (hB : 0 < B) : dg B F n f < B := Nat.mod_lt _ hB
/-- the next number after all that begin as n does -/
theorem nx_X {B F n g f : Nat} (hB : 0 < B) (hg : g < F) (hf : g + 1 ≤ f) (hF : f ≤ F) (Y : Nat) : Xp B F (Y * B ^ (F - (g + 1))) f = Y * B ^ (f - (g + 1)) := by
  unfold Xp
  rw [show F - (g + 1) = (f - (g + 1)) + (F - f) by omega, Nat.pow_add, ← Nat.mul_assoc]
  exact Nat.mul_div_cancel _ (Nat.pow_pos hB)
theorem nx_dg {B F n g : Nat} (hB : 0 < B) (hg : g < F) (hd : dg B F n g + 1 < B) : ∀ f, f < F → dg B F ((Xp B F n (g + 1) + 1) * B ^ (F - (g + 1))) f = if f < g then dg B F n f else if f = g then dg B F n g + 1 else 0 := by
  intro f hf
  have hs := Xp_step (B := B) (F := F) (n := n) (f := g) hg
  by_cases h1 : f < g
  · rw [if_pos h1]
    unfold dg
    congr 1
    have e1 := nx_X (B := B) (F := F) (n := n) (g := g) (f := g + 1) hB hg (by omega) (by omega) (Xp B F n (g + 1) + 1)
    rw [show g + 1 - (g + 1) = 0 by omega, Nat.pow_zero, Nat.mul_one] at e1
    rw [Xp_sub (f := f + 1) (g := g + 1) (by omega) (by omega), e1, Xp_sub (n := n) (f := f + 1) (g := g + 1) (by omega) (by omega)]
    rw [show g + 1 - (f + 1) = 1 + (g - (f + 1)) by omega, Nat.pow_add, Nat.pow_one, ← Nat.div_div_eq_div_mul, ← Nat.div_div_eq_div_mul]
    congr 1
    rw [hs, Nat.add_assoc, Nat.mul_comm, Nat.mul_add_div hB, Nat.mul_add_div hB, Nat.div_eq_of_lt hd, Nat.div_eq_of_lt (by omega)]
  · rw [if_neg h1]
    by_cases h2 : f = g
    · rw [if_pos h2, h2]
      have e1 := nx_X (B := B) (F := F) (n := n) (g := g) (f := g + 1) hB hg (by omega) (by omega) (Xp B F n (g + 1) + 1)
      rw [show g + 1 - (g + 1) = 0 by omega, Nat.pow_zero, Nat.mul_one] at e1
      rw [dg, e1, hs, Nat.add_assoc, Nat.mul_comm, Nat.mul_add_mod, Nat.mod_eq_of_lt hd]
    · rw [if_neg h2, dg, nx_X (n := n) hB hg (by omega) (by omega), show f + 1 - (g + 1) = (f - g - 1) + 1 by omega, Nat.pow_succ, ← Nat.mul_assoc]
      exact Nat.mul_mod_left _ _
theorem nx_lt {B F n g : Nat} (hB : 0 < B) (hg : g < F) : n < (Xp B F n (g + 1) + 1) * B ^ (F - (g + 1)) := by
  unfold Xp
  have := Nat.lt_div_mul_add (a := n) (Nat.pow_pos (n := F - (g + 1)) hB)
  rw [Nat.add_mul, Nat.one_mul]
  exact this
theorem nx_in {B F n g : Nat} (hB : 0 < B) (hg : g < F) (hn : n < B ^ F) (hd : dg B F n g + 1 < B) : (Xp B F n (g + 1) + 1) * B ^ (F - (g + 1)) < B ^ F := by
  have h1 := Xp_lt (B := B) (F := F) (n := n) (f := g + 1) (by omega) hn
  have hs := Xp_step (B := B) (F := F) (n := n) (f := g) hg
  have h2 : Xp B F n (g + 1) + 1 < B ^ (g + 1) := by
    by_cases e : Xp B F n (g + 1) + 1 = B ^ (g + 1)
    · exfalso
      rw [hs, Nat.pow_succ, Nat.add_assoc] at e
      have := congrArg (· % B) e
      simp only [Nat.mul_mod_left] at this
      rw [Nat.mul_comm, Nat.mul_add_mod, Nat.mod_eq_of_lt hd] at this
      omega
    · omega
  have e : B ^ F = B ^ (g + 1) * B ^ (F - (g + 1)) := by
    rw [← Nat.pow_add]; congr 1; omega
  rw [e]
  exact Nat.mul_lt_mul_of_pos_right h2 (Nat.pow_pos hB)
/-- all that lie between begin as n does -/
theorem nx_bt {B F n l m : Nat} (hB : 0 < B) (hl : l < F) (h1 : n ≤ m) (h2 : m < (Xp B F n (l + 1) + 1) * B ^ (F - (l + 1))) : ∀ f, f ≤ l → dg B F m f = dg B F n f := by
  have e : Xp B F m (l + 1) = Xp B F n (l + 1) := by
    have a : Xp B F n (l + 1) ≤ Xp B F m (l + 1) := Nat.div_le_div_right h1
    have b : Xp B F m (l + 1) < Xp B F n (l + 1) + 1 := by
      unfold Xp at h2 ⊢
      exact Nat.div_lt_of_lt_mul (by rw [Nat.mul_comm]; exact h2)
    omega
  intro f hf
  unfold dg
  rw [Xp_sub (f := f + 1) (g := l + 1) (by omega) (by omega), Xp_sub (n := n) (f := f + 1) (g := l + 1) (by omega) (by omega), e]
theorem vec_sm {mo F n f : Nat} (hm : mo ≤ 2) : sm 2 (vec mo F n f) := by
  have := dg_lt (B := 2 * mo + 1) (F := F) (n := n) (f := f) (by omega)
  unfold sm vec
  rw [Int32.toInt_sub, nI_toInt (by omega), nI_toInt (by omega), Int.bmod_eq_of_le_mul_two] <;> omega
/-- an index that may be NONE -/
def tM (j : Nat) : Int32 := if j = 0 then -1 else nI (j - 1)
theorem tM_s (j : Nat) : tM (j + 1) = nI j := by unfold tM; rw [if_neg (by omega)]; rfl
theorem tM_p (j : Nat) : nI j + (-1) = tM j := by
  unfold tM
  by_cases h : j = 0
  · rw [if_pos h, h]; rfl
  · rw [if_neg h]
    obtain ⟨i, rfl⟩ : ∃ i, j = i + 1 := ⟨j - 1, by omega⟩
    rw [← nI_1, Nat.add_sub_cancel]; grind
theorem tM_q (j : Nat) : tM j + 1 = nI j := by rw [← tM_p]; grind
theorem ml_sb {mo : Int32} : ∀ (d n i : Nat) (c : Nat → Int32), i + d = 21 → d < n → ∃ c', (∀ f, f < 21 → c' f = if f < i then c f else -mo) ∧ ∀ K, f_Search_startBehind_L4 mo n (nI i) c K = K c' := by
  intro d
  induction d with
  | zero =>
    intro n i c hk hn
    obtain ⟨n, rfl⟩ : ∃ q, n = q + 1 := ⟨n - 1, by omega⟩
    have e : i = 21 := by omega
    subst e
    refine ⟨c, fun f hf => by rw [if_pos hf], fun K => ?_⟩
    simp (disch := omega) only [f_Search_startBehind_L4, mq_l21, Nat.le_refl, ↓reduceIte]
  | succ d ih =>
    intro n i c hk hn
    obtain ⟨n, rfl⟩ : ∃ q, n = q + 1 := ⟨n - 1, by omega⟩
    obtain ⟨c', h1, h2⟩ := ih n (i + 1) (upd c i (-mo)) (by omega) (by omega)
    refine ⟨c', fun f hf => ?_, fun K => ?_⟩
    · rw [h1 f hf]
      by_cases e : f = i
      · subst e; rw [if_pos (by omega), up_eq, if_neg (by omega)]
      · by_cases e2 : f < i
        · rw [if_pos (by omega), up_ne e, if_pos e2]
        · rw [if_neg (by omega), if_neg e2]
    · rw [← h2 K]
      simp (disch := omega) only [f_Search_startBehind_L4, mq_l21, mq_n0, mn_cl, mq_no, false_or, ↓reduceIte, mq_1]
theorem me_sb {mo : Int32} (j : Nat) (hj : j ≤ 21) (c : Nat → Int32) : ∃ c', (∀ f, f < 21 → c' f = if f < j then c f else -mo) ∧ f_Search_startBehind (tM j) mo c = some c' := by
  obtain ⟨c', h1, h2⟩ := ml_sb (mo := mo) (21 - j) 40 j c (by omega) (by omega)
  exact ⟨c', h1, by rw [f_Search_startBehind, tM_q, h2]⟩
theorem v_le {mo d : Nat} (hm : mo ≤ 2) (hd : d < 2 * mo + 1) : (nI mo ≤ nI d - nI mo) = (d = 2 * mo) := by
  apply propext
  rw [i_le, Int32.toInt_sub, nI_toInt (by omega), nI_toInt (by omega), Int.bmod_eq_of_le_mul_two] <;> omega
theorem v_eq {mo d : Nat} (hm : mo ≤ 2) (hd : d < 2 * mo + 1) : (nI d - nI mo = nI mo) = (d = 2 * mo) := by
  apply propext
  constructor
  · intro h
    have := congrArg Int32.toInt h
    rw [Int32.toInt_sub, nI_toInt (by omega), nI_toInt (by omega), Int.bmod_eq_of_le_mul_two] at this <;> omega
  · intro h
    subst h
    rw [show 2 * mo = mo + mo by omega, ← nI_add]; grind
theorem v_0 (mo : Nat) : -nI mo = nI 0 - nI mo := by rw [show nI 0 = 0 from rfl]; grind
theorem v_1 (d mo : Nat) : nI d - nI mo + 1 = nI (d + 1) - nI mo := by rw [← nI_1]; grind
theorem ml_go {mo F n l : Nat} (hm : mo ≤ 2) (hF : F ≤ 6) (hl : l ≤ F) (hn : n < (2 * mo + 1) ^ F) {ch : Nat → Int32} (hc : ∀ f, f < F → ch f = vec mo F n f) : ∀ (j N : Nat), j ≤ l → j < N → Xp (2 * mo + 1) F n l + 1 = (Xp (2 * mo + 1) F n j + 1) * (2 * mo + 1) ^ (l - j) →
    (∃ n' ch', n < n' ∧ n' < (2 * mo + 1) ^ F ∧ 0 < l ∧ n' = (Xp (2 * mo + 1) F n l + 1) * (2 * mo + 1) ^ (F - l) ∧ (∀ f, f < F → ch' f = vec mo F n' f) ∧ ∀ K, f_Search_goOn_L2 (nI mo) ch N (tM j) K = some (1, ch')) ∨
    (Xp (2 * mo + 1) F n l + 1 = (2 * mo + 1) ^ l ∧ ∀ K, f_Search_goOn_L2 (nI mo) ch N (tM j) K = K ()) := by
  intro j
  induction j with
  | zero =>
    intro N hj hN hX
    obtain ⟨N, rfl⟩ : ∃ q, N = q + 1 := ⟨N - 1, by omega⟩
    have h0 := Xp_lt (B := 2 * mo + 1) (F := F) (n := n) (f := 0) (by omega) hn
    rw [Nat.pow_zero] at h0
    refine Or.inr ⟨by rw [hX, show Xp (2 * mo + 1) F n 0 = 0 by omega, Nat.zero_add, Nat.one_mul, Nat.sub_zero], fun K => ?_⟩
    rw [f_Search_goOn_L2, if_pos (show tM 0 < 0 by decide)]
  | succ g ih =>
    intro N hj hN hX
    obtain ⟨N, rfl⟩ : ∃ q, N = q + 1 := ⟨N - 1, by omega⟩
    have hd := dg_lt (B := 2 * mo + 1) (F := F) (n := n) (f := g) (by omega)
    have hs := Xp_step (B := 2 * mo + 1) (F := F) (n := n) (f := g) (by omega)
    have hcg : ch g = nI (dg (2 * mo + 1) F n g) - nI mo := hc g (by omega)
    by_cases h2 : dg (2 * mo + 1) F n g = 2 * mo
    · have hst : ∀ K, f_Search_goOn_L2 (nI mo) ch (N + 1) (tM (g + 1)) K = f_Search_goOn_L2 (nI mo) ch N (tM g) K := by
        intro K
        have hle : nI mo ≤ ch g := by rw [hcg, v_le hm hd]; exact h2
        rw [tM_s, f_Search_goOn_L2, ← tM_p]
        simp (disch := omega) only [mq_n0, mn_cl, mq_no, false_or, ↓reduceIte, hle]
      have hX' : Xp (2 * mo + 1) F n l + 1 = (Xp (2 * mo + 1) F n g + 1) * (2 * mo + 1) ^ (l - g) := by
        rw [hX, hs, h2, show l - g = (l - (g + 1)) + 1 by omega, Nat.pow_succ]
        generalize Xp (2 * mo + 1) F n g = X, (2 * mo + 1) ^ (l - (g + 1)) = P
        grind
      rcases ih N (by omega) (by omega) hX' with ⟨n', ch', a1, a2, a3, a4, a5, a6⟩ | ⟨a1, a2⟩
      · exact Or.inl ⟨n', ch', a1, a2, a3, a4, a5, fun K => by rw [hst K, a6 K]⟩
      · exact Or.inr ⟨a1, fun K => by rw [hst K, a2 K]⟩
    · obtain ⟨c', s1, s2⟩ := me_sb (mo := nI mo) (g + 1) (by omega) (upd ch g (ch g + 1))
      rw [tM_s] at s2
      refine Or.inl ⟨(Xp (2 * mo + 1) F n (g + 1) + 1) * (2 * mo + 1) ^ (F - (g + 1)), c', nx_lt (by omega) (by omega), nx_in (by omega) (by omega) hn (by omega), by omega, ?_, fun f hf => ?_, fun K => ?_⟩
      · rw [hX, Nat.mul_assoc, ← Nat.pow_add]
        congr 2
        omega
      · rw [s1 f (by omega)]
        unfold vec
        rw [nx_dg (by omega) (by omega) (by omega) f hf]
        by_cases e1 : f < g
        · rw [if_pos (by omega), up_ne (by omega), hc f hf, if_pos e1]; rfl
        · by_cases e2 : f = g
          · subst e2
            rw [if_pos (by omega), up_eq, if_neg (by omega), if_pos rfl, hcg, v_1]
          · rw [if_neg (by omega), if_neg e1, if_neg e2, v_0]
      · have hle : ¬ nI mo ≤ ch g := by rw [hcg, v_le hm hd]; exact h2
        rw [tM_s, f_Search_goOn_L2]
        simp (disch := omega) only [mq_n0, mn_cl, mq_no, false_or, ↓reduceIte, hle]
        rw [s2, Option.bind_some]
/-- goOn: the next choice whose first digits are others, or none is left -/
theorem me_go {mo F n l : Nat} (hm : mo ≤ 2) (hF : F ≤ 6) (hl : l ≤ F) (hn : n < (2 * mo + 1) ^ F) {ch : Nat → Int32} (hc : ∀ f, f < F → ch f = vec mo F n f) :
    (∃ n' ch', n < n' ∧ n' < (2 * mo + 1) ^ F ∧ (∀ m, n ≤ m → m < n' → ∀ f, f < l → dg (2 * mo + 1) F m f = dg (2 * mo + 1) F n f) ∧ (∀ f, f < F → ch' f = vec mo F n' f) ∧ f_Search_goOn (tM l) (nI mo) ch = some (1, ch')) ∨
    ((∀ m, n ≤ m → m < (2 * mo + 1) ^ F → ∀ f, f < l → dg (2 * mo + 1) F m f = dg (2 * mo + 1) F n f) ∧ f_Search_goOn (tM l) (nI mo) ch = some (0, ch)) := by
  rcases ml_go hm hF hl hn hc l 40 (Nat.le_refl _) (by omega) (by rw [Nat.sub_self, Nat.pow_zero, Nat.mul_one]) with ⟨n', ch', a1, a2, a3, a4, a5, a6⟩ | ⟨a1, a2⟩
  · refine Or.inl ⟨n', ch', a1, a2, fun m h1 h2 f hf => ?_, a5, by rw [f_Search_goOn, a6]⟩
    obtain ⟨l, rfl⟩ : ∃ q, l = q + 1 := ⟨l - 1, by omega⟩
    exact nx_bt (l := l) (by omega) (by omega) h1 (by rw [← a4]; exact h2) f (by omega)
  · refine Or.inr ⟨fun m h1 h2 f hf => ?_, by rw [f_Search_goOn, a2]⟩
    obtain ⟨l, rfl⟩ : ∃ q, l = q + 1 := ⟨l - 1, by omega⟩
    refine nx_bt (l := l) (by omega) (by omega) h1 ?_ f (by omega)
    rw [a1, ← Nat.pow_add, show l + 1 + (F - (l + 1)) = F by omega]
    exact h2
theorem ml_pl {mo F n : Nat} (hF : F ≤ 6) {ch : Nat → Int32} (hc : ∀ f, f < F → ch f = vec mo F n f) : ∀ (d N f : Nat), f + d = F → d < N → ∀ K, f_Search_placeOfChosen_L5 (nI F) (nI mo) ch N (nI f) (nI (Xp (2 * mo + 1) F n f)) K = K (nI n) := by
  intro d
  induction d with
  | zero =>
    intro N f hk hN K
    obtain ⟨N, rfl⟩ : ∃ q, N = q + 1 := ⟨N - 1, by omega⟩
    have e : f = F := by omega
    subst e
    rw [Xp_end]
    simp (disch := omega) only [f_Search_placeOfChosen_L5, mq_le, Nat.le_refl, ↓reduceIte]
  | succ d ih =>
    intro N f hk hN K
    obtain ⟨N, rfl⟩ : ∃ q, N = q + 1 := ⟨N - 1, by omega⟩
    rw [← ih N (f + 1) (by omega) (by omega) K]
    have e : ((nI (Xp (2 * mo + 1) F n f) * ((2 * nI mo) + 1)) + ch f) + nI mo = nI (Xp (2 * mo + 1) F n (f + 1)) := by
      rw [Xp_step (by omega), hc f (by omega)]
      unfold vec
      rw [show (2 : Int32) = nI 2 from rfl, show (1 : Int32) = nI 1 from rfl]
      simp only [nI, Int32.ofNat_add, Int32.ofNat_mul]
      grind
    simp (disch := omega) only [f_Search_placeOfChosen_L5, mq_le, mq_n0, mn_cl, mq_no, false_or, ↓reduceIte, mq_1, e]
theorem me_pl {mo F n : Nat} (hF : F ≤ 6) (hn : n < (2 * mo + 1) ^ F) {ch : Nat → Int32} (hc : ∀ f, f < F → ch f = vec mo F n f) : f_Search_placeOfChosen (nI F) (nI mo) ch = some (nI n) := by
  have h0 := Xp_lt (B := 2 * mo + 1) (F := F) (n := n) (f := 0) (by omega) hn
  rw [Nat.pow_zero] at h0
  have := ml_pl hF hc F 40 0 (by omega) (by omega) (fun y => some y)
  rw [show Xp (2 * mo + 1) F n 0 = 0 by omega] at this
  exact this
