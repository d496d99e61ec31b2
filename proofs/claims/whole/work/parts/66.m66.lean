-- MATHEMATICS 6: the pairs of members, and the class's arrays of them
theorem mn_m1 {a : Nat} (ha : a < 1000) : ¬ nI a = -1 := by rw [mq_m1 ha]; exact id
def pijL (s : Nat) : List (Nat × Nat) := (List.range s).flatMap (fun i => (List.range (s - i)).map (fun d => (i, i + d)))
def pi_ (s n : Nat) : Nat := ((pijL s).getD n (0, 0)).1
def pj_ (s n : Nat) : Nat := ((pijL s).getD n (0, 0)).2
def np (s : Nat) : Nat := s * (s + 1) / 2
def idx (s i j : Nat) : Nat := i * (2 * s + 1 - i) / 2 + (j - i)
theorem idx_ok' : ∀ s, s < 7 → ∀ i, i < s → ∀ d, d < s - i → pi_ s (idx s i (i + d)) = i ∧ pj_ s (idx s i (i + d)) = i + d ∧ idx s i (i + d) < np s ∧ idx s i (i + d + 1) = idx s i (i + d) + 1 := by decide +kernel
theorem idx_ok (s : Nat) (hs : s < 7) (i : Nat) (hi : i < s) (j : Nat) (hj : j < s) (hij : i ≤ j) : pi_ s (idx s i j) = i ∧ pj_ s (idx s i j) = j ∧ idx s i j < np s ∧ idx s i (j + 1) = idx s i j + 1 := by
  have := idx_ok' s hs i hi (j - i) (by omega)
  rw [show i + (j - i) = j by omega] at this
  exact this
theorem idx_row : ∀ s, s < 7 → ∀ i, i < s → idx s i s = idx s (i + 1) (i + 1) := by decide +kernel
theorem idx_end : ∀ s, s < 7 → idx s 0 0 = 0 ∧ idx s s s = np s ∧ np s ≤ 21 := by decide +kernel
theorem pij_ok : ∀ s, s < 7 → ∀ n, n < np s → pi_ s n ≤ pj_ s n ∧ pj_ s n < s ∧ idx s (pi_ s n) (pj_ s n) = n := by decide +kernel
def nA (m : Nat) : Nat := ([0, 1, 0, 2, 1, 0] : List Nat).getD m 0
def nB (m : Nat) : Nat := ([0, 0, 1, 0, 1, 2] : List Nat).getD m 0
def prd (m q : Nat) : Nat := (nA m + nA q + (nB m + nB q)) * (nA m + nA q + (nB m + nB q) + 1) / 2 + (nB m + nB q)
theorem prd_ok : ∀ m, m < 6 → ∀ q, q < 6 → prd m q < 15 ∧ f_Pairs_productOf (nI m) (nI q) = some (nI (prd m q)) := by decide +kernel
def pI (M n : Nat) : Nat := pi_ (mlen M) n
def pJ (M n : Nat) : Nat := pj_ (mlen M) n
def nP (M : Nat) : Nat := np (mlen M)
def pw (M n : Nat) : Nat := prd (mat M (pI M n)) (mat M (pJ M n))
/-- the pair that power p hangs on, among the first n; 99 is none -/
def hg (M : Nat) : Nat → Nat → Nat
  | 0, _ => 99
  | n + 1, p => if pw M n = p ∧ (hg M n p = 99 ∨ pI M n = pJ M n) then n else hg M n p
def toI (h : Nat) : Int32 := if h = 99 then -1 else nI h
def hN (M p : Nat) : Nat := hg M (nP M) p
def fr (M n : Nat) : Bool := !(Nat.beq (hN M (pw M n)) n)
def fc (M : Nat) : Nat → Nat
  | 0 => 0
  | n + 1 => fc M n + (if fr M n then 1 else 0)
def FF (M : Nat) : Nat := fc M (nP M)
def frk (M f : Nat) : Nat := ((List.range (nP M)).filter (fun n => fr M n)).getD f 0
theorem mat6 {M k : Nat} (hM : M < 64) (hk : k < mlen M) : mat M k < 6 := (mat_in M hM k (by have := mlen_le M hM; omega) hk).2.2
theorem nP_le {M : Nat} (hM : M < 64) : nP M ≤ 21 := (idx_end _ (by have := mlen_le M hM; omega)).2.2
theorem pI_ok {M n : Nat} (hM : M < 64) (hn : n < nP M) : pI M n ≤ pJ M n ∧ pJ M n < mlen M ∧ idx (mlen M) (pI M n) (pJ M n) = n := pij_ok _ (by have := mlen_le M hM; omega) n hn
theorem pw_lt {M n : Nat} (hM : M < 64) (hn : n < nP M) : pw M n < 15 := by
  obtain ⟨a, b, -⟩ := pI_ok hM hn
  exact (prd_ok _ (mat6 hM (by omega)) _ (mat6 hM b)).1
theorem hg_lt {M : Nat} {p : Nat} : ∀ n, hg M n p = 99 ∨ hg M n p < n := by
  intro n
  induction n with
  | zero => exact Or.inl rfl
  | succ n ih =>
    rw [hg]
    split
    · right; omega
    · rcases ih with h | h
      · exact Or.inl h
      · right; omega
theorem hg_pw {M : Nat} {p : Nat} : ∀ n, hg M n p = 99 ∨ pw M (hg M n p) = p := by
  intro n
  induction n with
  | zero => exact Or.inl rfl
  | succ n ih =>
    rw [hg]
    split
    · rename_i h; exact Or.inr h.1
    · exact ih
theorem fc_le {M : Nat} : ∀ n, fc M n ≤ n := by
  intro n
  induction n with
  | zero => exact Nat.le_refl _
  | succ n ih => rw [fc]; split <;> omega
theorem fc_mono {M a b : Nat} (h : a ≤ b) : fc M a ≤ fc M b := by
  induction h with
  | refl => exact Nat.le_refl _
  | step h ih => rw [fc]; omega
theorem fc_lt {M a b : Nat} (h : a < b) (ha : fr M a = true) : fc M a < fc M b := by
  have := fc_mono (M := M) (show a + 1 ≤ b from h)
  rw [fc, if_pos ha] at this
  omega
-- the class's arrays
def PAr (M n : Nat) (sec cel pow sha : Nat → Int32) : Prop := ∀ m, m < n → sec m = nI (pJ M m) ∧ cel m = nI (6 * pI M m + pJ M m) ∧ pow m = nI (pw M m) ∧ sha m = nI (if pI M m = pJ M m then 1 else 2)
def PH (M n : Nat) (han : Nat → Int32) : Prop := ∀ p, p < 15 → han p = toI (hg M n p)
def PF (M : Nat) (fre : Nat → Int32) : Prop := ∀ m, m < nP M → fr M m = true → fre (fc M m) = nI m
theorem toI_m1 {h : Nat} (hh : h = 99 ∨ h < 90) : (toI h = -1) ↔ h = 99 := by
  simp only [toI]
  by_cases e : h = 99
  · rw [if_pos e]; exact ⟨fun _ => e, fun _ => rfl⟩
  · rw [if_neg e, mq_m1 (by omega)]
    exact ⟨False.elim, fun h => absurd h e⟩
theorem me_cell {i j : Nat} (h : i ≤ j) (hj : j < 6) : f_Sq_cellOf (nI i) (nI j) = some (nI (6 * i + j)) := by
  rw [f_Sq_cellOf, if_neg (fun h' => by have := (mn_lti (by omega) (by omega)).mp h'; omega), mq_6']
theorem me_add {i j p n : Nat} (h : i ≤ j) (hj : j < 6) (hp : p < 15) (hn : n < 21) (sec cel pow sha han : Nat → Int32) : f_Pairs_add (nI i) (nI j) (nI p) (nI n) sec cel pow sha han = some (nI (n + 1), upd sec n (nI j), upd cel n (nI (6 * i + j)), upd pow n (nI p), upd sha n (nI (if i = j then 1 else 2)), if han p = -1 ∨ i = j then upd han p (nI n) else han) := by
  rw [f_Pairs_add, me_cell h hj]
  simp (disch := omega) only [mq_n0, mn_cl, mq_no, false_or, ↓reduceIte, mq_1, ct_jn, Option.bind_some, mq_eq]
  by_cases e : i = j
  · simp only [if_pos e]
    by_cases e2 : han p = -1
    · simp only [if_pos e2, e2, true_or, ↓reduceIte]; rfl
    · simp only [if_neg e2, e, or_true, ↓reduceIte]; rfl
  · simp only [if_neg e]
    by_cases e2 : han p = -1
    · simp only [if_pos e2, e2, true_or, ↓reduceIte]; rfl
    · simp only [if_neg e2, e2, e, or_false, ↓reduceIte]; rfl
theorem PAr_step {M n : Nat} {sec cel pow sha : Nat → Int32} (h : PAr M n sec cel pow sha) : PAr M (n + 1) (upd sec n (nI (pJ M n))) (upd cel n (nI (6 * pI M n + pJ M n))) (upd pow n (nI (pw M n))) (upd sha n (nI (if pI M n = pJ M n then 1 else 2))) := by
  intro m hm
  by_cases e : m = n
  · subst e; exact ⟨up_eq, up_eq, up_eq, up_eq⟩
  · rw [up_ne e, up_ne e, up_ne e, up_ne e]; exact h m (by omega)
theorem PH_step {M n : Nat} {han : Nat → Int32} (hn : n < 21) (h : PH M n han) : PH M (n + 1) (if han (pw M n) = -1 ∨ pI M n = pJ M n then upd han (pw M n) (nI n) else han) := by
  intro p hp
  rw [hg]
  by_cases e : pw M n = p
  · subst e
    have h1 : han (pw M n) = -1 ↔ hg M n (pw M n) = 99 := by
      rw [h _ hp]
      exact toI_m1 (by have := hg_lt (M := M) (p := pw M n) n; omega)
    by_cases c : hg M n (pw M n) = 99 ∨ pI M n = pJ M n
    · rw [if_pos (c.imp_left h1.mpr), if_pos ⟨rfl, c⟩, up_eq, toI, if_neg (by omega)]
    · rw [if_neg (fun c' => c (c'.imp_left h1.mp)), if_neg (fun c' => c c'.2)]; exact h _ hp
  · rw [if_neg (show ¬ (pw M n = p ∧ (hg M n p = 99 ∨ pI M n = pJ M n)) from fun c => e c.1)]
    split
    · rw [up_ne (fun e' => e e'.symm)]; exact h p hp
    · exact h p hp
theorem ml_arr2 {M : Nat} (hM : M < 64) {mem : Nat → Int32} (hm : memC M mem) {i : Nat} (hi : i < mlen M) : ∀ (d n j : Nat) (sec cel pow sha han : Nat → Int32), i ≤ j → j + d = mlen M → d < n → PAr M (idx (mlen M) i j) sec cel pow sha → PH M (idx (mlen M) i j) han → ∃ sec' cel' pow' sha' han', PAr M (idx (mlen M) i (mlen M)) sec' cel' pow' sha' ∧ PH M (idx (mlen M) i (mlen M)) han' ∧ ∀ k, f_Pairs_arrange_L25 (nI i) (nI (mlen M)) mem n (nI j) (nI (idx (mlen M) i j)) sec cel pow sha han k = k (nI (idx (mlen M) i (mlen M))) sec' cel' pow' sha' han' := by
  have hl := mlen_le M hM
  intro d
  induction d with
  | zero =>
    intro n j sec cel pow sha han hij hj hn hA hH
    obtain ⟨n, rfl⟩ : ∃ q, n = q + 1 := ⟨n - 1, by omega⟩
    have e : j = mlen M := by omega
    subst e
    exact ⟨sec, cel, pow, sha, han, hA, hH, fun k => by rw [f_Pairs_arrange_L25, if_pos ((mn_le (by omega) (by omega)).mpr (Nat.le_refl _))]⟩
  | succ d ih =>
    intro n j sec cel pow sha han hij hj hn hA hH
    obtain ⟨n, rfl⟩ : ∃ q, n = q + 1 := ⟨n - 1, by omega⟩
    have hlt : ¬ nI (mlen M) ≤ nI j := fun h => by have := (mn_le (by omega) (by omega)).mp h; omega
    have hjl : j < mlen M := by omega
    obtain ⟨x1, x2, x3, x4⟩ := idx_ok (mlen M) (by omega) i hi j hjl hij
    obtain ⟨y1, y2⟩ := prd_ok _ (mat6 hM hi) _ (mat6 hM hjl)
    have hnp := (idx_end (mlen M) (by omega)).2.2
    have hpw : prd (mat M i) (mat M j) = pw M (idx (mlen M) i j) := by rw [pw, pI, pJ, x1, x2]
    rw [hpw] at y1 y2
    have hA' := PAr_step hA
    have hH' := PH_step (by omega) hH
    rw [← x4] at hA' hH'
    obtain ⟨sec', cel', pow', sha', han', r1, r2, r3⟩ := ih n (j + 1) _ _ _ _ _ (by omega) (by omega) (by omega) hA' hH'
    refine ⟨sec', cel', pow', sha', han', r1, r2, fun k => ?_⟩
    rw [f_Pairs_arrange_L25, if_neg hlt]
    simp (disch := omega) only [mq_n0, mn_cl, mq_no, false_or, ↓reduceIte, mq_1]
    rw [hm i hi, hm j hjl, y2, Option.bind_some, if_neg (mn_m1 (by omega)), me_add hij (by omega) y1 (by omega), Option.bind_some, ← r3 k, ← x4]
    simp only [pI, pJ, x1, x2]
theorem ml_arr1 {M : Nat} (hM : M < 64) {mem : Nat → Int32} (hm : memC M mem) : ∀ (d n i : Nat) (sec cel pow sha han : Nat → Int32), i + d = mlen M → d < n → PAr M (idx (mlen M) i i) sec cel pow sha → PH M (idx (mlen M) i i) han → ∃ sec' cel' pow' sha' han', PAr M (nP M) sec' cel' pow' sha' ∧ PH M (nP M) han' ∧ ∀ k, f_Pairs_arrange_L15 (nI (mlen M)) mem n (nI i) (nI (idx (mlen M) i i)) sec cel pow sha han k = k (nI (nP M)) sec' cel' pow' sha' han' := by
  have hl := mlen_le M hM
  intro d
  induction d with
  | zero =>
    intro n i sec cel pow sha han hi hn hA hH
    obtain ⟨n, rfl⟩ : ∃ q, n = q + 1 := ⟨n - 1, by omega⟩
    have e : i = mlen M := by omega
    subst e
    rw [(idx_end (mlen M) (by omega)).2.1] at hA hH ⊢
    exact ⟨sec, cel, pow, sha, han, hA, hH, fun k => by rw [f_Pairs_arrange_L15, if_pos ((mn_le (by omega) (by omega)).mpr (Nat.le_refl _))]; rfl⟩
  | succ d ih =>
    intro n i sec cel pow sha han hi hn hA hH
    obtain ⟨n, rfl⟩ : ∃ q, n = q + 1 := ⟨n - 1, by omega⟩
    have hlt : ¬ nI (mlen M) ≤ nI i := fun h => by have := (mn_le (by omega) (by omega)).mp h; omega
    have hil : i < mlen M := by omega
    obtain ⟨s1, c1, p1, h1, n1, a1, a2, a3⟩ := ml_arr2 hM hm hil (mlen M - i) 40 i sec cel pow sha han (Nat.le_refl _) (by omega) (by omega) hA hH
    rw [idx_row (mlen M) (by omega) i hil] at a1 a2 a3
    obtain ⟨sec', cel', pow', sha', han', r1, r2, r3⟩ := ih n (i + 1) _ _ _ _ _ (by omega) (by omega) a1 a2
    refine ⟨sec', cel', pow', sha', han', r1, r2, fun k => ?_⟩
    rw [f_Pairs_arrange_L15, if_neg hlt, a3, mq_1, r3]
theorem ml_gfree {M : Nat} (hM : M < 64) {sec cel pow sha han : Nat → Int32} (hA : PAr M (nP M) sec cel pow sha) (hH : PH M (nP M) han) : ∀ (d n m : Nat) (fre : Nat → Int32), m + d = nP M → d < n → (∀ r, r < m → fr M r = true → fre (fc M r) = nI r) → ∃ fre', PF M fre' ∧ ∀ k, f_Pairs_gatherFree_L7 (nI (nP M)) pow han n (nI m) (nI (fc M m)) fre k = k (nI (FF M)) fre' := by
  have hl := nP_le hM
  intro d
  induction d with
  | zero =>
    intro n m fre hm hn h
    obtain ⟨n, rfl⟩ : ∃ q, n = q + 1 := ⟨n - 1, by omega⟩
    have e : m = nP M := by omega
    subst e
    exact ⟨fre, h, fun k => by rw [f_Pairs_gatherFree_L7, if_pos ((mn_le (by omega) (by omega)).mpr (Nat.le_refl _))]; rfl⟩
  | succ d ih =>
    intro n m fre hm hn h
    obtain ⟨n, rfl⟩ : ∃ q, n = q + 1 := ⟨n - 1, by omega⟩
    have hlt : ¬ nI (nP M) ≤ nI m := fun h => by have := (mn_le (by omega) (by omega)).mp h; omega
    have hmn : m < nP M := by omega
    have hp := pw_lt hM hmn
    have hfc := fc_le (M := M) m
    obtain ⟨-, -, a3, -⟩ := hA m hmn
    have e1 : (han (pw M m) = nI m) ↔ hN M (pw M m) = m := by
      rw [hH _ hp, toI]
      have := hg_lt (M := M) (p := pw M m) (nP M)
      show _ ↔ hg M (nP M) (pw M m) = m
      by_cases e : hg M (nP M) (pw M m) = 99
      · rw [if_pos e]
        constructor
        · intro h'; exact absurd h'.symm (by rw [mq_m1 (by omega)]; exact id)
        · intro h'; omega
      · rw [if_neg e, mn_eq (by omega) (by omega)]
    have e2 : fr M m = true ↔ ¬ hN M (pw M m) = m := by
      simp only [fr, Bool.not_eq_true', ← Bool.not_eq_true]
      exact ⟨fun h' e => h' (by rw [e]; exact Nat.beq_refl m), fun h' e => h' (Nat.eq_of_beq_eq_true e)⟩
    by_cases hf : fr M m = true
    · have e3 : fc M m + 1 = fc M (m + 1) := by rw [fc, if_pos hf]
      obtain ⟨fre', r1, r2⟩ := ih n (m + 1) (upd fre (fc M m) (nI m)) (by omega) (by omega) (fun r hr hfr => by
        by_cases e : r = m
        · subst e; exact up_eq
        · rw [up_ne (by have := fc_lt (M := M) (show r < m by omega) hfr; omega)]
          exact h r (by omega) hfr)
      refine ⟨fre', r1, fun k => ?_⟩
      rw [f_Pairs_gatherFree_L7, if_neg hlt]
      simp (disch := omega) only [mq_n0, mn_cl, mq_no, false_or, ↓reduceIte, mq_1, a3]
      rw [if_neg (fun h' => e2.mp hf (e1.mp h')), e3, r2]
    · have e3 : fc M m = fc M (m + 1) := by rw [fc, if_neg hf]; rfl
      obtain ⟨fre', r1, r2⟩ := ih n (m + 1) fre (by omega) (by omega) (fun r hr hfr => by
        by_cases e : r = m
        · subst e; exact absurd hfr hf
        · exact h r (by omega) hfr)
      refine ⟨fre', r1, fun k => ?_⟩
      rw [f_Pairs_gatherFree_L7, if_neg hlt]
      simp (disch := omega) only [mq_n0, mn_cl, mq_no, false_or, ↓reduceIte, mq_1, a3]
      rw [if_pos (e1.mpr (Classical.byContradiction (fun h' => hf (e2.mpr h')))), e3, r2]
theorem me_arrange {M : Nat} (hM : M < 64) {mem : Nat → Int32} (hm : memC M mem) (sec cel pow sha han fre : Nat → Int32) : ∃ sec' cel' pow' sha' han' fre', PAr M (nP M) sec' cel' pow' sha' ∧ PH M (nP M) han' ∧ PF M fre' ∧ f_Pairs_arrange sec cel pow sha han fre (nI (mlen M)) mem = some (nI (nP M), nI (FF M), sec', cel', pow', sha', han', fre') := by
  have hl := mlen_le M hM
  have hl2 := nP_le hM
  have z := (idx_end (mlen M) (by omega)).1
  obtain ⟨sec', cel', pow', sha', han', r1, r2, r3⟩ := ml_arr1 hM hm (mlen M) 40 0 sec cel pow sha (fl 15 0 (-1) han) (by omega) (by omega) (by rw [z]; exact fun m h => absurd h (by omega)) (by
    rw [z]
    intro p hp
    simp only [fl]
    rw [if_pos (by omega)]
    rfl)
  rw [z] at r3
  have r3' : ∀ k, f_Pairs_arrange_L15 (nI (mlen M)) mem 40 0 0 sec cel pow sha (fl 15 0 (-1) han) k = k (nI (nP M)) sec' cel' pow' sha' han' := r3
  obtain ⟨fre', q1, q2⟩ := ml_gfree hM r1 r2 (nP M) 40 0 fre (by omega) (by omega) (fun r h => absurd h (by omega))
  have q2' : ∀ k, f_Pairs_gatherFree_L7 (nI (nP M)) pow' han' 40 0 0 fre k = k (nI (FF M)) fre' := q2
  refine ⟨sec', cel', pow', sha', han', fre', r1, r2, q1, ?_⟩
  rw [f_Pairs_arrange, me_fill15, Option.bind_some, r3', f_Pairs_gatherFree, q2', Option.bind_some]
