-- MATHEMATICS 8: a table makes the polynomial: both sides add up the same
def sf (f : Nat → Int32) : Nat → Nat → Int32
  | _, 0 => 0
  | a, d + 1 => f a + sf f (a + 1) d
theorem sf_congr {f g : Nat → Int32} : ∀ d a, (∀ x, a ≤ x → x < a + d → f x = g x) → sf f a d = sf g a d := by
  intro d
  induction d with
  | zero => intro a _; rfl
  | succ d ih =>
    intro a h
    rw [sf, sf, h a (by omega) (by omega), ih (a + 1) (fun x h1 h2 => h x (by omega) (by omega))]
theorem sf_zero {f : Nat → Int32} : ∀ d a, (∀ x, a ≤ x → x < a + d → f x = 0) → sf f a d = 0 := by
  intro d
  induction d with
  | zero => intro a _; rfl
  | succ d ih =>
    intro a h
    rw [sf, h a (by omega) (by omega), ih (a + 1) (fun x h1 h2 => h x (by omega) (by omega))]; rfl
theorem sym0 (g : Nat → Nat → Int32) (h : ∀ i j, g i j = g j i) : sf (fun i => sf (g i) 0 0) 0 0 = sf (fun n => (if pi_ 0 n = pj_ 0 n then 1 else 2) * g (pi_ 0 n) (pj_ 0 n)) 0 (np 0) := by
  have e : sf (fun n => (if pi_ 0 n = pj_ 0 n then 1 else 2) * g (pi_ 0 n) (pj_ 0 n)) 0 (np 0) = 0 := rfl
  rw [e]
  simp only [sf]
theorem sym1 (g : Nat → Nat → Int32) (h : ∀ i j, g i j = g j i) : sf (fun i => sf (g i) 0 1) 0 1 = sf (fun n => (if pi_ 1 n = pj_ 1 n then 1 else 2) * g (pi_ 1 n) (pj_ 1 n)) 0 (np 1) := by
  have e : sf (fun n => (if pi_ 1 n = pj_ 1 n then 1 else 2) * g (pi_ 1 n) (pj_ 1 n)) 0 (np 1) = (1 * g 0 0 + 0) := rfl
  rw [e]
  simp only [sf]
  grind
theorem sym2 (g : Nat → Nat → Int32) (h : ∀ i j, g i j = g j i) : sf (fun i => sf (g i) 0 2) 0 2 = sf (fun n => (if pi_ 2 n = pj_ 2 n then 1 else 2) * g (pi_ 2 n) (pj_ 2 n)) 0 (np 2) := by
  have e : sf (fun n => (if pi_ 2 n = pj_ 2 n then 1 else 2) * g (pi_ 2 n) (pj_ 2 n)) 0 (np 2) = (1 * g 0 0 + (2 * g 0 1 + (1 * g 1 1 + 0))) := rfl
  rw [e]
  simp only [sf]
  rw [h 1 0]
  grind
theorem sym3 (g : Nat → Nat → Int32) (h : ∀ i j, g i j = g j i) : sf (fun i => sf (g i) 0 3) 0 3 = sf (fun n => (if pi_ 3 n = pj_ 3 n then 1 else 2) * g (pi_ 3 n) (pj_ 3 n)) 0 (np 3) := by
  have e : sf (fun n => (if pi_ 3 n = pj_ 3 n then 1 else 2) * g (pi_ 3 n) (pj_ 3 n)) 0 (np 3) = (1 * g 0 0 + (2 * g 0 1 + (2 * g 0 2 + (1 * g 1 1 + (2 * g 1 2 + (1 * g 2 2 + 0)))))) := rfl
  rw [e]
  simp only [sf]
  rw [h 1 0, h 2 0, h 2 1]
  grind
theorem sym4 (g : Nat → Nat → Int32) (h : ∀ i j, g i j = g j i) : sf (fun i => sf (g i) 0 4) 0 4 = sf (fun n => (if pi_ 4 n = pj_ 4 n then 1 else 2) * g (pi_ 4 n) (pj_ 4 n)) 0 (np 4) := by
  have e : sf (fun n => (if pi_ 4 n = pj_ 4 n then 1 else 2) * g (pi_ 4 n) (pj_ 4 n)) 0 (np 4) = (1 * g 0 0 + (2 * g 0 1 + (2 * g 0 2 + (2 * g 0 3 + (1 * g 1 1 + (2 * g 1 2 + (2 * g 1 3 + (1 * g 2 2 + (2 * g 2 3 + (1 * g 3 3 + 0)))))))))) := rfl
  rw [e]
  simp only [sf]
  rw [h 1 0, h 2 0, h 2 1, h 3 0, h 3 1, h 3 2]
  grind
theorem sym5 (g : Nat → Nat → Int32) (h : ∀ i j, g i j = g j i) : sf (fun i => sf (g i) 0 5) 0 5 = sf (fun n => (if pi_ 5 n = pj_ 5 n then 1 else 2) * g (pi_ 5 n) (pj_ 5 n)) 0 (np 5) := by
  have e : sf (fun n => (if pi_ 5 n = pj_ 5 n then 1 else 2) * g (pi_ 5 n) (pj_ 5 n)) 0 (np 5) = (1 * g 0 0 + (2 * g 0 1 + (2 * g 0 2 + (2 * g 0 3 + (2 * g 0 4 + (1 * g 1 1 + (2 * g 1 2 + (2 * g 1 3 + (2 * g 1 4 + (1 * g 2 2 + (2 * g 2 3 + (2 * g 2 4 + (1 * g 3 3 + (2 * g 3 4 + (1 * g 4 4 + 0))))))))))))))) := rfl
  rw [e]
  simp only [sf]
  rw [h 1 0, h 2 0, h 2 1, h 3 0, h 3 1, h 3 2, h 4 0, h 4 1, h 4 2, h 4 3]
  grind
theorem sym6 (g : Nat → Nat → Int32) (h : ∀ i j, g i j = g j i) : sf (fun i => sf (g i) 0 6) 0 6 = sf (fun n => (if pi_ 6 n = pj_ 6 n then 1 else 2) * g (pi_ 6 n) (pj_ 6 n)) 0 (np 6) := by
  have e : sf (fun n => (if pi_ 6 n = pj_ 6 n then 1 else 2) * g (pi_ 6 n) (pj_ 6 n)) 0 (np 6) = (1 * g 0 0 + (2 * g 0 1 + (2 * g 0 2 + (2 * g 0 3 + (2 * g 0 4 + (2 * g 0 5 + (1 * g 1 1 + (2 * g 1 2 + (2 * g 1 3 + (2 * g 1 4 + (2 * g 1 5 + (1 * g 2 2 + (2 * g 2 3 + (2 * g 2 4 + (2 * g 2 5 + (1 * g 3 3 + (2 * g 3 4 + (2 * g 3 5 + (1 * g 4 4 + (2 * g 4 5 + (1 * g 5 5 + 0))))))))))))))))))))) := rfl
  rw [e]
  simp only [sf]
  rw [h 1 0, h 2 0, h 2 1, h 3 0, h 3 1, h 3 2, h 4 0, h 4 1, h 4 2, h 4 3, h 5 0, h 5 1, h 5 2, h 5 3, h 5 4]
  grind
theorem symS (s : Nat) (hs : s < 7) (g : Nat → Nat → Int32) (h : ∀ i j, g i j = g j i) : sf (fun i => sf (g i) 0 s) 0 s = sf (fun n => (if pi_ s n = pj_ s n then 1 else 2) * g (pi_ s n) (pj_ s n)) 0 (np s) := by
  have : s = 0 ∨ s = 1 ∨ s = 2 ∨ s = 3 ∨ s = 4 ∨ s = 5 ∨ s = 6 := by omega
  rcases this with e | e | e | e | e | e | e <;> subst e
  · exact sym0 g h
  · exact sym1 g h
  · exact sym2 g h
  · exact sym3 g h
  · exact sym4 g h
  · exact sym5 g h
  · exact sym6 g h
/-- the tables of both sides -/
def TR (ct mt : Nat → Int32) : Prop := ∀ i j, i ≤ j → j < 6 → mt (6 * i + j) = ct (6 * i + j) ∧ mt (6 * j + i) = ct (6 * i + j)
def cc (M : Nat) (tbl : Nat → Int32) (p n : Nat) : Int32 := if pw M n = p then (if pI M n = pJ M n then 1 else 2) * tbl (6 * pI M n + pJ M n) else 0
def SC (M : Nat) (tbl : Nat → Int32) (p : Nat) : Int32 := sf (cc M tbl p) 0 (nP M)
def gg (M : Nat) (t : Nat → Int32) (p i j : Nat) : Int32 := if prd (mat M i) (mat M j) = p then t (6 * i + j) else 0
def SM (M : Nat) (t : Nat → Int32) (p : Nat) : Int32 := sf (fun i => sf (gg M t p i) 0 (mlen M)) 0 (mlen M)
theorem prd_comm (m q : Nat) : prd m q = prd q m := by
  simp only [prd]
  rw [Nat.add_comm (nA m), Nat.add_comm (nB m)]
theorem SM_SC {M : Nat} (hM : M < 64) {ct mt : Nat → Int32} (hT : TR ct mt) (p : Nat) : SM M mt p = SC M ct p := by
  have hl := mlen_le M hM
  have key := symS (mlen M) (by omega) (fun i j => if i < 6 ∧ j < 6 then gg M mt p i j else 0) (by
    intro i j
    simp only [gg]
    by_cases h : i < 6 ∧ j < 6
    · rw [if_pos h, if_pos (show j < 6 ∧ i < 6 from ⟨h.2, h.1⟩), prd_comm (mat M j)]
      have : mt (6 * i + j) = mt (6 * j + i) := by
        rcases Nat.le_total i j with e | e
        · rw [(hT i j e h.2).1, (hT i j e h.2).2]
        · rw [(hT j i e h.1).1, (hT j i e h.1).2]
      rw [this]
    · rw [if_neg h, if_neg (show ¬ (j < 6 ∧ i < 6) from fun h' => h ⟨h'.2, h'.1⟩)])
  have e1 : SM M mt p = sf (fun i => sf (fun j => if i < 6 ∧ j < 6 then gg M mt p i j else 0) 0 (mlen M)) 0 (mlen M) := by
    rw [SM]
    refine sf_congr _ _ (fun i _ hi => ?_)
    refine sf_congr _ _ (fun j _ hj => ?_)
    rw [if_pos (by omega)]
  rw [e1]
  refine key.trans ?_
  rw [SC]
  refine sf_congr _ _ (fun n _ hn => ?_)
  obtain ⟨a, b, -⟩ := pI_ok hM (show n < nP M by have : nP M = np (mlen M) := rfl; omega)
  show (if pI M n = pJ M n then 1 else 2) * (if pI M n < 6 ∧ pJ M n < 6 then gg M mt p (pI M n) (pJ M n) else 0) = cc M ct p n
  rw [if_pos (show pI M n < 6 ∧ pJ M n < 6 from ⟨by omega, by omega⟩), gg, cc, pw, (hT _ _ a (by omega)).1]
  by_cases h : prd (mat M (pI M n)) (mat M (pJ M n)) = p
  · rw [if_pos h, if_pos h]
  · rw [if_neg h, if_neg h, Int32.mul_zero]
-- the class
theorem ml_dbl (num : Nat → Int32) : ∀ (d n i : Nat) (f : Nat → Int32), i + d = 15 → d < n → ∃ f', ((∀ p, i ≤ p → p < 15 → f' p = 2 * num p) ∧ (∀ p, p < i → f' p = f p)) ∧ ∀ k, f_Pairs_doubleInto_L2 num n (nI i) f k = k f' := by
  intro d
  induction d with
  | zero =>
    intro n i f hi hn
    obtain ⟨n, rfl⟩ : ∃ q, n = q + 1 := ⟨n - 1, by omega⟩
    have e : i = 15 := by omega
    subst e
    exact ⟨f, ⟨fun p h1 h2 => by omega, fun p _ => rfl⟩, fun k => by rw [f_Pairs_doubleInto_L2, if_pos (by decide)]⟩
  | succ d ih =>
    intro n i f hi hn
    obtain ⟨n, rfl⟩ : ∃ q, n = q + 1 := ⟨n - 1, by omega⟩
    obtain ⟨f', ⟨a1, a2⟩, a3⟩ := ih n (i + 1) (upd f i (2 * num i)) (by omega) (by omega)
    refine ⟨f', ⟨fun p h1 h2 => ?_, fun p hp => by rw [a2 p (by omega), up_ne (by omega)]⟩, fun k => ?_⟩
    · by_cases e : p = i
      · subst e; rw [a2 p (by omega), up_eq]
      · exact a1 p (by omega) h2
    · rw [f_Pairs_doubleInto_L2]
      simp (disch := omega) only [mq_l15, mq_n0, mn_cl, mq_no, false_or, ↓reduceIte, mq_1]
      exact a3 k
theorem me_dbl (f num : Nat → Int32) : ∃ f', (∀ p, p < 15 → f' p = 2 * num p) ∧ f_Pairs_doubleInto f num = some f' := by
  obtain ⟨f', ⟨a1, -⟩, a3⟩ := ml_dbl num 15 40 0 f (by omega) (by omega)
  have a3' : ∀ k, f_Pairs_doubleInto_L2 num 40 0 f k = k f' := a3
  exact ⟨f', fun p hp => a1 p (by omega) hp, by rw [f_Pairs_doubleInto, a3']⟩
theorem ml_mk1 {M : Nat} (hM : M < 64) {sec cel pow sha : Nat → Int32} (hA : PAr M (nP M) sec cel pow sha) (tbl : Nat → Int32) : ∀ (d n m : Nat) (rest : Nat → Int32), m + d = nP M → d < n → ∃ rest', (∀ p, p < 15 → rest' p = rest p - sf (cc M tbl p) m d) ∧ ∀ k, f_Pairs_make_L10 (nI (nP M)) cel pow sha tbl n (nI m) rest k = k rest' := by
  have hl := nP_le hM
  have hl6 := mlen_le M hM
  intro d
  induction d with
  | zero =>
    intro n m rest hm hn
    obtain ⟨n, rfl⟩ : ∃ q, n = q + 1 := ⟨n - 1, by omega⟩
    have e : m = nP M := by omega
    subst e
    exact ⟨rest, fun p _ => by rw [sf, Int32.sub_zero], fun k => by rw [f_Pairs_make_L10, if_pos ((mn_le (by omega) (by omega)).mpr (Nat.le_refl _))]⟩
  | succ d ih =>
    intro n m rest hm hn
    obtain ⟨n, rfl⟩ : ∃ q, n = q + 1 := ⟨n - 1, by omega⟩
    have hlt : ¬ nI (nP M) ≤ nI m := fun h => by have := (mn_le (by omega) (by omega)).mp h; omega
    have hmn : m < nP M := by omega
    obtain ⟨-, c2, c3, c4⟩ := hA m hmn
    obtain ⟨p1, p2, -⟩ := pI_ok hM hmn
    have hpw := pw_lt hM hmn
    obtain ⟨rest', a1, a2⟩ := ih n (m + 1) (upd rest (pw M m) (rest (pw M m) - nI (if pI M m = pJ M m then 1 else 2) * tbl (6 * pI M m + pJ M m))) (by omega) (by omega)
    refine ⟨rest', fun p hp => ?_, fun k => ?_⟩
    · rw [a1 p hp, sf]
      have hc : nI (if pI M m = pJ M m then 1 else 2) = (if pI M m = pJ M m then 1 else 2 : Int32) := by split <;> rfl
      by_cases e : p = pw M m
      · subst e
        rw [up_eq, hc, show cc M tbl (pw M m) m = (if pI M m = pJ M m then 1 else 2) * tbl (6 * pI M m + pJ M m) from if_pos rfl]
        grind
      · rw [up_ne e, show cc M tbl p m = 0 from if_neg (fun h => e h.symm)]
        grind
    · rw [f_Pairs_make_L10, if_neg hlt]
      simp (disch := omega) only [mq_n0, mn_cl, mq_no, false_or, ↓reduceIte, mq_1, c2, c3, c4]
      exact a2 k
theorem ml_mk2 (rest : Nat → Int32) : ∀ (d n i : Nat), i + d = 15 → d < n → ((∀ p, i ≤ p → p < 15 → rest p = 0) ∧ ∀ k, f_Pairs_make_L55 rest n (nI i) k = k ()) ∨ (¬ (∀ p, i ≤ p → p < 15 → rest p = 0) ∧ ∀ k, f_Pairs_make_L55 rest n (nI i) k = some (0, rest)) := by
  intro d
  induction d with
  | zero =>
    intro n i hi hn
    obtain ⟨n, rfl⟩ : ∃ q, n = q + 1 := ⟨n - 1, by omega⟩
    have e : i = 15 := by omega
    subst e
    exact Or.inl ⟨fun p h1 h2 => by omega, fun k => by rw [f_Pairs_make_L55, if_pos (by decide)]⟩
  | succ d ih =>
    intro n i hi hn
    obtain ⟨n, rfl⟩ : ∃ q, n = q + 1 := ⟨n - 1, by omega⟩
    simp (disch := omega) only [f_Pairs_make_L55, mq_l15, mq_n0, mn_cl, mq_no, false_or, ↓reduceIte, mq_1]
    by_cases h0 : rest i = 0
    · simp only [if_pos h0]
      rcases ih n (i + 1) (by omega) (by omega) with ⟨a, b⟩ | ⟨a, b⟩
      · refine Or.inl ⟨fun p h1 h2 => ?_, b⟩
        by_cases e : p = i
        · subst e; exact h0
        · exact a p (by omega) h2
      · exact Or.inr ⟨fun h => a (fun p h1 h2 => h p (by omega) h2), b⟩
    · simp only [if_neg h0]
      exact Or.inr ⟨fun h => h0 (h i (Nat.le_refl _) (by omega)), fun _ => by trivial⟩
theorem me_mkC {M : Nat} (hM : M < 64) {sec cel pow sha : Nat → Int32} (hA : PAr M (nP M) sec cel pow sha) (rest tbl num : Nat → Int32) : ∃ rest', ((∀ p, p < 15 → SC M tbl p = 2 * num p) ∧ f_Pairs_make (nI (nP M)) cel pow sha rest tbl num = some (1, rest')) ∨ (¬ (∀ p, p < 15 → SC M tbl p = 2 * num p) ∧ f_Pairs_make (nI (nP M)) cel pow sha rest tbl num = some (0, rest')) := by
  have hl := nP_le hM
  obtain ⟨r1, a1, a2⟩ := me_dbl rest num
  obtain ⟨r2, b1, b2⟩ := ml_mk1 hM hA tbl (nP M) 40 0 r1 (by omega) (by omega)
  have b2' : ∀ k, f_Pairs_make_L10 (nI (nP M)) cel pow sha tbl 40 0 r1 k = k r2 := b2
  have e : (∀ p, 0 ≤ p → p < 15 → r2 p = 0) ↔ (∀ p, p < 15 → SC M tbl p = 2 * num p) := by
    constructor
    · intro h p hp
      have := h p (by omega) hp
      rw [b1 p hp, a1 p hp] at this
      show sf (cc M tbl p) 0 (nP M) = _
      grind
    · intro h p _ hp
      rw [b1 p hp, a1 p hp, ← h p hp, SC]
      grind
  refine ⟨r2, ?_⟩
  rw [f_Pairs_make, a2, Option.bind_some, b2', ← e]
  rcases ml_mk2 r2 15 40 0 (by omega) (by omega) with ⟨c1, c2⟩ | ⟨c1, c2⟩
  · have c2' : ∀ k, f_Pairs_make_L55 r2 40 0 k = k () := c2
    rw [c2']
    exact Or.inl ⟨c1, rfl⟩
  · have c2' : ∀ k, f_Pairs_make_L55 r2 40 0 k = some (0, r2) := c2
    rw [c2']
    exact Or.inr ⟨c1, rfl⟩
-- the model
theorem ml_ms3 {U M : Nat} (hMU : MU U M) {bas : Nat → Int32} (hb : memM U M bas) (t : Nat → Int32) {q : Nat} (hq : q < PU U) {i : Nat} (hi : i < mlen M) : ∀ (d n j : Nat) (acc : Int32), j + d = mlen M → d < n → ∀ k, f_Mo_makes_L30 (nI i) (nI q) (nI (PU U)) (nI (mlen M)) (mF U) (mS U) bas t n (nI j) acc k = k (acc + sf (gg M t (cl U q) i) j d) := by
  have hl := mlen_le M hMU.1
  have hP := PU_le U
  intro d
  induction d with
  | zero =>
    intro n j acc hj hn k
    obtain ⟨n, rfl⟩ : ∃ q, n = q + 1 := ⟨n - 1, by omega⟩
    rw [f_Mo_makes_L30, if_pos ((mn_le (by omega) (by omega)).mpr (by omega)), sf, Int32.add_zero]
  | succ d ih =>
    intro n j acc hj hn k
    obtain ⟨n, rfl⟩ : ∃ q, n = q + 1 := ⟨n - 1, by omega⟩
    have hlt : ¬ nI (mlen M) ≤ nI j := fun h => by have := (mn_le (by omega) (by omega)).mp h; omega
    have hjl : j < mlen M := by omega
    obtain ⟨y1, y2, y3⟩ := me_prod hMU hb hi hjl
    rw [f_Mo_makes_L30, if_neg hlt, y1, Option.bind_some, mq_6]
    simp (disch := omega) only [mq_n0, mn_cl, mq_no, false_or, ↓reduceIte, mq_1, mq_eq]
    rw [ih n (j + 1) _ (by omega) (by omega), ih n (j + 1) _ (by omega) (by omega), sf]
    by_cases e : prd (mat M i) (mat M j) = cl U q
    · rw [if_pos (by rw [← y3] at e; exact cl_inj y2 hq e), show gg M t (cl U q) i j = t (6 * i + j) from if_pos e, Int32.add_assoc]
    · rw [if_neg (fun h => e (by rw [← h, y3])), show gg M t (cl U q) i j = 0 from if_neg e, Int32.add_assoc]
theorem ml_ms2 {U M : Nat} (hMU : MU U M) {bas : Nat → Int32} (hb : memM U M bas) (t : Nat → Int32) {q : Nat} (hq : q < PU U) : ∀ (d n i : Nat) (acc : Int32), i + d = mlen M → d < n → ∀ k, f_Mo_makes_L18 (nI q) (nI (PU U)) (nI (mlen M)) (mF U) (mS U) bas t n (nI i) acc k = k (acc + sf (fun i => sf (gg M t (cl U q) i) 0 (mlen M)) i d) := by
  have hl := mlen_le M hMU.1
  intro d
  induction d with
  | zero =>
    intro n i acc hi hn k
    obtain ⟨n, rfl⟩ : ∃ q, n = q + 1 := ⟨n - 1, by omega⟩
    rw [f_Mo_makes_L18, if_pos ((mn_le (by omega) (by omega)).mpr (by omega)), sf, Int32.add_zero]
  | succ d ih =>
    intro n i acc hi hn k
    obtain ⟨n, rfl⟩ : ∃ q, n = q + 1 := ⟨n - 1, by omega⟩
    have hlt : ¬ nI (mlen M) ≤ nI i := fun h => by have := (mn_le (by omega) (by omega)).mp h; omega
    have a := ml_ms3 hMU hb t hq (show i < mlen M by omega) (mlen M) 40 0 acc (by omega) (by omega)
    have a' : ∀ k, f_Mo_makes_L30 (nI i) (nI q) (nI (PU U)) (nI (mlen M)) (mF U) (mS U) bas t 40 0 acc k = k (acc + sf (gg M t (cl U q) i) 0 (mlen M)) := a
    rw [f_Mo_makes_L18, if_neg hlt, a', mq_1, ih n (i + 1) _ (by omega) (by omega), sf, Int32.add_assoc]
theorem ml_ms1 {U M : Nat} (hMU : MU U M) {bas : Nat → Int32} (hb : memM U M bas) (t mn : Nat → Int32) : ∀ (d n q : Nat) (b : Int32), q + d = PU U → d < n → (b = 0 ∨ b = 1) → ∃ b' : Int32, (b' = 0 ∨ b' = 1) ∧ (b' = 1 ↔ b = 1 ∧ ∀ r, q ≤ r → r < PU U → SM M t (cl U r) = 2 * mn r) ∧ ∀ k, f_Mo_makes_L4 (nI (PU U)) (nI (mlen M)) (mF U) (mS U) mn bas t n (nI q) b k = k b' := by
  have hl := mlen_le M hMU.1
  have hP := PU_le U
  intro d
  induction d with
  | zero =>
    intro n q b hq hn hb01
    obtain ⟨n, rfl⟩ : ∃ q, n = q + 1 := ⟨n - 1, by omega⟩
    refine ⟨b, hb01, ⟨fun h => ⟨h, fun r h1 h2 => by omega⟩, fun h => h.1⟩, fun k => by rw [f_Mo_makes_L4, if_pos ((mn_le (by omega) (by omega)).mpr (by omega))]⟩
  | succ d ih =>
    intro n q b hq hn hb01
    obtain ⟨n, rfl⟩ : ∃ q, n = q + 1 := ⟨n - 1, by omega⟩
    have hlt : ¬ nI (PU U) ≤ nI q := fun h => by have := (mn_le (by omega) (by omega)).mp h; omega
    have a := ml_ms2 hMU hb t (show q < PU U by omega) (mlen M) 40 0 0 (by omega) (by omega)
    have a' : ∀ k, f_Mo_makes_L18 (nI q) (nI (PU U)) (nI (mlen M)) (mF U) (mS U) bas t 40 0 0 k = k (SM M t (cl U q)) := by
      intro k
      have := a k
      rw [Int32.zero_add] at this
      exact this
    have hstep : ∀ b1 : Int32, (b1 = 0 ∨ b1 = 1) → (b1 = 1 ↔ b = 1 ∧ SM M t (cl U q) = 2 * mn q) → (∀ k, f_Mo_makes_L4 (nI (PU U)) (nI (mlen M)) (mF U) (mS U) mn bas t (n + 1) (nI q) b k = f_Mo_makes_L4 (nI (PU U)) (nI (mlen M)) (mF U) (mS U) mn bas t n (nI (q + 1)) b1 k) → ∃ b' : Int32, (b' = 0 ∨ b' = 1) ∧ (b' = 1 ↔ b = 1 ∧ ∀ r, q ≤ r → r < PU U → SM M t (cl U r) = 2 * mn r) ∧ ∀ k, f_Mo_makes_L4 (nI (PU U)) (nI (mlen M)) (mF U) (mS U) mn bas t (n + 1) (nI q) b k = k b' := by
      intro b1 h1 h2 h3
      obtain ⟨b', g1, g2, g3⟩ := ih n (q + 1) b1 (by omega) (by omega) h1
      refine ⟨b', g1, ?_, fun k => by rw [h3, g3]⟩
      rw [g2, h2]
      constructor
      · rintro ⟨⟨x, y⟩, z⟩
        refine ⟨x, fun r r1 r2 => ?_⟩
        by_cases e : r = q
        · subst e; exact y
        · exact z r (by omega) r2
      · rintro ⟨x, z⟩
        exact ⟨⟨x, z q (Nat.le_refl _) (by omega)⟩, fun r r1 r2 => z r (by omega) r2⟩
    rcases hb01 with e | e
    · subst e
      refine hstep 0 (Or.inl rfl) ⟨fun h => absurd h i_01, fun h => absurd h.1 i_01⟩ (fun k => ?_)
      rw [f_Mo_makes_L4, if_neg hlt, a', if_pos rfl, mq_1]
    · subst e
      by_cases c : SM M t (cl U q) = 2 * mn q
      · refine hstep 1 (Or.inr rfl) ⟨fun _ => ⟨rfl, c⟩, fun _ => rfl⟩ (fun k => ?_)
        rw [f_Mo_makes_L4, if_neg hlt, a', if_neg i_10]
        simp (disch := omega) only [mq_n0, mn_cl, mq_no, false_or, ↓reduceIte, mq_1, c]
      · refine hstep 0 (Or.inl rfl) ⟨fun h => absurd h i_01, fun h => absurd h.2 c⟩ (fun k => ?_)
        rw [f_Mo_makes_L4, if_neg hlt, a', if_neg i_10]
        simp (disch := omega) only [mq_n0, mn_cl, mq_no, false_or, ↓reduceIte, mq_1]
        rw [if_neg c]
theorem me_makes {U M : Nat} (hMU : MU U M) {bas : Nat → Int32} (hb : memM U M bas) (t mn : Nat → Int32) : ((∀ r, r < PU U → SM M t (cl U r) = 2 * mn r) ∧ f_Mo_makes (nI (PU U)) (nI (mlen M)) (mF U) (mS U) mn bas t = some 1) ∨ (¬ (∀ r, r < PU U → SM M t (cl U r) = 2 * mn r) ∧ f_Mo_makes (nI (PU U)) (nI (mlen M)) (mF U) (mS U) mn bas t = some 0) := by
  have hP := PU_le U
  obtain ⟨b, h1, h2, h3⟩ := ml_ms1 hMU hb t mn (PU U) 40 0 1 (by omega) (by omega) (Or.inr rfl)
  have h3' : ∀ k, f_Mo_makes_L4 (nI (PU U)) (nI (mlen M)) (mF U) (mS U) mn bas t 40 0 1 k = k b := h3
  rw [f_Mo_makes, h3']
  rcases h1 with e | e
  · subst e
    refine Or.inr ⟨fun h => i_01 (h2.mpr ⟨rfl, fun r _ hr => h r hr⟩), rfl⟩
  · subst e
    exact Or.inl ⟨fun r hr => (h2.mp rfl).2 r (by omega) hr, rfl⟩
/-- no pair has a power that the model doesn't know -/
theorem pw_cl {U M n : Nat} (hMU : MU U M) (hn : n < nP M) : ∃ q, q < PU U ∧ cl U q = pw M n := by
  obtain ⟨a, b, -⟩ := pI_ok hMU.1 hn
  obtain ⟨-, y2, y3⟩ := me_prod hMU (bas := fun k => nI (ci U (mat M k))) (fun k _ => rfl) (show pI M n < mlen M by omega) b
  exact ⟨_, y2, y3⟩
theorem me_make {U M : Nat} (hMU : MU U M) {bas : Nat → Int32} (hb : memM U M bas) {cn mn : Nat → Int32} (hN : NR U cn mn) {sec cel pow sha : Nat → Int32} (hA : PAr M (nP M) sec cel pow sha) {ct mt : Nat → Int32} (hT : TR ct mt) (rest : Nat → Int32) : ∃ (b : Int32) (rest' : Nat → Int32), (b = 0 ∨ b = 1) ∧ f_Pairs_make (nI (nP M)) cel pow sha rest ct cn = some (b, rest') ∧ f_Mo_makes (nI (PU U)) (nI (mlen M)) (mF U) (mS U) mn bas mt = some b := by
  have e : (∀ p, p < 15 → SC M ct p = 2 * cn p) ↔ (∀ r, r < PU U → SM M mt (cl U r) = 2 * mn r) := by
    constructor
    · intro h r hr
      rw [SM_SC hMU.1 hT, h _ (cl_lt hr), hN.1 r hr]
    · intro h p hp
      by_cases hr : ∃ q, q < PU U ∧ cl U q = p
      · obtain ⟨q, h1, h2⟩ := hr
        subst h2
        rw [← SM_SC hMU.1 hT, h q h1, hN.1 q h1]
      · have h0 : cn p = 0 := Classical.byContradiction (fun h' => hr (hN.2 p hp h'))
        rw [h0, SC]
        refine sf_zero _ _ (fun n _ hn => if_neg (fun e => hr ?_))
        obtain ⟨q, h1, h2⟩ := pw_cl hMU (show n < nP M by omega)
        exact ⟨q, h1, by rw [h2, e]⟩
  obtain ⟨rest', h⟩ := me_mkC hMU.1 hA rest ct cn
  rcases h with ⟨h1, h2⟩ | ⟨h1, h2⟩
  · rcases me_makes hMU hb mt mn with ⟨g1, g2⟩ | ⟨g1, g2⟩
    · exact ⟨1, rest', Or.inr rfl, h2, g2⟩
    · exact absurd (e.mp h1) g1
  · rcases me_makes hMU hb mt mn with ⟨g1, g2⟩ | ⟨g1, g2⟩
    · exact absurd (e.mpr g1) h1
    · exact ⟨0, rest', Or.inl rfl, h2, g2⟩
