-- MATHEMATICS 14: tables told by a choice
theorem FF_le : ∀ M, M < 64 → FF M ≤ 6 := by decide +kernel
theorem frk_ok : ∀ M, M < 64 → ∀ f, f < FF M → frk M f < nP M ∧ fr M (frk M f) = true ∧ fc M (frk M f) = f ∧ ¬ pI M (frk M f) = pJ M (frk M f) := by decide +kernel
theorem frk_fc' : ∀ M, M < 64 → ∀ n, n < nP M → (fr M n = false ∨ (frk M (fc M n) = n ∧ fc M n < FF M)) := by decide +kernel
theorem frk_fc {M n : Nat} (hM : M < 64) (hn : n < nP M) (h : fr M n = true) : frk M (fc M n) = n ∧ fc M n < FF M := by
  rcases frk_fc' M hM n hn with h' | h'
  · rw [h] at h'; exact absurd h' (by decide)
  · exact h'
def cN (M n : Nat) : Nat := 6 * pI M n + pJ M n
theorem cN_lt {M n : Nat} (hM : M < 64) (hn : n < nP M) : cN M n < 36 := by
  obtain ⟨h1, h2, -⟩ := pI_ok hM hn
  have := mlen_le M hM
  unfold cN; omega
theorem cN_inj {M n n' : Nat} (hM : M < 64) (hn : n < nP M) (hn' : n' < nP M) (h : cN M n = cN M n') : n = n' := by
  obtain ⟨h1, h2, h3⟩ := pI_ok hM hn
  obtain ⟨h1', h2', h3'⟩ := pI_ok hM hn'
  have := mlen_le M hM
  unfold cN at h
  have e1 : pI M n = pI M n' := by omega
  have e2 : pJ M n = pJ M n' := by omega
  rw [← h3, ← h3', e1, e2]
theorem sf_snoc {f : Nat → Int32} : ∀ d a, sf f a (d + 1) = sf f a d + f (a + d) := by
  intro d
  induction d with
  | zero => intro a; simp only [sf, Nat.add_zero]; grind
  | succ d ih => intro a; rw [sf, ih (a + 1), sf, show a + 1 + d = a + (d + 1) by omega]; grind
/-- the sum of the chosen numbers of the first n free pairs for the power p -/
def sF (M : Nat) (ch : Nat → Int32) (p n : Nat) : Int32 := sf (fun f => if pw M (frk M f) = p then ch f else 0) 0 n
theorem sF_s {M : Nat} {ch : Nat → Int32} {p n : Nat} : sF M ch p (n + 1) = sF M ch p n + (if pw M (frk M n) = p then ch n else 0) := by
  unfold sF; rw [sf_snoc, Nat.zero_add]
def rr (M : Nat) (cn ch : Nat → Int32) (p : Nat) : Int32 := cn p - sF M ch p (FF M)
def hv (M : Nat) (cn ch : Nat → Int32) (p : Nat) : Int32 := if pI M (hN M p) = pJ M (hN M p) then 2 * rr M cn ch p else rr M cn ch p
def tv (M : Nat) (cn ch : Nat → Int32) (n : Nat) : Int32 := if fr M n = true then ch (fc M n) else hv M cn ch (pw M n)
def wi (x : Int32) : Prop := ¬ x < -30 ∧ ¬ 30 < x
def fit (M : Nat) (cn ch : Nat → Int32) : Prop := ∀ p, p < 15 → ¬ hN M p = 99 → wi (hv M cn ch p)
def TB (M : Nat) (cn ch : Nat → Int32) : Nat → Nat → Int64 := fun a c => (tv M cn ch (idx (mlen M) a c)).toInt64
def OK (M : Nat) (cn ch : Nat → Int32) : Prop := fit M cn ch ∧ good (TB M cn ch) (mlen M)
/-- the numbers are small -/
def sm (k : Nat) (x : Int32) : Prop := x.toInt.natAbs ≤ k
theorem sF_sm {M : Nat} {ch : Nat → Int32} {p : Nat} (hM : M < 64) (hc : ∀ f, f < FF M → sm 2 (ch f)) : ∀ n, n ≤ FF M → sm (2 * n) (sF M ch p n) := by
  have hF := FF_le M hM
  intro n
  induction n with
  | zero => intro _; exact Nat.le_refl _
  | succ n ih =>
    intro hn
    have h1 := ih (by omega)
    have h2 := hc n (by omega)
    rw [sF_s]
    unfold sm at *
    have h3 : (if pw M (frk M n) = p then ch n else 0).toInt.natAbs ≤ 2 := by
      split
      · exact h2
      · decide
    rw [Int32.toInt_add, Int.bmod_eq_of_le_mul_two] <;> omega
theorem rr_sm {M : Nat} {cn ch : Nat → Int32} {p : Nat} (hM : M < 64) (hn : sm 15 (cn p)) (hc : ∀ f, f < FF M → sm 2 (ch f)) : sm 27 (rr M cn ch p) := by
  have hF := FF_le M hM
  have h1 := sF_sm (p := p) hM hc (FF M) (Nat.le_refl _)
  unfold rr
  unfold sm at *
  rw [Int32.toInt_sub, Int.bmod_eq_of_le_mul_two] <;> omega
theorem half_ok : ∀ k, k < 55 → (2 * (nI k - 27)) / 2 = nI k - 27 := by decide +kernel
theorem sm_ex {x : Int32} {k : Nat} (h : sm k x) (hk : k < 100) : ∃ j, j < 2 * k + 1 ∧ x = nI j - nI k := by
  unfold sm at h
  refine ⟨(x.toInt + k).toNat, by omega, ?_⟩
  apply i_inj
  rw [Int32.toInt_sub, nI_toInt (by omega), nI_toInt (by omega), Int.bmod_eq_of_le_mul_two] <;> omega
theorem half {x : Int32} (h : sm 27 x) : (2 * x) / 2 = x := by
  obtain ⟨j, hj, rfl⟩ := sm_ex h (by omega)
  exact half_ok j (by omega)
