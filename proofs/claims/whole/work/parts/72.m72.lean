-- MATHEMATICS 12: how great the numbers of the steps get
def d3 (a b c d e f g h i : Int) : Int := a * (e * i - f * h) - b * (d * i - f * g) + c * (d * h - e * g)
def dm (t : Nat → Nat → Int) (p a c : Nat) : Int := t p p * t a c - t p a * t p c
def dn (t : Nat → Nat → Int) (p q a c : Nat) : Int := d3 (t p p) (t p q) (t p c) (t p q) (t q q) (t q c) (t p a) (t q a) (t a c)
def dr (t : Nat → Nat → Int) (p q u a c : Nat) : Int := t p p * d3 (t q q) (t q u) (t q c) (t q u) (t u u) (t u c) (t q a) (t u a) (t a c) - t p q * d3 (t p q) (t q u) (t q c) (t p u) (t u u) (t u c) (t p a) (t u a) (t a c) + t p u * d3 (t p q) (t q q) (t q c) (t p u) (t q u) (t u c) (t p a) (t q a) (t a c) - t p c * d3 (t p q) (t q q) (t q u) (t p u) (t q u) (t u u) (t p a) (t q a) (t u a)
theorem id3 (t : Nat → Nat → Int) (p q a c : Nat) : dm t p q q * dm t p a c - dm t p q a * dm t p q c = t p p * dn t p q a c := by
  unfold dn d3 dm
  generalize t p p = pp, t p q = pq, t p a = pa, t p c = pc, t q q = qq, t q a = qa, t q c = qc, t a c = ac
  grind
theorem id4 (t : Nat → Nat → Int) (p q u a c : Nat) : dn t p q u u * dn t p q a c - dn t p q u a * dn t p q u c = dm t p q q * dr t p q u a c := by
  unfold dn dr d3 dm
  generalize t p p = pp, t p q = pq, t p u = pu, t p a = pa, t p c = pc, t q q = qq, t q u = qu, t q a = qa, t q c = qc, t u u = uu, t u a = ua, t u c = uc, t a c = ac
  grind
theorem bmul {x y : Int} {X Y : Nat} (hx : x.natAbs ≤ X) (hy : y.natAbs ≤ Y) : (x * y).natAbs ≤ X * Y := by
  rw [Int.natAbs_mul]; exact Nat.mul_le_mul hx hy
theorem bsub {x y : Int} {X Y : Nat} (hx : x.natAbs ≤ X) (hy : y.natAbs ≤ Y) : (x - y).natAbs ≤ X + Y := by omega
theorem badd {x y : Int} {X Y : Nat} (hx : x.natAbs ≤ X) (hy : y.natAbs ≤ Y) : (x + y).natAbs ≤ X + Y := by omega
theorem b3 {a b c d e f g h i : Int} (ha : a.natAbs ≤ 30) (hb : b.natAbs ≤ 30) (hc : c.natAbs ≤ 30) (hd : d.natAbs ≤ 30) (he : e.natAbs ≤ 30) (hf : f.natAbs ≤ 30) (hg : g.natAbs ≤ 30) (hh : h.natAbs ≤ 30) (hi : i.natAbs ≤ 30) : (d3 a b c d e f g h i).natAbs ≤ 162000 :=
  badd (bsub (bmul ha (bsub (bmul he hi) (bmul hf hh))) (bmul hb (bsub (bmul hd hi) (bmul hf hg)))) (bmul hc (bsub (bmul hd hh) (bmul he hg)))
/-- one number of a step, when none of its numbers is great -/
theorem l_el {x y u v b : Int64} (hx : x.toInt.natAbs ≤ 2 ^ 30) (hy : y.toInt.natAbs ≤ 2 ^ 30) (hu : u.toInt.natAbs ≤ 2 ^ 30) (hv : v.toInt.natAbs ≤ 2 ^ 30) (hb : 0 < b) :
    ((x * y - u * v) / b).toInt = (x.toInt * y.toInt - u.toInt * v.toInt).tdiv b.toInt := by
  have h1 := bmul hx hy
  have h2 := bmul hu hv
  have e : (x * y - u * v).toInt = x.toInt * y.toInt - u.toInt * v.toInt := by
    rw [Int64.toInt_sub, Int64.toInt_mul, Int64.toInt_mul, Int.bmod_sub_bmod, Int.sub_bmod_bmod]
    apply Int.bmod_eq_of_le_mul_two <;> omega
  rw [Int64.toInt_div_of_ne_right _ _ (fun h => by rw [h] at hb; exact absurd hb (by decide)), e]
def BI (T : Nat → Nat → Int64) (s i : Nat) : Prop :=
  (∀ a c, i ≤ a → a ≤ c → c < s → (SA T i).1 a c = T a c) ∧ (SA T i).2 = 1 ∨
  (∃ p, p < i ∧ 1 ≤ i ∧ (SA T i).2.toInt = (T p p).toInt ∧ ∀ a c, i ≤ a → a ≤ c → c < s → ((SA T i).1 a c).toInt = dm (fun a c => (T a c).toInt) p a c) ∨
  (∃ p q, p < q ∧ q < i ∧ 2 ≤ i ∧ 0 < (T p p).toInt ∧ (SA T i).2.toInt = dm (fun a c => (T a c).toInt) p q q ∧ ∀ a c, i ≤ a → a ≤ c → c < s → ((SA T i).1 a c).toInt = dn (fun a c => (T a c).toInt) p q a c) ∨
  (∃ p q u, p < q ∧ q < u ∧ u < i ∧ 3 ≤ i ∧ ∀ a c, i ≤ a → a ≤ c → c < s → ((SA T i).1 a c).toInt = dr (fun a c => (T a c).toInt) p q u a c) ∨
  (4 ≤ i ∧ ∀ a c, i ≤ a → a ≤ c → c < s → ((SA T i).1 a c).toInt.natAbs ≤ 2 ^ 61)
theorem BI_all {T : Nat → Nat → Int64} {s : Nat} (hT : ∀ a c, a ≤ c → c < s → (T a c).toInt.natAbs ≤ 30) : ∀ i, i ≤ 4 → i ≤ s → (∀ j, j < i → okS T s j) → BI T s i := by
  intro i
  induction i with
  | zero => intro _ _ _; exact Or.inl ⟨fun a c _ _ _ => rfl, rfl⟩
  | succ i ih =>
    intro hi his ho
    have hI := ih (by omega) (by omega) (fun j hj => ho j (by omega))
    have hb := SA_pos (T := T) (s := s) i (fun j hj => ho j (by omega))
    have hb' : 0 < (SA T i).2.toInt := Int64.lt_iff_toInt_lt.mp hb
    by_cases h0 : (SA T i).1 i i = 0
    · have eA : SA T (i + 1) = SA T i := by rw [SA, if_pos h0]
      unfold BI
      rw [eA]
      rcases hI with ⟨h1, h2⟩ | ⟨p, h1, h2, h3, h4⟩ | ⟨p, q, h1, h2, h3, h4, h5, h6⟩ | ⟨p, q, u, h1, h2, h3, h4, h5⟩ | ⟨h1, h2⟩
      · exact Or.inl ⟨fun a c ha hac hc => h1 a c (by omega) hac hc, h2⟩
      · exact Or.inr (Or.inl ⟨p, by omega, by omega, h3, fun a c ha hac hc => h4 a c (by omega) hac hc⟩)
      · exact Or.inr (Or.inr (Or.inl ⟨p, q, h1, by omega, by omega, h4, h5, fun a c ha hac hc => h6 a c (by omega) hac hc⟩))
      · exact Or.inr (Or.inr (Or.inr (Or.inl ⟨p, q, u, h1, h2, by omega, by omega, fun a c ha hac hc => h5 a c (by omega) hac hc⟩)))
      · omega
    · have eA : SA T (i + 1) = (fun a c => if i < a then ((SA T i).1 i i * (SA T i).1 a c - (SA T i).1 i a * (SA T i).1 i c) / (SA T i).2 else (SA T i).1 a c, (SA T i).1 i i) := by rw [SA, if_neg h0]
      have hw : 0 < ((SA T i).1 i i).toInt := by
        have h1 := Int64.le_iff_toInt_le.mp (ho i (by omega)).1
        have h2 := l_z h0
        have z : (0 : Int64).toInt = 0 := rfl
        omega
      -- the numbers of the next step, when those of this one are small
      have hel : ∀ a c, i + 1 ≤ a → a ≤ c → c < s → (∀ a c, i ≤ a → a ≤ c → c < s → ((SA T i).1 a c).toInt.natAbs ≤ 2 ^ 30) → ((SA T (i + 1)).1 a c).toInt = (((SA T i).1 i i).toInt * ((SA T i).1 a c).toInt - ((SA T i).1 i a).toInt * ((SA T i).1 i c).toInt).tdiv (SA T i).2.toInt := by
        intro a c ha hac hc hB
        rw [eA]
        dsimp only
        rw [if_pos (by omega)]
        exact l_el (hB i i (by omega) (by omega) (by omega)) (hB a c (by omega) hac hc) (hB i a (by omega) (by omega) (by omega)) (hB i c (by omega) (by omega) hc) hb
      have hp2 : (SA T (i + 1)).2 = (SA T i).1 i i := by rw [eA]
      unfold BI
      rcases hI with ⟨h1, h2⟩ | ⟨p, h1, h2, h3, h4⟩ | ⟨p, q, h1, h2, h3, h4, h5, h6⟩ | ⟨p, q, u, h1, h2, h3, h4, h5⟩ | ⟨h1, h2⟩
      · refine Or.inr (Or.inl ⟨i, by omega, by omega, by rw [hp2, h1 i i (by omega) (by omega) (by omega)], fun a c ha hac hc => ?_⟩)
        rw [hel a c ha hac hc (fun a c ha hac hc => by rw [h1 a c ha hac hc]; have := hT a c hac hc; omega), h2, h1 i i (by omega) (by omega) (by omega), h1 a c (by omega) hac hc, h1 i a (by omega) (by omega) (by omega), h1 i c (by omega) (by omega) hc]
        exact Int.tdiv_one _
      · have hB : ∀ a c, i ≤ a → a ≤ c → c < s → ((SA T i).1 a c).toInt.natAbs ≤ 2 ^ 30 := by
          intro a c ha hac hc
          rw [h4 a c ha hac hc]
          have : (dm (fun a c => (T a c).toInt) p a c).natAbs ≤ 30 * 30 + 30 * 30 := bsub (bmul (hT p p (by omega) (by omega)) (hT a c hac hc)) (bmul (hT p a (by omega) (by omega)) (hT p c (by omega) hc))
          omega
        refine Or.inr (Or.inr (Or.inl ⟨p, i, h1, by omega, by omega, by omega, by rw [hp2, h4 i i (by omega) (by omega) (by omega)], fun a c ha hac hc => ?_⟩))
        rw [hel a c ha hac hc hB, h3, h4 i i (by omega) (by omega) (by omega), h4 a c (by omega) hac hc, h4 i a (by omega) (by omega) (by omega), h4 i c (by omega) (by omega) hc, id3]
        exact Int.mul_tdiv_cancel_left _ (by omega)
      · have hB : ∀ a c, i ≤ a → a ≤ c → c < s → ((SA T i).1 a c).toInt.natAbs ≤ 2 ^ 30 := by
          intro a c ha hac hc
          rw [h6 a c ha hac hc]
          have : (dn (fun a c => (T a c).toInt) p q a c).natAbs ≤ 162000 := b3 (hT p p (by omega) (by omega)) (hT p q (by omega) (by omega)) (hT p c (by omega) (by omega)) (hT p q (by omega) (by omega)) (hT q q (by omega) (by omega)) (hT q c (by omega) (by omega)) (hT p a (by omega) (by omega)) (hT q a (by omega) (by omega)) (hT a c (by omega) (by omega))
          omega
        refine Or.inr (Or.inr (Or.inr (Or.inl ⟨p, q, i, h1, h2, by omega, by omega, fun a c ha hac hc => ?_⟩)))
        rw [hel a c ha hac hc hB, h5, h6 i i (by omega) (by omega) (by omega), h6 a c (by omega) hac hc, h6 i a (by omega) (by omega) (by omega), h6 i c (by omega) (by omega) hc, id4]
        exact Int.mul_tdiv_cancel_left _ (by omega)
      · have hB : ∀ a c, i ≤ a → a ≤ c → c < s → ((SA T i).1 a c).toInt.natAbs ≤ 2 ^ 30 := by
          intro a c ha hac hc
          rw [h5 a c ha hac hc]
          have k : ∀ x y, x ≤ y → y ≤ c → ((fun a c => (T a c).toInt) x y).natAbs ≤ 30 := fun x y hx hy => hT x y hx (by omega)
          have : (dr (fun a c => (T a c).toInt) p q u a c).natAbs ≤ 30 * 162000 + 30 * 162000 + 30 * 162000 + 30 * 162000 := by
            unfold dr
            refine bsub (badd (bsub (bmul ?_ (b3 ?_ ?_ ?_ ?_ ?_ ?_ ?_ ?_ ?_)) (bmul ?_ (b3 ?_ ?_ ?_ ?_ ?_ ?_ ?_ ?_ ?_))) (bmul ?_ (b3 ?_ ?_ ?_ ?_ ?_ ?_ ?_ ?_ ?_))) (bmul ?_ (b3 ?_ ?_ ?_ ?_ ?_ ?_ ?_ ?_ ?_))
            all_goals exact hT _ _ (by omega) (by omega)
          omega
        refine Or.inr (Or.inr (Or.inr (Or.inr ⟨by omega, fun a c ha hac hc => ?_⟩)))
        rw [hel a c ha hac hc hB, Int.natAbs_tdiv]
        have k1 := bmul (hB i i (by omega) (by omega) (by omega)) (hB a c (by omega) hac hc)
        have k2 := bmul (hB i a (by omega) (by omega) (by omega)) (hB i c (by omega) (by omega) hc)
        have k3 := bsub k1 k2
        refine Nat.le_trans (Nat.div_le_self _ _) (Nat.le_trans k3 (by decide))
      · omega
theorem me_small {T : Nat → Nat → Int64} {s i : Nat} (hT : ∀ a c, a ≤ c → c < s → (T a c).toInt.natAbs ≤ 30) (hi : i ≤ 4) (hs : i < s) (ho : ∀ j, j < i → okS T s j) : ∀ a c, i ≤ a → a ≤ c → c < s → ((SA T i).1 a c).toInt.natAbs ≤ 2 ^ 61 := by
  intro a c ha hac hc
  have hT' := hT
  rcases BI_all hT i hi (by omega) ho with ⟨h1, h2⟩ | ⟨p, h1, h2, h3, h4⟩ | ⟨p, q, h1, h2, h3, h4, h5, h6⟩ | ⟨p, q, u, h1, h2, h3, h4, h5⟩ | ⟨h1, h2⟩
  · rw [h1 a c ha hac hc]; have := hT a c hac hc; omega
  · rw [h4 a c ha hac hc]
    have : (dm (fun a c => (T a c).toInt) p a c).natAbs ≤ 30 * 30 + 30 * 30 := bsub (bmul (hT p p (by omega) (by omega)) (hT a c hac hc)) (bmul (hT p a (by omega) (by omega)) (hT p c (by omega) hc))
    omega
  · rw [h6 a c ha hac hc]
    have : (dn (fun a c => (T a c).toInt) p q a c).natAbs ≤ 162000 := b3 (hT p p (by omega) (by omega)) (hT p q (by omega) (by omega)) (hT p c (by omega) (by omega)) (hT p q (by omega) (by omega)) (hT q q (by omega) (by omega)) (hT q c (by omega) (by omega)) (hT p a (by omega) (by omega)) (hT q a (by omega) (by omega)) (hT a c (by omega) (by omega))
    omega
  · rw [h5 a c ha hac hc]
    have : (dr (fun a c => (T a c).toInt) p q u a c).natAbs ≤ 30 * 162000 + 30 * 162000 + 30 * 162000 + 30 * 162000 := by
      unfold dr
      refine bsub (badd (bsub (bmul ?_ (b3 ?_ ?_ ?_ ?_ ?_ ?_ ?_ ?_ ?_)) (bmul ?_ (b3 ?_ ?_ ?_ ?_ ?_ ?_ ?_ ?_ ?_))) (bmul ?_ (b3 ?_ ?_ ?_ ?_ ?_ ?_ ?_ ?_ ?_))) (bmul ?_ (b3 ?_ ?_ ?_ ?_ ?_ ?_ ?_ ?_ ?_))
      all_goals exact hT _ _ (by omega) (by omega)
    omega
  · exact h2 a c ha hac hc
