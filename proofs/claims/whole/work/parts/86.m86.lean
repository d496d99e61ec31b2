-- MATHEMATICS 26: new objects
def uN (f : Nat → Int32) : Nat → List Int32 → (Nat → Int32)
  | _, [] => f
  | n, v :: l => uN (upd f n v) (n + 1) l
theorem uN_at {l : List Int32} : ∀ (f : Nat → Int32) (n x : Nat), uN f n l x = if n ≤ x ∧ x < n + l.length then l.getD (x - n) 0 else f x := by
  induction l with
  | nil => intro f n x; rw [uN, if_neg (fun h => by have := h.2; simp only [List.length_nil] at this; omega)]
  | cons v l ih =>
    intro f n x
    rw [uN, ih]
    by_cases e : x = n
    · subst e
      rw [if_neg (by omega), up_eq, if_pos (by simp)]
      simp
    · by_cases e2 : n + 1 ≤ x ∧ x < n + 1 + l.length
      · rw [if_pos e2, if_pos (by simp; omega)]
        obtain ⟨y, hy⟩ : ∃ y, x - n = y + 1 := ⟨x - n - 1, by omega⟩
        rw [hy, List.getD_cons_succ, show x - (n + 1) = y by omega]
      · rw [if_neg e2, if_neg (by simp; omega), up_ne e]
theorem init2 (K : Int32 → (Nat → Int32) → (Nat → Int32) → Option (Int32 × Int32 × (Nat → Int32) × (Nat → Int32))) : f_Mo_init_L164 2 40 0 0 (fun _ => (0 : Int32)) (fun _ => (0 : Int32)) K = K (nI 15) (uN (fun _ => 0) 0 [0, 1, 0, 2, 1, 0, 3, 2, 1, 0, 4, 3, 2, 1, 0]) (uN (fun _ => 0) 0 [0, 0, 1, 0, 1, 2, 0, 1, 2, 3, 0, 1, 2, 3, 4]) := by
  rfl
theorem init1 (K : Int32 → (Nat → Int32) → (Nat → Int32) → Option (Int32 × Int32 × (Nat → Int32) × (Nat → Int32))) : f_Mo_init_L164 1 40 0 0 (fun _ => (0 : Int32)) (fun _ => (0 : Int32)) K = K (nI 5) (uN (fun _ => 0) 0 [0, 1, 2, 3, 4]) (uN (fun _ => 0) 0 [0, 0, 0, 0, 0]) := by
  rfl
theorem fs2 : ∀ x, x < 15 → ([0, 1, 0, 2, 1, 0, 3, 2, 1, 0, 4, 3, 2, 1, 0] : List Int32).getD x 0 = pwA (cl 2 x) ∧ ([0, 0, 1, 0, 1, 2, 0, 1, 2, 3, 0, 1, 2, 3, 4] : List Int32).getD x 0 = pwB (cl 2 x) := by decide +kernel
theorem fs1 : ∀ x, x < 5 → ([0, 1, 2, 3, 4] : List Int32).getD x 0 = pwA (cl 1 x) ∧ ([0, 0, 0, 0, 0] : List Int32).getD x 0 = pwB (cl 1 x) := by decide +kernel
theorem mF2 : uN (fun _ => 0) 0 [0, 1, 0, 2, 1, 0, 3, 2, 1, 0, 4, 3, 2, 1, 0] = mF 2 := by
  funext x
  rw [uN_at]
  unfold mF
  by_cases h : x < 15
  · rw [if_pos ⟨by omega, by show x < 0 + 15; omega⟩, if_pos (show x < PU 2 from h)]
    exact (fs2 x h).1
  · rw [if_neg (fun e => h (by have := e.2; change x < 0 + 15 at this; omega)), if_neg (show ¬ x < PU 2 from h)]
theorem mS2 : uN (fun _ => 0) 0 [0, 0, 1, 0, 1, 2, 0, 1, 2, 3, 0, 1, 2, 3, 4] = mS 2 := by
  funext x
  rw [uN_at]
  unfold mS
  by_cases h : x < 15
  · rw [if_pos ⟨by omega, by show x < 0 + 15; omega⟩, if_pos (show x < PU 2 from h)]
    exact (fs2 x h).2
  · rw [if_neg (fun e => h (by have := e.2; change x < 0 + 15 at this; omega)), if_neg (show ¬ x < PU 2 from h)]
theorem mF1 : uN (fun _ => 0) 0 [0, 1, 2, 3, 4] = mF 1 := by
  funext x
  rw [uN_at]
  unfold mF
  by_cases h : x < 5
  · rw [if_pos ⟨by omega, by show x < 0 + 5; omega⟩, if_pos (show x < PU 1 from h)]
    exact (fs1 x h).1
  · rw [if_neg (fun e => h (by have := e.2; change x < 0 + 5 at this; omega)), if_neg (show ¬ x < PU 1 from h)]
theorem mS1 : uN (fun _ => 0) 0 [0, 0, 0, 0, 0] = mS 1 := by
  funext x
  rw [uN_at]
  unfold mS
  by_cases h : x < 5
  · rw [if_pos ⟨by omega, by show x < 0 + 5; omega⟩, if_pos (show x < PU 1 from h)]
    exact (fs1 x h).2
  · rw [if_neg (fun e => h (by have := e.2; change x < 0 + 5 at this; omega)), if_neg (show ¬ x < PU 1 from h)]
theorem me_init (x : Int32) : ∃ U, (U = 1 ∨ U = 2) ∧ f_Sq_init x = some (nI U, fl 15 0 (-1) (fun _ => 0)) ∧ f_Mo_init x = some (nI U, nI (PU U), mF U, mS U) := by
  by_cases h : 2 ≤ x
  · refine ⟨2, Or.inr rfl, ?_, ?_⟩
    · rw [f_Sq_init, f_Pairs_init, me_fill15, Option.bind_some, Option.bind_some, if_pos h]; rfl
    · rw [f_Mo_init, if_pos h, init2, mF2, mS2]; rfl
  · refine ⟨1, Or.inl rfl, ?_, ?_⟩
    · rw [f_Sq_init, f_Pairs_init, me_fill15, Option.bind_some, Option.bind_some, if_neg h]; rfl
    · rw [f_Mo_init, if_neg h, init1, mF1, mS1]; rfl
theorem ml0 : mlen 0 = 0 ∧ nP 0 = 0 ∧ FF 0 = 0 := by decide +kernel
theorem INV0 {U : Nat} (hU : U = 1 ∨ U = 2) (sl : Nat → Int64) (sq : Nat → Int32) (wA wB rA rB : Nat → Int64) : INV U 0 (fun _ => 0) (fun _ => 0) 0 (fun _ => 0) (fun _ => 0) 0 0 (fun _ => 0) (fun _ => 0) (fun _ => 0) (fun _ => 0) (fl 15 0 (-1) (fun _ => 0)) (fun _ => 0) 0 sl sq 0 0 0 (fun _ => 0) (fun _ => 0) (fun _ => 0) wA wB rA rB := by
  obtain ⟨a1, a2, a3⟩ := ml0
  refine ⟨0, ⟨⟨by decide, hU, fun _ => by decide⟩, ⟨fun q _ => rfl, fun p _ h => absurd rfl h⟩, fun p _ => (by decide : (0 : Int32).toInt.natAbs ≤ 15), fun p _ => ⟨fun h => absurd rfl (isC_ne h), fun _ => rfl⟩, fun k hk => by omega, by rw [a1]; rfl, by rw [a1]; rfl, fun k hk => by omega, by rw [a2]; rfl, by rw [a3]; rfl, fun m hm => by omega, fun p hp => ?_, fun m hm => by omega⟩, ⟨fun i j _ _ => ⟨rfl, rfl⟩, fun a c _ _ => (by decide : (0 : Int32).toInt.natAbs ≤ 30), rfl, Or.inl rfl⟩⟩
  rw [a2, hg]
  unfold fl toI
  rw [if_pos ⟨by omega, hp⟩, if_pos rfl]
