-- MATHEMATICS 3: what covers, and the directions (finite tables, checked)
/-- for a point P and a power r: the directions along which r lies below P, as bits 9 a + j -/
def sepT : List (List Nat) := [[0, 68719476735, 70974118568373532761615, 68719476735, 9277662557957324543, 70974118568373532761615, 68719476735, 106592431243263, 14231789682457027837503, 70974118568373532761615, 68719476735, 36232344109055, 9277662557957324543, 33121399729123684531775, 70974118568373532761615],
  [2417851639194073977323520, 0, 1205375957379293450600960, 68719476735, 70974118568373532761615, 298090720397211635289603, 68719476735, 9277662557957324543, 70974118568373532761615, 297795572492032284560903, 68719476735, 106592431243263, 14231789682457027837503, 70974118568373532761615, 146679845040203637726727],
  [2271171794187953048371680, 2368116566113212692990, 0, 13543852010635263, 68719476735, 70974118568373532761615, 9040252920397823, 68719476735, 9277662557957324543, 70974118568373532761615, 33053934092287, 68719476735, 106592431243263, 14231789682457027837503, 70974118568373532761615],
  [2417851639194073977323520, 2417851639194073977323520, 2417847011746488048943104, 0, 1205375957379293450600960, 1205375957379293450600960, 68719476735, 70974118568373532761615, 298090720397211635289603, 600322751761621232387587, 68719476735, 9277662557957324543, 70974118568373532761615, 297795572492032284560903, 298090720397211635289603],
  [2413101475999584199245824, 2271171794187953048371680, 2417851639194073977323520, 2368116566113212692990, 0, 1205375957379293450600960, 13543852010635263, 68719476735, 70974118568373532761615, 298090720397211635289603, 9040252920397823, 68719476735, 9277662557957324543, 70974118568373532761615, 297795572492032284560903],
  [2271171794187953048371680, 1817528887466537603297784, 2271171794187953048371680, 2368116566113212692990, 2368116566113212692990, 0, 4627481670251184127, 13543852010635263, 68719476735, 70974118568373532761615, 13543852010635263, 9040252920397823, 68719476735, 9277662557957324543, 70974118568373532761615],
  [2417851639194073977323520, 2417851639194073977323520, 2417851625684306021580800, 2417851639194073977323520, 2417847011746488048943104, 2417844705903479372382208, 0, 1205375957379293450600960, 1205375957379293450600960, 1205375957379293450600960, 68719476735, 70974118568373532761615, 298090720397211635289603, 600322751761621232387587, 600913047571979938039297],
  [2417851620966421751660544, 2413101475999584199245824, 2417851639194073977323520, 2271171794187953048371680, 2417851639194073977323520, 2417847011746488048943104, 2368116566113212692990, 0, 1205375957379293450600960, 1205375957379293450600960, 13543852010635263, 68719476735, 70974118568373532761615, 298090720397211635289603, 600322751761621232387587],
  [2384730239499035144847744, 2271171794187953048371680, 2413101475999584199245824, 1817528887466537603297784, 2271171794187953048371680, 2417851639194073977323520, 2368116566113212692990, 2368116566113212692990, 0, 1205375957379293450600960, 4627481670251184127, 13543852010635263, 68719476735, 70974118568373532761615, 298090720397211635289603],
  [2271171794187953048371680, 2119760918830947200393720, 2271171794187953048371680, 1816938591656178899743228, 1817528887466537603297784, 2271171794187953048371680, 2368116566113212692990, 2368116566113212692990, 2368116566113212692990, 0, 6933324679464877567, 4627481670251184127, 13543852010635263, 68719476735, 70974118568373532761615],
  [2417851639194073977323520, 2417851639194073977323520, 2417851630187905514733568, 2417851639194073977323520, 2417851625684306021580800, 2417847011746488048943104, 2417851639194073977323520, 2417847011746488048943104, 2417844705903479372382208, 2415483522662044550299648, 0, 1205375957379293450600960, 1205375957379293450600960, 1205375957379293450600960, 1205375957379293450600960],
  [2417851639121540569628672, 2417851620966421751660544, 2417851639194073977323520, 2413101475999584199245824, 2417851639194073977323520, 2417851625684306021580800, 2271171794187953048371680, 2417851639194073977323520, 2417847011746488048943104, 2417844705903479372382208, 2368116566113212692990, 0, 1205375957379293450600960, 1205375957379293450600960, 1205375957379293450600960],
  [2413101475999584199245824, 2384730239499035144847744, 2417851620966421751660544, 2271171794187953048371680, 2413101475999584199245824, 2417851639194073977323520, 1817528887466537603297784, 2271171794187953048371680, 2417851639194073977323520, 2417847011746488048943104, 2368116566113212692990, 2368116566113212692990, 0, 1205375957379293450600960, 1205375957379293450600960],
  [2384656452522740315029952, 2271171794187953048371680, 2384730239499035144847744, 2119760918830947200393720, 2271171794187953048371680, 2413101475999584199245824, 1816938591656178899743228, 1817528887466537603297784, 2271171794187953048371680, 2417851639194073977323520, 2368116566113212692990, 2368116566113212692990, 2368116566113212692990, 0, 1205375957379293450600960],
  [2271171794187953048371680, 2120056066736126553219568, 2271171794187953048371680, 1817528887466537603297784, 2119760918830947200393720, 2271171794187953048371680, 1212475681848864312392188, 1816938591656178899743228, 1817528887466537603297784, 2271171794187953048371680, 2368116566113212692990, 2368116566113212692990, 2368116566113212692990, 2368116566113212692990, 0]]
def sepm (P r : Nat) : Nat := (sepT.getD P []).getD r 0
/-- some triples that cover P, as 256 i + 16 j + k -/
def triT : List (List Nat) := [[],
  [768, 1536, 2560],
  [1280, 2304, 3584],
  [1536, 1553, 2560, 2577],
  [1331, 1826, 2065, 2850, 3072, 3345, 1616, 1617, 1618, 1872, 1873, 2096, 2098, 2144, 2146, 2160, 2352, 2353, 2354, 2400, 2401, 2402, 2416, 2417, 2640, 2641, 2642, 2688, 2690, 2704, 2705, 2706, 2896, 2897, 2944, 2960, 2961, 3105, 3122, 3153, 3170, 3217, 3234, 3376, 3378, 3424, 3426, 3440, 3488, 3490, 3504, 3632, 3633, 3634, 3680, 3681, 3682, 3696, 3697, 3744, 3745, 3746, 3760, 3761, 3777],
  [2304, 2338, 3584, 3618],
  [2560, 2577, 2611],
  [2150, 2406, 2645, 2850, 2884, 3123, 2688, 2689, 2690, 2691, 2692, 2704, 2705, 2706, 2707, 2708, 2896, 2897, 2899, 2917, 2944, 2945, 2947, 2960, 2961, 2963, 3168, 3169, 3170, 3172, 3173, 3232, 3233, 3234, 3236, 3248, 3249, 3424, 3425, 3426, 3427, 3428, 3429, 3488, 3489, 3490, 3491, 3492, 3504, 3505, 3507, 3680, 3681, 3682, 3683, 3684, 3685, 3744, 3745, 3746, 3747, 3748, 3760, 3761, 3763],
  [2406, 2423, 3157, 3345, 3396, 3635, 2704, 2705, 2706, 2707, 2708, 2709, 2960, 2961, 2962, 2963, 2964, 2965, 3216, 3217, 3218, 3219, 3220, 3376, 3378, 3411, 3424, 3426, 3429, 3440, 3442, 3445, 3475, 3488, 3490, 3493, 3504, 3506, 3509, 3520, 3522, 3680, 3681, 3682, 3684, 3685, 3696, 3697, 3698, 3700, 3701, 3744, 3745, 3746, 3748, 3749, 3760, 3761, 3762, 3764, 3765, 3776, 3777, 3778, 3780],
  [3584, 3618, 3669],
  [],
  [3242, 3498, 3754],
  [3498, 3515, 3754, 3771],
  [3754, 3771, 3788],
  []]
def tri (P : Nat) : List Nat := triT.getD P []
/-- an order of the powers other than P -/
def ordT : List (List Nat) := [[1, 2, 3, 4, 5, 6, 7, 8, 9, 10, 11, 12, 13, 14],
  [0, 3, 4, 2, 6, 7, 8, 5, 10, 11, 12, 13, 9, 14],
  [0, 4, 5, 1, 7, 8, 9, 3, 11, 12, 13, 14, 6, 10],
  [1, 6, 7, 0, 4, 10, 11, 12, 2, 8, 5, 13, 9, 14],
  [1, 2, 7, 8, 0, 3, 5, 11, 12, 13, 6, 9, 10, 14],
  [2, 8, 9, 0, 4, 12, 13, 14, 1, 7, 3, 11, 6, 10],
  [3, 10, 11, 1, 7, 0, 4, 12, 2, 8, 5, 13, 9, 14],
  [3, 4, 11, 12, 1, 2, 6, 8, 0, 5, 10, 13, 9, 14],
  [14, 13, 12, 11, 10, 9, 7, 6, 5, 4, 3, 2, 1, 0],
  [5, 13, 14, 2, 8, 0, 4, 12, 1, 7, 3, 11, 6, 10],
  [6, 3, 11, 1, 7, 0, 4, 12, 2, 8, 5, 13, 9, 14],
  [14, 13, 12, 10, 9, 8, 7, 6, 5, 4, 3, 2, 1, 0],
  [14, 13, 11, 10, 9, 8, 7, 6, 5, 4, 3, 2, 1, 0],
  [14, 12, 11, 10, 9, 8, 7, 6, 5, 4, 3, 2, 1, 0],
  [9, 5, 13, 2, 8, 0, 4, 12, 1, 7, 3, 11, 6, 10]]
def ord (P : Nat) : List Nat := ordT.getD P []
def cvs (P i j k : Nat) : Option Int32 := f_Mo_covers (nI i) (nI j) (nI k) (pwA P) (pwB P) pwA pwB
theorem sep_ok : ∀ P, P < 15 → ∀ r, r < 15 → ∀ a, a < 9 → ∀ j, j < 9 → (sepm P r).testBit (9 * a + j) = decide (dot (dI a) (dI j) r < dot (dI a) (dI j) P) := by decide +kernel
def ckc (P i j k : Nat) : Bool := match cvs P i j k with
  | some r => if r = 1 then Nat.beq (Nat.land (Nat.land (sepm P i) (sepm P j)) (sepm P k)) 0 else r = 0
  | none => false
theorem cvs_ok : ∀ P, P < 15 → ∀ i, i < 15 → ∀ j, j < i + 1 → ∀ k, k < j + 1 → ckc P i j k = true := by decide +kernel
def bts (t : Nat) : Nat := Nat.lor (Nat.lor (1 <<< (t / 256)) (1 <<< (t / 16 % 16))) (1 <<< (t % 16))
def has (P ch : Nat) : Bool := (tri P).any (fun t => Nat.beq (Nat.land (bts t) ch) (bts t))
def fullD : Nat := 2 ^ 81 - 1
def allS (P : Nat) : List Nat → Nat
  | [] => fullD
  | r :: l => Nat.land (sepm P r) (allS P l)
def dfs (P : Nat) : List Nat → Nat → Nat → Bool
  | [], D, ch => !(Nat.beq D 0) || has P ch
  | r :: l, D, ch => !(Nat.beq (Nat.land D (allS P (r :: l))) 0) || (if Nat.beq D 0 then has P ch else (dfs P l D ch && dfs P l (Nat.land D (sepm P r)) (Nat.lor ch (1 <<< r))))
theorem dfs_ok : ∀ P, P < 15 → dfs P (ord P) fullD 0 = true := by decide +kernel
theorem ord_ok : ∀ P, P < 15 → ∀ r, r < 15 → ¬ r = P → r ∈ ord P := by decide +kernel
theorem tri_ok : ∀ P, P < 15 → ∀ t ∈ tri P, (t / 256 < 15 ∧ t / 16 % 16 ≤ t / 256 ∧ t % 16 ≤ t / 16 % 16) ∧ cvs P (t / 256) (t / 16 % 16) (t % 16) = some 1 := by decide +kernel
theorem cvs_self : ∀ P, P < 15 → cvs P P P P = some 1 := by decide +kernel
theorem beq0 {a : Nat} : Nat.beq a 0 = true ↔ a = 0 := by
  constructor
  · exact Nat.eq_of_beq_eq_true
  · intro h; subst h; rfl
theorem tb_land {a b d : Nat} : (Nat.land a b).testBit d = (a.testBit d && b.testBit d) := Nat.testBit_and a b d
theorem tb_lor {a b d : Nat} : (Nat.lor a b).testBit d = (a.testBit d || b.testBit d) := Nat.testBit_or a b d
theorem ex_bit {a : Nat} (h : ¬ a = 0) : ∃ d, a.testBit d = true := Nat.exists_testBit_of_ne_zero h
theorem tb_one {r s : Nat} : (1 <<< r).testBit s = true ↔ r = s := by
  rw [Nat.one_shiftLeft, Nat.testBit_two_pow]; exact decide_eq_true_iff
theorem has_spec {P ch : Nat} (h : has P ch = true) : ∃ t ∈ tri P, ∀ r, (bts t).testBit r = true → ch.testBit r = true := by
  simp only [has, List.any_eq_true] at h
  obtain ⟨t, ht, hb⟩ := h
  refine ⟨t, ht, fun r hr => ?_⟩
  have e := Nat.eq_of_beq_eq_true hb
  rw [← e, tb_land, Bool.and_eq_true] at hr
  exact hr.2
theorem allS_spec {P : Nat} {d : Nat} : ∀ {l : List Nat}, (allS P l).testBit d = true → ∀ r ∈ l, (sepm P r).testBit d = true := by
  intro l
  induction l with
  | nil => intro _ r hr; exact absurd hr (List.not_mem_nil)
  | cons r l ih =>
    intro h r' hr
    rw [allS, tb_land, Bool.and_eq_true] at h
    rcases List.mem_cons.mp hr with e | e
    · rw [e]; exact h.1
    · exact ih h.2 r' e
theorem dfs_spec (P : Nat) (S : Nat → Prop) : ∀ (l : List Nat) (D ch : Nat), dfs P l D ch = true → (∀ d, D.testBit d = true → d < 81 ∧ ∀ r, r < 15 → ¬ r = P → S r → ¬ r ∈ l → (sepm P r).testBit d = true) → (∀ r, ch.testBit r = true → S r) → (∃ t ∈ tri P, ∀ r, (bts t).testBit r = true → S r) ∨ (∃ d, d < 81 ∧ ∀ r, r < 15 → ¬ r = P → S r → (sepm P r).testBit d = true) := by
  intro l
  induction l with
  | nil =>
    intro D ch h hD hc
    rw [dfs, Bool.or_eq_true, Bool.not_eq_true', ← Bool.not_eq_true, beq0] at h
    rcases h with h | h
    · obtain ⟨d, hd⟩ := ex_bit h
      exact Or.inr ⟨d, (hD d hd).1, fun r hr hp hs => (hD d hd).2 r hr hp hs (List.not_mem_nil)⟩
    · obtain ⟨t, ht, hb⟩ := has_spec h
      exact Or.inl ⟨t, ht, fun r hr => hc r (hb r hr)⟩
  | cons q l ih =>
    intro D ch h hD hc
    rw [dfs, Bool.or_eq_true, Bool.not_eq_true', ← Bool.not_eq_true, beq0] at h
    rcases h with h | h
    · obtain ⟨d, hd⟩ := ex_bit h
      rw [tb_land, Bool.and_eq_true] at hd
      refine Or.inr ⟨d, (hD d hd.1).1, fun r hr hp hs => ?_⟩
      by_cases hm : r ∈ q :: l
      · exact allS_spec hd.2 r hm
      · exact (hD d hd.1).2 r hr hp hs hm
    · by_cases h0 : Nat.beq D 0 = true
      · rw [if_pos h0] at h
        obtain ⟨t, ht, hb⟩ := has_spec h
        exact Or.inl ⟨t, ht, fun r hr => hc r (hb r hr)⟩
      · rw [if_neg h0, Bool.and_eq_true] at h
        by_cases hs : S q
        · refine ih _ _ h.2 (fun d hd => ?_) (fun r hr => ?_)
          · rw [tb_land, Bool.and_eq_true] at hd
            refine ⟨(hD d hd.1).1, fun r hr hp hs' hm => ?_⟩
            by_cases e : r = q
            · rw [e]; exact hd.2
            · exact (hD d hd.1).2 r hr hp hs' (fun hm' => (List.mem_cons.mp hm').elim e hm)
          · rw [tb_lor, Bool.or_eq_true] at hr
            rcases hr with hr | hr
            · exact hc r hr
            · rw [← tb_one.mp hr]; exact hs
        · refine ih _ _ h.1 (fun d hd => ⟨(hD d hd).1, fun r hr hp hs' hm => ?_⟩) hc
          by_cases e : r = q
          · rw [e] at hs'; exact absurd hs' hs
          · exact (hD d hd).2 r hr hp hs' (fun hm' => (List.mem_cons.mp hm').elim e hm)
theorem cvs_01 {P i j k : Nat} (hP : P < 15) (hi : i < 15) (hj : j ≤ i) (hk : k ≤ j) : cvs P i j k = some 1 ∨ cvs P i j k = some 0 := by
  have h := cvs_ok P hP i hi j (by omega) k (by omega)
  rw [ckc] at h
  cases hc : cvs P i j k with
  | none => rw [hc] at h; exact Bool.noConfusion h
  | some r =>
    rw [hc] at h
    by_cases e : r = 1
    · left; rw [e]
    · right
      have h' : (if r = 1 then Nat.beq (Nat.land (Nat.land (sepm P i) (sepm P j)) (sepm P k)) 0 else decide (r = 0)) = true := h
      rw [if_neg e, decide_eq_true_iff] at h'
      rw [h']
/-- S covers P by a triple exactly where no direction parts P from S -/
theorem key {P : Nat} (hP : P < 15) (S : Nat → Prop) : (∃ i j k, i < 15 ∧ j ≤ i ∧ k ≤ j ∧ S i ∧ S j ∧ S k ∧ cvs P i j k = some 1) ↔ ¬ ∃ a j, a < 9 ∧ j < 9 ∧ ∀ r, r < 15 → S r → dot (dI a) (dI j) r < dot (dI a) (dI j) P := by
  constructor
  · rintro ⟨i, j, k, hi, hj, hk, si, sj, sk, hc⟩ ⟨a, b, ha, hb, hs⟩
    have h := cvs_ok P hP i hi j (by omega) k (by omega)
    rw [ckc, hc] at h
    have h' : (if (1 : Int32) = 1 then Nat.beq (Nat.land (Nat.land (sepm P i) (sepm P j)) (sepm P k)) 0 else decide ((1 : Int32) = 0)) = true := h
    rw [if_pos rfl, beq0] at h'
    have e : (Nat.land (Nat.land (sepm P i) (sepm P j)) (sepm P k)).testBit (9 * a + b) = true := by
      rw [tb_land, tb_land, sep_ok P hP i hi a ha b hb, sep_ok P hP j (by omega) a ha b hb, sep_ok P hP k (by omega) a ha b hb, decide_eq_true (hs i hi si), decide_eq_true (hs j (by omega) sj), decide_eq_true (hs k (by omega) sk)]
      rfl
    rw [h', Nat.zero_testBit] at e
    exact absurd e (by decide)
  · intro h
    by_cases hp : S P
    · exact ⟨P, P, P, hP, Nat.le_refl _, Nat.le_refl _, hp, hp, hp, cvs_self P hP⟩
    · rcases dfs_spec P S (ord P) fullD 0 (dfs_ok P hP) (fun d hd => ⟨by
          rw [fullD, Nat.testBit_two_pow_sub_one] at hd
          exact of_decide_eq_true hd, fun r hr hne _ hm => absurd (ord_ok P hP r hr hne) hm⟩) (fun r hr => by rw [Nat.zero_testBit] at hr; exact absurd hr (by decide)) with ⟨t, ht, hb⟩ | ⟨d, hd, hb⟩
      · obtain ⟨⟨h1, h2, h3⟩, h4⟩ := tri_ok P hP t ht
        refine ⟨t / 256, t / 16 % 16, t % 16, h1, h2, h3, hb _ ?_, hb _ ?_, hb _ ?_, h4⟩
        · rw [bts, tb_lor, tb_lor, tb_one.mpr rfl]; rfl
        · rw [bts, tb_lor, tb_lor, tb_one.mpr (show t / 16 % 16 = t / 16 % 16 from rfl)]; simp
        · rw [bts, tb_lor, tb_lor, tb_one.mpr (show t % 16 = t % 16 from rfl)]; simp
      · refine absurd ⟨d / 9, d % 9, by omega, by omega, fun r hr hs => ?_⟩ h
        have hne : ¬ r = P := fun e => hp (e ▸ hs)
        have x := hb r hr hne hs
        rw [show d = 9 * (d / 9) + d % 9 by omega, sep_ok P hP r hr (d / 9) (by omega) (d % 9) (by omega)] at x
        exact of_decide_eq_true x
