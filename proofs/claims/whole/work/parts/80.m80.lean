-- MATHEMATICS 20: what holds between the calls; term and clear
/-- what holds of the polynomial, its members and its pairs -/
def IB (U M : Nat) (cn mn : Nat → Int32) (hsz : Int32) (cor mem : Nat → Int32) (psz fsz : Int32) (sec cel pow sha han fre : Nat → Int32) (ms : Int32) (bas : Nat → Int32) : Prop :=
  (MU U M) ∧ (NR U cn mn) ∧ (∀ p, p < 15 → sm 15 (cn p)) ∧ (∀ p, p < 15 → ((isC cn p → cor p = 1) ∧ (¬ isC cn p → cor p = 0))) ∧ (memC M mem) ∧ (hsz = nI (mlen M)) ∧ (ms = nI (mlen M)) ∧ (memM U M bas) ∧ (psz = nI (nP M)) ∧ (fsz = nI (FF M)) ∧ (PAr M (nP M) sec cel pow sha) ∧ (PH M (nP M) han) ∧ (PF M fre)
theorem IB.mu {U M : Nat} {cn mn : Nat → Int32} {hsz : Int32} {cor mem : Nat → Int32} {psz fsz : Int32} {sec cel pow sha han fre : Nat → Int32} {ms : Int32} {bas : Nat → Int32} (h : IB U M cn mn hsz cor mem psz fsz sec cel pow sha han fre ms bas) : MU U M := h.1
theorem IB.nr {U M : Nat} {cn mn : Nat → Int32} {hsz : Int32} {cor mem : Nat → Int32} {psz fsz : Int32} {sec cel pow sha han fre : Nat → Int32} {ms : Int32} {bas : Nat → Int32} (h : IB U M cn mn hsz cor mem psz fsz sec cel pow sha han fre ms bas) : NR U cn mn := h.2.1
theorem IB.n15 {U M : Nat} {cn mn : Nat → Int32} {hsz : Int32} {cor mem : Nat → Int32} {psz fsz : Int32} {sec cel pow sha han fre : Nat → Int32} {ms : Int32} {bas : Nat → Int32} (h : IB U M cn mn hsz cor mem psz fsz sec cel pow sha han fre ms bas) : ∀ p, p < 15 → sm 15 (cn p) := h.2.2.1
theorem IB.co {U M : Nat} {cn mn : Nat → Int32} {hsz : Int32} {cor mem : Nat → Int32} {psz fsz : Int32} {sec cel pow sha han fre : Nat → Int32} {ms : Int32} {bas : Nat → Int32} (h : IB U M cn mn hsz cor mem psz fsz sec cel pow sha han fre ms bas) : ∀ p, p < 15 → ((isC cn p → cor p = 1) ∧ (¬ isC cn p → cor p = 0)) := h.2.2.2.1
theorem IB.mc {U M : Nat} {cn mn : Nat → Int32} {hsz : Int32} {cor mem : Nat → Int32} {psz fsz : Int32} {sec cel pow sha han fre : Nat → Int32} {ms : Int32} {bas : Nat → Int32} (h : IB U M cn mn hsz cor mem psz fsz sec cel pow sha han fre ms bas) : memC M mem := h.2.2.2.2.1
theorem IB.hs {U M : Nat} {cn mn : Nat → Int32} {hsz : Int32} {cor mem : Nat → Int32} {psz fsz : Int32} {sec cel pow sha han fre : Nat → Int32} {ms : Int32} {bas : Nat → Int32} (h : IB U M cn mn hsz cor mem psz fsz sec cel pow sha han fre ms bas) : hsz = nI (mlen M) := h.2.2.2.2.2.1
theorem IB.ms {U M : Nat} {cn mn : Nat → Int32} {hsz : Int32} {cor mem : Nat → Int32} {psz fsz : Int32} {sec cel pow sha han fre : Nat → Int32} {ms : Int32} {bas : Nat → Int32} (h : IB U M cn mn hsz cor mem psz fsz sec cel pow sha han fre ms bas) : ms = nI (mlen M) := h.2.2.2.2.2.2.1
theorem IB.mm {U M : Nat} {cn mn : Nat → Int32} {hsz : Int32} {cor mem : Nat → Int32} {psz fsz : Int32} {sec cel pow sha han fre : Nat → Int32} {ms : Int32} {bas : Nat → Int32} (h : IB U M cn mn hsz cor mem psz fsz sec cel pow sha han fre ms bas) : memM U M bas := h.2.2.2.2.2.2.2.1
theorem IB.ps {U M : Nat} {cn mn : Nat → Int32} {hsz : Int32} {cor mem : Nat → Int32} {psz fsz : Int32} {sec cel pow sha han fre : Nat → Int32} {ms : Int32} {bas : Nat → Int32} (h : IB U M cn mn hsz cor mem psz fsz sec cel pow sha han fre ms bas) : psz = nI (nP M) := h.2.2.2.2.2.2.2.2.1
theorem IB.fs {U M : Nat} {cn mn : Nat → Int32} {hsz : Int32} {cor mem : Nat → Int32} {psz fsz : Int32} {sec cel pow sha han fre : Nat → Int32} {ms : Int32} {bas : Nat → Int32} (h : IB U M cn mn hsz cor mem psz fsz sec cel pow sha han fre ms bas) : fsz = nI (FF M) := h.2.2.2.2.2.2.2.2.2.1
theorem IB.pa {U M : Nat} {cn mn : Nat → Int32} {hsz : Int32} {cor mem : Nat → Int32} {psz fsz : Int32} {sec cel pow sha han fre : Nat → Int32} {ms : Int32} {bas : Nat → Int32} (h : IB U M cn mn hsz cor mem psz fsz sec cel pow sha han fre ms bas) : PAr M (nP M) sec cel pow sha := h.2.2.2.2.2.2.2.2.2.2.1
theorem IB.ph {U M : Nat} {cn mn : Nat → Int32} {hsz : Int32} {cor mem : Nat → Int32} {psz fsz : Int32} {sec cel pow sha han fre : Nat → Int32} {ms : Int32} {bas : Nat → Int32} (h : IB U M cn mn hsz cor mem psz fsz sec cel pow sha han fre ms bas) : PH M (nP M) han := h.2.2.2.2.2.2.2.2.2.2.2.1
theorem IB.pf {U M : Nat} {cn mn : Nat → Int32} {hsz : Int32} {cor mem : Nat → Int32} {psz fsz : Int32} {sec cel pow sha han fre : Nat → Int32} {ms : Int32} {bas : Nat → Int32} (h : IB U M cn mn hsz cor mem psz fsz sec cel pow sha han fre ms bas) : PF M fre := h.2.2.2.2.2.2.2.2.2.2.2.2
/-- what holds of the table and the squares -/
def IT (M : Nat) (th : Int32) (ct : Nat → Int32) (ssz : Int32) (sl : Nat → Int64) (sq : Nat → Int32) (isT sqs : Int32) (mt : Nat → Int32) (wA wB rA rB : Nat → Int64) : Prop :=
  (TR ct mt) ∧ (∀ a c, a ≤ c → c < 6 → sm 30 (ct (6 * a + c))) ∧ (SR (mlen M) th ssz sl sq isT sqs wA wB rA rB)
theorem IT.tr {M : Nat} {th : Int32} {ct : Nat → Int32} {ssz : Int32} {sl : Nat → Int64} {sq : Nat → Int32} {isT sqs : Int32} {mt : Nat → Int32} {wA wB rA rB : Nat → Int64} (h : IT M th ct ssz sl sq isT sqs mt wA wB rA rB) : TR ct mt := h.1
theorem IT.t30 {M : Nat} {th : Int32} {ct : Nat → Int32} {ssz : Int32} {sl : Nat → Int64} {sq : Nat → Int32} {isT sqs : Int32} {mt : Nat → Int32} {wA wB rA rB : Nat → Int64} (h : IT M th ct ssz sl sq isT sqs mt wA wB rA rB) : ∀ a c, a ≤ c → c < 6 → sm 30 (ct (6 * a + c)) := h.2.1
theorem IT.sr {M : Nat} {th : Int32} {ct : Nat → Int32} {ssz : Int32} {sl : Nat → Int64} {sq : Nat → Int32} {isT sqs : Int32} {mt : Nat → Int32} {wA wB rA rB : Nat → Int64} (h : IT M th ct ssz sl sq isT sqs mt wA wB rA rB) : SR (mlen M) th ssz sl sq isT sqs wA wB rA rB := h.2.2
def INV (U : Nat) (th : Int32) (cn ct : Nat → Int32) (hsz : Int32) (cor mem : Nat → Int32) (psz fsz : Int32) (sec cel pow sha han fre : Nat → Int32) (ssz : Int32) (sl : Nat → Int64) (sq : Nat → Int32) (ms isT sqs : Int32) (mn bas mt : Nat → Int32) (wA wB rA rB : Nat → Int64) : Prop :=
  ∃ M, IB U M cn mn hsz cor mem psz fsz sec cel pow sha han fre ms bas ∧ IT M th ct ssz sl sq isT sqs mt wA wB rA rB
theorem mw_cl {a : Nat} (h : a < 3000) : (nI a).toNatClampNeg = a := nI_clamp (by omega)
theorem mw_n0 {a : Nat} (h : a < 3000) : (nI a < 0) = False := eq_false (nI_pos (by omega))
theorem mq_2 (a : Nat) : nI a + 2 = nI (a + 2) := mq_add a 2
theorem mq_3 (a : Nat) : nI a + 3 = nI (a + 3) := mq_add a 3
theorem mq_4 (a : Nat) : nI a + 4 = nI (a + 4) := mq_add a 4
theorem o_nk : ¬ ((0 : Int32) < 0 ∨ 1 ≤ (0 : Int32).toNatClampNeg) := by decide
theorem o_eq {out : Nat → Int64} {x : Int64} (h : out 0 = x) {a b : Option Int32} : (if lg_cmp (out (0 : Int32).toNatClampNeg) x = 0 then a else b) = a := if_pos ((lg_cmp_eq _ _).mpr h)
theorem o_0 : (0 : Int32).toNatClampNeg = 0 := rfl
theorem me_thr (x : Int32) : f_Mo_thrown x = some x := rfl
theorem pat25 : ∀ x, x < 5 → ∀ y, y < 5 → (∃ p, p < 15 ∧ pwA p = nI x ∧ pwB p = nI y ∧ f_Sq_powerAt (nI x) (nI y) = some (nI p)) ∨ ((∀ p, p < 15 → ¬ (pwA p = nI x ∧ pwB p = nI y)) ∧ f_Sq_powerAt (nI x) (nI y) = some (-1)) := by decide +kernel
theorem pw_rng : ∀ p, p < 15 → (¬ pwA p < 0 ∧ ¬ 4 < pwA p) ∧ (¬ pwB p < 0 ∧ ¬ 4 < pwB p) := by decide +kernel
theorem pw_inj' : ∀ p, p < 15 → ∀ q, q < 15 → ¬ (pwA p = pwA q ∧ pwB p = pwB q) ∨ p = q := by decide +kernel
theorem small5 {a : Int32} (h1 : ¬ a < 0) (h2 : ¬ 4 < a) : ∃ x, x < 5 ∧ a = nI x := by
  rw [i_lt] at h1 h2
  have e0 : (0 : Int32).toInt = 0 := rfl
  have e4 : (4 : Int32).toInt = 4 := rfl
  refine ⟨a.toInt.toNat, by omega, i_inj ?_⟩
  rw [nI_toInt (by omega)]
  omega
theorem me_pat (a b : Int32) : (∃ p, p < 15 ∧ pwA p = a ∧ pwB p = b ∧ f_Sq_powerAt a b = some (nI p)) ∨ ((∀ p, p < 15 → ¬ (pwA p = a ∧ pwB p = b)) ∧ f_Sq_powerAt a b = some (-1)) := by
  by_cases h1 : a < 0
  · exact Or.inr ⟨fun p hp e => (pw_rng p hp).1.1 (by rw [e.1]; exact h1), by rw [f_Sq_powerAt, if_pos h1]⟩
  · by_cases h2 : b < 0
    · exact Or.inr ⟨fun p hp e => (pw_rng p hp).2.1 (by rw [e.2]; exact h2), by rw [f_Sq_powerAt, if_neg h1, if_pos h2]⟩
    · by_cases h3 : 4 < a
      · exact Or.inr ⟨fun p hp e => (pw_rng p hp).1.2 (by rw [e.1]; exact h3), by rw [f_Sq_powerAt, if_neg h1, if_neg h2, if_pos h3]⟩
      · by_cases h4 : 4 < b
        · exact Or.inr ⟨fun p hp e => (pw_rng p hp).2.2 (by rw [e.2]; exact h4), by rw [f_Sq_powerAt, if_neg h1, if_neg h2, if_neg h3, if_pos h4]⟩
        · obtain ⟨x, hx, rfl⟩ := small5 h1 h3
          obtain ⟨y, hy, rfl⟩ := small5 h2 h4
          exact pat25 x hx y hy
theorem ml_po {U : Nat} (a b : Int32) : ∀ (d n q : Nat), q + d = PU U → d < n →
    (∃ r, q ≤ r ∧ r < PU U ∧ pwA (cl U r) = a ∧ pwB (cl U r) = b ∧ ∀ K, f_Mo_powerOf_L2 a b (nI (PU U)) (mF U) (mS U) n (nI q) K = some (nI r)) ∨
    ((∀ r, q ≤ r → r < PU U → ¬ (pwA (cl U r) = a ∧ pwB (cl U r) = b)) ∧ ∀ K, f_Mo_powerOf_L2 a b (nI (PU U)) (mF U) (mS U) n (nI q) K = K ()) := by
  have hP := PU_le U
  intro d
  induction d with
  | zero =>
    intro n q hk hn
    obtain ⟨n, rfl⟩ : ∃ q, n = q + 1 := ⟨n - 1, by omega⟩
    have e : q = PU U := by omega
    subst e
    refine Or.inr ⟨fun r h1 h2 => by omega, fun K => ?_⟩
    simp (disch := omega) only [f_Mo_powerOf_L2, mq_le, Nat.le_refl, ↓reduceIte]
  | succ d ih =>
    intro n q hk hn
    obtain ⟨n, rfl⟩ : ∃ q, n = q + 1 := ⟨n - 1, by omega⟩
    have hq : q < PU U := by omega
    by_cases e : pwA (cl U q) = a ∧ pwB (cl U q) = b
    · refine Or.inl ⟨q, Nat.le_refl _, hq, e.1, e.2, fun K => ?_⟩
      simp (disch := omega) only [f_Mo_powerOf_L2, mq_le, mq_n0, mn_cl, mq_no, false_or, ↓reduceIte, mF_at hq, mS_at hq, e.1, e.2]
    · have hst : ∀ K, f_Mo_powerOf_L2 a b (nI (PU U)) (mF U) (mS U) (n + 1) (nI q) K = f_Mo_powerOf_L2 a b (nI (PU U)) (mF U) (mS U) n (nI (q + 1)) K := by
        intro K
        rw [f_Mo_powerOf_L2]
        simp (disch := omega) only [mq_le, mq_n0, mn_cl, mq_no, false_or, ↓reduceIte, mF_at hq, mS_at hq, mq_1]
        by_cases e1 : pwA (cl U q) = a
        · rw [if_pos e1, if_neg (fun e2 => e ⟨e1, e2⟩)]
        · rw [if_neg e1]
      rcases ih n (q + 1) (by omega) (by omega) with ⟨r, r1, r2, r3, r4, r5⟩ | ⟨r1, r2⟩
      · exact Or.inl ⟨r, by omega, r2, r3, r4, fun K => by rw [hst K, r5 K]⟩
      · refine Or.inr ⟨fun r h1 h2 => ?_, fun K => by rw [hst K, r2 K]⟩
        by_cases e3 : r = q
        · subst e3; exact e
        · exact r1 r (by omega) h2
theorem b0_1 : ∀ p, p < 15 → ¬ pwB p = 0 ∨ (p = 0 ∨ p = 1 ∨ p = 3 ∨ p = 6 ∨ p = 10) := by decide +kernel
theorem b1_0 : ∀ q, q < 5 → pwB (cl 1 q) = 0 := by decide +kernel
/-- the same power on both sides -/
theorem me_pw {U : Nat} (hU : U = 1 ∨ U = 2) (a b : Int32) :
    (∃ q, q < PU U ∧ f_Sq_powerAt a b = some (nI (cl U q)) ∧ f_Mo_powerOf a b (nI (PU U)) (mF U) (mS U) = some (nI q) ∧ (U = 1 → b = 0)) ∨
    (f_Mo_powerOf a b (nI (PU U)) (mF U) (mS U) = some (-1) ∧ (f_Sq_powerAt a b = some (-1) ∨ ∃ p, p < 15 ∧ f_Sq_powerAt a b = some (nI p) ∧ U = 1 ∧ ¬ b = 0)) := by
  have hP := PU_le U
  rcases ml_po (U := U) a b (PU U) 40 0 (by omega) (by omega) with ⟨r, r1, r2, r3, r4, r5⟩ | ⟨r1, r2⟩
  · have r5' : ∀ K, f_Mo_powerOf_L2 a b (nI (PU U)) (mF U) (mS U) 40 0 K = some (nI r) := r5
    refine Or.inl ⟨r, r2, ?_, by rw [f_Mo_powerOf, r5'], fun e => ?_⟩
    · rcases me_pat a b with ⟨p, p1, p2, p3, p4⟩ | ⟨p1, p2⟩
      · rcases pw_inj' p p1 (cl U r) (cl_lt r2) with h | h
        · exact absurd ⟨by rw [p2, r3], by rw [p3, r4]⟩ h
        · rw [p4, h]
      · exact absurd ⟨r3, r4⟩ (p1 _ (cl_lt r2))
    · subst e
      rw [← r4]
      exact b1_0 r r2
  · have r2' : ∀ K, f_Mo_powerOf_L2 a b (nI (PU U)) (mF U) (mS U) 40 0 K = K () := r2
    refine Or.inr ⟨by rw [f_Mo_powerOf, r2'], ?_⟩
    rcases me_pat a b with ⟨p, p1, p2, p3, p4⟩ | ⟨p1, p2⟩
    · refine Or.inr ⟨p, p1, p4, ?_⟩
      rcases hU with e | e
      · refine ⟨e, fun hb => ?_⟩
        subst e
        rcases b0_1 p p1 with h | h
        · exact h (by rw [p3, hb])
        · have : ∃ q, q < 5 ∧ cl 1 q = p := by
            rcases h with h | h | h | h | h <;> subst h
            · exact ⟨0, by decide, rfl⟩
            · exact ⟨1, by decide, rfl⟩
            · exact ⟨2, by decide, rfl⟩
            · exact ⟨3, by decide, rfl⟩
            · exact ⟨4, by decide, rfl⟩
          obtain ⟨q, hq, rfl⟩ := this
          exact r1 q (by omega) hq ⟨p2, p3⟩
      · exfalso
        subst e
        exact r1 p (by omega) p1 ⟨p2, p3⟩
    · exact Or.inl p2
theorem me_w15 (x : Int32) : (sm 15 x ∧ ¬ x < -15 ∧ x ≤ 15 ∧ f_Sq_within x 15 = some 1) ∨ ((x < -15 ∨ (¬ x < -15 ∧ ¬ x ≤ 15)) ∧ f_Sq_within x 15 = some 0) := by
  unfold f_Sq_within sm
  have e1 : (-15 : Int32).toInt = -15 := rfl
  have e2 : (15 : Int32).toInt = 15 := rfl
  by_cases h1 : x < -15
  · exact Or.inr ⟨Or.inl h1, by rw [if_pos h1]⟩
  · by_cases h2 : 15 < x
    · exact Or.inr ⟨Or.inr ⟨h1, fun h => by rw [i_lt] at h2; rw [i_le] at h; omega⟩, by rw [if_neg h1, if_pos h2]⟩
    · refine Or.inl ⟨?_, h1, ?_, by rw [if_neg h1, if_neg h2]⟩
      · rw [i_lt] at h1 h2; omega
      · rw [i_lt] at h1 h2; rw [i_le]; omega
theorem NR_upd {U q : Nat} {cn mn : Nat → Int32} {v : Int32} (h : NR U cn mn) (hq : q < PU U) : NR U (upd cn (cl U q) v) (upd mn q v) := by
  refine ⟨fun r hr => ?_, fun p hp hn => ?_⟩
  · by_cases e : r = q
    · subst e; rw [up_eq, up_eq]
    · rw [up_ne e, up_ne (fun e2 => e (cl_inj hr hq e2))]
      exact h.1 r hr
  · by_cases e : p = cl U q
    · exact ⟨q, hq, e.symm⟩
    · rw [up_ne e] at hn
      exact h.2 p hp hn
/-- another polynomial -/
theorem me_anew {U : Nat} (hU : U = 1 ∨ U = 2) {cn mn : Nat → Int32} (hN : NR U cn mn) (h15 : ∀ p, p < 15 → sm 15 (cn p)) (ct cor out mem sec cel pow sha han fre bas mt : Nat → Int32) :
    ∃ M cor' out' mem' sec' cel' pow' sha' han' fre' bas', IB U M cn mn (nI (mlen M)) cor' mem' (nI (nP M)) (nI (FF M)) sec' cel' pow' sha' han' fre' (nI (mlen M)) bas' ∧
      f_Sq_startAnew cn ct cor out mem sec cel pow sha han fre = some (0, fl 36 0 0 ct, nI (mlen M), cor', out', mem', nI (nP M), nI (FF M), sec', cel', pow', sha', han', fre') ∧
      f_Mo_begin (nI (PU U)) (mF U) (mS U) mn bas mt = some (nI (mlen M), 0, bas', fl 36 0 0 mt) := by
  obtain ⟨M, cor', out', mem', a1, a2, a3, a4, a5⟩ := me_span cn cor out mem
  have hMU : MU U M := ⟨a1, hU, fun e => mask_U hN a2 e⟩
  obtain ⟨bas', b1, b2⟩ := me_find hMU hN a2 bas
  obtain ⟨sec', cel', pow', sha', han', fre', c1, c2, c3, c4⟩ := me_arrange a1 a4 sec cel pow sha han fre
  have b3 : ∀ k, f_Mo_begin_L6 40 0 mt k = k (fl 36 0 0 mt) := fun k => ml_begin 36 40 0 mt (by omega) (by omega)
  refine ⟨M, cor', out', mem', sec', cel', pow', sha', han', fre', bas', ⟨hMU, hN, h15, a5, a4, rfl, rfl, b1, rfl, rfl, c1, c2, c3⟩, ?_, ?_⟩
  · rw [f_Sq_startAnew, me_fill36, Option.bind_some, a3, Option.bind_some]
    dsimp only
    rw [c4, Option.bind_some]
  · rw [f_Mo_begin, b2, Option.bind_some]
    dsimp only
    rw [b3]
theorem IT_new (M : Nat) (ct mt : Nat → Int32) (ssz : Int32) (sl : Nat → Int64) (sq : Nat → Int32) (sqs : Int32) (wA wB rA rB : Nat → Int64) : IT M 0 (fl 36 0 0 ct) ssz sl sq 0 sqs (fl 36 0 0 mt) wA wB rA rB := by
  refine ⟨fun i j hij hj => ?_, fun a c hac hc => ?_, ⟨rfl, Or.inl rfl⟩⟩
  · unfold fl
    rw [if_pos (by omega), if_pos (by omega), if_pos (by omega)]
    exact ⟨rfl, rfl⟩
  · unfold fl
    rw [if_pos (by omega)]
    exact (by decide : (0 : Int32).toInt.natAbs ≤ 30)
theorem R143_ok {L i : Nat} {xs : Nat → Int32} (hi : i + 3 < L) (hL : L ≤ 2049) {pws ms isT : Int32} {fi se mn bas mt : Nat → Int32} {out : Nat → Int64} {r t ms' isT' : Int32} {mn' bas' mt' : Nat → Int32} (h : f_Mo_term (xs (i + 1)) (xs (i + 2)) (xs (i + 3)) pws ms isT fi se mn bas mt = some (r, t, ms', isT', mn', bas', mt')) (ho : t = 0 → out 0 = if r = 0 then 0 else 1) : ∀ k, f_La_law_R143 L xs (nI i) pws ms isT fi se mn bas mt out t k = k t ms' isT' mn' bas' mt' := by
  intro k
  rw [f_La_law_R143]
  simp (disch := omega) only [mq_1, mq_2, mq_3, mw_n0, mw_cl, mq_no, false_or, ↓reduceIte]
  rw [h, Option.bind_some]
  dsimp only
  rw [me_thr, Option.bind_some, if_pos rfl]
  by_cases e : t = 0
  · have := ho e
    rw [if_pos e, if_neg o_nk]
    by_cases e2 : r = 0
    · rw [if_pos e2] at this
      rw [if_pos e2, o_eq this]
    · rw [if_neg e2] at this
      rw [if_neg e2, o_eq this]
  · rw [if_neg e]
theorem me_R120 {U L i : Nat} {xs : Nat → Int32} (hi : i + 3 < L) (hL : L ≤ 2049) {th : Int32} {cn ct : Nat → Int32} {hsz : Int32} {cor mem : Nat → Int32} {psz fsz : Int32} {sec cel pow sha han fre : Nat → Int32} {ssz : Int32} {sl : Nat → Int64} {sq : Nat → Int32} {ms isT sqs : Int32} {mn bas mt : Nat → Int32} {wA wB rA rB : Nat → Int64}
    (h : INV U th cn ct hsz cor mem psz fsz sec cel pow sha han fre ssz sl sq ms isT sqs mn bas mt wA wB rA rB) (out : Nat → Int32) (o : Nat → Int64) :
    ∃ th' cn' ct' hsz' cor' out' mem' psz' fsz' sec' cel' pow' sha' han' fre' t ms' isT' mn' bas' mt' o', INV U th' cn' ct' hsz' cor' mem' psz' fsz' sec' cel' pow' sha' han' fre' ssz sl sq ms' isT' sqs mn' bas' mt' wA wB rA rB ∧
      ∀ k, f_La_law_R120 L xs (nI i) (nI U) th cn ct hsz cor out mem psz fsz sec cel pow sha han fre (nI (PU U)) ms isT (mF U) (mS U) mn bas mt o k = k th' cn' ct' hsz' cor' out' mem' psz' fsz' sec' cel' pow' sha' han' fre' t ms' isT' mn' bas' mt' o' := by
  have hI := h
  obtain ⟨M, hB, hT⟩ := h
  have hU := hB.mu.2.1
  have hU1 : (nI U = 1) ↔ U = 1 := by rcases hU with e | e <;> subst e <;> decide
  generalize ha : xs (i + 1) = a
  generalize hb : xs (i + 2) = b
  generalize hv : xs (i + 3) = v
  -- the call is refused
  have refused : g_Sq_term a b v (nI U) = some (some 1) → f_Mo_term a b v (nI (PU U)) ms isT (mF U) (mS U) mn bas mt = some (0, 1, ms, isT, mn, bas, mt) → ∃ th' cn' ct' hsz' cor' out' mem' psz' fsz' sec' cel' pow' sha' han' fre' t ms' isT' mn' bas' mt' o', INV U th' cn' ct' hsz' cor' mem' psz' fsz' sec' cel' pow' sha' han' fre' ssz sl sq ms' isT' sqs mn' bas' mt' wA wB rA rB ∧
      ∀ k, f_La_law_R120 L xs (nI i) (nI U) th cn ct hsz cor out mem psz fsz sec cel pow sha han fre (nI (PU U)) ms isT (mF U) (mS U) mn bas mt o k = k th' cn' ct' hsz' cor' out' mem' psz' fsz' sec' cel' pow' sha' han' fre' t ms' isT' mn' bas' mt' o' := by
    intro h1 h2
    refine ⟨th, cn, ct, hsz, cor, out, mem, psz, fsz, sec, cel, pow, sha, han, fre, 1, ms, isT, mn, bas, mt, o, hI, fun k => ?_⟩
    have := R143_ok (xs := xs) hi hL (out := o) (by rw [ha, hb, hv]; exact h2) (fun e => absurd e (by decide))
    rw [f_La_law_R120]
    simp (disch := omega) only [mq_1, mq_2, mq_3, mw_n0, mw_cl, mq_no, false_or, ↓reduceIte, ha, hb, hv]
    rw [if_pos h1, this]
  have hrf : f_Mo_refuses 1 0 0 = some (1, 1) := rfl
  have hrn : f_Mo_refuses 0 0 0 = some (0, 0) := rfl
  rcases me_pw hU a b with ⟨q, q1, q2, q3, q4⟩ | ⟨q1, q2⟩
  · have hcl := cl_lt q1
    have hq15 : q < 15 := by have := PU_le U; omega
    rcases me_w15 v with ⟨w1, w2, w3, w4⟩ | ⟨w1, w2⟩
    · have hg : g_Sq_term a b v (nI U) = some none := by
        rw [g_Sq_term, q2, Option.bind_some, if_neg (mn_m1 (by omega))]
        by_cases e : U = 1
        · rw [if_pos (hU1.mpr e), if_pos (q4 e), w4, Option.bind_some, if_neg i_10]
        · rw [if_neg (fun h => e (hU1.mp h)), w4, Option.bind_some, if_neg i_10]
      have hne : ¬ (some none : Option (Option Nat)) = some (some 1) := by simp
      by_cases hsame : cn (cl U q) = v
      · have hc : f_La_term a b v (nI U) th cn ct hsz cor out mem psz fsz sec cel pow sha han fre o = some (0, th, cn, ct, hsz, cor, out, mem, psz, fsz, sec, cel, pow, sha, han, fre, vp_updL o 0 0) := by
          rw [f_La_term, f_Sq_term, q2, Option.bind_some, if_neg (mn_m1 (by omega))]
          by_cases e : U = 1
          · rw [if_pos (hU1.mpr e), if_pos (q4 e), w4, Option.bind_some, if_neg i_10]
            simp (disch := omega) only [mq_n0, mn_cl, mq_no, false_or, ↓reduceIte, hsame]
            rfl
          · rw [if_neg (fun h => e (hU1.mp h)), w4, Option.bind_some, if_neg i_10]
            simp (disch := omega) only [mq_n0, mn_cl, mq_no, false_or, ↓reduceIte, hsame]
            rfl
        have hm : f_Mo_term a b v (nI (PU U)) ms isT (mF U) (mS U) mn bas mt = some (0, 0, ms, isT, mn, bas, mt) := by
          rw [f_Mo_term, q3, Option.bind_some]
          unfold ct_jn
          dsimp only
          rw [if_neg (mn_n0 (by omega)), if_neg w2, if_pos w3, hrn, Option.bind_some]
          dsimp only
          rw [if_pos rfl]
          simp (disch := omega) only [mq_n0, mn_cl, mq_no, false_or, ↓reduceIte, hB.nr.1 q q1, hsame]
        refine ⟨th, cn, ct, hsz, cor, out, mem, psz, fsz, sec, cel, pow, sha, han, fre, 0, ms, isT, mn, bas, mt, vp_updL o 0 0, hI, fun k => ?_⟩
        have := R143_ok (xs := xs) hi hL (out := vp_updL o 0 0) (by rw [ha, hb, hv]; exact hm) (fun e => by rw [uL_eq]; rfl)
        rw [f_La_law_R120]
        simp (disch := omega) only [mq_1, mq_2, mq_3, mw_n0, mw_cl, mq_no, false_or, ↓reduceIte, ha, hb, hv]
        rw [hg, if_neg hne, if_pos rfl, hc, Option.bind_some]
        dsimp only
        rw [this]
      · obtain ⟨M', cor', out', mem', sec', cel', pow', sha', han', fre', bas', n1, n2, n3⟩ := me_anew hU (NR_upd (v := v) hB.nr q1) (fun p hp => by
          by_cases e : p = cl U q
          · rw [e, up_eq]; exact w1
          · rw [up_ne e]; exact hB.n15 p hp) ct cor out mem sec cel pow sha han fre bas mt
        have hc : f_La_term a b v (nI U) th cn ct hsz cor out mem psz fsz sec cel pow sha han fre o = some (0, 0, upd cn (cl U q) v, fl 36 0 0 ct, nI (mlen M'), cor', out', mem', nI (nP M'), nI (FF M'), sec', cel', pow', sha', han', fre', vp_updL o 0 1) := by
          rw [f_La_term, f_Sq_term, q2, Option.bind_some, if_neg (mn_m1 (by omega))]
          by_cases e : U = 1
          · rw [if_pos (hU1.mpr e), if_pos (q4 e), w4, Option.bind_some, if_neg i_10]
            simp (disch := omega) only [mq_n0, mn_cl, mq_no, false_or, ↓reduceIte, hsame]
            rw [n2, Option.bind_some]
            rfl
          · rw [if_neg (fun h => e (hU1.mp h)), w4, Option.bind_some, if_neg i_10]
            simp (disch := omega) only [mq_n0, mn_cl, mq_no, false_or, ↓reduceIte, hsame]
            rw [n2, Option.bind_some]
            rfl
        have hm : f_Mo_term a b v (nI (PU U)) ms isT (mF U) (mS U) mn bas mt = some (1, 0, nI (mlen M'), 0, upd mn q v, bas', fl 36 0 0 mt) := by
          rw [f_Mo_term, q3, Option.bind_some]
          unfold ct_jn
          dsimp only
          rw [if_neg (mn_n0 (by omega)), if_neg w2, if_pos w3, hrn, Option.bind_some]
          dsimp only
          rw [if_pos rfl]
          simp (disch := omega) only [mq_n0, mn_cl, mq_no, false_or, ↓reduceIte, hB.nr.1 q q1, hsame]
          rw [n3, Option.bind_some]
        refine ⟨0, upd cn (cl U q) v, fl 36 0 0 ct, nI (mlen M'), cor', out', mem', nI (nP M'), nI (FF M'), sec', cel', pow', sha', han', fre', 0, nI (mlen M'), 0, upd mn q v, bas', fl 36 0 0 mt, vp_updL o 0 1, ⟨M', n1, IT_new M' ct mt ssz sl sq sqs wA wB rA rB⟩, fun k => ?_⟩
        have := R143_ok (xs := xs) hi hL (out := vp_updL o 0 1) (by rw [ha, hb, hv]; exact hm) (fun e => by rw [uL_eq]; rfl)
        rw [f_La_law_R120]
        simp (disch := omega) only [mq_1, mq_2, mq_3, mw_n0, mw_cl, mq_no, false_or, ↓reduceIte, ha, hb, hv]
        rw [hg, if_neg hne, if_pos rfl, hc, Option.bind_some]
        dsimp only
        rw [this]
    · apply refused
      · rw [g_Sq_term, q2, Option.bind_some, if_neg (mn_m1 (by omega))]
        by_cases e : U = 1
        · rw [if_pos (hU1.mpr e), if_pos (q4 e), w2, Option.bind_some, if_pos rfl]
        · rw [if_neg (fun h => e (hU1.mp h)), w2, Option.bind_some, if_pos rfl]
      · rw [f_Mo_term, q3, Option.bind_some]
        unfold ct_jn
        dsimp only
        rw [if_neg (mn_n0 (by omega))]
        rcases w1 with w1 | ⟨w1, w3⟩
        · rw [if_pos w1, hrf, Option.bind_some]
          dsimp only
          rw [if_neg i_10]
        · rw [if_neg w1, if_neg w3, hrf, Option.bind_some]
          dsimp only
          rw [if_neg i_10]
  · apply refused
    · rw [g_Sq_term]
      rcases q2 with q2 | ⟨p, p1, p2, p3, p4⟩
      · rw [q2, Option.bind_some, if_pos rfl]
      · rw [p2, Option.bind_some, if_neg (mn_m1 (by omega)), if_pos (hU1.mpr p3), if_neg p4]
    · rw [f_Mo_term, q1, Option.bind_some]
      unfold ct_jn
      dsimp only
      rw [if_pos (by decide), hrf, Option.bind_some]
      dsimp only
      rw [if_neg i_10]
