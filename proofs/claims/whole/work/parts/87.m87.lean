-- MATHEMATICS 27: the law
theorem lt_L {L i : Nat} (hL : L ≤ 2049) (hi : i ≤ 2100) : ((Int32.ofNat L) - 4 < nI i) ↔ ¬ i + 4 ≤ L := by
  have e : (Int32.ofNat L).toInt = (L : Int) := nI_toInt (n := L) (by omega)
  have e4 : (4 : Int32).toInt = 4 := rfl
  rw [i_lt, Int32.toInt_sub, e, e4, nI_toInt (by omega), Int.bmod_eq_of_le_mul_two] <;> omega
theorem ml_law {U L : Nat} {xs : Nat → Int32} (hL : L ≤ 2049) : ∀ (N i : Nat) (th : Int32) (cn : Nat → Int32) (ct : Nat → Int32) (hsz : Int32) (cor : Nat → Int32) (out : Nat → Int32) (mem : Nat → Int32) (psz : Int32) (fsz : Int32) (sec : Nat → Int32) (cel : Nat → Int32) (pow : Nat → Int32) (sha : Nat → Int32) (han : Nat → Int32) (fre : Nat → Int32) (rest : Nat → Int32) (ssz : Int32) (sl : Nat → Int64) (sq : Nat → Int32) (st : Nat → Int32) (sr : Nat → Int32) (sc : Nat → Int32) (slf : Nat → Int32) (sz : Int32) (ssl : Nat → Int64) (ssq : Nat → Int32) (t : Int32) (ms : Int32) (isT : Int32) (sqs : Int32) (mds : Int32) (frs : Int32) (mn : Nat → Int32) (bas : Nat → Int32) (mt : Nat → Int32) (wA : Nat → Int64) (wB : Nat → Int64) (rA : Nat → Int64) (rB : Nat → Int64) (l : Nat → Int64) (mA : Nat → Int64) (mB : Nat → Int64) (ff : Nat → Int32) (fs : Nat → Int32) (hf : Nat → Int32) (hs : Nat → Int32) (tr : Nat → Int32) (cu : Nat → Int32) (o : Nat → Int64), i ≤ L + 1 → L + 4 ≤ i + 4 * N → INV U th cn ct hsz cor mem psz fsz sec cel pow sha han fre ssz sl sq ms isT sqs mn bas mt wA wB rA rB →
    ∀ k, f_La_law_L L xs (nI U) (nI U) (nI (PU U)) (mF U) (mS U) N (nI i) th cn ct hsz cor out mem psz fsz sec cel pow sha han fre rest ssz sl sq st sr sc slf sz ssl ssq t ms isT sqs mds frs mn bas mt wA wB rA rB l mA mB ff fs hf hs tr cu o k = k () := by
  intro N
  induction N with
  | zero => intro i th cn ct hsz cor out mem psz fsz sec cel pow sha han fre rest ssz sl sq st sr sc slf sz ssl ssq t ms isT sqs mds frs mn bas mt wA wB rA rB l mA mB ff fs hf hs tr cu o h1 h2; omega
  | succ N ih =>
    intro i th cn ct hsz cor out mem psz fsz sec cel pow sha han fre rest ssz sl sq st sr sc slf sz ssl ssq t ms isT sqs mds frs mn bas mt wA wB rA rB l mA mB ff fs hf hs tr cu o h1 h2 h k
    rw [f_La_law_L]
    by_cases hi : i + 4 ≤ L
    · have hi3 : i + 3 < L := by omega
      rw [if_neg (fun e => (lt_L hL (by omega)).mp e hi)]
      rw [if_neg (show ¬ (nI i < 0 ∨ L ≤ (nI i).toNatClampNeg) from fun e => by
        rw [mw_cl (by omega)] at e
        rcases e with e | e
        · rw [mw_n0 (by omega)] at e; exact e
        · omega)]
      have ih' := ih (i + 4)
      rw [← mq_4] at ih'
      by_cases e0 : (xs (nI i).toNatClampNeg &&& 15) = 0
      · rw [if_pos e0]
        obtain ⟨th', cn', ct', hsz', cor', out', mem', psz', fsz', sec', cel', pow', sha', han', fre', t', ms', isT', mn', bas', mt', o', hI, hR⟩ := me_R120 (xs := xs) hi3 hL h out o
        refine (hR _).trans ?_
        exact ih' th' cn' ct' hsz' cor' out' mem' psz' fsz' sec' cel' pow' sha' han' fre' rest ssz sl sq st sr sc slf sz ssl ssq t' ms' isT' sqs mds frs mn' bas' mt' wA wB rA rB l mA mB ff fs hf hs tr cu o' (by omega) (by omega) hI k
      rw [if_neg e0]
      by_cases e1 : (xs (nI i).toNatClampNeg &&& 15) = 1
      · rw [if_pos e1]
        obtain ⟨t', hR⟩ := me_R207 (L := L) (xs := xs) h
        refine (hR _).trans ?_
        exact ih' th cn ct hsz cor out mem psz fsz sec cel pow sha han fre rest ssz sl sq st sr sc slf sz ssl ssq t' ms isT sqs mds frs mn bas mt wA wB rA rB l mA mB ff fs hf hs tr cu o (by omega) (by omega) h k
      rw [if_neg e1]
      by_cases e2 : (xs (nI i).toNatClampNeg &&& 15) = 2
      · rw [if_pos e2]
        obtain ⟨t', o', hR⟩ := me_R220 (xs := xs) hi3 hL h o
        refine (hR _).trans ?_
        exact ih' th cn ct hsz cor out mem psz fsz sec cel pow sha han fre rest ssz sl sq st sr sc slf sz ssl ssq t' ms isT sqs mds frs mn bas mt wA wB rA rB l mA mB ff fs hf hs tr cu o' (by omega) (by omega) h k
      rw [if_neg e2]
      by_cases e3 : (xs (nI i).toNatClampNeg &&& 15) = 3
      · rw [if_pos e3]
        obtain ⟨th', ct', t', isT', mt', o', hI, hR⟩ := me_R288 (xs := xs) hi3 hL h o
        refine (hR _).trans ?_
        exact ih' th' cn ct' hsz cor out mem psz fsz sec cel pow sha han fre rest ssz sl sq st sr sc slf sz ssl ssq t' ms isT' sqs mds frs mn bas mt' wA wB rA rB l mA mB ff fs hf hs tr cu o' (by omega) (by omega) hI k
      rw [if_neg e3]
      by_cases e4 : (xs (nI i).toNatClampNeg &&& 15) = 4
      · rw [if_pos e4]
        obtain ⟨t', o', hR⟩ := me_R375 (xs := xs) hi3 hL h o
        refine (hR _).trans ?_
        exact ih' th cn ct hsz cor out mem psz fsz sec cel pow sha han fre rest ssz sl sq st sr sc slf sz ssl ssq t' ms isT sqs mds frs mn bas mt wA wB rA rB l mA mB ff fs hf hs tr cu o' (by omega) (by omega) h k
      rw [if_neg e4]
      by_cases e5 : (xs (nI i).toNatClampNeg &&& 15) = 5
      · rw [if_pos e5]
        obtain ⟨th', rest', ssz', sl', sq', t', isT', sqs', mds', wA', wB', rA', rB', l', mA', mB', hI, hR⟩ := me_R443 (L := L) (xs := xs) h rest mds l mA mB
        refine (hR _).trans ?_
        exact ih' th' cn ct hsz cor out mem psz fsz sec cel pow sha han fre rest' ssz' sl' sq' st sr sc slf sz ssl ssq t' ms isT' sqs' mds' frs mn bas mt wA' wB' rA' rB' l' mA' mB' ff fs hf hs tr cu o (by omega) (by omega) hI k
      rw [if_neg e5]
      by_cases e6 : (xs (nI i).toNatClampNeg &&& 15) = 6
      · rw [if_pos e6]
        obtain ⟨t', o', hR⟩ := me_R456 (L := L) (xs := xs) h o
        refine (hR _).trans ?_
        exact ih' th cn ct hsz cor out mem psz fsz sec cel pow sha han fre rest ssz sl sq st sr sc slf sz ssl ssq t' ms isT sqs mds frs mn bas mt wA wB rA rB l mA mB ff fs hf hs tr cu o' (by omega) (by omega) h k
      rw [if_neg e6]
      by_cases e7 : (xs (nI i).toNatClampNeg &&& 15) = 7
      · rw [if_pos e7]
        obtain ⟨t', o', hR⟩ := me_R500 (xs := xs) hi3 hL h o
        refine (hR _).trans ?_
        exact ih' th cn ct hsz cor out mem psz fsz sec cel pow sha han fre rest ssz sl sq st sr sc slf sz ssl ssq t' ms isT sqs mds frs mn bas mt wA wB rA rB l mA mB ff fs hf hs tr cu o' (by omega) (by omega) h k
      rw [if_neg e7]
      by_cases e8 : (xs (nI i).toNatClampNeg &&& 15) = 8
      · rw [if_pos e8]
        obtain ⟨t', o', hR⟩ := me_R567 (xs := xs) hi3 hL h o
        refine (hR _).trans ?_
        exact ih' th cn ct hsz cor out mem psz fsz sec cel pow sha han fre rest ssz sl sq st sr sc slf sz ssl ssq t' ms isT sqs mds frs mn bas mt wA wB rA rB l mA mB ff fs hf hs tr cu o' (by omega) (by omega) h k
      rw [if_neg e8]
      by_cases e9 : (xs (nI i).toNatClampNeg &&& 15) = 9
      · rw [if_pos e9]
        obtain ⟨t', frs', ff', fs', hf', hs', hR⟩ := me_R646 (L := L) (xs := xs) h ff fs hf hs
        refine (hR _).trans ?_
        exact ih' th cn ct hsz cor out mem psz fsz sec cel pow sha han fre rest ssz sl sq st sr sc slf sz ssl ssq t' ms isT sqs mds frs' mn bas mt wA wB rA rB l mA mB ff' fs' hf' hs' tr cu o (by omega) (by omega) h k
      rw [if_neg e9]
      by_cases e10 : (xs (nI i).toNatClampNeg &&& 15) = 10
      · rw [if_pos e10]
        obtain ⟨th', ct', ssz', sl', sq', st', sr', sc', slf', sz', ssl', ssq', t', isT', sqs', mds', frs', mt', wA', wB', rA', rB', l', mA', mB', ff', fs', hf', hs', tr', cu', o', hI, hR⟩ := me_R659 (xs := xs) hi3 hL h st sr sc slf sz ssl ssq mds frs l mA mB ff fs hf hs tr cu o
        refine (hR _).trans ?_
        exact ih' th' cn ct' hsz cor out mem psz fsz sec cel pow sha han fre rest ssz' sl' sq' st' sr' sc' slf' sz' ssl' ssq' t' ms isT' sqs' mds' frs' mn bas mt' wA' wB' rA' rB' l' mA' mB' ff' fs' hf' hs' tr' cu' o' (by omega) (by omega) hI k
      rw [if_neg e10]
      by_cases e11 : (xs (nI i).toNatClampNeg &&& 15) = 11
      · rw [if_pos e11]
        obtain ⟨t', o', hR⟩ := me_R715 (xs := xs) hi3 hL h o
        refine (hR _).trans ?_
        exact ih' th cn ct hsz cor out mem psz fsz sec cel pow sha han fre rest ssz sl sq st sr sc slf sz ssl ssq t' ms isT sqs mds frs mn bas mt wA wB rA rB l mA mB ff fs hf hs tr cu o' (by omega) (by omega) h k
      rw [if_neg e11]
      by_cases e12 : (xs (nI i).toNatClampNeg &&& 15) = 12
      · rw [if_pos e12]
        obtain ⟨t', hR⟩ := me_R782 (xs := xs) hi3 hL h
        refine (hR _).trans ?_
        exact ih' th cn ct hsz cor out mem psz fsz sec cel pow sha han fre rest ssz sl sq st sr sc slf sz ssl ssq t' ms isT sqs mds frs mn bas mt wA wB rA rB l mA mB ff fs hf hs tr cu o (by omega) (by omega) h k
      rw [if_neg e12]
      by_cases e13 : (xs (nI i).toNatClampNeg &&& 15) = 13
      · rw [if_pos e13]
        obtain ⟨th', cn', ct', hsz', cor', out', mem', psz', fsz', sec', cel', pow', sha', han', fre', t', ms', isT', mn', bas', mt', hI, hR⟩ := me_R807 (L := L) (xs := xs) h out
        refine (hR _).trans ?_
        exact ih' th' cn' ct' hsz' cor' out' mem' psz' fsz' sec' cel' pow' sha' han' fre' rest ssz sl sq st sr sc slf sz ssl ssq t' ms' isT' sqs mds frs mn' bas' mt' wA wB rA rB l mA mB ff fs hf hs tr cu o (by omega) (by omega) hI k
      rw [if_neg e13]
      exact ih' th cn ct hsz cor out mem psz fsz sec cel pow sha han fre rest ssz sl sq st sr sc slf sz ssl ssq t ms isT sqs mds frs mn bas mt wA wB rA rB l mA mB ff fs hf hs tr cu o (by omega) (by omega) h k
    · rw [if_pos ((lt_L hL (by omega)).mpr hi)]
theorem law_true (L : Nat) (xs : Nat → Int32) (hL : L ≤ 2049) : f_La_law L xs = some 1 := by
  obtain ⟨U, hU, h1, h2⟩ := me_init (if L = 0 then 0 else xs 0)
  rw [f_La_law, h1, Option.bind_some]
  dsimp only
  rw [h2, Option.bind_some]
  dsimp only
  exact ml_law (U := U) (xs := xs) hL 520 1 _ _ _ _ _ _ _ _ _ _ _ _ _ _ _ _ _ _ _ _ _ _ _ _ _ _ _ _ _ _ _ _ _ _ _ _ _ _ _ _ _ _ _ _ _ _ _ _ _ (by omega) (by omega) (INV0 hU _ _ _ _ _ _) _
