-- rows for the law's own walk
theorem ct_len {y : MethodName} {n : Nat} (h : (parseMethodDescriptor y.desc).map (fun d => d.parameters.length) = some n) : ∀ sig, parseMethodDescriptor y.desc = some sig → n = sig.parameters.length := by
  intro sig hs
  rw [hs] at h
  exact (Option.some.inj h).symm
section CTLAW
variable {p : Program} {l : Launch} {e : Env} {R : Room} {s : State} {m : MethodId} {args : Array Value} {below : List Frame} {meth : Method} {c : Code} {H : Heap} {locs : List Loc} {cells slots : Nat} {Q : State → Prop}
variable {pc : Nat} {ls : Array Slot} {rest st0 : List Value} {a : Array Value} {A : Nat → Prop} {D : va_G} {tys : List (ClassId × FieldType)} {tA tB mc ms : Nat} {ws wc wr wc' ws' : va_W} {av As : List Value}
theorem ct_calliX {r0 : Int32} (hr : va_Run p l e R s m args below meth c H locs cells slots mc ms (F0 m pc ls st0) rest (ct_Qi D wc' (va_A wc H.size) r0 a) (va_A wc H.size)) (hP : va_P D vwCl ws H) (hD : va_D A ws) (hS : va_S A s.heap H locs) (hA : ∀ q, s.heap.size ≤ q → A q) (isC isR : List Nat) (hC : isC.map (fun i => ws[i]?) = wc.map some) (hR : isR.map (fun i => ws[i]?) = wr.map some) (hn : va_nd isR = true) (hdis : ∀ i ∈ isR, i ∉ isC) (ks : List Nat) (hks : ks.map (fun i => (wr ++ wc')[i]?) = ws'.map some) (hnd : va_nd ks = true)
    (kk : ∀ (H1 : Heap) (locs1 : List Loc), va_P D vwCl ws' H1 → va_D A ws' → va_S A s.heap H1 locs1 → W p l e R s m args below meth c H1 locs1 (cells + mc) (slots + ms) Q (F0 m (pc + 3) ls (.int r0 :: rest))) : W p l e R s m args below meth c H locs cells slots Q (F0 m pc ls st0) := by
  have hF := va_free (wc := wc) hD hS hA isC hC
  refine va_calli hr hS (fun q _ h => hF q h) hF (fun r u t H1 locs1 ht hvm hw hB hz1 hk1 hS1 => ?_)
  have hw : r = r0 := hw
  subst hw
  obtain ⟨h1, h2⟩ := ct_back ht hB hk1 hP hD hF isC isR hC hR hn hdis ks hks hnd
  exact kk _ _ h1 h2 hS1
theorem cx_preS (hP : va_P D vwCl ws H) (hD : va_D A ws) (hK : va_K D vwCl tys s) (hS : va_S A s.heap H locs) (hA : ∀ q, s.heap.size ≤ q → A q) (hT : ct_T tA tB A s s.heap) (hB : cx_B A s s.heap) (isC : List Nat) (hC : isC.map (fun i => ws[i]?) = wc.map some) (hn : va_nd isC = true) :
    PreS s H (cx_Pre D tys tA tB wc H.size As) As := by
  refine ⟨cx_blind, fun U hU hW => ?_⟩
  obtain ⟨h0, h1, h2, h3, h4, h5⟩ := ct_pre (av := As) hP hD hK hS hA hT isC hC hn U hU hW
  refine ⟨h0, h1, h2, h3, h4, h5, ?_⟩
  rw [hU]
  exact ((hB.kept hS.2.1).narrow (va_free (wc := wc) hD hS hA isC hC)).moved hW
end CTLAW
/-- the wrappers' words -/
theorem ct_wrap {x w : Cond} {args : Array Value} {s : State} (hts : ∀ v ∈ x :: ct_G, v.before args s = true) (h : w ∈ ct_G) : ∀ v ∈ w :: ct_G, ∀ (a' : Array Value) (U : State), s.WarmedH U.vm → v.before a' U = true := pay_in hts (ct_good h)
theorem ct_inited {x w : Cond} {args : Array Value} {s : State} (hts : ∀ v ∈ x :: ct_G, v.before args s = true) (h : w ∈ ct_G) : ∀ (a' : Array Value) (U : State), s.WarmedH U.vm → w.before a' U = true := fun _ _ hW => word_at hW (ct_gw h) (hts _ (ct_in h))
abbrev wd_La_cell : List Cond := .code y_La_cell b_La_cell 2 (some .int) :: ct_G
abbrev rm_La_cell : Room := { frames := 0, cells := 0, slots := 0, locals := 0 }
theorem ct_Xblind {b L : Nat} {xs : Nat → Int32} {av : List Value} : FrameBlind (va_Pc av (fun U => va_X b L xs U U.heap)) := by
  intro a U g mk q
  exact ⟨q.1, va_X.moved (u := U) (U := U.calling g mk a) (Vm.Alike.refl U.vm) q.2⟩
set_option maxHeartbeats 4000000 in
set_option maxRecDepth 100000 in
theorem c_La_cell (l : Launch) (b L : Nat) (xs : Nat → Int32) (hL : L < 2 ^ 31) : Met l y_La_cell wd_La_cell rm_La_cell (va_Pc [.ref b, .int 0] (fun U => va_X b L xs U U.heap)) (QcRead (if L = 0 then 0 else xs 0)) 0 0 (fun _ => False) := by
  refine Met.ofW (cc := b_La_cell) (maxL := 2) (ret := (some .int)) (by decide) rfl ?_
  intro p e s m args below meth c s₁ B hml hv
  obtain ⟨hargs, hX⟩ := hv
  have hx := B.exec
  have hb := B.bytes
  have hr := B.returns
  have hlocks := B.notSynchronized
  have hbl : b < s.heap.size := by
    obtain ⟨scr, h1, -⟩ := hX
    exact (Array.getElem?_eq_some_iff.mp h1).1
  have hbA : ¬ (fun q : Nat => s.heap.size ≤ q) b := Nat.not_le.mpr hbl
  have hS : va_S (fun q : Nat => s.heap.size ≤ q) s.heap s.heap [] := va_S.rf
  have hl := lv_entry ([.ref b, .int 0]) (n := 2) (Nat.le_of_ble_eq_true rfl)
  rw [show entryFrame m args 2 = entryFrame m ([.ref b, .int 0] : List Value).toArray 2 by rw [hargs], lg_entry_eq]
  generalize (lg_sl ([.ref b, .int 0]) ++ List.replicate (2 - (lg_sl ([.ref b, .int 0])).length) Slot.unset).toArray = ls at hl ⊢
  have hl : lv_has ls 2 [(0, .ref b), (1, .int 0)] := hl
  refine lv_iload_n hx hb d_La_cell_0 rfl (lv_at hl 1 rfl) ?_
  refine lv_aload_n hx hb d_La_cell_1 rfl (lv_at hl 0 rfl) ?_
  refine va_slen hx hb hX hbl hbA hS d_La_cell_2 ?_
  refine lv_icmp_ge (tgt := 12) hx hb d_La_cell_3 (by decide) (fun hc => ?_) (fun hc => ?_)
  · have h0 : L = 0 := by
      rcases Nat.eq_zero_or_pos L with h | h
      · exact h
      · exact absurd hc (nI_nle h hL)
    rw [if_pos h0]
    refine lv_iconst (v := 0) hx hb d_La_cell_12 (by decide) ?_
    exact W.iret hx hb hr (fun t ht hW => ⟨rfl, ht⟩) (fun q hq => by cases hq) d_La_cell_13
  · have h0 : ¬ L = 0 := fun h => hc (by rw [h]; decide)
    rw [if_neg h0]
    refine lv_aload_n hx hb d_La_cell_6 rfl (lv_at hl 0 rfl) ?_
    refine lv_iload_n hx hb d_La_cell_7 rfl (lv_at hl 1 rfl) ?_
    have hin : vp_in 0 L := vp_in_nI (n := 0) (by omega) hL
    refine va_sld hx hb hX hbl hbA hS hin d_La_cell_8 ?_
    refine lv_goto (tgt := 13) hx hb d_La_cell_9 (by decide) ?_
    exact W.iret hx hb hr (fun t ht hW => ⟨rfl, ht⟩) (fun q hq => by cases hq) d_La_cell_13
