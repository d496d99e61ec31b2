abbrev rm_Sq_cellOf : Room := { frames := 0, cells := 0, slots := 0, locals := 0 }
abbrev wd_Sq_cellOf : List Cond := .code y_Sq_cellOf b_Sq_cellOf 2 (some .int) :: ct_G
def f_Sq_cellOf (p0 : Int32) (p1 : Int32) : Option (Int32) := (if p1 < p0 then some ((p1 * 6) + p0) else some ((p0 * 6) + p1))
set_option maxHeartbeats 4000000 in
set_option maxRecDepth 100000 in
theorem w_Sq_cellOf {p : Program} {l : Launch} {e : Env} {s : State} {m : MethodId} {args : Array Value} {below : List Frame} {meth : Method} {c : Code} {D : va_G} {cI cL cZ : ClassId} {tA tB : Nat} {A : Nat → Prop}  {p0 : Int32} {p1 : Int32} {o_r : Int32} (cx : ct_Cx p s m args meth c b_Sq_cellOf 2 (some .int) R_Sq wd_Sq_cellOf D (ct_tys cI cL cZ) tA tB A) (h : f_Sq_cellOf p0 p1 = some o_r) : ∀ (H : Heap) (locs : List Loc), va_P D vwCl [] H → va_D A [] → va_S A s.heap H locs → ∀ ls : Array Slot, lv_has ls 2 [(0, .int p0), (1, .int p1)] → W p l e (headSpec wd_Sq_cellOf rm_Sq_cellOf).room s m args below meth c H locs 0 0 (MQ below (ct_Qi D [] A o_r) args s 0 0 A) (F0 m 0 ls []) := by
  obtain ⟨hx, hb, hr, hml, hown, hts, hK, hA, hT, hlocks, hZA, hZB, hTA, hTB, hnw⟩ := id cx
  intro H locs hP hD hS ls hl
  rw [f_Sq_cellOf] at h
  refine lv_iload_n hx hb d_Sq_cellOf_0 rfl (lv_at hl 0 rfl) ?_
  refine lv_iload_n hx hb d_Sq_cellOf_1 rfl (lv_at hl 1 rfl) ?_
  refine lv_icmp_gt (tgt := 14) hx hb d_Sq_cellOf_2 (by decide) (fun hc => ?_) (fun hc => ?_)
  · rw [if_pos hc] at h
    refine lv_iload_n hx hb d_Sq_cellOf_14 rfl (lv_at hl 1 rfl) ?_
    refine lv_bipush (v := 6) hx hb d_Sq_cellOf_15 (by decide) ?_
    refine lv_imul hx hb d_Sq_cellOf_17 ?_
    refine lv_iload_n hx hb d_Sq_cellOf_18 rfl (lv_at hl 0 rfl) ?_
    refine lv_iadd hx hb d_Sq_cellOf_19 ?_
    cases h
    exact W.iret hx hb hr (fun t ht hW => ⟨⟨_, (), rfl, rfl, by rw [ht]; exact hP, hD⟩, hS.F ht⟩) hS.2.2 d_Sq_cellOf_20
  · rw [if_neg hc] at h
    refine lv_iload_n hx hb d_Sq_cellOf_5 rfl (lv_at hl 0 rfl) ?_
    refine lv_bipush (v := 6) hx hb d_Sq_cellOf_6 (by decide) ?_
    refine lv_imul hx hb d_Sq_cellOf_8 ?_
    refine lv_iload_n hx hb d_Sq_cellOf_9 rfl (lv_at hl 1 rfl) ?_
    refine lv_iadd hx hb d_Sq_cellOf_10 ?_
    refine lv_goto (tgt := 20) hx hb d_Sq_cellOf_11 (by decide) ?_
    cases h
    exact W.iret hx hb hr (fun t ht hW => ⟨⟨_, (), rfl, rfl, by rw [ht]; exact hP, hD⟩, hS.F ht⟩) hS.2.2 d_Sq_cellOf_20
set_option maxHeartbeats 4000000 in
set_option maxRecDepth 100000 in
theorem c_Sq_cellOf (l : Launch) (D : va_G) (cI cL cZ : ClassId) (tA tB sz : Nat)  (p0 : Int32) (p1 : Int32) (o_r : Int32) (A : Nat → Prop) (hAe : A = va_A [] sz) (h : f_Sq_cellOf p0 p1 = some o_r) : Met l y_Sq_cellOf wd_Sq_cellOf rm_Sq_cellOf (ct_Pre D (ct_tys cI cL cZ) tA tB [] sz [.int p0, .int p1]) (ct_Qi D [] A o_r) 0 0 A := by
  refine Met.ofW (cc := b_Sq_cellOf) (maxL := 2) (ret := (some .int)) (by decide) rfl ?_
  intro p e s m args below meth c s₁ B hml hv
  obtain ⟨hargs, hsz, hP, hK, hD0, hT⟩ := hv
  subst hsz
  have hD := hD0.self (sz := s.heap.size)
  rw [← hAe] at hD hT
  have hA : ∀ q : Nat, s.heap.size ≤ q → A q := fun q h => by rw [hAe]; exact Or.inr h
  clear hAe
  have cx : ct_Cx p s m args meth c b_Sq_cellOf 2 (some .int) R_Sq wd_Sq_cellOf D (ct_tys cI cL cZ) tA tB A := ⟨B.exec, B.bytes, B.returns, hml, findClass_of_methodNamed B.named, atoms_spec (ws := wd_Sq_cellOf) B.pre, hK, hA, hT, B.notSynchronized, hT.1, hT.2.1, hT.2.2.1, hT.2.2.2.1, hT.2.2.2.2⟩
  have hl := lv_entry ([.int p0, .int p1]) (n := 2) (Nat.le_of_ble_eq_true rfl)
  rw [show entryFrame m args 2 = entryFrame m ([.int p0, .int p1] : List Value).toArray 2 by rw [hargs], lg_entry_eq]
  exact w_Sq_cellOf cx h _ _ hP hD va_S.rf _ hl
