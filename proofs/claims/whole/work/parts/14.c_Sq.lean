abbrev rm_Sq_powerAt : Room := { frames := 0, cells := 0, slots := 0, locals := 0 }
abbrev wd_Sq_powerAt : List Cond := .code y_Sq_powerAt b_Sq_powerAt 3 (some .int) :: ct_G
def f_Sq_powerAt (p0 : Int32) (p1 : Int32) : Option (Int32) := (if p0 < 0 then some ((-1) : Int32) else (if p1 < 0 then some ((-1) : Int32) else (if 4 < p0 then some ((-1) : Int32) else (if 4 < p1 then some ((-1) : Int32) else (if (p0 + p1) ≤ 4 then some ((((p0 + p1) * ((p0 + p1) + 1)) / 2) + p1) else some ((-1) : Int32))))))
set_option maxHeartbeats 4000000 in
set_option maxRecDepth 100000 in
theorem w_Sq_powerAt {p : Program} {l : Launch} {e : Env} {s : State} {m : MethodId} {args : Array Value} {below : List Frame} {meth : Method} {c : Code} {D : va_G} {cI cL cZ : ClassId} {tA tB : Nat} {A : Nat → Prop}  {p0 : Int32} {p1 : Int32} {o_r : Int32} (cx : ct_Cx p s m args meth c b_Sq_powerAt 3 (some .int) R_Sq wd_Sq_powerAt D (ct_tys cI cL cZ) tA tB A) (h : f_Sq_powerAt p0 p1 = some o_r) : ∀ (H : Heap) (locs : List Loc), va_P D vwCl [] H → va_D A [] → va_S A s.heap H locs → ∀ ls : Array Slot, lv_has ls 3 [(0, .int p0), (1, .int p1)] → W p l e (headSpec wd_Sq_powerAt rm_Sq_powerAt).room s m args below meth c H locs 0 0 (MQ below (ct_Qi D [] A o_r) args s 0 0 A) (F0 m 0 ls []) := by
  obtain ⟨hx, hb, hr, hml, hown, hts, hK, hA, hT, hlocks, hZA, hZB, hTA, hTB, hnw⟩ := id cx
  intro H locs hP hD hS ls hl
  rw [f_Sq_powerAt] at h
  refine lv_iload_n hx hb d_Sq_powerAt_0 rfl (lv_at hl 0 rfl) ?_
  refine lv_if_lt (tgt := 25) hx hb d_Sq_powerAt_1 (by decide) (fun hc => ?_) (fun hc => ?_)
  · rw [if_pos hc] at h
    refine lv_iconst (v := (-1)) hx hb d_Sq_powerAt_25 (by decide) ?_
    cases h
    exact W.iret hx hb hr (fun t ht hW => ⟨⟨_, (), rfl, rfl, by rw [ht]; exact hP, hD⟩, hS.F ht⟩) hS.2.2 d_Sq_powerAt_26
  · rw [if_neg hc] at h
    refine lv_iload_n hx hb d_Sq_powerAt_4 rfl (lv_at hl 1 rfl) ?_
    refine lv_if_lt (tgt := 25) hx hb d_Sq_powerAt_5 (by decide) (fun hc => ?_) (fun hc => ?_)
    · rw [if_pos hc] at h
      refine lv_iconst (v := (-1)) hx hb d_Sq_powerAt_25 (by decide) ?_
      cases h
      exact W.iret hx hb hr (fun t ht hW => ⟨⟨_, (), rfl, rfl, by rw [ht]; exact hP, hD⟩, hS.F ht⟩) hS.2.2 d_Sq_powerAt_26
    · rw [if_neg hc] at h
      refine lv_iload_n hx hb d_Sq_powerAt_8 rfl (lv_at hl 0 rfl) ?_
      refine lv_iconst (v := 4) hx hb d_Sq_powerAt_9 (by decide) ?_
      refine lv_icmp_gt (tgt := 25) hx hb d_Sq_powerAt_10 (by decide) (fun hc => ?_) (fun hc => ?_)
      · rw [if_pos hc] at h
        refine lv_iconst (v := (-1)) hx hb d_Sq_powerAt_25 (by decide) ?_
        cases h
        exact W.iret hx hb hr (fun t ht hW => ⟨⟨_, (), rfl, rfl, by rw [ht]; exact hP, hD⟩, hS.F ht⟩) hS.2.2 d_Sq_powerAt_26
      · rw [if_neg hc] at h
        refine lv_iload_n hx hb d_Sq_powerAt_13 rfl (lv_at hl 1 rfl) ?_
        refine lv_iconst (v := 4) hx hb d_Sq_powerAt_14 (by decide) ?_
        refine lv_icmp_gt (tgt := 25) hx hb d_Sq_powerAt_15 (by decide) (fun hc => ?_) (fun hc => ?_)
        · rw [if_pos hc] at h
          refine lv_iconst (v := (-1)) hx hb d_Sq_powerAt_25 (by decide) ?_
          cases h
          exact W.iret hx hb hr (fun t ht hW => ⟨⟨_, (), rfl, rfl, by rw [ht]; exact hP, hD⟩, hS.F ht⟩) hS.2.2 d_Sq_powerAt_26
        · rw [if_neg hc] at h
          refine lv_iload_n hx hb d_Sq_powerAt_18 rfl (lv_at hl 0 rfl) ?_
          refine lv_iload_n hx hb d_Sq_powerAt_19 rfl (lv_at hl 1 rfl) ?_
          refine lv_iadd hx hb d_Sq_powerAt_20 ?_
          refine lv_iconst (v := 4) hx hb d_Sq_powerAt_21 (by decide) ?_
          refine lv_icmp_le (tgt := 27) hx hb d_Sq_powerAt_22 (by decide) (fun hc => ?_) (fun hc => ?_)
          · rw [if_pos hc] at h
            refine lv_iload_n hx hb d_Sq_powerAt_27 rfl (lv_at hl 0 rfl) ?_
            refine lv_iload_n hx hb d_Sq_powerAt_28 rfl (lv_at hl 1 rfl) ?_
            refine lv_iadd hx hb d_Sq_powerAt_29 ?_
            refine lv_istore_n (lv' := [(2, .int (p0 + p1)), (0, .int p0), (1, .int p1)]) hx hb d_Sq_powerAt_30 rfl hl (by decide) rfl (fun ls hl => ?_)
            refine lv_iload_n hx hb d_Sq_powerAt_31 rfl (lv_at hl 0 rfl) ?_
            refine lv_iload_n hx hb d_Sq_powerAt_32 rfl (lv_at hl 0 rfl) ?_
            refine lv_iconst (v := 1) hx hb d_Sq_powerAt_33 (by decide) ?_
            refine lv_iadd hx hb d_Sq_powerAt_34 ?_
            refine lv_imul hx hb d_Sq_powerAt_35 ?_
            refine lv_iconst (v := 2) hx hb d_Sq_powerAt_36 (by decide) ?_
            refine lv_idiv hx hb d_Sq_powerAt_37 (by decide) ?_
            refine lv_iload_n hx hb d_Sq_powerAt_38 rfl (lv_at hl 2 rfl) ?_
            refine lv_iadd hx hb d_Sq_powerAt_39 ?_
            cases h
            exact W.iret hx hb hr (fun t ht hW => ⟨⟨_, (), rfl, rfl, by rw [ht]; exact hP, hD⟩, hS.F ht⟩) hS.2.2 d_Sq_powerAt_40
          · rw [if_neg hc] at h
            refine lv_iconst (v := (-1)) hx hb d_Sq_powerAt_25 (by decide) ?_
            cases h
            exact W.iret hx hb hr (fun t ht hW => ⟨⟨_, (), rfl, rfl, by rw [ht]; exact hP, hD⟩, hS.F ht⟩) hS.2.2 d_Sq_powerAt_26
set_option maxHeartbeats 4000000 in
set_option maxRecDepth 100000 in
theorem c_Sq_powerAt (l : Launch) (D : va_G) (cI cL cZ : ClassId) (tA tB sz : Nat)  (p0 : Int32) (p1 : Int32) (o_r : Int32) (A : Nat → Prop) (hAe : A = va_A [] sz) (h : f_Sq_powerAt p0 p1 = some o_r) : Met l y_Sq_powerAt wd_Sq_powerAt rm_Sq_powerAt (ct_Pre D (ct_tys cI cL cZ) tA tB [] sz [.int p0, .int p1]) (ct_Qi D [] A o_r) 0 0 A := by
  refine Met.ofW (cc := b_Sq_powerAt) (maxL := 3) (ret := (some .int)) (by decide) rfl ?_
  intro p e s m args below meth c s₁ B hml hv
  obtain ⟨hargs, hsz, hP, hK, hD0, hT⟩ := hv
  subst hsz
  have hD := hD0.self (sz := s.heap.size)
  rw [← hAe] at hD hT
  have hA : ∀ q : Nat, s.heap.size ≤ q → A q := fun q h => by rw [hAe]; exact Or.inr h
  clear hAe
  have cx : ct_Cx p s m args meth c b_Sq_powerAt 3 (some .int) R_Sq wd_Sq_powerAt D (ct_tys cI cL cZ) tA tB A := ⟨B.exec, B.bytes, B.returns, hml, findClass_of_methodNamed B.named, atoms_spec (ws := wd_Sq_powerAt) B.pre, hK, hA, hT, B.notSynchronized, hT.1, hT.2.1, hT.2.2.1, hT.2.2.2.1, hT.2.2.2.2⟩
  have hl := lv_entry ([.int p0, .int p1]) (n := 3) (Nat.le_of_ble_eq_true rfl)
  rw [show entryFrame m args 3 = entryFrame m ([.int p0, .int p1] : List Value).toArray 3 by rw [hargs], lg_entry_eq]
  exact w_Sq_powerAt cx h _ _ hP hD va_S.rf _ hl
