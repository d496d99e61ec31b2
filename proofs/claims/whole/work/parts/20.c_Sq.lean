abbrev rm_Sq_within : Room := { frames := 0, cells := 0, slots := 0, locals := 0 }
abbrev wd_Sq_within : List Cond := .code y_Sq_within b_Sq_within 2 (some .boolean) :: ct_G
def f_Sq_within (p0 : Int32) (p1 : Int32) : Option (Int32) := (if p0 < (-p1) then some (0 : Int32) else (if p1 < p0 then some (0 : Int32) else some (1 : Int32)))
set_option maxHeartbeats 4000000 in
set_option maxRecDepth 100000 in
theorem w_Sq_within {p : Program} {l : Launch} {e : Env} {s : State} {m : MethodId} {args : Array Value} {below : List Frame} {meth : Method} {c : Code} {D : va_G} {cI cL cZ : ClassId} {tA tB : Nat} {A : Nat → Prop}  {p0 : Int32} {p1 : Int32} {o_r : Int32} (cx : ct_Cx p s m args meth c b_Sq_within 2 (some .boolean) R_Sq wd_Sq_within D (ct_tys cI cL cZ) tA tB A) (h : f_Sq_within p0 p1 = some o_r) : ∀ (H : Heap) (locs : List Loc), va_P D vwCl [] H → va_D A [] → va_S A s.heap H locs → ∀ ls : Array Slot, lv_has ls 2 [(0, .int p0), (1, .int p1)] → W p l e (headSpec wd_Sq_within rm_Sq_within).room s m args below meth c H locs 0 0 (MQ below (ct_Qi D [] A o_r) args s 0 0 A) (F0 m 0 ls []) := by
  obtain ⟨hx, hb, hr, hml, hown, hts, hK, hA, hT, hlocks, hZA, hZB, hTA, hTB, hnw⟩ := id cx
  intro H locs hP hD hS ls hl
  rw [f_Sq_within] at h
  refine lv_iload_n hx hb d_Sq_within_0 rfl (lv_at hl 0 rfl) ?_
  refine lv_iload_n hx hb d_Sq_within_1 rfl (lv_at hl 1 rfl) ?_
  refine lv_ineg hx hb d_Sq_within_2 ?_
  refine lv_icmp_lt (tgt := 15) hx hb d_Sq_within_3 (by decide) (fun hc => ?_) (fun hc => ?_)
  · rw [if_pos hc] at h
    refine lv_iconst (v := 0) hx hb d_Sq_within_15 (by decide) ?_
    cases h
    exact W.zret hx hb hr rfl (fun t ht hW => ⟨⟨_, (), rfl, rfl, by rw [ht]; exact hP, hD⟩, hS.F ht⟩) hS.2.2 d_Sq_within_16
  · rw [if_neg hc] at h
    refine lv_iload_n hx hb d_Sq_within_6 rfl (lv_at hl 0 rfl) ?_
    refine lv_iload_n hx hb d_Sq_within_7 rfl (lv_at hl 1 rfl) ?_
    refine lv_icmp_gt (tgt := 15) hx hb d_Sq_within_8 (by decide) (fun hc => ?_) (fun hc => ?_)
    · rw [if_pos hc] at h
      refine lv_iconst (v := 0) hx hb d_Sq_within_15 (by decide) ?_
      cases h
      exact W.zret hx hb hr rfl (fun t ht hW => ⟨⟨_, (), rfl, rfl, by rw [ht]; exact hP, hD⟩, hS.F ht⟩) hS.2.2 d_Sq_within_16
    · rw [if_neg hc] at h
      refine lv_iconst (v := 1) hx hb d_Sq_within_11 (by decide) ?_
      refine lv_goto (tgt := 16) hx hb d_Sq_within_12 (by decide) ?_
      cases h
      exact W.zret hx hb hr rfl (fun t ht hW => ⟨⟨_, (), rfl, rfl, by rw [ht]; exact hP, hD⟩, hS.F ht⟩) hS.2.2 d_Sq_within_16
set_option maxHeartbeats 4000000 in
set_option maxRecDepth 100000 in
theorem c_Sq_within (l : Launch) (D : va_G) (cI cL cZ : ClassId) (tA tB sz : Nat)  (p0 : Int32) (p1 : Int32) (o_r : Int32) (A : Nat → Prop) (hAe : A = va_A [] sz) (h : f_Sq_within p0 p1 = some o_r) : Met l y_Sq_within wd_Sq_within rm_Sq_within (ct_Pre D (ct_tys cI cL cZ) tA tB [] sz [.int p0, .int p1]) (ct_Qi D [] A o_r) 0 0 A := by
  refine Met.ofW (cc := b_Sq_within) (maxL := 2) (ret := (some .boolean)) (by decide) rfl ?_
  intro p e s m args below meth c s₁ B hml hv
  obtain ⟨hargs, hsz, hP, hK, hD0, hT⟩ := hv
  subst hsz
  have hD := hD0.self (sz := s.heap.size)
  rw [← hAe] at hD hT
  have hA : ∀ q : Nat, s.heap.size ≤ q → A q := fun q h => by rw [hAe]; exact Or.inr h
  clear hAe
  have cx : ct_Cx p s m args meth c b_Sq_within 2 (some .boolean) R_Sq wd_Sq_within D (ct_tys cI cL cZ) tA tB A := ⟨B.exec, B.bytes, B.returns, hml, findClass_of_methodNamed B.named, atoms_spec (ws := wd_Sq_within) B.pre, hK, hA, hT, B.notSynchronized, hT.1, hT.2.1, hT.2.2.1, hT.2.2.2.1, hT.2.2.2.2⟩
  have hl := lv_entry ([.int p0, .int p1]) (n := 2) (Nat.le_of_ble_eq_true rfl)
  rw [show entryFrame m args 2 = entryFrame m ([.int p0, .int p1] : List Value).toArray 2 by rw [hargs], lg_entry_eq]
  exact w_Sq_within cx h _ _ hP hD va_S.rf _ hl
