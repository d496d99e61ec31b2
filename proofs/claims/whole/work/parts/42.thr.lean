set_option maxHeartbeats 4000000 in
set_option maxRecDepth 100000 in
theorem pw_Sq_powerAt {p : Program} {l : Launch} {e : Env} {s : State} {m : MethodId} {args : Array Value} {below : List Frame} {meth : Method} {c : Code} {D : va_G} {cI cL cZ : ClassId} {tA tB : Nat} {A : Nat → Prop}  {p0 : Int32} {p1 : Int32} {o_r : Int32} (cx : ct_Cx p s m args meth c b_Sq_powerAt 3 (some .int) R_Sq wd_Sq_powerAt D (ct_tys cI cL cZ) tA tB A) (h : f_Sq_powerAt p0 p1 = some o_r) (hP : va_P D vwCl [] s.heap) : ∀ ls : Array Slot, lv_has ls 3 [(0, .int p0), (1, .int p1)] → W p l e (headSpec wd_Sq_powerAt rm_Sq_powerAt).room s m args below meth c s.heap [] 0 0 (MQ below (QcRead o_r) args s 0 0 (fun _ => False)) (F0 m 0 ls []) := by
  obtain ⟨hx, hb, hr, hml, hown, hts, hK, hA, hT, hlocks, hZA, hZB, hTA, hTB, hnw⟩ := id cx
  intro ls hl
  rw [f_Sq_powerAt] at h
  refine lv_iload_n hx hb d_Sq_powerAt_0 rfl (lv_at hl 0 rfl) ?_
  refine lv_if_lt (tgt := 25) hx hb d_Sq_powerAt_1 (by decide) (fun hc => ?_) (fun hc => ?_)
  · rw [if_pos hc] at h
    refine lv_iconst (v := (-1)) hx hb d_Sq_powerAt_25 (by decide) ?_
    cases h
    exact W.iret hx hb hr (fun t ht hW => ⟨rfl, ht⟩) (fun q hq => by cases hq) d_Sq_powerAt_26
  · rw [if_neg hc] at h
    refine lv_iload_n hx hb d_Sq_powerAt_4 rfl (lv_at hl 1 rfl) ?_
    refine lv_if_lt (tgt := 25) hx hb d_Sq_powerAt_5 (by decide) (fun hc => ?_) (fun hc => ?_)
    · rw [if_pos hc] at h
      refine lv_iconst (v := (-1)) hx hb d_Sq_powerAt_25 (by decide) ?_
      cases h
      exact W.iret hx hb hr (fun t ht hW => ⟨rfl, ht⟩) (fun q hq => by cases hq) d_Sq_powerAt_26
    · rw [if_neg hc] at h
      refine lv_iload_n hx hb d_Sq_powerAt_8 rfl (lv_at hl 0 rfl) ?_
      refine lv_iconst (v := 4) hx hb d_Sq_powerAt_9 (by decide) ?_
      refine lv_icmp_gt (tgt := 25) hx hb d_Sq_powerAt_10 (by decide) (fun hc => ?_) (fun hc => ?_)
      · rw [if_pos hc] at h
        refine lv_iconst (v := (-1)) hx hb d_Sq_powerAt_25 (by decide) ?_
        cases h
        exact W.iret hx hb hr (fun t ht hW => ⟨rfl, ht⟩) (fun q hq => by cases hq) d_Sq_powerAt_26
      · rw [if_neg hc] at h
        refine lv_iload_n hx hb d_Sq_powerAt_13 rfl (lv_at hl 1 rfl) ?_
        refine lv_iconst (v := 4) hx hb d_Sq_powerAt_14 (by decide) ?_
        refine lv_icmp_gt (tgt := 25) hx hb d_Sq_powerAt_15 (by decide) (fun hc => ?_) (fun hc => ?_)
        · rw [if_pos hc] at h
          refine lv_iconst (v := (-1)) hx hb d_Sq_powerAt_25 (by decide) ?_
          cases h
          exact W.iret hx hb hr (fun t ht hW => ⟨rfl, ht⟩) (fun q hq => by cases hq) d_Sq_powerAt_26
        · rw [if_neg hc] at h
          refine lv_iload_n hx hb d_Sq_powerAt_18 rfl (lv_at hl 0 rfl) ?_
          refine lv_iload_n hx hb d_Sq_powerAt_19 rfl (lv_at hl 1 rfl) ?_
          refine lv_iadd hx hb d_Sq_powerAt_20 ?_
          refine lv_iconst (v := 4) hx hb d_Sq_powerAt_21 (by decide) ?_
          refine lv_icmp_le (tgt := 27) hx hb d_Sq_powerAt_22 (by decide) (fun hc => ?_) (fun hc => ?_)
          · rw [if_pos hc] at h
            refine lv_iload_n hx hb d_Sq_powerAt_27 rfl (lv_at hl 0 rfl) ?_
            refine lv_iload_n hx hb d_Sq_powerAt_28 rfl (lv_at hl 1 rfl) ?_
            refine lv_iadd hx hb d_Sq_powerAt_29 ?_
            refine lv_istore_n (lv' := [(2, .int (p0 + p1)), (0, .int p0), (1, .int p1)]) hx hb d_Sq_powerAt_30 rfl hl (by decide) rfl (fun ls hl => ?_)
            refine lv_iload_n hx hb d_Sq_powerAt_31 rfl (lv_at hl 0 rfl) ?_
            refine lv_iload_n hx hb d_Sq_powerAt_32 rfl (lv_at hl 0 rfl) ?_
            refine lv_iconst (v := 1) hx hb d_Sq_powerAt_33 (by decide) ?_
            refine lv_iadd hx hb d_Sq_powerAt_34 ?_
            refine lv_imul hx hb d_Sq_powerAt_35 ?_
            refine lv_iconst (v := 2) hx hb d_Sq_powerAt_36 (by decide) ?_
            refine lv_idiv hx hb d_Sq_powerAt_37 (by decide) ?_
            refine lv_iload_n hx hb d_Sq_powerAt_38 rfl (lv_at hl 2 rfl) ?_
            refine lv_iadd hx hb d_Sq_powerAt_39 ?_
            cases h
            exact W.iret hx hb hr (fun t ht hW => ⟨rfl, ht⟩) (fun q hq => by cases hq) d_Sq_powerAt_40
          · rw [if_neg hc] at h
            refine lv_iconst (v := (-1)) hx hb d_Sq_powerAt_25 (by decide) ?_
            cases h
            exact W.iret hx hb hr (fun t ht hW => ⟨rfl, ht⟩) (fun q hq => by cases hq) d_Sq_powerAt_26
set_option maxHeartbeats 4000000 in
set_option maxRecDepth 100000 in
theorem pc_Sq_powerAt (l : Launch) (D : va_G) (cI cL cZ : ClassId) (tA tB sz : Nat)  (p0 : Int32) (p1 : Int32) (o_r : Int32) (h : f_Sq_powerAt p0 p1 = some o_r) : Met l y_Sq_powerAt wd_Sq_powerAt rm_Sq_powerAt (ct_Pre D (ct_tys cI cL cZ) tA tB [] sz [.int p0, .int p1]) (QcRead o_r) 0 0 (fun _ => False) := by
  refine Met.ofW (cc := b_Sq_powerAt) (maxL := 3) (ret := (some .int)) (by decide) rfl ?_
  intro p e s m args below meth c s₁ B hml hv
  obtain ⟨hargs, hsz, hP, hK, hD0, hT⟩ := hv
  subst hsz
  have cx : ct_Cx p s m args meth c b_Sq_powerAt 3 (some .int) R_Sq wd_Sq_powerAt D (ct_tys cI cL cZ) tA tB (va_A [] s.heap.size) := ⟨B.exec, B.bytes, B.returns, hml, findClass_of_methodNamed B.named, atoms_spec (ws := wd_Sq_powerAt) B.pre, hK, fun q h => Or.inr h, hT, B.notSynchronized, hT.1, hT.2.1, hT.2.2.1, hT.2.2.2.1, hT.2.2.2.2⟩
  have hl := lv_entry ([.int p0, .int p1]) (n := 3) (Nat.le_of_ble_eq_true rfl)
  rw [show entryFrame m args 3 = entryFrame m ([.int p0, .int p1] : List Value).toArray 3 by rw [hargs], lg_entry_eq]
  exact pw_Sq_powerAt cx h hP _ hl
set_option maxHeartbeats 4000000 in
set_option maxRecDepth 100000 in
theorem pw_Sq_within {p : Program} {l : Launch} {e : Env} {s : State} {m : MethodId} {args : Array Value} {below : List Frame} {meth : Method} {c : Code} {D : va_G} {cI cL cZ : ClassId} {tA tB : Nat} {A : Nat → Prop}  {p0 : Int32} {p1 : Int32} {o_r : Int32} (cx : ct_Cx p s m args meth c b_Sq_within 2 (some .boolean) R_Sq wd_Sq_within D (ct_tys cI cL cZ) tA tB A) (h : f_Sq_within p0 p1 = some o_r) (hP : va_P D vwCl [] s.heap) : ∀ ls : Array Slot, lv_has ls 2 [(0, .int p0), (1, .int p1)] → W p l e (headSpec wd_Sq_within rm_Sq_within).room s m args below meth c s.heap [] 0 0 (MQ below (QcRead o_r) args s 0 0 (fun _ => False)) (F0 m 0 ls []) := by
  obtain ⟨hx, hb, hr, hml, hown, hts, hK, hA, hT, hlocks, hZA, hZB, hTA, hTB, hnw⟩ := id cx
  intro ls hl
  rw [f_Sq_within] at h
  refine lv_iload_n hx hb d_Sq_within_0 rfl (lv_at hl 0 rfl) ?_
  refine lv_iload_n hx hb d_Sq_within_1 rfl (lv_at hl 1 rfl) ?_
  refine lv_ineg hx hb d_Sq_within_2 ?_
  refine lv_icmp_lt (tgt := 15) hx hb d_Sq_within_3 (by decide) (fun hc => ?_) (fun hc => ?_)
  · rw [if_pos hc] at h
    refine lv_iconst (v := 0) hx hb d_Sq_within_15 (by decide) ?_
    cases h
    exact W.zret hx hb hr rfl (fun t ht hW => ⟨rfl, ht⟩) (fun q hq => by cases hq) d_Sq_within_16
  · rw [if_neg hc] at h
    refine lv_iload_n hx hb d_Sq_within_6 rfl (lv_at hl 0 rfl) ?_
    refine lv_iload_n hx hb d_Sq_within_7 rfl (lv_at hl 1 rfl) ?_
    refine lv_icmp_gt (tgt := 15) hx hb d_Sq_within_8 (by decide) (fun hc => ?_) (fun hc => ?_)
    · rw [if_pos hc] at h
      refine lv_iconst (v := 0) hx hb d_Sq_within_15 (by decide) ?_
      cases h
      exact W.zret hx hb hr rfl (fun t ht hW => ⟨rfl, ht⟩) (fun q hq => by cases hq) d_Sq_within_16
    · rw [if_neg hc] at h
      refine lv_iconst (v := 1) hx hb d_Sq_within_11 (by decide) ?_
      refine lv_goto (tgt := 16) hx hb d_Sq_within_12 (by decide) ?_
      cases h
      exact W.zret hx hb hr rfl (fun t ht hW => ⟨rfl, ht⟩) (fun q hq => by cases hq) d_Sq_within_16
set_option maxHeartbeats 4000000 in
set_option maxRecDepth 100000 in
theorem pc_Sq_within (l : Launch) (D : va_G) (cI cL cZ : ClassId) (tA tB sz : Nat)  (p0 : Int32) (p1 : Int32) (o_r : Int32) (h : f_Sq_within p0 p1 = some o_r) : Met l y_Sq_within wd_Sq_within rm_Sq_within (ct_Pre D (ct_tys cI cL cZ) tA tB [] sz [.int p0, .int p1]) (QcRead o_r) 0 0 (fun _ => False) := by
  refine Met.ofW (cc := b_Sq_within) (maxL := 2) (ret := (some .boolean)) (by decide) rfl ?_
  intro p e s m args below meth c s₁ B hml hv
  obtain ⟨hargs, hsz, hP, hK, hD0, hT⟩ := hv
  subst hsz
  have cx : ct_Cx p s m args meth c b_Sq_within 2 (some .boolean) R_Sq wd_Sq_within D (ct_tys cI cL cZ) tA tB (va_A [] s.heap.size) := ⟨B.exec, B.bytes, B.returns, hml, findClass_of_methodNamed B.named, atoms_spec (ws := wd_Sq_within) B.pre, hK, fun q h => Or.inr h, hT, B.notSynchronized, hT.1, hT.2.1, hT.2.2.1, hT.2.2.2.1, hT.2.2.2.2⟩
  have hl := lv_entry ([.int p0, .int p1]) (n := 2) (Nat.le_of_ble_eq_true rfl)
  rw [show entryFrame m args 2 = entryFrame m ([.int p0, .int p1] : List Value).toArray 2 by rw [hargs], lg_entry_eq]
  exact pw_Sq_within cx h hP _ hl
set_option maxHeartbeats 4000000 in
set_option maxRecDepth 100000 in
theorem pw_Sq_isMember {p : Program} {l : Launch} {e : Env} {s : State} {m : MethodId} {args : Array Value} {below : List Frame} {meth : Method} {c : Code} {D : va_G} {cI cL cZ : ClassId} {tA tB : Nat} {A : Nat → Prop} {a_this a_numbers a_table a_hull a_pairs a_steps a_search a_hull_corner a_hull_outside a_hull_members : Nat} {p0 : Int32} {v_unknowns : Int32} {v_squaresThere : Int32} {v_hull_size : Int32} {o_r : Int32} (cx : ct_Cx p s m args meth c b_Sq_isMember 2 (some .boolean) R_Sq wd_Sq_isMember D (ct_tys cI cL cZ) tA tB A) (h : f_Sq_isMember p0 v_hull_size = some o_r) (hP : va_P D vwCl [(a_this, .inr (4, [.int v_unknowns, .ref a_numbers, .ref a_table, .ref a_hull, .ref a_pairs, .ref a_steps, .ref a_search, .int v_squaresThere])), (a_hull, .inr (0, [.ref a_hull_corner, .ref a_hull_outside, .ref a_hull_members, .int v_hull_size]))] s.heap) : ∀ ls : Array Slot, lv_has ls 2 [(0, .ref a_this), (1, .int p0)] → W p l e (headSpec wd_Sq_isMember rm_Sq_isMember).room s m args below meth c s.heap [] 0 0 (MQ below (QcRead o_r) args s 0 0 (fun _ => False)) (F0 m 0 ls []) := by
  obtain ⟨hx, hb, hr, hml, hown, hts, hK, hA, hT, hlocks, hZA, hZB, hTA, hTB, hnw⟩ := id cx
  intro ls hl
  rw [f_Sq_isMember] at h
  refine lv_iload_n hx hb d_Sq_isMember_0 rfl (lv_at hl 1 rfl) ?_
  refine lv_if_lt (tgt := 19) hx hb d_Sq_isMember_1 (by decide) (fun hc => ?_) (fun hc => ?_)
  · rw [if_pos hc] at h
    refine lv_iconst (v := 0) hx hb d_Sq_isMember_19 (by decide) ?_
    cases h
    exact W.zret hx hb hr rfl (fun t ht hW => ⟨rfl, ht⟩) (fun q hq => by cases hq) d_Sq_isMember_20
  · rw [if_neg hc] at h
    refine lv_iload_n hx hb d_Sq_isMember_4 rfl (lv_at hl 1 rfl) ?_
    refine lv_aload_n hx hb d_Sq_isMember_5 rfl (lv_at hl 0 rfl) ?_
    refine va_get (D := D) (ci := 4) (v := .ref a_hull) (C := R_Sq) (T := T_Sq) (N := 8) hx hb hts (fun w h9 => ct_in (iw_Sq w h9)) hown hK hP 0 rfl rfl 3 (by decide) (hts _ (ct_in k_116)) (fun _ h9 => h9) rfl d_Sq_isMember_6 ?_
    refine va_getN (D := D) (ci := 0) (v := .int v_hull_size) (C := R_Hull) (T := T_Hull) (N := 4) hx hb hts (fun w h9 => ct_in (iw_Hull w h9)) hown hK hP 1 rfl rfl 3 (by decide) (ct_nest_use n_18 hnw) (fun _ h9 => h9) rfl d_Sq_isMember_9 ?_
    refine lv_icmp_ge (tgt := 19) hx hb d_Sq_isMember_12 (by decide) (fun hc => ?_) (fun hc => ?_)
    · rw [if_pos hc] at h
      refine lv_iconst (v := 0) hx hb d_Sq_isMember_19 (by decide) ?_
      cases h
      exact W.zret hx hb hr rfl (fun t ht hW => ⟨rfl, ht⟩) (fun q hq => by cases hq) d_Sq_isMember_20
    · rw [if_neg hc] at h
      refine lv_iconst (v := 1) hx hb d_Sq_isMember_15 (by decide) ?_
      refine lv_goto (tgt := 20) hx hb d_Sq_isMember_16 (by decide) ?_
      cases h
      exact W.zret hx hb hr rfl (fun t ht hW => ⟨rfl, ht⟩) (fun q hq => by cases hq) d_Sq_isMember_20
set_option maxHeartbeats 4000000 in
set_option maxRecDepth 100000 in
theorem pc_Sq_isMember (l : Launch) (D : va_G) (cI cL cZ : ClassId) (tA tB sz : Nat) (a_this a_numbers a_table a_hull a_pairs a_steps a_search a_hull_corner a_hull_outside a_hull_members : Nat) (p0 : Int32) (v_unknowns : Int32) (v_squaresThere : Int32) (v_hull_size : Int32) (o_r : Int32) (h : f_Sq_isMember p0 v_hull_size = some o_r) : Met l y_Sq_isMember wd_Sq_isMember rm_Sq_isMember (ct_Pre D (ct_tys cI cL cZ) tA tB [(a_this, .inr (4, [.int v_unknowns, .ref a_numbers, .ref a_table, .ref a_hull, .ref a_pairs, .ref a_steps, .ref a_search, .int v_squaresThere])), (a_hull, .inr (0, [.ref a_hull_corner, .ref a_hull_outside, .ref a_hull_members, .int v_hull_size]))] sz [.ref a_this, .int p0]) (QcRead o_r) 0 0 (fun _ => False) := by
  refine Met.ofW (cc := b_Sq_isMember) (maxL := 2) (ret := (some .boolean)) (by decide) rfl ?_
  intro p e s m args below meth c s₁ B hml hv
  obtain ⟨hargs, hsz, hP, hK, hD0, hT⟩ := hv
  subst hsz
  have cx : ct_Cx p s m args meth c b_Sq_isMember 2 (some .boolean) R_Sq wd_Sq_isMember D (ct_tys cI cL cZ) tA tB (va_A [(a_this, .inr (4, [.int v_unknowns, .ref a_numbers, .ref a_table, .ref a_hull, .ref a_pairs, .ref a_steps, .ref a_search, .int v_squaresThere])), (a_hull, .inr (0, [.ref a_hull_corner, .ref a_hull_outside, .ref a_hull_members, .int v_hull_size]))] s.heap.size) := ⟨B.exec, B.bytes, B.returns, hml, findClass_of_methodNamed B.named, atoms_spec (ws := wd_Sq_isMember) B.pre, hK, fun q h => Or.inr h, hT, B.notSynchronized, hT.1, hT.2.1, hT.2.2.1, hT.2.2.2.1, hT.2.2.2.2⟩
  have hl := lv_entry ([.ref a_this, .int p0]) (n := 2) (Nat.le_of_ble_eq_true rfl)
  rw [show entryFrame m args 2 = entryFrame m ([.ref a_this, .int p0] : List Value).toArray 2 by rw [hargs], lg_entry_eq]
  exact pw_Sq_isMember cx h hP _ hl
set_option maxHeartbeats 4000000 in
set_option maxRecDepth 100000 in
theorem pw_Sq_isSquare {p : Program} {l : Launch} {e : Env} {s : State} {m : MethodId} {args : Array Value} {below : List Frame} {meth : Method} {c : Code} {D : va_G} {cI cL cZ : ClassId} {tA tB : Nat} {A : Nat → Prop} {a_this a_numbers a_table a_hull a_pairs a_steps a_search a_steps_left a_steps_squareMember : Nat} {p0 : Int32} {v_unknowns : Int32} {v_squaresThere : Int32} {v_steps_size : Int32} {o_r : Int32} (cx : ct_Cx p s m args meth c b_Sq_isSquare 2 (some .boolean) R_Sq wd_Sq_isSquare D (ct_tys cI cL cZ) tA tB A) (h : f_Sq_isSquare p0 v_steps_size = some o_r) (hP : va_P D vwCl [(a_this, .inr (4, [.int v_unknowns, .ref a_numbers, .ref a_table, .ref a_hull, .ref a_pairs, .ref a_steps, .ref a_search, .int v_squaresThere])), (a_steps, .inr (3, [.ref a_steps_left, .ref a_steps_squareMember, .int v_steps_size]))] s.heap) : ∀ ls : Array Slot, lv_has ls 2 [(0, .ref a_this), (1, .int p0)] → W p l e (headSpec wd_Sq_isSquare rm_Sq_isSquare).room s m args below meth c s.heap [] 0 0 (MQ below (QcRead o_r) args s 0 0 (fun _ => False)) (F0 m 0 ls []) := by
  obtain ⟨hx, hb, hr, hml, hown, hts, hK, hA, hT, hlocks, hZA, hZB, hTA, hTB, hnw⟩ := id cx
  intro ls hl
  rw [f_Sq_isSquare] at h
  refine lv_iload_n hx hb d_Sq_isSquare_0 rfl (lv_at hl 1 rfl) ?_
  refine lv_if_lt (tgt := 19) hx hb d_Sq_isSquare_1 (by decide) (fun hc => ?_) (fun hc => ?_)
  · rw [if_pos hc] at h
    refine lv_iconst (v := 0) hx hb d_Sq_isSquare_19 (by decide) ?_
    cases h
    exact W.zret hx hb hr rfl (fun t ht hW => ⟨rfl, ht⟩) (fun q hq => by cases hq) d_Sq_isSquare_20
  · rw [if_neg hc] at h
    refine lv_iload_n hx hb d_Sq_isSquare_4 rfl (lv_at hl 1 rfl) ?_
    refine lv_aload_n hx hb d_Sq_isSquare_5 rfl (lv_at hl 0 rfl) ?_
    refine va_get (D := D) (ci := 4) (v := .ref a_steps) (C := R_Sq) (T := T_Sq) (N := 8) hx hb hts (fun w h9 => ct_in (iw_Sq w h9)) hown hK hP 0 rfl rfl 5 (by decide) (hts _ (ct_in k_145)) (fun _ h9 => h9) rfl d_Sq_isSquare_6 ?_
    refine va_getN (D := D) (ci := 3) (v := .int v_steps_size) (C := R_Steps) (T := T_Steps) (N := 3) hx hb hts (fun w h9 => ct_in (iw_Steps w h9)) hown hK hP 1 rfl rfl 2 (by decide) (ct_nest_use n_20 hnw) (fun _ h9 => h9) rfl d_Sq_isSquare_9 ?_
    refine lv_icmp_ge (tgt := 19) hx hb d_Sq_isSquare_12 (by decide) (fun hc => ?_) (fun hc => ?_)
    · rw [if_pos hc] at h
      refine lv_iconst (v := 0) hx hb d_Sq_isSquare_19 (by decide) ?_
      cases h
      exact W.zret hx hb hr rfl (fun t ht hW => ⟨rfl, ht⟩) (fun q hq => by cases hq) d_Sq_isSquare_20
    · rw [if_neg hc] at h
      refine lv_iconst (v := 1) hx hb d_Sq_isSquare_15 (by decide) ?_
      refine lv_goto (tgt := 20) hx hb d_Sq_isSquare_16 (by decide) ?_
      cases h
      exact W.zret hx hb hr rfl (fun t ht hW => ⟨rfl, ht⟩) (fun q hq => by cases hq) d_Sq_isSquare_20
set_option maxHeartbeats 4000000 in
set_option maxRecDepth 100000 in
theorem pc_Sq_isSquare (l : Launch) (D : va_G) (cI cL cZ : ClassId) (tA tB sz : Nat) (a_this a_numbers a_table a_hull a_pairs a_steps a_search a_steps_left a_steps_squareMember : Nat) (p0 : Int32) (v_unknowns : Int32) (v_squaresThere : Int32) (v_steps_size : Int32) (o_r : Int32) (h : f_Sq_isSquare p0 v_steps_size = some o_r) : Met l y_Sq_isSquare wd_Sq_isSquare rm_Sq_isSquare (ct_Pre D (ct_tys cI cL cZ) tA tB [(a_this, .inr (4, [.int v_unknowns, .ref a_numbers, .ref a_table, .ref a_hull, .ref a_pairs, .ref a_steps, .ref a_search, .int v_squaresThere])), (a_steps, .inr (3, [.ref a_steps_left, .ref a_steps_squareMember, .int v_steps_size]))] sz [.ref a_this, .int p0]) (QcRead o_r) 0 0 (fun _ => False) := by
  refine Met.ofW (cc := b_Sq_isSquare) (maxL := 2) (ret := (some .boolean)) (by decide) rfl ?_
  intro p e s m args below meth c s₁ B hml hv
  obtain ⟨hargs, hsz, hP, hK, hD0, hT⟩ := hv
  subst hsz
  have cx : ct_Cx p s m args meth c b_Sq_isSquare 2 (some .boolean) R_Sq wd_Sq_isSquare D (ct_tys cI cL cZ) tA tB (va_A [(a_this, .inr (4, [.int v_unknowns, .ref a_numbers, .ref a_table, .ref a_hull, .ref a_pairs, .ref a_steps, .ref a_search, .int v_squaresThere])), (a_steps, .inr (3, [.ref a_steps_left, .ref a_steps_squareMember, .int v_steps_size]))] s.heap.size) := ⟨B.exec, B.bytes, B.returns, hml, findClass_of_methodNamed B.named, atoms_spec (ws := wd_Sq_isSquare) B.pre, hK, fun q h => Or.inr h, hT, B.notSynchronized, hT.1, hT.2.1, hT.2.2.1, hT.2.2.2.1, hT.2.2.2.2⟩
  have hl := lv_entry ([.ref a_this, .int p0]) (n := 2) (Nat.le_of_ble_eq_true rfl)
  rw [show entryFrame m args 2 = entryFrame m ([.ref a_this, .int p0] : List Value).toArray 2 by rw [hargs], lg_entry_eq]
  exact pw_Sq_isSquare cx h hP _ hl
set_option maxHeartbeats 4000000 in
set_option maxRecDepth 100000 in
theorem pw_Sq_isPart {p : Program} {l : Launch} {e : Env} {s : State} {m : MethodId} {args : Array Value} {below : List Frame} {meth : Method} {c : Code} {D : va_G} {cI cL cZ : ClassId} {tA tB : Nat} {A : Nat → Prop}  {p0 : Int32} {o_r : Int32} (cx : ct_Cx p s m args meth c b_Sq_isPart 1 (some .boolean) R_Sq wd_Sq_isPart D (ct_tys cI cL cZ) tA tB A) (h : f_Sq_isPart p0 = some o_r) (hP : va_P D vwCl [] s.heap) : ∀ ls : Array Slot, lv_has ls 1 [(0, .int p0)] → W p l e (headSpec wd_Sq_isPart rm_Sq_isPart).room s m args below meth c s.heap [] 0 0 (MQ below (QcRead o_r) args s 0 0 (fun _ => False)) (F0 m 0 ls []) := by
  obtain ⟨hx, hb, hr, hml, hown, hts, hK, hA, hT, hlocks, hZA, hZB, hTA, hTB, hnw⟩ := id cx
  intro ls hl
  rw [f_Sq_isPart] at h
  refine lv_iload_n hx hb d_Sq_isPart_0 rfl (lv_at hl 0 rfl) ?_
  refine lv_if_eq (tgt := 9) hx hb d_Sq_isPart_1 (by decide) (fun hc => ?_) (fun hc => ?_)
  · rw [if_pos hc] at h
    refine lv_iconst (v := 1) hx hb d_Sq_isPart_9 (by decide) ?_
    refine lv_goto (tgt := 14) hx hb d_Sq_isPart_10 (by decide) ?_
    cases h
    exact W.zret hx hb hr rfl (fun t ht hW => ⟨rfl, ht⟩) (fun q hq => by cases hq) d_Sq_isPart_14
  · rw [if_neg hc] at h
    refine lv_iload_n hx hb d_Sq_isPart_4 rfl (lv_at hl 0 rfl) ?_
    refine lv_iconst (v := 1) hx hb d_Sq_isPart_5 (by decide) ?_
    refine lv_icmp_ne (tgt := 13) hx hb d_Sq_isPart_6 (by decide) (fun hc => ?_) (fun hc => ?_)
    · rw [if_neg hc] at h
      refine lv_iconst (v := 0) hx hb d_Sq_isPart_13 (by decide) ?_
      cases h
      exact W.zret hx hb hr rfl (fun t ht hW => ⟨rfl, ht⟩) (fun q hq => by cases hq) d_Sq_isPart_14
    · rw [if_pos hc] at h
      refine lv_iconst (v := 1) hx hb d_Sq_isPart_9 (by decide) ?_
      refine lv_goto (tgt := 14) hx hb d_Sq_isPart_10 (by decide) ?_
      cases h
      exact W.zret hx hb hr rfl (fun t ht hW => ⟨rfl, ht⟩) (fun q hq => by cases hq) d_Sq_isPart_14
set_option maxHeartbeats 4000000 in
set_option maxRecDepth 100000 in
theorem pc_Sq_isPart (l : Launch) (D : va_G) (cI cL cZ : ClassId) (tA tB sz : Nat)  (p0 : Int32) (o_r : Int32) (h : f_Sq_isPart p0 = some o_r) : Met l y_Sq_isPart wd_Sq_isPart rm_Sq_isPart (ct_Pre D (ct_tys cI cL cZ) tA tB [] sz [.int p0]) (QcRead o_r) 0 0 (fun _ => False) := by
  refine Met.ofW (cc := b_Sq_isPart) (maxL := 1) (ret := (some .boolean)) (by decide) rfl ?_
  intro p e s m args below meth c s₁ B hml hv
  obtain ⟨hargs, hsz, hP, hK, hD0, hT⟩ := hv
  subst hsz
  have cx : ct_Cx p s m args meth c b_Sq_isPart 1 (some .boolean) R_Sq wd_Sq_isPart D (ct_tys cI cL cZ) tA tB (va_A [] s.heap.size) := ⟨B.exec, B.bytes, B.returns, hml, findClass_of_methodNamed B.named, atoms_spec (ws := wd_Sq_isPart) B.pre, hK, fun q h => Or.inr h, hT, B.notSynchronized, hT.1, hT.2.1, hT.2.2.1, hT.2.2.2.1, hT.2.2.2.2⟩
  have hl := lv_entry ([.int p0]) (n := 1) (Nat.le_of_ble_eq_true rfl)
  rw [show entryFrame m args 1 = entryFrame m ([.int p0] : List Value).toArray 1 by rw [hargs], lg_entry_eq]
  exact pw_Sq_isPart cx h hP _ hl
abbrev rx_Sq_term : Room := { frames := 6, cells := 1, slots := 6, locals := 82 }
def g_Sq_term (p0 : Int32) (p1 : Int32) (p2 : Int32) (v_unknowns : Int32) : Option (Option Nat) := ((f_Sq_powerAt p0 p1).bind (fun r_2 => (if r_2 = (-1) then some (some 1) else (if v_unknowns = 1 then (if p1 = 0 then ((f_Sq_within p2 (15 : Int32)).bind (fun r_6 => (if r_6 = 0 then some (some 1) else some none))) else some (some 1)) else ((f_Sq_within p2 (15 : Int32)).bind (fun r_4 => (if r_4 = 0 then some (some 1) else some none)))))))
set_option maxHeartbeats 4000000 in
set_option maxRecDepth 100000 in
theorem xw_Sq_term {p : Program} {l : Launch} {e : Env} {s : State} {m : MethodId} {args : Array Value} {below : List Frame} {meth : Method} {c : Code} {D : va_G} {cI cL cZ : ClassId} {tA tB : Nat} {A : Nat → Prop} {a_this a_numbers a_table a_hull a_pairs a_steps a_search : Nat} {p0 : Int32} {p1 : Int32} {p2 : Int32} {v_unknowns : Int32} {v_squaresThere : Int32} {o_k : Nat} (hlt : l.stackTraces = false) (cx : ct_Cx p s m args meth c b_Sq_term 5 (some .boolean) R_Sq wd_Sq_term D (ct_tys cI cL cZ) tA tB A) (hB : cx_B A s s.heap) (hex : c.exceptionTable.isEmpty = true) (h : g_Sq_term p0 p1 p2 v_unknowns = some (some o_k)) (hP : va_P D vwCl [(a_this, .inr (4, [.int v_unknowns, .ref a_numbers, .ref a_table, .ref a_hull, .ref a_pairs, .ref a_steps, .ref a_search, .int v_squaresThere]))] s.heap) (hD : va_D A [(a_this, .inr (4, [.int v_unknowns, .ref a_numbers, .ref a_table, .ref a_hull, .ref a_pairs, .ref a_steps, .ref a_search, .int v_squaresThere]))]) : ∀ ls : Array Slot, lv_has ls 5 [(0, .ref a_this), (1, .int p0), (2, .int p1), (3, .int p2)] → W p l e (headSpec wd_Sq_term rx_Sq_term).room s m args below meth c s.heap [] 0 0 (cx_T below (cx_X o_k) args s) (F0 m 0 ls []) := by
  obtain ⟨hx, hb, hr, hml, hown, hts, hK, hA, hT, hlocks, hZA, hZB, hTA, hTB, hnw⟩ := id cx
  intro ls hl
  rw [g_Sq_term] at h
  refine lv_iload_n hx hb d_Sq_term_0 rfl (lv_at hl 1 rfl) ?_
  refine lv_iload_n hx hb d_Sq_term_1 rfl (lv_at hl 2 rfl) ?_
  obtain ⟨r_2, ho, h⟩ := Option.bind_eq_some_iff.mp h
  refine cx_callp (va_runS (As := [.int p0, .int p1]) (rest := []) ⟨hx, hb, hml, hown, hts⟩ (pc_Sq_powerAt l D cI cL cZ tA tB s.heap.size p0 p1 r_2 ho) (va_cwS 2 hts (ct_goodS k_109 k_44 k_20 k_43) rfl rfl rfl (by decide +kernel) ⟨Nat.le_of_ble_eq_true rfl, Nat.le_of_ble_eq_true rfl⟩) (ct_preS (wc := []) hP hD hK va_S.rf hA hT [] rfl (by decide)) rfl rfl hl.1 rfl (lv_room (Nat.le_of_ble_eq_true rfl)) d_Sq_term_2 ⟨Nat.zero_le _, Nat.zero_le _⟩) ?_
  refine lv_istore (lv' := [(4, .int r_2), (0, .ref a_this), (1, .int p0), (2, .int p1), (3, .int p2)]) hx hb d_Sq_term_5 hl (by decide) rfl (fun ls hl => ?_)
  refine lv_iload hx hb d_Sq_term_7 (lv_at hl 0 rfl) ?_
  refine lv_iconst (v := (-1)) hx hb d_Sq_term_9 (by decide) ?_
  refine lv_icmp_eq (tgt := 25) hx hb d_Sq_term_10 (by decide) (fun hc => ?_) (fun hc => ?_)
  · rw [if_pos hc] at h
    cases h
    exact cx_new (X := cx_IAE) (names := cx_up) (tx := "no such power") hlt hx hb hown hlocks hex hml hl.1 (hts _ (ct_in k_320)) (hts _ (ct_in k_321)) (hts _ (ct_in k_322)) (hB.2.2.1 (58, "no such power") (by decide)) (by decide +kernel) (by decide +kernel) (cx_own cx_IAE_ok hts hB) d_Sq_term_25 d_Sq_term_28 d_Sq_term_29 d_Sq_term_31 d_Sq_term_34 (Nat.le_of_ble_eq_true rfl) (Nat.le_of_ble_eq_true rfl) (Nat.le_of_ble_eq_true rfl) (Nat.le_of_ble_eq_true rfl)
  · rw [if_neg hc] at h
    refine lv_aload_n hx hb d_Sq_term_13 rfl (lv_at hl 1 rfl) ?_
    refine va_get (D := D) (ci := 4) (v := .int v_unknowns) (C := R_Sq) (T := T_Sq) (N := 8) hx hb hts (fun w h9 => ct_in (iw_Sq w h9)) hown hK hP 0 rfl rfl 0 (by decide) (hts _ (ct_in k_110)) (fun _ h9 => h9) rfl d_Sq_term_14 ?_
    refine lv_iconst (v := 1) hx hb d_Sq_term_17 (by decide) ?_
    refine lv_icmp_ne (tgt := 35) hx hb d_Sq_term_18 (by decide) (fun hc => ?_) (fun hc => ?_)
    · rw [if_neg hc] at h
      refine lv_iload_n hx hb d_Sq_term_35 rfl (lv_at hl 4 rfl) ?_
      refine lv_bipush (v := 15) hx hb d_Sq_term_36 (by decide) ?_
      obtain ⟨r_4, ho, h⟩ := Option.bind_eq_some_iff.mp h
      refine cx_callp (va_runS (As := [.int p2, .int 15]) (rest := []) ⟨hx, hb, hml, hown, hts⟩ (pc_Sq_within l D cI cL cZ tA tB s.heap.size p2 (15 : Int32) r_4 ho) (va_cwS 2 hts (ct_goodS k_111 k_91 k_20 k_90) rfl rfl rfl (by decide +kernel) ⟨Nat.le_of_ble_eq_true rfl, Nat.le_of_ble_eq_true rfl⟩) (ct_preS (wc := []) hP hD hK va_S.rf hA hT [] rfl (by decide)) rfl rfl hl.1 rfl (lv_room (Nat.le_of_ble_eq_true rfl)) d_Sq_term_38 ⟨Nat.zero_le _, Nat.zero_le _⟩) ?_
      refine lv_if_ne (tgt := 54) hx hb d_Sq_term_41 (by decide) (fun hc => ?_) (fun hc => ?_)
      · rw [if_neg hc] at h
        cases h
      · rw [if_pos hc] at h
        cases h
        exact cx_new (X := cx_IAE) (names := cx_up) (tx := "no such number of a polynomial") hlt hx hb hown hlocks hex hml hl.1 (hts _ (ct_in k_320)) (hts _ (ct_in k_321)) (hts _ (ct_in k_322)) (hB.2.2.1 (67, "no such number of a polynomial") (by decide)) (by decide +kernel) (by decide +kernel) (cx_own cx_IAE_ok hts hB) d_Sq_term_44 d_Sq_term_47 d_Sq_term_48 d_Sq_term_50 d_Sq_term_53 (Nat.le_of_ble_eq_true rfl) (Nat.le_of_ble_eq_true rfl) (Nat.le_of_ble_eq_true rfl) (Nat.le_of_ble_eq_true rfl)
    · rw [if_pos hc] at h
      refine lv_iload_n hx hb d_Sq_term_21 rfl (lv_at hl 3 rfl) ?_
      refine lv_if_eq (tgt := 35) hx hb d_Sq_term_22 (by decide) (fun hc => ?_) (fun hc => ?_)
      · rw [if_pos hc] at h
        refine lv_iload_n hx hb d_Sq_term_35 rfl (lv_at hl 4 rfl) ?_
        refine lv_bipush (v := 15) hx hb d_Sq_term_36 (by decide) ?_
        obtain ⟨r_6, ho, h⟩ := Option.bind_eq_some_iff.mp h
        refine cx_callp (va_runS (As := [.int p2, .int 15]) (rest := []) ⟨hx, hb, hml, hown, hts⟩ (pc_Sq_within l D cI cL cZ tA tB s.heap.size p2 (15 : Int32) r_6 ho) (va_cwS 2 hts (ct_goodS k_111 k_91 k_20 k_90) rfl rfl rfl (by decide +kernel) ⟨Nat.le_of_ble_eq_true rfl, Nat.le_of_ble_eq_true rfl⟩) (ct_preS (wc := []) hP hD hK va_S.rf hA hT [] rfl (by decide)) rfl rfl hl.1 rfl (lv_room (Nat.le_of_ble_eq_true rfl)) d_Sq_term_38 ⟨Nat.zero_le _, Nat.zero_le _⟩) ?_
        refine lv_if_ne (tgt := 54) hx hb d_Sq_term_41 (by decide) (fun hc => ?_) (fun hc => ?_)
        · rw [if_neg hc] at h
          cases h
        · rw [if_pos hc] at h
          cases h
          exact cx_new (X := cx_IAE) (names := cx_up) (tx := "no such number of a polynomial") hlt hx hb hown hlocks hex hml hl.1 (hts _ (ct_in k_320)) (hts _ (ct_in k_321)) (hts _ (ct_in k_322)) (hB.2.2.1 (67, "no such number of a polynomial") (by decide)) (by decide +kernel) (by decide +kernel) (cx_own cx_IAE_ok hts hB) d_Sq_term_44 d_Sq_term_47 d_Sq_term_48 d_Sq_term_50 d_Sq_term_53 (Nat.le_of_ble_eq_true rfl) (Nat.le_of_ble_eq_true rfl) (Nat.le_of_ble_eq_true rfl) (Nat.le_of_ble_eq_true rfl)
      · rw [if_neg hc] at h
        cases h
        exact cx_new (X := cx_IAE) (names := cx_up) (tx := "no such power") hlt hx hb hown hlocks hex hml hl.1 (hts _ (ct_in k_320)) (hts _ (ct_in k_321)) (hts _ (ct_in k_322)) (hB.2.2.1 (58, "no such power") (by decide)) (by decide +kernel) (by decide +kernel) (cx_own cx_IAE_ok hts hB) d_Sq_term_25 d_Sq_term_28 d_Sq_term_29 d_Sq_term_31 d_Sq_term_34 (Nat.le_of_ble_eq_true rfl) (Nat.le_of_ble_eq_true rfl) (Nat.le_of_ble_eq_true rfl) (Nat.le_of_ble_eq_true rfl)
set_option maxHeartbeats 4000000 in
set_option maxRecDepth 100000 in
theorem xc_Sq_term (l : Launch) (hlt : l.stackTraces = false) (D : va_G) (cI cL cZ : ClassId) (tA tB sz : Nat) (a_this a_numbers a_table a_hull a_pairs a_steps a_search : Nat) (p0 : Int32) (p1 : Int32) (p2 : Int32) (v_unknowns : Int32) (v_squaresThere : Int32) (o_k : Nat) (h : g_Sq_term p0 p1 p2 v_unknowns = some (some o_k)) : cx_Met l y_Sq_term wd_Sq_term rx_Sq_term (cx_Pre D (ct_tys cI cL cZ) tA tB [(a_this, .inr (4, [.int v_unknowns, .ref a_numbers, .ref a_table, .ref a_hull, .ref a_pairs, .ref a_steps, .ref a_search, .int v_squaresThere]))] sz [.ref a_this, .int p0, .int p1, .int p2]) (cx_X o_k) := by
  refine cx_ofW (cc := b_Sq_term) (maxL := 5) (ret := (some .boolean)) (by decide) rfl ?_
  intro p e s m args below meth c s₁ B hml hex hv
  obtain ⟨hargs, hsz, hP, hK, hD0, hT, hB⟩ := hv
  subst hsz
  have cx : ct_Cx p s m args meth c b_Sq_term 5 (some .boolean) R_Sq wd_Sq_term D (ct_tys cI cL cZ) tA tB (va_A [(a_this, .inr (4, [.int v_unknowns, .ref a_numbers, .ref a_table, .ref a_hull, .ref a_pairs, .ref a_steps, .ref a_search, .int v_squaresThere]))] s.heap.size) := ⟨B.exec, B.bytes, B.returns, hml, findClass_of_methodNamed B.named, atoms_spec (ws := wd_Sq_term) B.pre, hK, fun q h => Or.inr h, hT, B.notSynchronized, hT.1, hT.2.1, hT.2.2.1, hT.2.2.2.1, hT.2.2.2.2⟩
  have hl := lv_entry ([.ref a_this, .int p0, .int p1, .int p2]) (n := 5) (Nat.le_of_ble_eq_true rfl)
  rw [show entryFrame m args 5 = entryFrame m ([.ref a_this, .int p0, .int p1, .int p2] : List Value).toArray 5 by rw [hargs], lg_entry_eq]
  exact xw_Sq_term hlt cx hB hex h hP hD0.self _ hl
abbrev rx_Sq_member : Room := { frames := 6, cells := 1, slots := 6, locals := 82 }
def g_Sq_member (p0 : Int32) (p1 : Int32) (v_hull_size : Int32) : Option (Option Nat) := ((f_Sq_isMember p0 v_hull_size).bind (fun r_2 => (if r_2 = 0 then some (some 2) else (if p1 = 0 then some none else (if p1 = 1 then some none else some (some 1))))))
set_option maxHeartbeats 4000000 in
set_option maxRecDepth 100000 in
theorem xw_Sq_member {p : Program} {l : Launch} {e : Env} {s : State} {m : MethodId} {args : Array Value} {below : List Frame} {meth : Method} {c : Code} {D : va_G} {cI cL cZ : ClassId} {tA tB : Nat} {A : Nat → Prop} {a_this a_numbers a_table a_hull a_pairs a_steps a_search a_hull_corner a_hull_outside a_hull_members : Nat} {p0 : Int32} {p1 : Int32} {v_unknowns : Int32} {v_squaresThere : Int32} {v_hull_size : Int32} {o_k : Nat} (hlt : l.stackTraces = false) (cx : ct_Cx p s m args meth c b_Sq_member 4 (some .int) R_Sq wd_Sq_member D (ct_tys cI cL cZ) tA tB A) (hB : cx_B A s s.heap) (hex : c.exceptionTable.isEmpty = true) (h : g_Sq_member p0 p1 v_hull_size = some (some o_k)) (hP : va_P D vwCl [(a_this, .inr (4, [.int v_unknowns, .ref a_numbers, .ref a_table, .ref a_hull, .ref a_pairs, .ref a_steps, .ref a_search, .int v_squaresThere])), (a_hull, .inr (0, [.ref a_hull_corner, .ref a_hull_outside, .ref a_hull_members, .int v_hull_size]))] s.heap) (hD : va_D A [(a_this, .inr (4, [.int v_unknowns, .ref a_numbers, .ref a_table, .ref a_hull, .ref a_pairs, .ref a_steps, .ref a_search, .int v_squaresThere])), (a_hull, .inr (0, [.ref a_hull_corner, .ref a_hull_outside, .ref a_hull_members, .int v_hull_size]))]) : ∀ ls : Array Slot, lv_has ls 4 [(0, .ref a_this), (1, .int p0), (2, .int p1)] → W p l e (headSpec wd_Sq_member rx_Sq_member).room s m args below meth c s.heap [] 0 0 (cx_T below (cx_X o_k) args s) (F0 m 0 ls []) := by
  obtain ⟨hx, hb, hr, hml, hown, hts, hK, hA, hT, hlocks, hZA, hZB, hTA, hTB, hnw⟩ := id cx
  intro ls hl
  rw [g_Sq_member] at h
  refine lv_aload_n hx hb d_Sq_member_0 rfl (lv_at hl 0 rfl) ?_
  refine lv_iload_n hx hb d_Sq_member_1 rfl (lv_at hl 1 rfl) ?_
  obtain ⟨r_2, ho, h⟩ := Option.bind_eq_some_iff.mp h
  refine cx_callp (va_runV (As := [.int p0]) (rest := []) ⟨hx, hb, hml, hown, hts⟩ (pc_Sq_isMember l D cI cL cZ tA tB s.heap.size a_this a_numbers a_table a_hull a_pairs a_steps a_search a_hull_corner a_hull_outside a_hull_members p0 v_unknowns v_squaresThere v_hull_size r_2 ho) (cwV 1 hts (ct_goodV k_137 k_135 k_136 k_20 k_134) rfl rfl rfl (by decide +kernel) ⟨Nat.le_of_ble_eq_true rfl, Nat.le_of_ble_eq_true rfl⟩) (ct_preV (wc := [(a_this, .inr (4, [.int v_unknowns, .ref a_numbers, .ref a_table, .ref a_hull, .ref a_pairs, .ref a_steps, .ref a_search, .int v_squaresThere])), (a_hull, .inr (0, [.ref a_hull_corner, .ref a_hull_outside, .ref a_hull_members, .int v_hull_size]))]) hP hD hK va_S.rf hA hT [0, 1] rfl (by decide) (ci := 4) (q0 := 0) rfl rfl) rfl rfl hl.1 rfl (lv_room (Nat.le_of_ble_eq_true rfl)) d_Sq_member_2 ⟨Nat.zero_le _, Nat.zero_le _⟩) ?_
  refine lv_if_ne (tgt := 18) hx hb d_Sq_member_5 (by decide) (fun hc => ?_) (fun hc => ?_)
  · rw [if_neg hc] at h
    refine lv_iload_n hx hb d_Sq_member_18 rfl (lv_at hl 2 rfl) ?_
    refine lv_if_eq (tgt := 37) hx hb d_Sq_member_19 (by decide) (fun hc => ?_) (fun hc => ?_)
    · rw [if_pos hc] at h
      cases h
    · rw [if_neg hc] at h
      refine lv_iload_n hx hb d_Sq_member_22 rfl (lv_at hl 2 rfl) ?_
      refine lv_iconst (v := 1) hx hb d_Sq_member_23 (by decide) ?_
      refine lv_icmp_eq (tgt := 37) hx hb d_Sq_member_24 (by decide) (fun hc => ?_) (fun hc => ?_)
      · rw [if_pos hc] at h
        cases h
      · rw [if_neg hc] at h
        cases h
        exact cx_new (X := cx_IAE) (names := cx_up) (tx := "no such letter") hlt hx hb hown hlocks hex hml hl.1 (hts _ (ct_in k_320)) (hts _ (ct_in k_321)) (hts _ (ct_in k_322)) (hB.2.2.1 (88, "no such letter") (by decide)) (by decide +kernel) (by decide +kernel) (cx_own cx_IAE_ok hts hB) d_Sq_member_27 d_Sq_member_30 d_Sq_member_31 d_Sq_member_33 d_Sq_member_36 (Nat.le_of_ble_eq_true rfl) (Nat.le_of_ble_eq_true rfl) (Nat.le_of_ble_eq_true rfl) (Nat.le_of_ble_eq_true rfl)
  · rw [if_pos hc] at h
    cases h
    exact cx_new (X := cx_IOB) (names := cx_up) (tx := "no such member") hlt hx hb hown hlocks hex hml hl.1 (hts _ (ct_in k_323)) (hts _ (ct_in k_324)) (hts _ (ct_in k_325)) (hB.2.2.1 (85, "no such member") (by decide)) (by decide +kernel) (by decide +kernel) (cx_own cx_IOB_ok hts hB) d_Sq_member_8 d_Sq_member_11 d_Sq_member_12 d_Sq_member_14 d_Sq_member_17 (Nat.le_of_ble_eq_true rfl) (Nat.le_of_ble_eq_true rfl) (Nat.le_of_ble_eq_true rfl) (Nat.le_of_ble_eq_true rfl)
set_option maxHeartbeats 4000000 in
set_option maxRecDepth 100000 in
theorem xc_Sq_member (l : Launch) (hlt : l.stackTraces = false) (D : va_G) (cI cL cZ : ClassId) (tA tB sz : Nat) (a_this a_numbers a_table a_hull a_pairs a_steps a_search a_hull_corner a_hull_outside a_hull_members : Nat) (p0 : Int32) (p1 : Int32) (v_unknowns : Int32) (v_squaresThere : Int32) (v_hull_size : Int32) (o_k : Nat) (h : g_Sq_member p0 p1 v_hull_size = some (some o_k)) : cx_Met l y_Sq_member wd_Sq_member rx_Sq_member (cx_Pre D (ct_tys cI cL cZ) tA tB [(a_this, .inr (4, [.int v_unknowns, .ref a_numbers, .ref a_table, .ref a_hull, .ref a_pairs, .ref a_steps, .ref a_search, .int v_squaresThere])), (a_hull, .inr (0, [.ref a_hull_corner, .ref a_hull_outside, .ref a_hull_members, .int v_hull_size]))] sz [.ref a_this, .int p0, .int p1]) (cx_X o_k) := by
  refine cx_ofW (cc := b_Sq_member) (maxL := 4) (ret := (some .int)) (by decide) rfl ?_
  intro p e s m args below meth c s₁ B hml hex hv
  obtain ⟨hargs, hsz, hP, hK, hD0, hT, hB⟩ := hv
  subst hsz
  have cx : ct_Cx p s m args meth c b_Sq_member 4 (some .int) R_Sq wd_Sq_member D (ct_tys cI cL cZ) tA tB (va_A [(a_this, .inr (4, [.int v_unknowns, .ref a_numbers, .ref a_table, .ref a_hull, .ref a_pairs, .ref a_steps, .ref a_search, .int v_squaresThere])), (a_hull, .inr (0, [.ref a_hull_corner, .ref a_hull_outside, .ref a_hull_members, .int v_hull_size]))] s.heap.size) := ⟨B.exec, B.bytes, B.returns, hml, findClass_of_methodNamed B.named, atoms_spec (ws := wd_Sq_member) B.pre, hK, fun q h => Or.inr h, hT, B.notSynchronized, hT.1, hT.2.1, hT.2.2.1, hT.2.2.2.1, hT.2.2.2.2⟩
  have hl := lv_entry ([.ref a_this, .int p0, .int p1]) (n := 4) (Nat.le_of_ble_eq_true rfl)
  rw [show entryFrame m args 4 = entryFrame m ([.ref a_this, .int p0, .int p1] : List Value).toArray 4 by rw [hargs], lg_entry_eq]
  exact xw_Sq_member hlt cx hB hex h hP hD0.self _ hl
abbrev rx_Sq_put : Room := { frames := 6, cells := 1, slots := 6, locals := 82 }
def g_Sq_put (p0 : Int32) (p1 : Int32) (p2 : Int32) (v_hull_size : Int32) : Option (Option Nat) := ((f_Sq_isMember p0 v_hull_size).bind (fun r_2 => (if r_2 = 0 then some (some 2) else ((f_Sq_isMember p1 v_hull_size).bind (fun r_4 => (if r_4 = 0 then some (some 2) else ((f_Sq_within p2 (30 : Int32)).bind (fun r_6 => (if r_6 = 0 then some (some 1) else some none)))))))))
set_option maxHeartbeats 4000000 in
set_option maxRecDepth 100000 in
theorem xw_Sq_put {p : Program} {l : Launch} {e : Env} {s : State} {m : MethodId} {args : Array Value} {below : List Frame} {meth : Method} {c : Code} {D : va_G} {cI cL cZ : ClassId} {tA tB : Nat} {A : Nat → Prop} {a_this a_numbers a_table a_hull a_pairs a_steps a_search a_hull_corner a_hull_outside a_hull_members : Nat} {p0 : Int32} {p1 : Int32} {p2 : Int32} {v_unknowns : Int32} {v_squaresThere : Int32} {v_hull_size : Int32} {o_k : Nat} (hlt : l.stackTraces = false) (cx : ct_Cx p s m args meth c b_Sq_put 5 (some .boolean) R_Sq wd_Sq_put D (ct_tys cI cL cZ) tA tB A) (hB : cx_B A s s.heap) (hex : c.exceptionTable.isEmpty = true) (h : g_Sq_put p0 p1 p2 v_hull_size = some (some o_k)) (hP : va_P D vwCl [(a_this, .inr (4, [.int v_unknowns, .ref a_numbers, .ref a_table, .ref a_hull, .ref a_pairs, .ref a_steps, .ref a_search, .int v_squaresThere])), (a_hull, .inr (0, [.ref a_hull_corner, .ref a_hull_outside, .ref a_hull_members, .int v_hull_size]))] s.heap) (hD : va_D A [(a_this, .inr (4, [.int v_unknowns, .ref a_numbers, .ref a_table, .ref a_hull, .ref a_pairs, .ref a_steps, .ref a_search, .int v_squaresThere])), (a_hull, .inr (0, [.ref a_hull_corner, .ref a_hull_outside, .ref a_hull_members, .int v_hull_size]))]) : ∀ ls : Array Slot, lv_has ls 5 [(0, .ref a_this), (1, .int p0), (2, .int p1), (3, .int p2)] → W p l e (headSpec wd_Sq_put rx_Sq_put).room s m args below meth c s.heap [] 0 0 (cx_T below (cx_X o_k) args s) (F0 m 0 ls []) := by
  obtain ⟨hx, hb, hr, hml, hown, hts, hK, hA, hT, hlocks, hZA, hZB, hTA, hTB, hnw⟩ := id cx
  intro ls hl
  rw [g_Sq_put] at h
  refine lv_aload_n hx hb d_Sq_put_0 rfl (lv_at hl 0 rfl) ?_
  refine lv_iload_n hx hb d_Sq_put_1 rfl (lv_at hl 1 rfl) ?_
  obtain ⟨r_2, ho, h⟩ := Option.bind_eq_some_iff.mp h
  refine cx_callp (va_runV (As := [.int p0]) (rest := []) ⟨hx, hb, hml, hown, hts⟩ (pc_Sq_isMember l D cI cL cZ tA tB s.heap.size a_this a_numbers a_table a_hull a_pairs a_steps a_search a_hull_corner a_hull_outside a_hull_members p0 v_unknowns v_squaresThere v_hull_size r_2 ho) (cwV 1 hts (ct_goodV k_137 k_135 k_136 k_20 k_134) rfl rfl rfl (by decide +kernel) ⟨Nat.le_of_ble_eq_true rfl, Nat.le_of_ble_eq_true rfl⟩) (ct_preV (wc := [(a_this, .inr (4, [.int v_unknowns, .ref a_numbers, .ref a_table, .ref a_hull, .ref a_pairs, .ref a_steps, .ref a_search, .int v_squaresThere])), (a_hull, .inr (0, [.ref a_hull_corner, .ref a_hull_outside, .ref a_hull_members, .int v_hull_size]))]) hP hD hK va_S.rf hA hT [0, 1] rfl (by decide) (ci := 4) (q0 := 0) rfl rfl) rfl rfl hl.1 rfl (lv_room (Nat.le_of_ble_eq_true rfl)) d_Sq_put_2 ⟨Nat.zero_le _, Nat.zero_le _⟩) ?_
  refine lv_if_eq (tgt := 16) hx hb d_Sq_put_5 (by decide) (fun hc => ?_) (fun hc => ?_)
  · rw [if_pos hc] at h
    cases h
    exact cx_new (X := cx_IOB) (names := cx_up) (tx := "no such member") hlt hx hb hown hlocks hex hml hl.1 (hts _ (ct_in k_323)) (hts _ (ct_in k_324)) (hts _ (ct_in k_325)) (hB.2.2.1 (85, "no such member") (by decide)) (by decide +kernel) (by decide +kernel) (cx_own cx_IOB_ok hts hB) d_Sq_put_16 d_Sq_put_19 d_Sq_put_20 d_Sq_put_22 d_Sq_put_25 (Nat.le_of_ble_eq_true rfl) (Nat.le_of_ble_eq_true rfl) (Nat.le_of_ble_eq_true rfl) (Nat.le_of_ble_eq_true rfl)
  · rw [if_neg hc] at h
    refine lv_aload_n hx hb d_Sq_put_8 rfl (lv_at hl 0 rfl) ?_
    refine lv_iload_n hx hb d_Sq_put_9 rfl (lv_at hl 2 rfl) ?_
    obtain ⟨r_4, ho, h⟩ := Option.bind_eq_some_iff.mp h
    refine cx_callp (va_runV (As := [.int p1]) (rest := []) ⟨hx, hb, hml, hown, hts⟩ (pc_Sq_isMember l D cI cL cZ tA tB s.heap.size a_this a_numbers a_table a_hull a_pairs a_steps a_search a_hull_corner a_hull_outside a_hull_members p1 v_unknowns v_squaresThere v_hull_size r_4 ho) (cwV 1 hts (ct_goodV k_137 k_135 k_136 k_20 k_134) rfl rfl rfl (by decide +kernel) ⟨Nat.le_of_ble_eq_true rfl, Nat.le_of_ble_eq_true rfl⟩) (ct_preV (wc := [(a_this, .inr (4, [.int v_unknowns, .ref a_numbers, .ref a_table, .ref a_hull, .ref a_pairs, .ref a_steps, .ref a_search, .int v_squaresThere])), (a_hull, .inr (0, [.ref a_hull_corner, .ref a_hull_outside, .ref a_hull_members, .int v_hull_size]))]) hP hD hK va_S.rf hA hT [0, 1] rfl (by decide) (ci := 4) (q0 := 0) rfl rfl) rfl rfl hl.1 rfl (lv_room (Nat.le_of_ble_eq_true rfl)) d_Sq_put_10 ⟨Nat.zero_le _, Nat.zero_le _⟩) ?_
    refine lv_if_ne (tgt := 26) hx hb d_Sq_put_13 (by decide) (fun hc => ?_) (fun hc => ?_)
    · rw [if_neg hc] at h
      refine lv_iload_n hx hb d_Sq_put_26 rfl (lv_at hl 3 rfl) ?_
      refine lv_bipush (v := 30) hx hb d_Sq_put_27 (by decide) ?_
      obtain ⟨r_6, ho, h⟩ := Option.bind_eq_some_iff.mp h
      refine cx_callp (va_runS (As := [.int p2, .int 30]) (rest := []) ⟨hx, hb, hml, hown, hts⟩ (pc_Sq_within l D cI cL cZ tA tB s.heap.size p2 (30 : Int32) r_6 ho) (va_cwS 2 hts (ct_goodS k_111 k_91 k_20 k_90) rfl rfl rfl (by decide +kernel) ⟨Nat.le_of_ble_eq_true rfl, Nat.le_of_ble_eq_true rfl⟩) (ct_preS (wc := []) hP hD hK va_S.rf hA hT [] rfl (by decide)) rfl rfl hl.1 rfl (lv_room (Nat.le_of_ble_eq_true rfl)) d_Sq_put_29 ⟨Nat.zero_le _, Nat.zero_le _⟩) ?_
      refine lv_if_ne (tgt := 45) hx hb d_Sq_put_32 (by decide) (fun hc => ?_) (fun hc => ?_)
      · rw [if_neg hc] at h
        cases h
      · rw [if_pos hc] at h
        cases h
        exact cx_new (X := cx_IAE) (names := cx_up) (tx := "no such number of a table") hlt hx hb hown hlocks hex hml hl.1 (hts _ (ct_in k_320)) (hts _ (ct_in k_321)) (hts _ (ct_in k_322)) (hB.2.2.1 (99, "no such number of a table") (by decide)) (by decide +kernel) (by decide +kernel) (cx_own cx_IAE_ok hts hB) d_Sq_put_35 d_Sq_put_38 d_Sq_put_39 d_Sq_put_41 d_Sq_put_44 (Nat.le_of_ble_eq_true rfl) (Nat.le_of_ble_eq_true rfl) (Nat.le_of_ble_eq_true rfl) (Nat.le_of_ble_eq_true rfl)
    · rw [if_pos hc] at h
      cases h
      exact cx_new (X := cx_IOB) (names := cx_up) (tx := "no such member") hlt hx hb hown hlocks hex hml hl.1 (hts _ (ct_in k_323)) (hts _ (ct_in k_324)) (hts _ (ct_in k_325)) (hB.2.2.1 (85, "no such member") (by decide)) (by decide +kernel) (by decide +kernel) (cx_own cx_IOB_ok hts hB) d_Sq_put_16 d_Sq_put_19 d_Sq_put_20 d_Sq_put_22 d_Sq_put_25 (Nat.le_of_ble_eq_true rfl) (Nat.le_of_ble_eq_true rfl) (Nat.le_of_ble_eq_true rfl) (Nat.le_of_ble_eq_true rfl)
set_option maxHeartbeats 4000000 in
set_option maxRecDepth 100000 in
theorem xc_Sq_put (l : Launch) (hlt : l.stackTraces = false) (D : va_G) (cI cL cZ : ClassId) (tA tB sz : Nat) (a_this a_numbers a_table a_hull a_pairs a_steps a_search a_hull_corner a_hull_outside a_hull_members : Nat) (p0 : Int32) (p1 : Int32) (p2 : Int32) (v_unknowns : Int32) (v_squaresThere : Int32) (v_hull_size : Int32) (o_k : Nat) (h : g_Sq_put p0 p1 p2 v_hull_size = some (some o_k)) : cx_Met l y_Sq_put wd_Sq_put rx_Sq_put (cx_Pre D (ct_tys cI cL cZ) tA tB [(a_this, .inr (4, [.int v_unknowns, .ref a_numbers, .ref a_table, .ref a_hull, .ref a_pairs, .ref a_steps, .ref a_search, .int v_squaresThere])), (a_hull, .inr (0, [.ref a_hull_corner, .ref a_hull_outside, .ref a_hull_members, .int v_hull_size]))] sz [.ref a_this, .int p0, .int p1, .int p2]) (cx_X o_k) := by
  refine cx_ofW (cc := b_Sq_put) (maxL := 5) (ret := (some .boolean)) (by decide) rfl ?_
  intro p e s m args below meth c s₁ B hml hex hv
  obtain ⟨hargs, hsz, hP, hK, hD0, hT, hB⟩ := hv
  subst hsz
  have cx : ct_Cx p s m args meth c b_Sq_put 5 (some .boolean) R_Sq wd_Sq_put D (ct_tys cI cL cZ) tA tB (va_A [(a_this, .inr (4, [.int v_unknowns, .ref a_numbers, .ref a_table, .ref a_hull, .ref a_pairs, .ref a_steps, .ref a_search, .int v_squaresThere])), (a_hull, .inr (0, [.ref a_hull_corner, .ref a_hull_outside, .ref a_hull_members, .int v_hull_size]))] s.heap.size) := ⟨B.exec, B.bytes, B.returns, hml, findClass_of_methodNamed B.named, atoms_spec (ws := wd_Sq_put) B.pre, hK, fun q h => Or.inr h, hT, B.notSynchronized, hT.1, hT.2.1, hT.2.2.1, hT.2.2.2.1, hT.2.2.2.2⟩
  have hl := lv_entry ([.ref a_this, .int p0, .int p1, .int p2]) (n := 5) (Nat.le_of_ble_eq_true rfl)
  rw [show entryFrame m args 5 = entryFrame m ([.ref a_this, .int p0, .int p1, .int p2] : List Value).toArray 5 by rw [hargs], lg_entry_eq]
  exact xw_Sq_put hlt cx hB hex h hP hD0.self _ hl
abbrev rx_Sq_at : Room := { frames := 6, cells := 1, slots := 6, locals := 82 }
def g_Sq_at (p0 : Int32) (p1 : Int32) (v_hull_size : Int32) : Option (Option Nat) := ((f_Sq_isMember p0 v_hull_size).bind (fun r_2 => (if r_2 = 0 then some (some 2) else ((f_Sq_isMember p1 v_hull_size).bind (fun r_4 => (if r_4 = 0 then some (some 2) else some none))))))
set_option maxHeartbeats 4000000 in
set_option maxRecDepth 100000 in
theorem xw_Sq_at {p : Program} {l : Launch} {e : Env} {s : State} {m : MethodId} {args : Array Value} {below : List Frame} {meth : Method} {c : Code} {D : va_G} {cI cL cZ : ClassId} {tA tB : Nat} {A : Nat → Prop} {a_this a_numbers a_table a_hull a_pairs a_steps a_search a_hull_corner a_hull_outside a_hull_members : Nat} {p0 : Int32} {p1 : Int32} {v_unknowns : Int32} {v_squaresThere : Int32} {v_hull_size : Int32} {o_k : Nat} (hlt : l.stackTraces = false) (cx : ct_Cx p s m args meth c b_Sq_at 3 (some .int) R_Sq wd_Sq_at D (ct_tys cI cL cZ) tA tB A) (hB : cx_B A s s.heap) (hex : c.exceptionTable.isEmpty = true) (h : g_Sq_at p0 p1 v_hull_size = some (some o_k)) (hP : va_P D vwCl [(a_this, .inr (4, [.int v_unknowns, .ref a_numbers, .ref a_table, .ref a_hull, .ref a_pairs, .ref a_steps, .ref a_search, .int v_squaresThere])), (a_hull, .inr (0, [.ref a_hull_corner, .ref a_hull_outside, .ref a_hull_members, .int v_hull_size]))] s.heap) (hD : va_D A [(a_this, .inr (4, [.int v_unknowns, .ref a_numbers, .ref a_table, .ref a_hull, .ref a_pairs, .ref a_steps, .ref a_search, .int v_squaresThere])), (a_hull, .inr (0, [.ref a_hull_corner, .ref a_hull_outside, .ref a_hull_members, .int v_hull_size]))]) : ∀ ls : Array Slot, lv_has ls 3 [(0, .ref a_this), (1, .int p0), (2, .int p1)] → W p l e (headSpec wd_Sq_at rx_Sq_at).room s m args below meth c s.heap [] 0 0 (cx_T below (cx_X o_k) args s) (F0 m 0 ls []) := by
  obtain ⟨hx, hb, hr, hml, hown, hts, hK, hA, hT, hlocks, hZA, hZB, hTA, hTB, hnw⟩ := id cx
  intro ls hl
  rw [g_Sq_at] at h
  refine lv_aload_n hx hb d_Sq_at_0 rfl (lv_at hl 0 rfl) ?_
  refine lv_iload_n hx hb d_Sq_at_1 rfl (lv_at hl 1 rfl) ?_
  obtain ⟨r_2, ho, h⟩ := Option.bind_eq_some_iff.mp h
  refine cx_callp (va_runV (As := [.int p0]) (rest := []) ⟨hx, hb, hml, hown, hts⟩ (pc_Sq_isMember l D cI cL cZ tA tB s.heap.size a_this a_numbers a_table a_hull a_pairs a_steps a_search a_hull_corner a_hull_outside a_hull_members p0 v_unknowns v_squaresThere v_hull_size r_2 ho) (cwV 1 hts (ct_goodV k_137 k_135 k_136 k_20 k_134) rfl rfl rfl (by decide +kernel) ⟨Nat.le_of_ble_eq_true rfl, Nat.le_of_ble_eq_true rfl⟩) (ct_preV (wc := [(a_this, .inr (4, [.int v_unknowns, .ref a_numbers, .ref a_table, .ref a_hull, .ref a_pairs, .ref a_steps, .ref a_search, .int v_squaresThere])), (a_hull, .inr (0, [.ref a_hull_corner, .ref a_hull_outside, .ref a_hull_members, .int v_hull_size]))]) hP hD hK va_S.rf hA hT [0, 1] rfl (by decide) (ci := 4) (q0 := 0) rfl rfl) rfl rfl hl.1 rfl (lv_room (Nat.le_of_ble_eq_true rfl)) d_Sq_at_2 ⟨Nat.zero_le _, Nat.zero_le _⟩) ?_
  refine lv_if_eq (tgt := 16) hx hb d_Sq_at_5 (by decide) (fun hc => ?_) (fun hc => ?_)
  · rw [if_pos hc] at h
    cases h
    exact cx_new (X := cx_IOB) (names := cx_up) (tx := "no such member") hlt hx hb hown hlocks hex hml hl.1 (hts _ (ct_in k_323)) (hts _ (ct_in k_324)) (hts _ (ct_in k_325)) (hB.2.2.1 (85, "no such member") (by decide)) (by decide +kernel) (by decide +kernel) (cx_own cx_IOB_ok hts hB) d_Sq_at_16 d_Sq_at_19 d_Sq_at_20 d_Sq_at_22 d_Sq_at_25 (Nat.le_of_ble_eq_true rfl) (Nat.le_of_ble_eq_true rfl) (Nat.le_of_ble_eq_true rfl) (Nat.le_of_ble_eq_true rfl)
  · rw [if_neg hc] at h
    refine lv_aload_n hx hb d_Sq_at_8 rfl (lv_at hl 0 rfl) ?_
    refine lv_iload_n hx hb d_Sq_at_9 rfl (lv_at hl 2 rfl) ?_
    obtain ⟨r_4, ho, h⟩ := Option.bind_eq_some_iff.mp h
    refine cx_callp (va_runV (As := [.int p1]) (rest := []) ⟨hx, hb, hml, hown, hts⟩ (pc_Sq_isMember l D cI cL cZ tA tB s.heap.size a_this a_numbers a_table a_hull a_pairs a_steps a_search a_hull_corner a_hull_outside a_hull_members p1 v_unknowns v_squaresThere v_hull_size r_4 ho) (cwV 1 hts (ct_goodV k_137 k_135 k_136 k_20 k_134) rfl rfl rfl (by decide +kernel) ⟨Nat.le_of_ble_eq_true rfl, Nat.le_of_ble_eq_true rfl⟩) (ct_preV (wc := [(a_this, .inr (4, [.int v_unknowns, .ref a_numbers, .ref a_table, .ref a_hull, .ref a_pairs, .ref a_steps, .ref a_search, .int v_squaresThere])), (a_hull, .inr (0, [.ref a_hull_corner, .ref a_hull_outside, .ref a_hull_members, .int v_hull_size]))]) hP hD hK va_S.rf hA hT [0, 1] rfl (by decide) (ci := 4) (q0 := 0) rfl rfl) rfl rfl hl.1 rfl (lv_room (Nat.le_of_ble_eq_true rfl)) d_Sq_at_10 ⟨Nat.zero_le _, Nat.zero_le _⟩) ?_
    refine lv_if_ne (tgt := 26) hx hb d_Sq_at_13 (by decide) (fun hc => ?_) (fun hc => ?_)
    · rw [if_neg hc] at h
      cases h
    · rw [if_pos hc] at h
      cases h
      exact cx_new (X := cx_IOB) (names := cx_up) (tx := "no such member") hlt hx hb hown hlocks hex hml hl.1 (hts _ (ct_in k_323)) (hts _ (ct_in k_324)) (hts _ (ct_in k_325)) (hB.2.2.1 (85, "no such member") (by decide)) (by decide +kernel) (by decide +kernel) (cx_own cx_IOB_ok hts hB) d_Sq_at_16 d_Sq_at_19 d_Sq_at_20 d_Sq_at_22 d_Sq_at_25 (Nat.le_of_ble_eq_true rfl) (Nat.le_of_ble_eq_true rfl) (Nat.le_of_ble_eq_true rfl) (Nat.le_of_ble_eq_true rfl)
set_option maxHeartbeats 4000000 in
set_option maxRecDepth 100000 in
theorem xc_Sq_at (l : Launch) (hlt : l.stackTraces = false) (D : va_G) (cI cL cZ : ClassId) (tA tB sz : Nat) (a_this a_numbers a_table a_hull a_pairs a_steps a_search a_hull_corner a_hull_outside a_hull_members : Nat) (p0 : Int32) (p1 : Int32) (v_unknowns : Int32) (v_squaresThere : Int32) (v_hull_size : Int32) (o_k : Nat) (h : g_Sq_at p0 p1 v_hull_size = some (some o_k)) : cx_Met l y_Sq_at wd_Sq_at rx_Sq_at (cx_Pre D (ct_tys cI cL cZ) tA tB [(a_this, .inr (4, [.int v_unknowns, .ref a_numbers, .ref a_table, .ref a_hull, .ref a_pairs, .ref a_steps, .ref a_search, .int v_squaresThere])), (a_hull, .inr (0, [.ref a_hull_corner, .ref a_hull_outside, .ref a_hull_members, .int v_hull_size]))] sz [.ref a_this, .int p0, .int p1]) (cx_X o_k) := by
  refine cx_ofW (cc := b_Sq_at) (maxL := 3) (ret := (some .int)) (by decide) rfl ?_
  intro p e s m args below meth c s₁ B hml hex hv
  obtain ⟨hargs, hsz, hP, hK, hD0, hT, hB⟩ := hv
  subst hsz
  have cx : ct_Cx p s m args meth c b_Sq_at 3 (some .int) R_Sq wd_Sq_at D (ct_tys cI cL cZ) tA tB (va_A [(a_this, .inr (4, [.int v_unknowns, .ref a_numbers, .ref a_table, .ref a_hull, .ref a_pairs, .ref a_steps, .ref a_search, .int v_squaresThere])), (a_hull, .inr (0, [.ref a_hull_corner, .ref a_hull_outside, .ref a_hull_members, .int v_hull_size]))] s.heap.size) := ⟨B.exec, B.bytes, B.returns, hml, findClass_of_methodNamed B.named, atoms_spec (ws := wd_Sq_at) B.pre, hK, fun q h => Or.inr h, hT, B.notSynchronized, hT.1, hT.2.1, hT.2.2.1, hT.2.2.2.1, hT.2.2.2.2⟩
  have hl := lv_entry ([.ref a_this, .int p0, .int p1]) (n := 3) (Nat.le_of_ble_eq_true rfl)
  rw [show entryFrame m args 3 = entryFrame m ([.ref a_this, .int p0, .int p1] : List Value).toArray 3 by rw [hargs], lg_entry_eq]
  exact xw_Sq_at hlt cx hB hex h hP hD0.self _ hl
abbrev rx_Sq_squares : Room := { frames := 6, cells := 1, slots := 6, locals := 82 }
def g_Sq_squares (v_squaresThere : Int32) : Option (Option Nat) := (if v_squaresThere = 0 then some (some 3) else some none)
set_option maxHeartbeats 4000000 in
set_option maxRecDepth 100000 in
theorem xw_Sq_squares {p : Program} {l : Launch} {e : Env} {s : State} {m : MethodId} {args : Array Value} {below : List Frame} {meth : Method} {c : Code} {D : va_G} {cI cL cZ : ClassId} {tA tB : Nat} {A : Nat → Prop} {a_this a_numbers a_table a_hull a_pairs a_steps a_search : Nat} {v_unknowns : Int32} {v_squaresThere : Int32} {o_k : Nat} (hlt : l.stackTraces = false) (cx : ct_Cx p s m args meth c b_Sq_squares 1 (some .int) R_Sq wd_Sq_squares D (ct_tys cI cL cZ) tA tB A) (hB : cx_B A s s.heap) (hex : c.exceptionTable.isEmpty = true) (h : g_Sq_squares v_squaresThere = some (some o_k)) (hP : va_P D vwCl [(a_this, .inr (4, [.int v_unknowns, .ref a_numbers, .ref a_table, .ref a_hull, .ref a_pairs, .ref a_steps, .ref a_search, .int v_squaresThere]))] s.heap) (hD : va_D A [(a_this, .inr (4, [.int v_unknowns, .ref a_numbers, .ref a_table, .ref a_hull, .ref a_pairs, .ref a_steps, .ref a_search, .int v_squaresThere]))]) : ∀ ls : Array Slot, lv_has ls 1 [(0, .ref a_this)] → W p l e (headSpec wd_Sq_squares rx_Sq_squares).room s m args below meth c s.heap [] 0 0 (cx_T below (cx_X o_k) args s) (F0 m 0 ls []) := by
  obtain ⟨hx, hb, hr, hml, hown, hts, hK, hA, hT, hlocks, hZA, hZB, hTA, hTB, hnw⟩ := id cx
  intro ls hl
  rw [g_Sq_squares] at h
  refine lv_aload_n hx hb d_Sq_squares_0 rfl (lv_at hl 0 rfl) ?_
  refine va_get (D := D) (ci := 4) (v := .int v_squaresThere) (C := R_Sq) (T := T_Sq) (N := 8) hx hb hts (fun w h9 => ct_in (iw_Sq w h9)) hown hK hP 0 rfl rfl 7 (by decide) (hts _ (ct_in k_115)) (fun _ h9 => h9) rfl d_Sq_squares_1 ?_
  refine lv_if_ne (tgt := 17) hx hb d_Sq_squares_4 (by decide) (fun hc => ?_) (fun hc => ?_)
  · rw [if_neg hc] at h
    cases h
  · rw [if_pos hc] at h
    cases h
    exact cx_new (X := cx_ISE) (names := cx_up) (tx := "no squares are there") hlt hx hb hown hlocks hex hml hl.1 (hts _ (ct_in k_326)) (hts _ (ct_in k_327)) (hts _ (ct_in k_328)) (hB.2.2.1 (114, "no squares are there") (by decide)) (by decide +kernel) (by decide +kernel) (cx_own cx_ISE_ok hts hB) d_Sq_squares_7 d_Sq_squares_10 d_Sq_squares_11 d_Sq_squares_13 d_Sq_squares_16 (Nat.le_of_ble_eq_true rfl) (Nat.le_of_ble_eq_true rfl) (Nat.le_of_ble_eq_true rfl) (Nat.le_of_ble_eq_true rfl)
set_option maxHeartbeats 4000000 in
set_option maxRecDepth 100000 in
theorem xc_Sq_squares (l : Launch) (hlt : l.stackTraces = false) (D : va_G) (cI cL cZ : ClassId) (tA tB sz : Nat) (a_this a_numbers a_table a_hull a_pairs a_steps a_search : Nat) (v_unknowns : Int32) (v_squaresThere : Int32) (o_k : Nat) (h : g_Sq_squares v_squaresThere = some (some o_k)) : cx_Met l y_Sq_squares wd_Sq_squares rx_Sq_squares (cx_Pre D (ct_tys cI cL cZ) tA tB [(a_this, .inr (4, [.int v_unknowns, .ref a_numbers, .ref a_table, .ref a_hull, .ref a_pairs, .ref a_steps, .ref a_search, .int v_squaresThere]))] sz [.ref a_this]) (cx_X o_k) := by
  refine cx_ofW (cc := b_Sq_squares) (maxL := 1) (ret := (some .int)) (by decide) rfl ?_
  intro p e s m args below meth c s₁ B hml hex hv
  obtain ⟨hargs, hsz, hP, hK, hD0, hT, hB⟩ := hv
  subst hsz
  have cx : ct_Cx p s m args meth c b_Sq_squares 1 (some .int) R_Sq wd_Sq_squares D (ct_tys cI cL cZ) tA tB (va_A [(a_this, .inr (4, [.int v_unknowns, .ref a_numbers, .ref a_table, .ref a_hull, .ref a_pairs, .ref a_steps, .ref a_search, .int v_squaresThere]))] s.heap.size) := ⟨B.exec, B.bytes, B.returns, hml, findClass_of_methodNamed B.named, atoms_spec (ws := wd_Sq_squares) B.pre, hK, fun q h => Or.inr h, hT, B.notSynchronized, hT.1, hT.2.1, hT.2.2.1, hT.2.2.2.1, hT.2.2.2.2⟩
  have hl := lv_entry ([.ref a_this]) (n := 1) (Nat.le_of_ble_eq_true rfl)
  rw [show entryFrame m args 1 = entryFrame m ([.ref a_this] : List Value).toArray 1 by rw [hargs], lg_entry_eq]
  exact xw_Sq_squares hlt cx hB hex h hP hD0.self _ hl
abbrev rx_Sq_weight : Room := { frames := 6, cells := 1, slots := 6, locals := 82 }
def g_Sq_weight (p0 : Int32) (p1 : Int32) (v_squaresThere : Int32) (v_steps_size : Int32) : Option (Option Nat) := (if v_squaresThere = 0 then some (some 3) else ((f_Sq_isSquare p0 v_steps_size).bind (fun r_2 => (if r_2 = 0 then some (some 2) else ((f_Sq_isPart p1).bind (fun r_4 => (if r_4 = 0 then some (some 1) else some none)))))))
set_option maxHeartbeats 4000000 in
set_option maxRecDepth 100000 in
theorem xw_Sq_weight {p : Program} {l : Launch} {e : Env} {s : State} {m : MethodId} {args : Array Value} {below : List Frame} {meth : Method} {c : Code} {D : va_G} {cI cL cZ : ClassId} {tA tB : Nat} {A : Nat → Prop} {a_this a_numbers a_table a_hull a_pairs a_steps a_search a_steps_left a_steps_squareMember : Nat} {p0 : Int32} {p1 : Int32} {v_unknowns : Int32} {v_squaresThere : Int32} {v_steps_size : Int32} {o_k : Nat} (hlt : l.stackTraces = false) (cx : ct_Cx p s m args meth c b_Sq_weight 3 (some .long) R_Sq wd_Sq_weight D (ct_tys cI cL cZ) tA tB A) (hB : cx_B A s s.heap) (hex : c.exceptionTable.isEmpty = true) (h : g_Sq_weight p0 p1 v_squaresThere v_steps_size = some (some o_k)) (hP : va_P D vwCl [(a_this, .inr (4, [.int v_unknowns, .ref a_numbers, .ref a_table, .ref a_hull, .ref a_pairs, .ref a_steps, .ref a_search, .int v_squaresThere])), (a_steps, .inr (3, [.ref a_steps_left, .ref a_steps_squareMember, .int v_steps_size]))] s.heap) (hD : va_D A [(a_this, .inr (4, [.int v_unknowns, .ref a_numbers, .ref a_table, .ref a_hull, .ref a_pairs, .ref a_steps, .ref a_search, .int v_squaresThere])), (a_steps, .inr (3, [.ref a_steps_left, .ref a_steps_squareMember, .int v_steps_size]))]) : ∀ ls : Array Slot, lv_has ls 3 [(0, .ref a_this), (1, .int p0), (2, .int p1)] → W p l e (headSpec wd_Sq_weight rx_Sq_weight).room s m args below meth c s.heap [] 0 0 (cx_T below (cx_X o_k) args s) (F0 m 0 ls []) := by
  obtain ⟨hx, hb, hr, hml, hown, hts, hK, hA, hT, hlocks, hZA, hZB, hTA, hTB, hnw⟩ := id cx
  intro ls hl
  rw [g_Sq_weight] at h
  refine lv_aload_n hx hb d_Sq_weight_0 rfl (lv_at hl 0 rfl) ?_
  refine va_get (D := D) (ci := 4) (v := .int v_squaresThere) (C := R_Sq) (T := T_Sq) (N := 8) hx hb hts (fun w h9 => ct_in (iw_Sq w h9)) hown hK hP 0 rfl rfl 7 (by decide) (hts _ (ct_in k_115)) (fun _ h9 => h9) rfl d_Sq_weight_1 ?_
  refine lv_if_ne (tgt := 17) hx hb d_Sq_weight_4 (by decide) (fun hc => ?_) (fun hc => ?_)
  · rw [if_neg hc] at h
    refine lv_aload_n hx hb d_Sq_weight_17 rfl (lv_at hl 0 rfl) ?_
    refine lv_iload_n hx hb d_Sq_weight_18 rfl (lv_at hl 1 rfl) ?_
    obtain ⟨r_2, ho, h⟩ := Option.bind_eq_some_iff.mp h
    refine cx_callp (va_runV (As := [.int p0]) (rest := []) ⟨hx, hb, hml, hown, hts⟩ (pc_Sq_isSquare l D cI cL cZ tA tB s.heap.size a_this a_numbers a_table a_hull a_pairs a_steps a_search a_steps_left a_steps_squareMember p0 v_unknowns v_squaresThere v_steps_size r_2 ho) (cwV 1 hts (ct_goodV k_150 k_148 k_149 k_20 k_147) rfl rfl rfl (by decide +kernel) ⟨Nat.le_of_ble_eq_true rfl, Nat.le_of_ble_eq_true rfl⟩) (ct_preV (wc := [(a_this, .inr (4, [.int v_unknowns, .ref a_numbers, .ref a_table, .ref a_hull, .ref a_pairs, .ref a_steps, .ref a_search, .int v_squaresThere])), (a_steps, .inr (3, [.ref a_steps_left, .ref a_steps_squareMember, .int v_steps_size]))]) hP hD hK va_S.rf hA hT [0, 1] rfl (by decide) (ci := 4) (q0 := 0) rfl rfl) rfl rfl hl.1 rfl (lv_room (Nat.le_of_ble_eq_true rfl)) d_Sq_weight_19 ⟨Nat.zero_le _, Nat.zero_le _⟩) ?_
    refine lv_if_ne (tgt := 35) hx hb d_Sq_weight_22 (by decide) (fun hc => ?_) (fun hc => ?_)
    · rw [if_neg hc] at h
      refine lv_iload_n hx hb d_Sq_weight_35 rfl (lv_at hl 2 rfl) ?_
      obtain ⟨r_4, ho, h⟩ := Option.bind_eq_some_iff.mp h
      refine cx_callp (va_runS (As := [.int p1]) (rest := []) ⟨hx, hb, hml, hown, hts⟩ (pc_Sq_isPart l D cI cL cZ tA tB s.heap.size p1 r_4 ho) (va_cwS 1 hts (ct_goodS k_153 k_152 k_20 k_151) rfl rfl rfl (by decide +kernel) ⟨Nat.le_of_ble_eq_true rfl, Nat.le_of_ble_eq_true rfl⟩) (ct_preS (wc := []) hP hD hK va_S.rf hA hT [] rfl (by decide)) rfl rfl hl.1 rfl (lv_room (Nat.le_of_ble_eq_true rfl)) d_Sq_weight_36 ⟨Nat.zero_le _, Nat.zero_le _⟩) ?_
      refine lv_if_ne (tgt := 52) hx hb d_Sq_weight_39 (by decide) (fun hc => ?_) (fun hc => ?_)
      · rw [if_neg hc] at h
        cases h
      · rw [if_pos hc] at h
        cases h
        exact cx_new (X := cx_IAE) (names := cx_up) (tx := "no such part") hlt hx hb hown hlocks hex hml hl.1 (hts _ (ct_in k_320)) (hts _ (ct_in k_321)) (hts _ (ct_in k_322)) (hB.2.2.1 (126, "no such part") (by decide)) (by decide +kernel) (by decide +kernel) (cx_own cx_IAE_ok hts hB) d_Sq_weight_42 d_Sq_weight_45 d_Sq_weight_46 d_Sq_weight_48 d_Sq_weight_51 (Nat.le_of_ble_eq_true rfl) (Nat.le_of_ble_eq_true rfl) (Nat.le_of_ble_eq_true rfl) (Nat.le_of_ble_eq_true rfl)
    · rw [if_pos hc] at h
      cases h
      exact cx_new (X := cx_IOB) (names := cx_up) (tx := "no such square") hlt hx hb hown hlocks hex hml hl.1 (hts _ (ct_in k_323)) (hts _ (ct_in k_324)) (hts _ (ct_in k_325)) (hB.2.2.1 (121, "no such square") (by decide)) (by decide +kernel) (by decide +kernel) (cx_own cx_IOB_ok hts hB) d_Sq_weight_25 d_Sq_weight_28 d_Sq_weight_29 d_Sq_weight_31 d_Sq_weight_34 (Nat.le_of_ble_eq_true rfl) (Nat.le_of_ble_eq_true rfl) (Nat.le_of_ble_eq_true rfl) (Nat.le_of_ble_eq_true rfl)
  · rw [if_pos hc] at h
    cases h
    exact cx_new (X := cx_ISE) (names := cx_up) (tx := "no squares are there") hlt hx hb hown hlocks hex hml hl.1 (hts _ (ct_in k_326)) (hts _ (ct_in k_327)) (hts _ (ct_in k_328)) (hB.2.2.1 (114, "no squares are there") (by decide)) (by decide +kernel) (by decide +kernel) (cx_own cx_ISE_ok hts hB) d_Sq_weight_7 d_Sq_weight_10 d_Sq_weight_11 d_Sq_weight_13 d_Sq_weight_16 (Nat.le_of_ble_eq_true rfl) (Nat.le_of_ble_eq_true rfl) (Nat.le_of_ble_eq_true rfl) (Nat.le_of_ble_eq_true rfl)
set_option maxHeartbeats 4000000 in
set_option maxRecDepth 100000 in
theorem xc_Sq_weight (l : Launch) (hlt : l.stackTraces = false) (D : va_G) (cI cL cZ : ClassId) (tA tB sz : Nat) (a_this a_numbers a_table a_hull a_pairs a_steps a_search a_steps_left a_steps_squareMember : Nat) (p0 : Int32) (p1 : Int32) (v_unknowns : Int32) (v_squaresThere : Int32) (v_steps_size : Int32) (o_k : Nat) (h : g_Sq_weight p0 p1 v_squaresThere v_steps_size = some (some o_k)) : cx_Met l y_Sq_weight wd_Sq_weight rx_Sq_weight (cx_Pre D (ct_tys cI cL cZ) tA tB [(a_this, .inr (4, [.int v_unknowns, .ref a_numbers, .ref a_table, .ref a_hull, .ref a_pairs, .ref a_steps, .ref a_search, .int v_squaresThere])), (a_steps, .inr (3, [.ref a_steps_left, .ref a_steps_squareMember, .int v_steps_size]))] sz [.ref a_this, .int p0, .int p1]) (cx_X o_k) := by
  refine cx_ofW (cc := b_Sq_weight) (maxL := 3) (ret := (some .long)) (by decide) rfl ?_
  intro p e s m args below meth c s₁ B hml hex hv
  obtain ⟨hargs, hsz, hP, hK, hD0, hT, hB⟩ := hv
  subst hsz
  have cx : ct_Cx p s m args meth c b_Sq_weight 3 (some .long) R_Sq wd_Sq_weight D (ct_tys cI cL cZ) tA tB (va_A [(a_this, .inr (4, [.int v_unknowns, .ref a_numbers, .ref a_table, .ref a_hull, .ref a_pairs, .ref a_steps, .ref a_search, .int v_squaresThere])), (a_steps, .inr (3, [.ref a_steps_left, .ref a_steps_squareMember, .int v_steps_size]))] s.heap.size) := ⟨B.exec, B.bytes, B.returns, hml, findClass_of_methodNamed B.named, atoms_spec (ws := wd_Sq_weight) B.pre, hK, fun q h => Or.inr h, hT, B.notSynchronized, hT.1, hT.2.1, hT.2.2.1, hT.2.2.2.1, hT.2.2.2.2⟩
  have hl := lv_entry ([.ref a_this, .int p0, .int p1]) (n := 3) (Nat.le_of_ble_eq_true rfl)
  rw [show entryFrame m args 3 = entryFrame m ([.ref a_this, .int p0, .int p1] : List Value).toArray 3 by rw [hargs], lg_entry_eq]
  exact xw_Sq_weight hlt cx hB hex h hP hD0.self _ hl
abbrev rx_Sq_row : Room := { frames := 6, cells := 1, slots := 6, locals := 82 }
def g_Sq_row (p0 : Int32) (p1 : Int32) (p2 : Int32) (v_squaresThere : Int32) (v_hull_size : Int32) (v_steps_size : Int32) : Option (Option Nat) := (if v_squaresThere = 0 then some (some 3) else ((f_Sq_isSquare p0 v_steps_size).bind (fun r_2 => (if r_2 = 0 then some (some 2) else ((f_Sq_isMember p1 v_hull_size).bind (fun r_4 => (if r_4 = 0 then some (some 2) else ((f_Sq_isPart p2).bind (fun r_6 => (if r_6 = 0 then some (some 1) else some none))))))))))
set_option maxHeartbeats 4000000 in
set_option maxRecDepth 100000 in
theorem xw_Sq_row {p : Program} {l : Launch} {e : Env} {s : State} {m : MethodId} {args : Array Value} {below : List Frame} {meth : Method} {c : Code} {D : va_G} {cI cL cZ : ClassId} {tA tB : Nat} {A : Nat → Prop} {a_this a_numbers a_table a_hull a_pairs a_steps a_search a_hull_corner a_hull_outside a_hull_members a_steps_left a_steps_squareMember : Nat} {p0 : Int32} {p1 : Int32} {p2 : Int32} {v_unknowns : Int32} {v_squaresThere : Int32} {v_hull_size : Int32} {v_steps_size : Int32} {o_k : Nat} (hlt : l.stackTraces = false) (cx : ct_Cx p s m args meth c b_Sq_row 4 (some .long) R_Sq wd_Sq_row D (ct_tys cI cL cZ) tA tB A) (hB : cx_B A s s.heap) (hex : c.exceptionTable.isEmpty = true) (h : g_Sq_row p0 p1 p2 v_squaresThere v_hull_size v_steps_size = some (some o_k)) (hP : va_P D vwCl [(a_this, .inr (4, [.int v_unknowns, .ref a_numbers, .ref a_table, .ref a_hull, .ref a_pairs, .ref a_steps, .ref a_search, .int v_squaresThere])), (a_hull, .inr (0, [.ref a_hull_corner, .ref a_hull_outside, .ref a_hull_members, .int v_hull_size])), (a_steps, .inr (3, [.ref a_steps_left, .ref a_steps_squareMember, .int v_steps_size]))] s.heap) (hD : va_D A [(a_this, .inr (4, [.int v_unknowns, .ref a_numbers, .ref a_table, .ref a_hull, .ref a_pairs, .ref a_steps, .ref a_search, .int v_squaresThere])), (a_hull, .inr (0, [.ref a_hull_corner, .ref a_hull_outside, .ref a_hull_members, .int v_hull_size])), (a_steps, .inr (3, [.ref a_steps_left, .ref a_steps_squareMember, .int v_steps_size]))]) : ∀ ls : Array Slot, lv_has ls 4 [(0, .ref a_this), (1, .int p0), (2, .int p1), (3, .int p2)] → W p l e (headSpec wd_Sq_row rx_Sq_row).room s m args below meth c s.heap [] 0 0 (cx_T below (cx_X o_k) args s) (F0 m 0 ls []) := by
  obtain ⟨hx, hb, hr, hml, hown, hts, hK, hA, hT, hlocks, hZA, hZB, hTA, hTB, hnw⟩ := id cx
  intro ls hl
  rw [g_Sq_row] at h
  refine lv_aload_n hx hb d_Sq_row_0 rfl (lv_at hl 0 rfl) ?_
  refine va_get (D := D) (ci := 4) (v := .int v_squaresThere) (C := R_Sq) (T := T_Sq) (N := 8) hx hb hts (fun w h9 => ct_in (iw_Sq w h9)) hown hK hP 0 rfl rfl 7 (by decide) (hts _ (ct_in k_115)) (fun _ h9 => h9) rfl d_Sq_row_1 ?_
  refine lv_if_ne (tgt := 17) hx hb d_Sq_row_4 (by decide) (fun hc => ?_) (fun hc => ?_)
  · rw [if_neg hc] at h
    refine lv_aload_n hx hb d_Sq_row_17 rfl (lv_at hl 0 rfl) ?_
    refine lv_iload_n hx hb d_Sq_row_18 rfl (lv_at hl 1 rfl) ?_
    obtain ⟨r_2, ho, h⟩ := Option.bind_eq_some_iff.mp h
    refine cx_callp (va_runV (As := [.int p0]) (rest := []) ⟨hx, hb, hml, hown, hts⟩ (pc_Sq_isSquare l D cI cL cZ tA tB s.heap.size a_this a_numbers a_table a_hull a_pairs a_steps a_search a_steps_left a_steps_squareMember p0 v_unknowns v_squaresThere v_steps_size r_2 ho) (cwV 1 hts (ct_goodV k_150 k_148 k_149 k_20 k_147) rfl rfl rfl (by decide +kernel) ⟨Nat.le_of_ble_eq_true rfl, Nat.le_of_ble_eq_true rfl⟩) (ct_preV (wc := [(a_this, .inr (4, [.int v_unknowns, .ref a_numbers, .ref a_table, .ref a_hull, .ref a_pairs, .ref a_steps, .ref a_search, .int v_squaresThere])), (a_steps, .inr (3, [.ref a_steps_left, .ref a_steps_squareMember, .int v_steps_size]))]) hP hD hK va_S.rf hA hT [0, 2] rfl (by decide) (ci := 4) (q0 := 0) rfl rfl) rfl rfl hl.1 rfl (lv_room (Nat.le_of_ble_eq_true rfl)) d_Sq_row_19 ⟨Nat.zero_le _, Nat.zero_le _⟩) ?_
    refine lv_if_eq (tgt := 33) hx hb d_Sq_row_22 (by decide) (fun hc => ?_) (fun hc => ?_)
    · rw [if_pos hc] at h
      cases h
      exact cx_new (X := cx_IOB) (names := cx_up) (tx := "no such square or member") hlt hx hb hown hlocks hex hml hl.1 (hts _ (ct_in k_323)) (hts _ (ct_in k_324)) (hts _ (ct_in k_325)) (hB.2.2.1 (139, "no such square or member") (by decide)) (by decide +kernel) (by decide +kernel) (cx_own cx_IOB_ok hts hB) d_Sq_row_33 d_Sq_row_36 d_Sq_row_37 d_Sq_row_39 d_Sq_row_42 (Nat.le_of_ble_eq_true rfl) (Nat.le_of_ble_eq_true rfl) (Nat.le_of_ble_eq_true rfl) (Nat.le_of_ble_eq_true rfl)
    · rw [if_neg hc] at h
      refine lv_aload_n hx hb d_Sq_row_25 rfl (lv_at hl 0 rfl) ?_
      refine lv_iload_n hx hb d_Sq_row_26 rfl (lv_at hl 2 rfl) ?_
      obtain ⟨r_4, ho, h⟩ := Option.bind_eq_some_iff.mp h
      refine cx_callp (va_runV (As := [.int p1]) (rest := []) ⟨hx, hb, hml, hown, hts⟩ (pc_Sq_isMember l D cI cL cZ tA tB s.heap.size a_this a_numbers a_table a_hull a_pairs a_steps a_search a_hull_corner a_hull_outside a_hull_members p1 v_unknowns v_squaresThere v_hull_size r_4 ho) (cwV 1 hts (ct_goodV k_137 k_135 k_136 k_20 k_134) rfl rfl rfl (by decide +kernel) ⟨Nat.le_of_ble_eq_true rfl, Nat.le_of_ble_eq_true rfl⟩) (ct_preV (wc := [(a_this, .inr (4, [.int v_unknowns, .ref a_numbers, .ref a_table, .ref a_hull, .ref a_pairs, .ref a_steps, .ref a_search, .int v_squaresThere])), (a_hull, .inr (0, [.ref a_hull_corner, .ref a_hull_outside, .ref a_hull_members, .int v_hull_size]))]) hP hD hK va_S.rf hA hT [0, 1] rfl (by decide) (ci := 4) (q0 := 0) rfl rfl) rfl rfl hl.1 rfl (lv_room (Nat.le_of_ble_eq_true rfl)) d_Sq_row_27 ⟨Nat.zero_le _, Nat.zero_le _⟩) ?_
      refine lv_if_ne (tgt := 43) hx hb d_Sq_row_30 (by decide) (fun hc => ?_) (fun hc => ?_)
      · rw [if_neg hc] at h
        refine lv_iload_n hx hb d_Sq_row_43 rfl (lv_at hl 3 rfl) ?_
        obtain ⟨r_6, ho, h⟩ := Option.bind_eq_some_iff.mp h
        refine cx_callp (va_runS (As := [.int p2]) (rest := []) ⟨hx, hb, hml, hown, hts⟩ (pc_Sq_isPart l D cI cL cZ tA tB s.heap.size p2 r_6 ho) (va_cwS 1 hts (ct_goodS k_153 k_152 k_20 k_151) rfl rfl rfl (by decide +kernel) ⟨Nat.le_of_ble_eq_true rfl, Nat.le_of_ble_eq_true rfl⟩) (ct_preS (wc := []) hP hD hK va_S.rf hA hT [] rfl (by decide)) rfl rfl hl.1 rfl (lv_room (Nat.le_of_ble_eq_true rfl)) d_Sq_row_44 ⟨Nat.zero_le _, Nat.zero_le _⟩) ?_
        refine lv_if_ne (tgt := 60) hx hb d_Sq_row_47 (by decide) (fun hc => ?_) (fun hc => ?_)
        · rw [if_neg hc] at h
          cases h
        · rw [if_pos hc] at h
          cases h
          exact cx_new (X := cx_IAE) (names := cx_up) (tx := "no such part") hlt hx hb hown hlocks hex hml hl.1 (hts _ (ct_in k_320)) (hts _ (ct_in k_321)) (hts _ (ct_in k_322)) (hB.2.2.1 (126, "no such part") (by decide)) (by decide +kernel) (by decide +kernel) (cx_own cx_IAE_ok hts hB) d_Sq_row_50 d_Sq_row_53 d_Sq_row_54 d_Sq_row_56 d_Sq_row_59 (Nat.le_of_ble_eq_true rfl) (Nat.le_of_ble_eq_true rfl) (Nat.le_of_ble_eq_true rfl) (Nat.le_of_ble_eq_true rfl)
      · rw [if_pos hc] at h
        cases h
        exact cx_new (X := cx_IOB) (names := cx_up) (tx := "no such square or member") hlt hx hb hown hlocks hex hml hl.1 (hts _ (ct_in k_323)) (hts _ (ct_in k_324)) (hts _ (ct_in k_325)) (hB.2.2.1 (139, "no such square or member") (by decide)) (by decide +kernel) (by decide +kernel) (cx_own cx_IOB_ok hts hB) d_Sq_row_33 d_Sq_row_36 d_Sq_row_37 d_Sq_row_39 d_Sq_row_42 (Nat.le_of_ble_eq_true rfl) (Nat.le_of_ble_eq_true rfl) (Nat.le_of_ble_eq_true rfl) (Nat.le_of_ble_eq_true rfl)
  · rw [if_pos hc] at h
    cases h
    exact cx_new (X := cx_ISE) (names := cx_up) (tx := "no squares are there") hlt hx hb hown hlocks hex hml hl.1 (hts _ (ct_in k_326)) (hts _ (ct_in k_327)) (hts _ (ct_in k_328)) (hB.2.2.1 (114, "no squares are there") (by decide)) (by decide +kernel) (by decide +kernel) (cx_own cx_ISE_ok hts hB) d_Sq_row_7 d_Sq_row_10 d_Sq_row_11 d_Sq_row_13 d_Sq_row_16 (Nat.le_of_ble_eq_true rfl) (Nat.le_of_ble_eq_true rfl) (Nat.le_of_ble_eq_true rfl) (Nat.le_of_ble_eq_true rfl)
set_option maxHeartbeats 4000000 in
set_option maxRecDepth 100000 in
theorem xc_Sq_row (l : Launch) (hlt : l.stackTraces = false) (D : va_G) (cI cL cZ : ClassId) (tA tB sz : Nat) (a_this a_numbers a_table a_hull a_pairs a_steps a_search a_hull_corner a_hull_outside a_hull_members a_steps_left a_steps_squareMember : Nat) (p0 : Int32) (p1 : Int32) (p2 : Int32) (v_unknowns : Int32) (v_squaresThere : Int32) (v_hull_size : Int32) (v_steps_size : Int32) (o_k : Nat) (h : g_Sq_row p0 p1 p2 v_squaresThere v_hull_size v_steps_size = some (some o_k)) : cx_Met l y_Sq_row wd_Sq_row rx_Sq_row (cx_Pre D (ct_tys cI cL cZ) tA tB [(a_this, .inr (4, [.int v_unknowns, .ref a_numbers, .ref a_table, .ref a_hull, .ref a_pairs, .ref a_steps, .ref a_search, .int v_squaresThere])), (a_hull, .inr (0, [.ref a_hull_corner, .ref a_hull_outside, .ref a_hull_members, .int v_hull_size])), (a_steps, .inr (3, [.ref a_steps_left, .ref a_steps_squareMember, .int v_steps_size]))] sz [.ref a_this, .int p0, .int p1, .int p2]) (cx_X o_k) := by
  refine cx_ofW (cc := b_Sq_row) (maxL := 4) (ret := (some .long)) (by decide) rfl ?_
  intro p e s m args below meth c s₁ B hml hex hv
  obtain ⟨hargs, hsz, hP, hK, hD0, hT, hB⟩ := hv
  subst hsz
  have cx : ct_Cx p s m args meth c b_Sq_row 4 (some .long) R_Sq wd_Sq_row D (ct_tys cI cL cZ) tA tB (va_A [(a_this, .inr (4, [.int v_unknowns, .ref a_numbers, .ref a_table, .ref a_hull, .ref a_pairs, .ref a_steps, .ref a_search, .int v_squaresThere])), (a_hull, .inr (0, [.ref a_hull_corner, .ref a_hull_outside, .ref a_hull_members, .int v_hull_size])), (a_steps, .inr (3, [.ref a_steps_left, .ref a_steps_squareMember, .int v_steps_size]))] s.heap.size) := ⟨B.exec, B.bytes, B.returns, hml, findClass_of_methodNamed B.named, atoms_spec (ws := wd_Sq_row) B.pre, hK, fun q h => Or.inr h, hT, B.notSynchronized, hT.1, hT.2.1, hT.2.2.1, hT.2.2.2.1, hT.2.2.2.2⟩
  have hl := lv_entry ([.ref a_this, .int p0, .int p1, .int p2]) (n := 4) (Nat.le_of_ble_eq_true rfl)
  rw [show entryFrame m args 4 = entryFrame m ([.ref a_this, .int p0, .int p1, .int p2] : List Value).toArray 4 by rw [hargs], lg_entry_eq]
  exact xw_Sq_row hlt cx hB hex h hP hD0.self _ hl
abbrev rx_Sq_find : Room := { frames := 6, cells := 1, slots := 6, locals := 82 }
def g_Sq_find (p0 : Int32) : Option (Option Nat) := (if p0 < 0 then some (some 1) else (if p0 ≤ 2 then some none else some (some 1)))
set_option maxHeartbeats 4000000 in
set_option maxRecDepth 100000 in
theorem xw_Sq_find {p : Program} {l : Launch} {e : Env} {s : State} {m : MethodId} {args : Array Value} {below : List Frame} {meth : Method} {c : Code} {D : va_G} {cI cL cZ : ClassId} {tA tB : Nat} {A : Nat → Prop} {a_this a_numbers a_table a_hull a_pairs a_steps a_search : Nat} {p0 : Int32} {v_unknowns : Int32} {v_squaresThere : Int32} {o_k : Nat} (hlt : l.stackTraces = false) (cx : ct_Cx p s m args meth c b_Sq_find 3 (some .int) R_Sq wd_Sq_find D (ct_tys cI cL cZ) tA tB A) (hB : cx_B A s s.heap) (hex : c.exceptionTable.isEmpty = true) (h : g_Sq_find p0 = some (some o_k)) (hP : va_P D vwCl [(a_this, .inr (4, [.int v_unknowns, .ref a_numbers, .ref a_table, .ref a_hull, .ref a_pairs, .ref a_steps, .ref a_search, .int v_squaresThere]))] s.heap) (hD : va_D A [(a_this, .inr (4, [.int v_unknowns, .ref a_numbers, .ref a_table, .ref a_hull, .ref a_pairs, .ref a_steps, .ref a_search, .int v_squaresThere]))]) : ∀ ls : Array Slot, lv_has ls 3 [(0, .ref a_this), (1, .int p0)] → W p l e (headSpec wd_Sq_find rx_Sq_find).room s m args below meth c s.heap [] 0 0 (cx_T below (cx_X o_k) args s) (F0 m 0 ls []) := by
  obtain ⟨hx, hb, hr, hml, hown, hts, hK, hA, hT, hlocks, hZA, hZB, hTA, hTB, hnw⟩ := id cx
  intro ls hl
  rw [g_Sq_find] at h
  refine lv_iload_n hx hb d_Sq_find_0 rfl (lv_at hl 1 rfl) ?_
  refine lv_if_lt (tgt := 9) hx hb d_Sq_find_1 (by decide) (fun hc => ?_) (fun hc => ?_)
  · rw [if_pos hc] at h
    cases h
    exact cx_new (X := cx_IAE) (names := cx_up) (tx := "most is not 0 to 2") hlt hx hb hown hlocks hex hml hl.1 (hts _ (ct_in k_320)) (hts _ (ct_in k_321)) (hts _ (ct_in k_322)) (hB.2.2.1 (151, "most is not 0 to 2") (by decide)) (by decide +kernel) (by decide +kernel) (cx_own cx_IAE_ok hts hB) d_Sq_find_9 d_Sq_find_12 d_Sq_find_13 d_Sq_find_15 d_Sq_find_18 (Nat.le_of_ble_eq_true rfl) (Nat.le_of_ble_eq_true rfl) (Nat.le_of_ble_eq_true rfl) (Nat.le_of_ble_eq_true rfl)
  · rw [if_neg hc] at h
    refine lv_iload_n hx hb d_Sq_find_4 rfl (lv_at hl 1 rfl) ?_
    refine lv_iconst (v := 2) hx hb d_Sq_find_5 (by decide) ?_
    refine lv_icmp_le (tgt := 19) hx hb d_Sq_find_6 (by decide) (fun hc => ?_) (fun hc => ?_)
    · rw [if_pos hc] at h
      cases h
    · rw [if_neg hc] at h
      cases h
      exact cx_new (X := cx_IAE) (names := cx_up) (tx := "most is not 0 to 2") hlt hx hb hown hlocks hex hml hl.1 (hts _ (ct_in k_320)) (hts _ (ct_in k_321)) (hts _ (ct_in k_322)) (hB.2.2.1 (151, "most is not 0 to 2") (by decide)) (by decide +kernel) (by decide +kernel) (cx_own cx_IAE_ok hts hB) d_Sq_find_9 d_Sq_find_12 d_Sq_find_13 d_Sq_find_15 d_Sq_find_18 (Nat.le_of_ble_eq_true rfl) (Nat.le_of_ble_eq_true rfl) (Nat.le_of_ble_eq_true rfl) (Nat.le_of_ble_eq_true rfl)
set_option maxHeartbeats 4000000 in
set_option maxRecDepth 100000 in
theorem xc_Sq_find (l : Launch) (hlt : l.stackTraces = false) (D : va_G) (cI cL cZ : ClassId) (tA tB sz : Nat) (a_this a_numbers a_table a_hull a_pairs a_steps a_search : Nat) (p0 : Int32) (v_unknowns : Int32) (v_squaresThere : Int32) (o_k : Nat) (h : g_Sq_find p0 = some (some o_k)) : cx_Met l y_Sq_find wd_Sq_find rx_Sq_find (cx_Pre D (ct_tys cI cL cZ) tA tB [(a_this, .inr (4, [.int v_unknowns, .ref a_numbers, .ref a_table, .ref a_hull, .ref a_pairs, .ref a_steps, .ref a_search, .int v_squaresThere]))] sz [.ref a_this, .int p0]) (cx_X o_k) := by
  refine cx_ofW (cc := b_Sq_find) (maxL := 3) (ret := (some .int)) (by decide) rfl ?_
  intro p e s m args below meth c s₁ B hml hex hv
  obtain ⟨hargs, hsz, hP, hK, hD0, hT, hB⟩ := hv
  subst hsz
  have cx : ct_Cx p s m args meth c b_Sq_find 3 (some .int) R_Sq wd_Sq_find D (ct_tys cI cL cZ) tA tB (va_A [(a_this, .inr (4, [.int v_unknowns, .ref a_numbers, .ref a_table, .ref a_hull, .ref a_pairs, .ref a_steps, .ref a_search, .int v_squaresThere]))] s.heap.size) := ⟨B.exec, B.bytes, B.returns, hml, findClass_of_methodNamed B.named, atoms_spec (ws := wd_Sq_find) B.pre, hK, fun q h => Or.inr h, hT, B.notSynchronized, hT.1, hT.2.1, hT.2.2.1, hT.2.2.2.1, hT.2.2.2.2⟩
  have hl := lv_entry ([.ref a_this, .int p0]) (n := 3) (Nat.le_of_ble_eq_true rfl)
  rw [show entryFrame m args 3 = entryFrame m ([.ref a_this, .int p0] : List Value).toArray 3 by rw [hargs], lg_entry_eq]
  exact xw_Sq_find hlt cx hB hex h hP hD0.self _ hl
abbrev rx_Sq_value : Room := { frames := 6, cells := 1, slots := 6, locals := 82 }
def g_Sq_value (p0 : Int32) (p1 : Int32) (v_unknowns : Int32) : Option (Option Nat) := ((f_Sq_within p0 (100 : Int32)).bind (fun r_2 => (if r_2 = 0 then some (some 1) else (if v_unknowns = 2 then ((f_Sq_within p1 (100 : Int32)).bind (fun r_4 => (if r_4 = 0 then some (some 1) else some none))) else some none))))
set_option maxHeartbeats 4000000 in
set_option maxRecDepth 100000 in
theorem xw_Sq_value {p : Program} {l : Launch} {e : Env} {s : State} {m : MethodId} {args : Array Value} {below : List Frame} {meth : Method} {c : Code} {D : va_G} {cI cL cZ : ClassId} {tA tB : Nat} {A : Nat → Prop} {a_this a_numbers a_table a_hull a_pairs a_steps a_search : Nat} {p0 : Int32} {p1 : Int32} {v_unknowns : Int32} {v_squaresThere : Int32} {o_k : Nat} (hlt : l.stackTraces = false) (cx : ct_Cx p s m args meth c b_Sq_value 6 (some .long) R_Sq wd_Sq_value D (ct_tys cI cL cZ) tA tB A) (hB : cx_B A s s.heap) (hex : c.exceptionTable.isEmpty = true) (h : g_Sq_value p0 p1 v_unknowns = some (some o_k)) (hP : va_P D vwCl [(a_this, .inr (4, [.int v_unknowns, .ref a_numbers, .ref a_table, .ref a_hull, .ref a_pairs, .ref a_steps, .ref a_search, .int v_squaresThere]))] s.heap) (hD : va_D A [(a_this, .inr (4, [.int v_unknowns, .ref a_numbers, .ref a_table, .ref a_hull, .ref a_pairs, .ref a_steps, .ref a_search, .int v_squaresThere]))]) : ∀ ls : Array Slot, lv_has ls 6 [(0, .ref a_this), (1, .int p0), (2, .int p1)] → W p l e (headSpec wd_Sq_value rx_Sq_value).room s m args below meth c s.heap [] 0 0 (cx_T below (cx_X o_k) args s) (F0 m 0 ls []) := by
  obtain ⟨hx, hb, hr, hml, hown, hts, hK, hA, hT, hlocks, hZA, hZB, hTA, hTB, hnw⟩ := id cx
  intro ls hl
  rw [g_Sq_value] at h
  refine lv_iload_n hx hb d_Sq_value_0 rfl (lv_at hl 1 rfl) ?_
  refine lv_bipush (v := 100) hx hb d_Sq_value_1 (by decide) ?_
  obtain ⟨r_2, ho, h⟩ := Option.bind_eq_some_iff.mp h
  refine cx_callp (va_runS (As := [.int p0, .int 100]) (rest := []) ⟨hx, hb, hml, hown, hts⟩ (pc_Sq_within l D cI cL cZ tA tB s.heap.size p0 (100 : Int32) r_2 ho) (va_cwS 2 hts (ct_goodS k_111 k_91 k_20 k_90) rfl rfl rfl (by decide +kernel) ⟨Nat.le_of_ble_eq_true rfl, Nat.le_of_ble_eq_true rfl⟩) (ct_preS (wc := []) hP hD hK va_S.rf hA hT [] rfl (by decide)) rfl rfl hl.1 rfl (lv_room (Nat.le_of_ble_eq_true rfl)) d_Sq_value_3 ⟨Nat.zero_le _, Nat.zero_le _⟩) ?_
  refine lv_if_eq (tgt := 26) hx hb d_Sq_value_6 (by decide) (fun hc => ?_) (fun hc => ?_)
  · rw [if_pos hc] at h
    cases h
    exact cx_new (X := cx_IAE) (names := cx_up) (tx := "x or y is not -100 to 100") hlt hx hb hown hlocks hex hml hl.1 (hts _ (ct_in k_320)) (hts _ (ct_in k_321)) (hts _ (ct_in k_322)) (hB.2.2.1 (164, "x or y is not -100 to 100") (by decide)) (by decide +kernel) (by decide +kernel) (cx_own cx_IAE_ok hts hB) d_Sq_value_26 d_Sq_value_29 d_Sq_value_30 d_Sq_value_32 d_Sq_value_35 (Nat.le_of_ble_eq_true rfl) (Nat.le_of_ble_eq_true rfl) (Nat.le_of_ble_eq_true rfl) (Nat.le_of_ble_eq_true rfl)
  · rw [if_neg hc] at h
    refine lv_aload_n hx hb d_Sq_value_9 rfl (lv_at hl 0 rfl) ?_
    refine va_get (D := D) (ci := 4) (v := .int v_unknowns) (C := R_Sq) (T := T_Sq) (N := 8) hx hb hts (fun w h9 => ct_in (iw_Sq w h9)) hown hK hP 0 rfl rfl 0 (by decide) (hts _ (ct_in k_110)) (fun _ h9 => h9) rfl d_Sq_value_10 ?_
    refine lv_iconst (v := 2) hx hb d_Sq_value_13 (by decide) ?_
    refine lv_icmp_ne (tgt := 36) hx hb d_Sq_value_14 (by decide) (fun hc => ?_) (fun hc => ?_)
    · rw [if_neg hc] at h
      cases h
    · rw [if_pos hc] at h
      refine lv_iload_n hx hb d_Sq_value_17 rfl (lv_at hl 2 rfl) ?_
      refine lv_bipush (v := 100) hx hb d_Sq_value_18 (by decide) ?_
      obtain ⟨r_4, ho, h⟩ := Option.bind_eq_some_iff.mp h
      refine cx_callp (va_runS (As := [.int p1, .int 100]) (rest := []) ⟨hx, hb, hml, hown, hts⟩ (pc_Sq_within l D cI cL cZ tA tB s.heap.size p1 (100 : Int32) r_4 ho) (va_cwS 2 hts (ct_goodS k_111 k_91 k_20 k_90) rfl rfl rfl (by decide +kernel) ⟨Nat.le_of_ble_eq_true rfl, Nat.le_of_ble_eq_true rfl⟩) (ct_preS (wc := []) hP hD hK va_S.rf hA hT [] rfl (by decide)) rfl rfl hl.1 rfl (lv_room (Nat.le_of_ble_eq_true rfl)) d_Sq_value_20 ⟨Nat.zero_le _, Nat.zero_le _⟩) ?_
      refine lv_if_ne (tgt := 36) hx hb d_Sq_value_23 (by decide) (fun hc => ?_) (fun hc => ?_)
      · rw [if_neg hc] at h
        cases h
      · rw [if_pos hc] at h
        cases h
        exact cx_new (X := cx_IAE) (names := cx_up) (tx := "x or y is not -100 to 100") hlt hx hb hown hlocks hex hml hl.1 (hts _ (ct_in k_320)) (hts _ (ct_in k_321)) (hts _ (ct_in k_322)) (hB.2.2.1 (164, "x or y is not -100 to 100") (by decide)) (by decide +kernel) (by decide +kernel) (cx_own cx_IAE_ok hts hB) d_Sq_value_26 d_Sq_value_29 d_Sq_value_30 d_Sq_value_32 d_Sq_value_35 (Nat.le_of_ble_eq_true rfl) (Nat.le_of_ble_eq_true rfl) (Nat.le_of_ble_eq_true rfl) (Nat.le_of_ble_eq_true rfl)
set_option maxHeartbeats 4000000 in
set_option maxRecDepth 100000 in
theorem xc_Sq_value (l : Launch) (hlt : l.stackTraces = false) (D : va_G) (cI cL cZ : ClassId) (tA tB sz : Nat) (a_this a_numbers a_table a_hull a_pairs a_steps a_search : Nat) (p0 : Int32) (p1 : Int32) (v_unknowns : Int32) (v_squaresThere : Int32) (o_k : Nat) (h : g_Sq_value p0 p1 v_unknowns = some (some o_k)) : cx_Met l y_Sq_value wd_Sq_value rx_Sq_value (cx_Pre D (ct_tys cI cL cZ) tA tB [(a_this, .inr (4, [.int v_unknowns, .ref a_numbers, .ref a_table, .ref a_hull, .ref a_pairs, .ref a_steps, .ref a_search, .int v_squaresThere]))] sz [.ref a_this, .int p0, .int p1]) (cx_X o_k) := by
  refine cx_ofW (cc := b_Sq_value) (maxL := 6) (ret := (some .long)) (by decide) rfl ?_
  intro p e s m args below meth c s₁ B hml hex hv
  obtain ⟨hargs, hsz, hP, hK, hD0, hT, hB⟩ := hv
  subst hsz
  have cx : ct_Cx p s m args meth c b_Sq_value 6 (some .long) R_Sq wd_Sq_value D (ct_tys cI cL cZ) tA tB (va_A [(a_this, .inr (4, [.int v_unknowns, .ref a_numbers, .ref a_table, .ref a_hull, .ref a_pairs, .ref a_steps, .ref a_search, .int v_squaresThere]))] s.heap.size) := ⟨B.exec, B.bytes, B.returns, hml, findClass_of_methodNamed B.named, atoms_spec (ws := wd_Sq_value) B.pre, hK, fun q h => Or.inr h, hT, B.notSynchronized, hT.1, hT.2.1, hT.2.2.1, hT.2.2.2.1, hT.2.2.2.2⟩
  have hl := lv_entry ([.ref a_this, .int p0, .int p1]) (n := 6) (Nat.le_of_ble_eq_true rfl)
  rw [show entryFrame m args 6 = entryFrame m ([.ref a_this, .int p0, .int p1] : List Value).toArray 6 by rw [hargs], lg_entry_eq]
  exact xw_Sq_value hlt cx hB hex h hP hD0.self _ hl
