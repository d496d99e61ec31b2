abbrev rm_Mo_thrown : Room := { frames := 0, cells := 0, slots := 0, locals := 0 }
abbrev wd_Mo_thrown : List Cond := .code y_Mo_thrown b_Mo_thrown 1 (some .int) :: ct_G
def f_Mo_thrown (v_thrown : Int32) : Option (Int32) := some v_thrown
set_option maxHeartbeats 4000000 in
set_option maxRecDepth 100000 in
theorem w_Mo_thrown {p : Program} {l : Launch} {e : Env} {s : State} {m : MethodId} {args : Array Value} {below : List Frame} {meth : Method} {c : Code} {D : va_G} {cI cL cZ : ClassId} {tA tB : Nat} {A : Nat → Prop} {a_this a_first a_second a_numbers a_basis a_table a_weightAbove a_weightBelow a_rowAbove a_rowBelow a_left a_madeAbove a_madeBelow a_freeFirst a_freeSecond a_hangFirst a_hangSecond a_tried a_count : Nat} {v_thrown : Int32} {v_unknowns : Int32} {v_powers : Int32} {v_members : Int32} {v_isThere : Int32} {v_squares : Int32} {v_madeSquares : Int32} {v_frees : Int32} {o_r : Int32} (cx : ct_Cx p s m args meth c b_Mo_thrown 1 (some .int) R_Mo wd_Mo_thrown D (ct_tys cI cL cZ) tA tB A) (h : f_Mo_thrown v_thrown = some o_r) : ∀ (H : Heap) (locs : List Loc), va_P D vwCl [(a_this, .inr (5, [.int v_thrown, .int v_unknowns, .int v_powers, .ref a_first, .ref a_second, .ref a_numbers, .int v_members, .ref a_basis, .ref a_table, .int v_isThere, .int v_squares, .ref a_weightAbove, .ref a_weightBelow, .ref a_rowAbove, .ref a_rowBelow, .ref a_left, .int v_madeSquares, .ref a_madeAbove, .ref a_madeBelow, .int v_frees, .ref a_freeFirst, .ref a_freeSecond, .ref a_hangFirst, .ref a_hangSecond, .ref a_tried, .ref a_count]))] H → va_D A [(a_this, .inr (5, [.int v_thrown, .int v_unknowns, .int v_powers, .ref a_first, .ref a_second, .ref a_numbers, .int v_members, .ref a_basis, .ref a_table, .int v_isThere, .int v_squares, .ref a_weightAbove, .ref a_weightBelow, .ref a_rowAbove, .ref a_rowBelow, .ref a_left, .int v_madeSquares, .ref a_madeAbove, .ref a_madeBelow, .int v_frees, .ref a_freeFirst, .ref a_freeSecond, .ref a_hangFirst, .ref a_hangSecond, .ref a_tried, .ref a_count]))] → va_S A s.heap H locs → ∀ ls : Array Slot, lv_has ls 1 [(0, .ref a_this)] → W p l e (headSpec wd_Mo_thrown rm_Mo_thrown).room s m args below meth c H locs 0 0 (MQ below (ct_Qi D [(a_this, .inr (5, [.int v_thrown, .int v_unknowns, .int v_powers, .ref a_first, .ref a_second, .ref a_numbers, .int v_members, .ref a_basis, .ref a_table, .int v_isThere, .int v_squares, .ref a_weightAbove, .ref a_weightBelow, .ref a_rowAbove, .ref a_rowBelow, .ref a_left, .int v_madeSquares, .ref a_madeAbove, .ref a_madeBelow, .int v_frees, .ref a_freeFirst, .ref a_freeSecond, .ref a_hangFirst, .ref a_hangSecond, .ref a_tried, .ref a_count]))] A o_r) args s 0 0 A) (F0 m 0 ls []) := by
  obtain ⟨hx, hb, hr, hml, hown, hts, hK, hA, hT, hlocks, hZA, hZB, hTA, hTB, hnw⟩ := id cx
  intro H locs hP hD hS ls hl
  rw [f_Mo_thrown] at h
  refine lv_aload_n hx hb d_Mo_thrown_0 rfl (lv_at hl 0 rfl) ?_
  refine va_get (D := D) (ci := 5) (v := .int v_thrown) (C := R_Mo) (T := T_Mo) (N := 26) hx hb hts (fun w h9 => ct_in (iw_Mo w h9)) hown hK hP 0 rfl rfl 0 (by decide) (hts _ (ct_in k_203)) (fun _ h9 => h9) rfl d_Mo_thrown_1 ?_
  cases h
  exact W.iret hx hb hr (fun t ht hW => ⟨⟨_, (), rfl, rfl, by rw [ht]; exact hP, hD⟩, hS.F ht⟩) hS.2.2 d_Mo_thrown_4
set_option maxHeartbeats 4000000 in
set_option maxRecDepth 100000 in
theorem c_Mo_thrown (l : Launch) (D : va_G) (cI cL cZ : ClassId) (tA tB sz : Nat) (a_this a_first a_second a_numbers a_basis a_table a_weightAbove a_weightBelow a_rowAbove a_rowBelow a_left a_madeAbove a_madeBelow a_freeFirst a_freeSecond a_hangFirst a_hangSecond a_tried a_count : Nat) (v_thrown : Int32) (v_unknowns : Int32) (v_powers : Int32) (v_members : Int32) (v_isThere : Int32) (v_squares : Int32) (v_madeSquares : Int32) (v_frees : Int32) (o_r : Int32) (A : Nat → Prop) (hAe : A = va_A [(a_this, .inr (5, [.int v_thrown, .int v_unknowns, .int v_powers, .ref a_first, .ref a_second, .ref a_numbers, .int v_members, .ref a_basis, .ref a_table, .int v_isThere, .int v_squares, .ref a_weightAbove, .ref a_weightBelow, .ref a_rowAbove, .ref a_rowBelow, .ref a_left, .int v_madeSquares, .ref a_madeAbove, .ref a_madeBelow, .int v_frees, .ref a_freeFirst, .ref a_freeSecond, .ref a_hangFirst, .ref a_hangSecond, .ref a_tried, .ref a_count]))] sz) (h : f_Mo_thrown v_thrown = some o_r) : Met l y_Mo_thrown wd_Mo_thrown rm_Mo_thrown (ct_Pre D (ct_tys cI cL cZ) tA tB [(a_this, .inr (5, [.int v_thrown, .int v_unknowns, .int v_powers, .ref a_first, .ref a_second, .ref a_numbers, .int v_members, .ref a_basis, .ref a_table, .int v_isThere, .int v_squares, .ref a_weightAbove, .ref a_weightBelow, .ref a_rowAbove, .ref a_rowBelow, .ref a_left, .int v_madeSquares, .ref a_madeAbove, .ref a_madeBelow, .int v_frees, .ref a_freeFirst, .ref a_freeSecond, .ref a_hangFirst, .ref a_hangSecond, .ref a_tried, .ref a_count]))] sz [.ref a_this]) (ct_Qi D [(a_this, .inr (5, [.int v_thrown, .int v_unknowns, .int v_powers, .ref a_first, .ref a_second, .ref a_numbers, .int v_members, .ref a_basis, .ref a_table, .int v_isThere, .int v_squares, .ref a_weightAbove, .ref a_weightBelow, .ref a_rowAbove, .ref a_rowBelow, .ref a_left, .int v_madeSquares, .ref a_madeAbove, .ref a_madeBelow, .int v_frees, .ref a_freeFirst, .ref a_freeSecond, .ref a_hangFirst, .ref a_hangSecond, .ref a_tried, .ref a_count]))] A o_r) 0 0 A := by
  refine Met.ofW (cc := b_Mo_thrown) (maxL := 1) (ret := (some .int)) (by decide) rfl ?_
  intro p e s m args below meth c s₁ B hml hv
  obtain ⟨hargs, hsz, hP, hK, hD0, hT⟩ := hv
  subst hsz
  have hD := hD0.self (sz := s.heap.size)
  rw [← hAe] at hD hT
  have hA : ∀ q : Nat, s.heap.size ≤ q → A q := fun q h => by rw [hAe]; exact Or.inr h
  clear hAe
  have cx : ct_Cx p s m args meth c b_Mo_thrown 1 (some .int) R_Mo wd_Mo_thrown D (ct_tys cI cL cZ) tA tB A := ⟨B.exec, B.bytes, B.returns, hml, findClass_of_methodNamed B.named, atoms_spec (ws := wd_Mo_thrown) B.pre, hK, hA, hT, B.notSynchronized, hT.1, hT.2.1, hT.2.2.1, hT.2.2.2.1, hT.2.2.2.2⟩
  have hl := lv_entry ([.ref a_this]) (n := 1) (Nat.le_of_ble_eq_true rfl)
  rw [show entryFrame m args 1 = entryFrame m ([.ref a_this] : List Value).toArray 1 by rw [hargs], lg_entry_eq]
  exact w_Mo_thrown cx h _ _ hP hD va_S.rf _ hl
abbrev rm_Mo_refuses : Room := { frames := 0, cells := 0, slots := 0, locals := 0 }
abbrev wd_Mo_refuses : List Cond := .code y_Mo_refuses b_Mo_refuses 4 (some .boolean) :: ct_G
def f_Mo_refuses (p0 : Int32) (p1 : Int32) (p2 : Int32) : Option (Int32 × Int32) := (ct_jn (fun (j1 : Int32 → Option (Int32 × Int32)) => (if p0 = 0 then (if p1 = 0 then (if p2 = 0 then (j1 0) else (j1 3)) else (j1 2)) else (j1 1))) (fun (s_1 : Int32) => (if s_1 ≤ 0 then some ((0 : Int32), s_1) else some ((1 : Int32), s_1))))
set_option maxHeartbeats 4000000 in
set_option maxRecDepth 100000 in
theorem w_Mo_refuses {p : Program} {l : Launch} {e : Env} {s : State} {m : MethodId} {args : Array Value} {below : List Frame} {meth : Method} {c : Code} {D : va_G} {cI cL cZ : ClassId} {tA tB : Nat} {A : Nat → Prop} {a_this a_first a_second a_numbers a_basis a_table a_weightAbove a_weightBelow a_rowAbove a_rowBelow a_left a_madeAbove a_madeBelow a_freeFirst a_freeSecond a_hangFirst a_hangSecond a_tried a_count : Nat} {p0 : Int32} {p1 : Int32} {p2 : Int32} {v_thrown : Int32} {v_unknowns : Int32} {v_powers : Int32} {v_members : Int32} {v_isThere : Int32} {v_squares : Int32} {v_madeSquares : Int32} {v_frees : Int32} {o_r : Int32} {o_v_thrown : Int32} (cx : ct_Cx p s m args meth c b_Mo_refuses 4 (some .boolean) R_Mo wd_Mo_refuses D (ct_tys cI cL cZ) tA tB A) (h : f_Mo_refuses p0 p1 p2 = some (o_r, o_v_thrown)) : ∀ (H : Heap) (locs : List Loc), va_P D vwCl [(a_this, .inr (5, [.int v_thrown, .int v_unknowns, .int v_powers, .ref a_first, .ref a_second, .ref a_numbers, .int v_members, .ref a_basis, .ref a_table, .int v_isThere, .int v_squares, .ref a_weightAbove, .ref a_weightBelow, .ref a_rowAbove, .ref a_rowBelow, .ref a_left, .int v_madeSquares, .ref a_madeAbove, .ref a_madeBelow, .int v_frees, .ref a_freeFirst, .ref a_freeSecond, .ref a_hangFirst, .ref a_hangSecond, .ref a_tried, .ref a_count]))] H → va_D A [(a_this, .inr (5, [.int v_thrown, .int v_unknowns, .int v_powers, .ref a_first, .ref a_second, .ref a_numbers, .int v_members, .ref a_basis, .ref a_table, .int v_isThere, .int v_squares, .ref a_weightAbove, .ref a_weightBelow, .ref a_rowAbove, .ref a_rowBelow, .ref a_left, .int v_madeSquares, .ref a_madeAbove, .ref a_madeBelow, .int v_frees, .ref a_freeFirst, .ref a_freeSecond, .ref a_hangFirst, .ref a_hangSecond, .ref a_tried, .ref a_count]))] → va_S A s.heap H locs → ∀ ls : Array Slot, lv_has ls 4 [(0, .ref a_this), (1, .int p0), (2, .int p1), (3, .int p2)] → W p l e (headSpec wd_Mo_refuses rm_Mo_refuses).room s m args below meth c H locs 0 0 (MQ below (ct_Qi D [(a_this, .inr (5, [.int o_v_thrown, .int v_unknowns, .int v_powers, .ref a_first, .ref a_second, .ref a_numbers, .int v_members, .ref a_basis, .ref a_table, .int v_isThere, .int v_squares, .ref a_weightAbove, .ref a_weightBelow, .ref a_rowAbove, .ref a_rowBelow, .ref a_left, .int v_madeSquares, .ref a_madeAbove, .ref a_madeBelow, .int v_frees, .ref a_freeFirst, .ref a_freeSecond, .ref a_hangFirst, .ref a_hangSecond, .ref a_tried, .ref a_count]))] A o_r) args s 0 0 A) (F0 m 0 ls []) := by
  obtain ⟨hx, hb, hr, hml, hown, hts, hK, hA, hT, hlocks, hZA, hZB, hTA, hTB, hnw⟩ := id cx
  intro H locs hP hD hS ls hl
  rw [f_Mo_refuses] at h
  refine lv_aload_n hx hb d_Mo_refuses_0 rfl (lv_at hl 0 rfl) ?_
  refine lv_iload_n hx hb d_Mo_refuses_1 rfl (lv_at hl 1 rfl) ?_
  obtain ⟨j1, hjd1, h⟩ := ct_jn_elim h
  try dsimp only at h
  have hj1 : ∀ (s_1 : Int32), j1 s_1 = some (o_r, o_v_thrown) → ∀ (H : Heap) (locs : List Loc), va_P D vwCl [(a_this, .inr (5, [.int v_thrown, .int v_unknowns, .int v_powers, .ref a_first, .ref a_second, .ref a_numbers, .int v_members, .ref a_basis, .ref a_table, .int v_isThere, .int v_squares, .ref a_weightAbove, .ref a_weightBelow, .ref a_rowAbove, .ref a_rowBelow, .ref a_left, .int v_madeSquares, .ref a_madeAbove, .ref a_madeBelow, .int v_frees, .ref a_freeFirst, .ref a_freeSecond, .ref a_hangFirst, .ref a_hangSecond, .ref a_tried, .ref a_count]))] H → va_D A [(a_this, .inr (5, [.int v_thrown, .int v_unknowns, .int v_powers, .ref a_first, .ref a_second, .ref a_numbers, .int v_members, .ref a_basis, .ref a_table, .int v_isThere, .int v_squares, .ref a_weightAbove, .ref a_weightBelow, .ref a_rowAbove, .ref a_rowBelow, .ref a_left, .int v_madeSquares, .ref a_madeAbove, .ref a_madeBelow, .int v_frees, .ref a_freeFirst, .ref a_freeSecond, .ref a_hangFirst, .ref a_hangSecond, .ref a_tried, .ref a_count]))] → va_S A s.heap H locs → ∀ ls : Array Slot, lv_has ls 4 [(0, .ref a_this)] → W p l e (headSpec wd_Mo_refuses rm_Mo_refuses).room s m args below meth c H locs 0 0 (MQ below (ct_Qi D [(a_this, .inr (5, [.int o_v_thrown, .int v_unknowns, .int v_powers, .ref a_first, .ref a_second, .ref a_numbers, .int v_members, .ref a_basis, .ref a_table, .int v_isThere, .int v_squares, .ref a_weightAbove, .ref a_weightBelow, .ref a_rowAbove, .ref a_rowBelow, .ref a_left, .int v_madeSquares, .ref a_madeAbove, .ref a_madeBelow, .int v_frees, .ref a_freeFirst, .ref a_freeSecond, .ref a_hangFirst, .ref a_hangSecond, .ref a_tried, .ref a_count]))] A o_r) args s 0 0 A) (F0 m 26 ls [.int s_1, .ref a_this]) := by
    intro s_1 h H locs hP hD hS ls hl
    rw [hjd1] at h
    try dsimp only at h
    refine va_put (D := D) (ci := 5) (v := .int s_1) (ty := .int) (C := R_Mo) (T := T_Mo) (N := 26) hx hb hts (fun w h9 => ct_in (iw_Mo w h9)) t_Mo tk_Mo nm_Mo hown hK hP hD hS 0 rfl rfl 0 (by decide) (hts _ (ct_in k_203)) (fun _ h9 => h9) rfl (by decide +kernel) rfl rfl (Nat.le_of_ble_eq_true rfl) d_Mo_refuses_26 (fun H locs hP hD hS => ?_)
    have hP : va_P D vwCl [(a_this, .inr (5, [.int s_1, .int v_unknowns, .int v_powers, .ref a_first, .ref a_second, .ref a_numbers, .int v_members, .ref a_basis, .ref a_table, .int v_isThere, .int v_squares, .ref a_weightAbove, .ref a_weightBelow, .ref a_rowAbove, .ref a_rowBelow, .ref a_left, .int v_madeSquares, .ref a_madeAbove, .ref a_madeBelow, .int v_frees, .ref a_freeFirst, .ref a_freeSecond, .ref a_hangFirst, .ref a_hangSecond, .ref a_tried, .ref a_count]))] H := hP
    have hD : va_D A [(a_this, .inr (5, [.int s_1, .int v_unknowns, .int v_powers, .ref a_first, .ref a_second, .ref a_numbers, .int v_members, .ref a_basis, .ref a_table, .int v_isThere, .int v_squares, .ref a_weightAbove, .ref a_weightBelow, .ref a_rowAbove, .ref a_rowBelow, .ref a_left, .int v_madeSquares, .ref a_madeAbove, .ref a_madeBelow, .int v_frees, .ref a_freeFirst, .ref a_freeSecond, .ref a_hangFirst, .ref a_hangSecond, .ref a_tried, .ref a_count]))] := hD
    refine lv_aload_n hx hb d_Mo_refuses_29 rfl (lv_at hl 0 rfl) ?_
    refine va_get (D := D) (ci := 5) (v := .int s_1) (C := R_Mo) (T := T_Mo) (N := 26) hx hb hts (fun w h9 => ct_in (iw_Mo w h9)) hown hK hP 0 rfl rfl 0 (by decide) (hts _ (ct_in k_203)) (fun _ h9 => h9) rfl d_Mo_refuses_30 ?_
    refine lv_if_le (tgt := 40) hx hb d_Mo_refuses_33 (by decide) (fun hc => ?_) (fun hc => ?_)
    · rw [if_pos hc] at h
      refine lv_iconst (v := 0) hx hb d_Mo_refuses_40 (by decide) ?_
      cases h
      exact W.zret hx hb hr rfl (fun t ht hW => ⟨⟨_, (), rfl, rfl, by rw [ht]; exact hP, hD⟩, hS.F ht⟩) hS.2.2 d_Mo_refuses_41
    · rw [if_neg hc] at h
      refine lv_iconst (v := 1) hx hb d_Mo_refuses_36 (by decide) ?_
      refine lv_goto (tgt := 41) hx hb d_Mo_refuses_37 (by decide) ?_
      cases h
      exact W.zret hx hb hr rfl (fun t ht hW => ⟨⟨_, (), rfl, rfl, by rw [ht]; exact hP, hD⟩, hS.F ht⟩) hS.2.2 d_Mo_refuses_41
  clear hjd1
  refine lv_if_eq (tgt := 9) hx hb d_Mo_refuses_2 (by decide) (fun hc => ?_) (fun hc => ?_)
  · rw [if_pos hc] at h
    refine lv_iload_n hx hb d_Mo_refuses_9 rfl (lv_at hl 2 rfl) ?_
    refine lv_if_eq (tgt := 17) hx hb d_Mo_refuses_10 (by decide) (fun hc => ?_) (fun hc => ?_)
    · rw [if_pos hc] at h
      refine lv_iload_n hx hb d_Mo_refuses_17 rfl (lv_at hl 3 rfl) ?_
      refine lv_if_eq (tgt := 25) hx hb d_Mo_refuses_18 (by decide) (fun hc => ?_) (fun hc => ?_)
      · rw [if_pos hc] at h
        refine lv_iconst (v := 0) hx hb d_Mo_refuses_25 (by decide) ?_
        exact hj1 _ h _ _ hP hD hS ls (lv_sub hl [0] rfl)
      · rw [if_neg hc] at h
        refine lv_iconst (v := 3) hx hb d_Mo_refuses_21 (by decide) ?_
        refine lv_goto (tgt := 26) hx hb d_Mo_refuses_22 (by decide) ?_
        exact hj1 _ h _ _ hP hD hS ls (lv_sub hl [0] rfl)
    · rw [if_neg hc] at h
      refine lv_iconst (v := 2) hx hb d_Mo_refuses_13 (by decide) ?_
      refine lv_goto (tgt := 26) hx hb d_Mo_refuses_14 (by decide) ?_
      exact hj1 _ h _ _ hP hD hS ls (lv_sub hl [0] rfl)
  · rw [if_neg hc] at h
    refine lv_iconst (v := 1) hx hb d_Mo_refuses_5 (by decide) ?_
    refine lv_goto (tgt := 26) hx hb d_Mo_refuses_6 (by decide) ?_
    exact hj1 _ h _ _ hP hD hS ls (lv_sub hl [0] rfl)
set_option maxHeartbeats 4000000 in
set_option maxRecDepth 100000 in
theorem c_Mo_refuses (l : Launch) (D : va_G) (cI cL cZ : ClassId) (tA tB sz : Nat) (a_this a_first a_second a_numbers a_basis a_table a_weightAbove a_weightBelow a_rowAbove a_rowBelow a_left a_madeAbove a_madeBelow a_freeFirst a_freeSecond a_hangFirst a_hangSecond a_tried a_count : Nat) (p0 : Int32) (p1 : Int32) (p2 : Int32) (v_thrown : Int32) (v_unknowns : Int32) (v_powers : Int32) (v_members : Int32) (v_isThere : Int32) (v_squares : Int32) (v_madeSquares : Int32) (v_frees : Int32) (o_r : Int32) (o_v_thrown : Int32) (A : Nat → Prop) (hAe : A = va_A [(a_this, .inr (5, [.int v_thrown, .int v_unknowns, .int v_powers, .ref a_first, .ref a_second, .ref a_numbers, .int v_members, .ref a_basis, .ref a_table, .int v_isThere, .int v_squares, .ref a_weightAbove, .ref a_weightBelow, .ref a_rowAbove, .ref a_rowBelow, .ref a_left, .int v_madeSquares, .ref a_madeAbove, .ref a_madeBelow, .int v_frees, .ref a_freeFirst, .ref a_freeSecond, .ref a_hangFirst, .ref a_hangSecond, .ref a_tried, .ref a_count]))] sz) (h : f_Mo_refuses p0 p1 p2 = some (o_r, o_v_thrown)) : Met l y_Mo_refuses wd_Mo_refuses rm_Mo_refuses (ct_Pre D (ct_tys cI cL cZ) tA tB [(a_this, .inr (5, [.int v_thrown, .int v_unknowns, .int v_powers, .ref a_first, .ref a_second, .ref a_numbers, .int v_members, .ref a_basis, .ref a_table, .int v_isThere, .int v_squares, .ref a_weightAbove, .ref a_weightBelow, .ref a_rowAbove, .ref a_rowBelow, .ref a_left, .int v_madeSquares, .ref a_madeAbove, .ref a_madeBelow, .int v_frees, .ref a_freeFirst, .ref a_freeSecond, .ref a_hangFirst, .ref a_hangSecond, .ref a_tried, .ref a_count]))] sz [.ref a_this, .int p0, .int p1, .int p2]) (ct_Qi D [(a_this, .inr (5, [.int o_v_thrown, .int v_unknowns, .int v_powers, .ref a_first, .ref a_second, .ref a_numbers, .int v_members, .ref a_basis, .ref a_table, .int v_isThere, .int v_squares, .ref a_weightAbove, .ref a_weightBelow, .ref a_rowAbove, .ref a_rowBelow, .ref a_left, .int v_madeSquares, .ref a_madeAbove, .ref a_madeBelow, .int v_frees, .ref a_freeFirst, .ref a_freeSecond, .ref a_hangFirst, .ref a_hangSecond, .ref a_tried, .ref a_count]))] A o_r) 0 0 A := by
  refine Met.ofW (cc := b_Mo_refuses) (maxL := 4) (ret := (some .boolean)) (by decide) rfl ?_
  intro p e s m args below meth c s₁ B hml hv
  obtain ⟨hargs, hsz, hP, hK, hD0, hT⟩ := hv
  subst hsz
  have hD := hD0.self (sz := s.heap.size)
  rw [← hAe] at hD hT
  have hA : ∀ q : Nat, s.heap.size ≤ q → A q := fun q h => by rw [hAe]; exact Or.inr h
  clear hAe
  have cx : ct_Cx p s m args meth c b_Mo_refuses 4 (some .boolean) R_Mo wd_Mo_refuses D (ct_tys cI cL cZ) tA tB A := ⟨B.exec, B.bytes, B.returns, hml, findClass_of_methodNamed B.named, atoms_spec (ws := wd_Mo_refuses) B.pre, hK, hA, hT, B.notSynchronized, hT.1, hT.2.1, hT.2.2.1, hT.2.2.2.1, hT.2.2.2.2⟩
  have hl := lv_entry ([.ref a_this, .int p0, .int p1, .int p2]) (n := 4) (Nat.le_of_ble_eq_true rfl)
  rw [show entryFrame m args 4 = entryFrame m ([.ref a_this, .int p0, .int p1, .int p2] : List Value).toArray 4 by rw [hargs], lg_entry_eq]
  exact w_Mo_refuses cx h _ _ hP hD va_S.rf _ hl
abbrev rm_Mo_powerOf : Room := { frames := 0, cells := 0, slots := 0, locals := 0 }
abbrev wd_Mo_powerOf : List Cond := .code y_Mo_powerOf b_Mo_powerOf 4 (some .int) :: ct_G
def f_Mo_powerOf_L2 (x1 : Int32) (x2 : Int32) (v_powers : Int32) (v_first : Nat → Int32) (v_second : Nat → Int32) : Nat → Int32 → (Unit → Option (Int32)) → Option (Int32)
  | 0, _, _ => none
  | n + 1, x3, k => (if v_powers ≤ x3 then k () else (if x3 < 0 ∨ 15 ≤ x3.toNatClampNeg then none else (if (v_first x3.toNatClampNeg) = x1 then (if x3 < 0 ∨ 15 ≤ x3.toNatClampNeg then none else (if (v_second x3.toNatClampNeg) = x2 then some x3 else (f_Mo_powerOf_L2 x1 x2 v_powers v_first v_second n (x3 + 1) k))) else (f_Mo_powerOf_L2 x1 x2 v_powers v_first v_second n (x3 + 1) k))))
def f_Mo_powerOf (p0 : Int32) (p1 : Int32) (v_powers : Int32) (v_first : Nat → Int32) (v_second : Nat → Int32) : Option (Int32) := (f_Mo_powerOf_L2 p0 p1 v_powers v_first v_second 40 0 (fun (_ : Unit) => some ((-1) : Int32)))
set_option maxHeartbeats 4000000 in
set_option maxRecDepth 100000 in
theorem w_Mo_powerOf_L2 {p : Program} {l : Launch} {e : Env} {s : State} {m : MethodId} {args : Array Value} {below : List Frame} {meth : Method} {c : Code} {D : va_G} {cI cL cZ : ClassId} {tA tB : Nat} {A : Nat → Prop} {a_this a_first a_second a_numbers a_basis a_table a_weightAbove a_weightBelow a_rowAbove a_rowBelow a_left a_madeAbove a_madeBelow a_freeFirst a_freeSecond a_hangFirst a_hangSecond a_tried a_count : Nat} {x1 : Int32} {x2 : Int32} {v_thrown : Int32} {v_unknowns : Int32} {v_powers : Int32} {v_members : Int32} {v_isThere : Int32} {v_squares : Int32} {v_madeSquares : Int32} {v_frees : Int32} {v_first : Nat → Int32} {v_second : Nat → Int32} {o_r : Int32} (cx : ct_Cx p s m args meth c b_Mo_powerOf 4 (some .int) R_Mo wd_Mo_powerOf D (ct_tys cI cL cZ) tA tB A) : ∀ (n : Nat) (x3 : Int32) (k : (Unit → Option (Int32))), f_Mo_powerOf_L2 x1 x2 v_powers v_first v_second n x3 k = some o_r → (∀ (u : Unit), k u = some o_r → ∀ (H : Heap) (locs : List Loc), va_P D vwCl [(a_this, .inr (5, [.int v_thrown, .int v_unknowns, .int v_powers, .ref a_first, .ref a_second, .ref a_numbers, .int v_members, .ref a_basis, .ref a_table, .int v_isThere, .int v_squares, .ref a_weightAbove, .ref a_weightBelow, .ref a_rowAbove, .ref a_rowBelow, .ref a_left, .int v_madeSquares, .ref a_madeAbove, .ref a_madeBelow, .int v_frees, .ref a_freeFirst, .ref a_freeSecond, .ref a_hangFirst, .ref a_hangSecond, .ref a_tried, .ref a_count])), (a_first, .inl (cI, 15, .inl v_first)), (a_second, .inl (cI, 15, .inl v_second))] H → va_D A [(a_this, .inr (5, [.int v_thrown, .int v_unknowns, .int v_powers, .ref a_first, .ref a_second, .ref a_numbers, .int v_members, .ref a_basis, .ref a_table, .int v_isThere, .int v_squares, .ref a_weightAbove, .ref a_weightBelow, .ref a_rowAbove, .ref a_rowBelow, .ref a_left, .int v_madeSquares, .ref a_madeAbove, .ref a_madeBelow, .int v_frees, .ref a_freeFirst, .ref a_freeSecond, .ref a_hangFirst, .ref a_hangSecond, .ref a_tried, .ref a_count])), (a_first, .inl (cI, 15, .inl v_first)), (a_second, .inl (cI, 15, .inl v_second))] → va_S A s.heap H locs → ∀ ls : Array Slot, lv_has ls 4 [] → W p l e (headSpec wd_Mo_powerOf rm_Mo_powerOf).room s m args below meth c H locs 0 0 (MQ below (ct_Qi D [(a_this, .inr (5, [.int v_thrown, .int v_unknowns, .int v_powers, .ref a_first, .ref a_second, .ref a_numbers, .int v_members, .ref a_basis, .ref a_table, .int v_isThere, .int v_squares, .ref a_weightAbove, .ref a_weightBelow, .ref a_rowAbove, .ref a_rowBelow, .ref a_left, .int v_madeSquares, .ref a_madeAbove, .ref a_madeBelow, .int v_frees, .ref a_freeFirst, .ref a_freeSecond, .ref a_hangFirst, .ref a_hangSecond, .ref a_tried, .ref a_count])), (a_first, .inl (cI, 15, .inl v_first)), (a_second, .inl (cI, 15, .inl v_second))] A o_r) args s 0 0 A) (F0 m 38 ls [])) → ∀ (H : Heap) (locs : List Loc), va_P D vwCl [(a_this, .inr (5, [.int v_thrown, .int v_unknowns, .int v_powers, .ref a_first, .ref a_second, .ref a_numbers, .int v_members, .ref a_basis, .ref a_table, .int v_isThere, .int v_squares, .ref a_weightAbove, .ref a_weightBelow, .ref a_rowAbove, .ref a_rowBelow, .ref a_left, .int v_madeSquares, .ref a_madeAbove, .ref a_madeBelow, .int v_frees, .ref a_freeFirst, .ref a_freeSecond, .ref a_hangFirst, .ref a_hangSecond, .ref a_tried, .ref a_count])), (a_first, .inl (cI, 15, .inl v_first)), (a_second, .inl (cI, 15, .inl v_second))] H → va_D A [(a_this, .inr (5, [.int v_thrown, .int v_unknowns, .int v_powers, .ref a_first, .ref a_second, .ref a_numbers, .int v_members, .ref a_basis, .ref a_table, .int v_isThere, .int v_squares, .ref a_weightAbove, .ref a_weightBelow, .ref a_rowAbove, .ref a_rowBelow, .ref a_left, .int v_madeSquares, .ref a_madeAbove, .ref a_madeBelow, .int v_frees, .ref a_freeFirst, .ref a_freeSecond, .ref a_hangFirst, .ref a_hangSecond, .ref a_tried, .ref a_count])), (a_first, .inl (cI, 15, .inl v_first)), (a_second, .inl (cI, 15, .inl v_second))] → va_S A s.heap H locs → ∀ ls : Array Slot, lv_has ls 4 [(3, .int x3), (0, .ref a_this), (1, .int x1), (2, .int x2)] → W p l e (headSpec wd_Mo_powerOf rm_Mo_powerOf).room s m args below meth c H locs 0 0 (MQ below (ct_Qi D [(a_this, .inr (5, [.int v_thrown, .int v_unknowns, .int v_powers, .ref a_first, .ref a_second, .ref a_numbers, .int v_members, .ref a_basis, .ref a_table, .int v_isThere, .int v_squares, .ref a_weightAbove, .ref a_weightBelow, .ref a_rowAbove, .ref a_rowBelow, .ref a_left, .int v_madeSquares, .ref a_madeAbove, .ref a_madeBelow, .int v_frees, .ref a_freeFirst, .ref a_freeSecond, .ref a_hangFirst, .ref a_hangSecond, .ref a_tried, .ref a_count])), (a_first, .inl (cI, 15, .inl v_first)), (a_second, .inl (cI, 15, .inl v_second))] A o_r) args s 0 0 A) (F0 m 2 ls []) := by
  obtain ⟨hx, hb, hr, hml, hown, hts, hK, hA, hT, hlocks, hZA, hZB, hTA, hTB, hnw⟩ := id cx
  intro n
  induction n with
  | zero => intro x3 k h; rw [f_Mo_powerOf_L2] at h; cases h
  | succ n ih =>
    intro x3 k h hk H locs hP hD hS ls hl
    rw [f_Mo_powerOf_L2] at h
    refine lv_iload_n hx hb d_Mo_powerOf_2 rfl (lv_at hl 0 rfl) ?_
    refine lv_aload_n hx hb d_Mo_powerOf_3 rfl (lv_at hl 1 rfl) ?_
    refine va_get (D := D) (ci := 5) (v := .int v_powers) (C := R_Mo) (T := T_Mo) (N := 26) hx hb hts (fun w h9 => ct_in (iw_Mo w h9)) hown hK hP 0 rfl rfl 2 (by decide) (hts _ (ct_in k_204)) (fun _ h9 => h9) rfl d_Mo_powerOf_4 ?_
    refine lv_icmp_ge (tgt := 38) hx hb d_Mo_powerOf_7 (by decide) (fun hc => ?_) (fun hc => ?_)
    · rw [if_pos hc] at h
      exact hk _ h _ _ hP hD hS ls (lv_sub hl [] rfl)
    · rw [if_neg hc] at h
      refine lv_aload_n hx hb d_Mo_powerOf_10 rfl (lv_at hl 1 rfl) ?_
      refine va_get (D := D) (ci := 5) (v := .ref a_first) (C := R_Mo) (T := T_Mo) (N := 26) hx hb hts (fun w h9 => ct_in (iw_Mo w h9)) hown hK hP 0 rfl rfl 3 (by decide) (hts _ (ct_in k_205)) (fun _ h9 => h9) rfl d_Mo_powerOf_11 ?_
      refine lv_iload_n hx hb d_Mo_powerOf_14 rfl (lv_at hl 0 rfl) ?_
      obtain ⟨hin, h⟩ := ct_chk h
      refine va_iald hx hb hK hP 1 0 rfl rfl hin d_Mo_powerOf_15 ?_
      refine lv_iload_n hx hb d_Mo_powerOf_16 rfl (lv_at hl 2 rfl) ?_
      refine lv_icmp_ne (tgt := 32) hx hb d_Mo_powerOf_17 (by decide) (fun hc => ?_) (fun hc => ?_)
      · rw [if_neg hc] at h
        refine lv_iinc (v := (x3 + 1)) (lv' := [(3, .int (x3 + 1)), (0, .ref a_this), (1, .int x1), (2, .int x2)]) hx hb d_Mo_powerOf_32 hl (k := 0) rfl rfl (by decide) rfl (fun ls hl => ?_)
        refine lv_goto (tgt := 2) hx hb d_Mo_powerOf_35 (by decide) ?_
        exact ih _ k h hk _ _ hP hD hS ls (lv_sub hl [0, 1, 2, 3] rfl)
      · rw [if_pos hc] at h
        refine lv_aload_n hx hb d_Mo_powerOf_20 rfl (lv_at hl 1 rfl) ?_
        refine va_get (D := D) (ci := 5) (v := .ref a_second) (C := R_Mo) (T := T_Mo) (N := 26) hx hb hts (fun w h9 => ct_in (iw_Mo w h9)) hown hK hP 0 rfl rfl 4 (by decide) (hts _ (ct_in k_206)) (fun _ h9 => h9) rfl d_Mo_powerOf_21 ?_
        refine lv_iload_n hx hb d_Mo_powerOf_24 rfl (lv_at hl 0 rfl) ?_
        obtain ⟨hin, h⟩ := ct_chk h
        refine va_iald hx hb hK hP 2 0 rfl rfl hin d_Mo_powerOf_25 ?_
        refine lv_iload_n hx hb d_Mo_powerOf_26 rfl (lv_at hl 3 rfl) ?_
        refine lv_icmp_ne (tgt := 32) hx hb d_Mo_powerOf_27 (by decide) (fun hc => ?_) (fun hc => ?_)
        · rw [if_neg hc] at h
          refine lv_iinc (v := (x3 + 1)) (lv' := [(3, .int (x3 + 1)), (0, .ref a_this), (1, .int x1), (2, .int x2)]) hx hb d_Mo_powerOf_32 hl (k := 0) rfl rfl (by decide) rfl (fun ls hl => ?_)
          refine lv_goto (tgt := 2) hx hb d_Mo_powerOf_35 (by decide) ?_
          exact ih _ k h hk _ _ hP hD hS ls (lv_sub hl [0, 1, 2, 3] rfl)
        · rw [if_pos hc] at h
          refine lv_iload_n hx hb d_Mo_powerOf_30 rfl (lv_at hl 0 rfl) ?_
          cases h
          exact W.iret hx hb hr (fun t ht hW => ⟨⟨_, (), rfl, rfl, by rw [ht]; exact hP, hD⟩, hS.F ht⟩) hS.2.2 d_Mo_powerOf_31
set_option maxHeartbeats 4000000 in
set_option maxRecDepth 100000 in
theorem w_Mo_powerOf {p : Program} {l : Launch} {e : Env} {s : State} {m : MethodId} {args : Array Value} {below : List Frame} {meth : Method} {c : Code} {D : va_G} {cI cL cZ : ClassId} {tA tB : Nat} {A : Nat → Prop} {a_this a_first a_second a_numbers a_basis a_table a_weightAbove a_weightBelow a_rowAbove a_rowBelow a_left a_madeAbove a_madeBelow a_freeFirst a_freeSecond a_hangFirst a_hangSecond a_tried a_count : Nat} {p0 : Int32} {p1 : Int32} {v_thrown : Int32} {v_unknowns : Int32} {v_powers : Int32} {v_members : Int32} {v_isThere : Int32} {v_squares : Int32} {v_madeSquares : Int32} {v_frees : Int32} {v_first : Nat → Int32} {v_second : Nat → Int32} {o_r : Int32} (cx : ct_Cx p s m args meth c b_Mo_powerOf 4 (some .int) R_Mo wd_Mo_powerOf D (ct_tys cI cL cZ) tA tB A) (h : f_Mo_powerOf p0 p1 v_powers v_first v_second = some o_r) : ∀ (H : Heap) (locs : List Loc), va_P D vwCl [(a_this, .inr (5, [.int v_thrown, .int v_unknowns, .int v_powers, .ref a_first, .ref a_second, .ref a_numbers, .int v_members, .ref a_basis, .ref a_table, .int v_isThere, .int v_squares, .ref a_weightAbove, .ref a_weightBelow, .ref a_rowAbove, .ref a_rowBelow, .ref a_left, .int v_madeSquares, .ref a_madeAbove, .ref a_madeBelow, .int v_frees, .ref a_freeFirst, .ref a_freeSecond, .ref a_hangFirst, .ref a_hangSecond, .ref a_tried, .ref a_count])), (a_first, .inl (cI, 15, .inl v_first)), (a_second, .inl (cI, 15, .inl v_second))] H → va_D A [(a_this, .inr (5, [.int v_thrown, .int v_unknowns, .int v_powers, .ref a_first, .ref a_second, .ref a_numbers, .int v_members, .ref a_basis, .ref a_table, .int v_isThere, .int v_squares, .ref a_weightAbove, .ref a_weightBelow, .ref a_rowAbove, .ref a_rowBelow, .ref a_left, .int v_madeSquares, .ref a_madeAbove, .ref a_madeBelow, .int v_frees, .ref a_freeFirst, .ref a_freeSecond, .ref a_hangFirst, .ref a_hangSecond, .ref a_tried, .ref a_count])), (a_first, .inl (cI, 15, .inl v_first)), (a_second, .inl (cI, 15, .inl v_second))] → va_S A s.heap H locs → ∀ ls : Array Slot, lv_has ls 4 [(0, .ref a_this), (1, .int p0), (2, .int p1)] → W p l e (headSpec wd_Mo_powerOf rm_Mo_powerOf).room s m args below meth c H locs 0 0 (MQ below (ct_Qi D [(a_this, .inr (5, [.int v_thrown, .int v_unknowns, .int v_powers, .ref a_first, .ref a_second, .ref a_numbers, .int v_members, .ref a_basis, .ref a_table, .int v_isThere, .int v_squares, .ref a_weightAbove, .ref a_weightBelow, .ref a_rowAbove, .ref a_rowBelow, .ref a_left, .int v_madeSquares, .ref a_madeAbove, .ref a_madeBelow, .int v_frees, .ref a_freeFirst, .ref a_freeSecond, .ref a_hangFirst, .ref a_hangSecond, .ref a_tried, .ref a_count])), (a_first, .inl (cI, 15, .inl v_first)), (a_second, .inl (cI, 15, .inl v_second))] A o_r) args s 0 0 A) (F0 m 0 ls []) := by
  obtain ⟨hx, hb, hr, hml, hown, hts, hK, hA, hT, hlocks, hZA, hZB, hTA, hTB, hnw⟩ := id cx
  intro H locs hP hD hS ls hl
  rw [f_Mo_powerOf] at h
  refine lv_iconst (v := 0) hx hb d_Mo_powerOf_0 (by decide) ?_
  refine lv_istore_n (lv' := [(3, .int 0), (0, .ref a_this), (1, .int p0), (2, .int p1)]) hx hb d_Mo_powerOf_1 rfl hl (by decide) rfl (fun ls hl => ?_)
  refine w_Mo_powerOf_L2 cx _ _ _ h (fun _ h H locs hP hD hS ls hl => ?_) _ _ hP hD hS ls (lv_sub hl [0, 1, 2, 3] rfl)
  try dsimp only at h
  refine lv_iconst (v := (-1)) hx hb d_Mo_powerOf_38 (by decide) ?_
  cases h
  exact W.iret hx hb hr (fun t ht hW => ⟨⟨_, (), rfl, rfl, by rw [ht]; exact hP, hD⟩, hS.F ht⟩) hS.2.2 d_Mo_powerOf_39
set_option maxHeartbeats 4000000 in
set_option maxRecDepth 100000 in
theorem c_Mo_powerOf (l : Launch) (D : va_G) (cI cL cZ : ClassId) (tA tB sz : Nat) (a_this a_first a_second a_numbers a_basis a_table a_weightAbove a_weightBelow a_rowAbove a_rowBelow a_left a_madeAbove a_madeBelow a_freeFirst a_freeSecond a_hangFirst a_hangSecond a_tried a_count : Nat) (p0 : Int32) (p1 : Int32) (v_thrown : Int32) (v_unknowns : Int32) (v_powers : Int32) (v_members : Int32) (v_isThere : Int32) (v_squares : Int32) (v_madeSquares : Int32) (v_frees : Int32) (v_first : Nat → Int32) (v_second : Nat → Int32) (o_r : Int32) (A : Nat → Prop) (hAe : A = va_A [(a_this, .inr (5, [.int v_thrown, .int v_unknowns, .int v_powers, .ref a_first, .ref a_second, .ref a_numbers, .int v_members, .ref a_basis, .ref a_table, .int v_isThere, .int v_squares, .ref a_weightAbove, .ref a_weightBelow, .ref a_rowAbove, .ref a_rowBelow, .ref a_left, .int v_madeSquares, .ref a_madeAbove, .ref a_madeBelow, .int v_frees, .ref a_freeFirst, .ref a_freeSecond, .ref a_hangFirst, .ref a_hangSecond, .ref a_tried, .ref a_count])), (a_first, .inl (cI, 15, .inl v_first)), (a_second, .inl (cI, 15, .inl v_second))] sz) (h : f_Mo_powerOf p0 p1 v_powers v_first v_second = some o_r) : Met l y_Mo_powerOf wd_Mo_powerOf rm_Mo_powerOf (ct_Pre D (ct_tys cI cL cZ) tA tB [(a_this, .inr (5, [.int v_thrown, .int v_unknowns, .int v_powers, .ref a_first, .ref a_second, .ref a_numbers, .int v_members, .ref a_basis, .ref a_table, .int v_isThere, .int v_squares, .ref a_weightAbove, .ref a_weightBelow, .ref a_rowAbove, .ref a_rowBelow, .ref a_left, .int v_madeSquares, .ref a_madeAbove, .ref a_madeBelow, .int v_frees, .ref a_freeFirst, .ref a_freeSecond, .ref a_hangFirst, .ref a_hangSecond, .ref a_tried, .ref a_count])), (a_first, .inl (cI, 15, .inl v_first)), (a_second, .inl (cI, 15, .inl v_second))] sz [.ref a_this, .int p0, .int p1]) (ct_Qi D [(a_this, .inr (5, [.int v_thrown, .int v_unknowns, .int v_powers, .ref a_first, .ref a_second, .ref a_numbers, .int v_members, .ref a_basis, .ref a_table, .int v_isThere, .int v_squares, .ref a_weightAbove, .ref a_weightBelow, .ref a_rowAbove, .ref a_rowBelow, .ref a_left, .int v_madeSquares, .ref a_madeAbove, .ref a_madeBelow, .int v_frees, .ref a_freeFirst, .ref a_freeSecond, .ref a_hangFirst, .ref a_hangSecond, .ref a_tried, .ref a_count])), (a_first, .inl (cI, 15, .inl v_first)), (a_second, .inl (cI, 15, .inl v_second))] A o_r) 0 0 A := by
  refine Met.ofW (cc := b_Mo_powerOf) (maxL := 4) (ret := (some .int)) (by decide) rfl ?_
  intro p e s m args below meth c s₁ B hml hv
  obtain ⟨hargs, hsz, hP, hK, hD0, hT⟩ := hv
  subst hsz
  have hD := hD0.self (sz := s.heap.size)
  rw [← hAe] at hD hT
  have hA : ∀ q : Nat, s.heap.size ≤ q → A q := fun q h => by rw [hAe]; exact Or.inr h
  clear hAe
  have cx : ct_Cx p s m args meth c b_Mo_powerOf 4 (some .int) R_Mo wd_Mo_powerOf D (ct_tys cI cL cZ) tA tB A := ⟨B.exec, B.bytes, B.returns, hml, findClass_of_methodNamed B.named, atoms_spec (ws := wd_Mo_powerOf) B.pre, hK, hA, hT, B.notSynchronized, hT.1, hT.2.1, hT.2.2.1, hT.2.2.2.1, hT.2.2.2.2⟩
  have hl := lv_entry ([.ref a_this, .int p0, .int p1]) (n := 4) (Nat.le_of_ble_eq_true rfl)
  rw [show entryFrame m args 4 = entryFrame m ([.ref a_this, .int p0, .int p1] : List Value).toArray 4 by rw [hargs], lg_entry_eq]
  exact w_Mo_powerOf cx h _ _ hP hD va_S.rf _ hl
abbrev rm_Mo_isTerm : Room := { frames := 0, cells := 0, slots := 0, locals := 0 }
abbrev wd_Mo_isTerm : List Cond := .code y_Mo_isTerm b_Mo_isTerm 3 (some .boolean) :: ct_G
def f_Mo_isTerm (p0 : Int32) (p1 : Int32) (v_numbers : Nat → Int32) : Option (Int32) := (if p0 = p1 then some (0 : Int32) else (if p0 < 0 ∨ 15 ≤ p0.toNatClampNeg then none else (if (v_numbers p0.toNatClampNeg) = 0 then some (0 : Int32) else some (1 : Int32))))
set_option maxHeartbeats 4000000 in
set_option maxRecDepth 100000 in
theorem w_Mo_isTerm {p : Program} {l : Launch} {e : Env} {s : State} {m : MethodId} {args : Array Value} {below : List Frame} {meth : Method} {c : Code} {D : va_G} {cI cL cZ : ClassId} {tA tB : Nat} {A : Nat → Prop} {a_this a_first a_second a_numbers a_basis a_table a_weightAbove a_weightBelow a_rowAbove a_rowBelow a_left a_madeAbove a_madeBelow a_freeFirst a_freeSecond a_hangFirst a_hangSecond a_tried a_count : Nat} {p0 : Int32} {p1 : Int32} {v_thrown : Int32} {v_unknowns : Int32} {v_powers : Int32} {v_members : Int32} {v_isThere : Int32} {v_squares : Int32} {v_madeSquares : Int32} {v_frees : Int32} {v_numbers : Nat → Int32} {o_r : Int32} (cx : ct_Cx p s m args meth c b_Mo_isTerm 3 (some .boolean) R_Mo wd_Mo_isTerm D (ct_tys cI cL cZ) tA tB A) (h : f_Mo_isTerm p0 p1 v_numbers = some o_r) : ∀ (H : Heap) (locs : List Loc), va_P D vwCl [(a_this, .inr (5, [.int v_thrown, .int v_unknowns, .int v_powers, .ref a_first, .ref a_second, .ref a_numbers, .int v_members, .ref a_basis, .ref a_table, .int v_isThere, .int v_squares, .ref a_weightAbove, .ref a_weightBelow, .ref a_rowAbove, .ref a_rowBelow, .ref a_left, .int v_madeSquares, .ref a_madeAbove, .ref a_madeBelow, .int v_frees, .ref a_freeFirst, .ref a_freeSecond, .ref a_hangFirst, .ref a_hangSecond, .ref a_tried, .ref a_count])), (a_numbers, .inl (cI, 15, .inl v_numbers))] H → va_D A [(a_this, .inr (5, [.int v_thrown, .int v_unknowns, .int v_powers, .ref a_first, .ref a_second, .ref a_numbers, .int v_members, .ref a_basis, .ref a_table, .int v_isThere, .int v_squares, .ref a_weightAbove, .ref a_weightBelow, .ref a_rowAbove, .ref a_rowBelow, .ref a_left, .int v_madeSquares, .ref a_madeAbove, .ref a_madeBelow, .int v_frees, .ref a_freeFirst, .ref a_freeSecond, .ref a_hangFirst, .ref a_hangSecond, .ref a_tried, .ref a_count])), (a_numbers, .inl (cI, 15, .inl v_numbers))] → va_S A s.heap H locs → ∀ ls : Array Slot, lv_has ls 3 [(0, .ref a_this), (1, .int p0), (2, .int p1)] → W p l e (headSpec wd_Mo_isTerm rm_Mo_isTerm).room s m args below meth c H locs 0 0 (MQ below (ct_Qi D [(a_this, .inr (5, [.int v_thrown, .int v_unknowns, .int v_powers, .ref a_first, .ref a_second, .ref a_numbers, .int v_members, .ref a_basis, .ref a_table, .int v_isThere, .int v_squares, .ref a_weightAbove, .ref a_weightBelow, .ref a_rowAbove, .ref a_rowBelow, .ref a_left, .int v_madeSquares, .ref a_madeAbove, .ref a_madeBelow, .int v_frees, .ref a_freeFirst, .ref a_freeSecond, .ref a_hangFirst, .ref a_hangSecond, .ref a_tried, .ref a_count])), (a_numbers, .inl (cI, 15, .inl v_numbers))] A o_r) args s 0 0 A) (F0 m 0 ls []) := by
  obtain ⟨hx, hb, hr, hml, hown, hts, hK, hA, hT, hlocks, hZA, hZB, hTA, hTB, hnw⟩ := id cx
  intro H locs hP hD hS ls hl
  rw [f_Mo_isTerm] at h
  refine lv_iload_n hx hb d_Mo_isTerm_0 rfl (lv_at hl 1 rfl) ?_
  refine lv_iload_n hx hb d_Mo_isTerm_1 rfl (lv_at hl 2 rfl) ?_
  refine lv_icmp_eq (tgt := 18) hx hb d_Mo_isTerm_2 (by decide) (fun hc => ?_) (fun hc => ?_)
  · rw [if_pos hc] at h
    refine lv_iconst (v := 0) hx hb d_Mo_isTerm_18 (by decide) ?_
    cases h
    exact W.zret hx hb hr rfl (fun t ht hW => ⟨⟨_, (), rfl, rfl, by rw [ht]; exact hP, hD⟩, hS.F ht⟩) hS.2.2 d_Mo_isTerm_19
  · rw [if_neg hc] at h
    refine lv_aload_n hx hb d_Mo_isTerm_5 rfl (lv_at hl 0 rfl) ?_
    refine va_get (D := D) (ci := 5) (v := .ref a_numbers) (C := R_Mo) (T := T_Mo) (N := 26) hx hb hts (fun w h9 => ct_in (iw_Mo w h9)) hown hK hP 0 rfl rfl 5 (by decide) (hts _ (ct_in k_207)) (fun _ h9 => h9) rfl d_Mo_isTerm_6 ?_
    refine lv_iload_n hx hb d_Mo_isTerm_9 rfl (lv_at hl 1 rfl) ?_
    obtain ⟨hin, h⟩ := ct_chk h
    refine va_iald hx hb hK hP 1 0 rfl rfl hin d_Mo_isTerm_10 ?_
    refine lv_if_eq (tgt := 18) hx hb d_Mo_isTerm_11 (by decide) (fun hc => ?_) (fun hc => ?_)
    · rw [if_pos hc] at h
      refine lv_iconst (v := 0) hx hb d_Mo_isTerm_18 (by decide) ?_
      cases h
      exact W.zret hx hb hr rfl (fun t ht hW => ⟨⟨_, (), rfl, rfl, by rw [ht]; exact hP, hD⟩, hS.F ht⟩) hS.2.2 d_Mo_isTerm_19
    · rw [if_neg hc] at h
      refine lv_iconst (v := 1) hx hb d_Mo_isTerm_14 (by decide) ?_
      refine lv_goto (tgt := 19) hx hb d_Mo_isTerm_15 (by decide) ?_
      cases h
      exact W.zret hx hb hr rfl (fun t ht hW => ⟨⟨_, (), rfl, rfl, by rw [ht]; exact hP, hD⟩, hS.F ht⟩) hS.2.2 d_Mo_isTerm_19
set_option maxHeartbeats 4000000 in
set_option maxRecDepth 100000 in
theorem c_Mo_isTerm (l : Launch) (D : va_G) (cI cL cZ : ClassId) (tA tB sz : Nat) (a_this a_first a_second a_numbers a_basis a_table a_weightAbove a_weightBelow a_rowAbove a_rowBelow a_left a_madeAbove a_madeBelow a_freeFirst a_freeSecond a_hangFirst a_hangSecond a_tried a_count : Nat) (p0 : Int32) (p1 : Int32) (v_thrown : Int32) (v_unknowns : Int32) (v_powers : Int32) (v_members : Int32) (v_isThere : Int32) (v_squares : Int32) (v_madeSquares : Int32) (v_frees : Int32) (v_numbers : Nat → Int32) (o_r : Int32) (A : Nat → Prop) (hAe : A = va_A [(a_this, .inr (5, [.int v_thrown, .int v_unknowns, .int v_powers, .ref a_first, .ref a_second, .ref a_numbers, .int v_members, .ref a_basis, .ref a_table, .int v_isThere, .int v_squares, .ref a_weightAbove, .ref a_weightBelow, .ref a_rowAbove, .ref a_rowBelow, .ref a_left, .int v_madeSquares, .ref a_madeAbove, .ref a_madeBelow, .int v_frees, .ref a_freeFirst, .ref a_freeSecond, .ref a_hangFirst, .ref a_hangSecond, .ref a_tried, .ref a_count])), (a_numbers, .inl (cI, 15, .inl v_numbers))] sz) (h : f_Mo_isTerm p0 p1 v_numbers = some o_r) : Met l y_Mo_isTerm wd_Mo_isTerm rm_Mo_isTerm (ct_Pre D (ct_tys cI cL cZ) tA tB [(a_this, .inr (5, [.int v_thrown, .int v_unknowns, .int v_powers, .ref a_first, .ref a_second, .ref a_numbers, .int v_members, .ref a_basis, .ref a_table, .int v_isThere, .int v_squares, .ref a_weightAbove, .ref a_weightBelow, .ref a_rowAbove, .ref a_rowBelow, .ref a_left, .int v_madeSquares, .ref a_madeAbove, .ref a_madeBelow, .int v_frees, .ref a_freeFirst, .ref a_freeSecond, .ref a_hangFirst, .ref a_hangSecond, .ref a_tried, .ref a_count])), (a_numbers, .inl (cI, 15, .inl v_numbers))] sz [.ref a_this, .int p0, .int p1]) (ct_Qi D [(a_this, .inr (5, [.int v_thrown, .int v_unknowns, .int v_powers, .ref a_first, .ref a_second, .ref a_numbers, .int v_members, .ref a_basis, .ref a_table, .int v_isThere, .int v_squares, .ref a_weightAbove, .ref a_weightBelow, .ref a_rowAbove, .ref a_rowBelow, .ref a_left, .int v_madeSquares, .ref a_madeAbove, .ref a_madeBelow, .int v_frees, .ref a_freeFirst, .ref a_freeSecond, .ref a_hangFirst, .ref a_hangSecond, .ref a_tried, .ref a_count])), (a_numbers, .inl (cI, 15, .inl v_numbers))] A o_r) 0 0 A := by
  refine Met.ofW (cc := b_Mo_isTerm) (maxL := 3) (ret := (some .boolean)) (by decide) rfl ?_
  intro p e s m args below meth c s₁ B hml hv
  obtain ⟨hargs, hsz, hP, hK, hD0, hT⟩ := hv
  subst hsz
  have hD := hD0.self (sz := s.heap.size)
  rw [← hAe] at hD hT
  have hA : ∀ q : Nat, s.heap.size ≤ q → A q := fun q h => by rw [hAe]; exact Or.inr h
  clear hAe
  have cx : ct_Cx p s m args meth c b_Mo_isTerm 3 (some .boolean) R_Mo wd_Mo_isTerm D (ct_tys cI cL cZ) tA tB A := ⟨B.exec, B.bytes, B.returns, hml, findClass_of_methodNamed B.named, atoms_spec (ws := wd_Mo_isTerm) B.pre, hK, hA, hT, B.notSynchronized, hT.1, hT.2.1, hT.2.2.1, hT.2.2.2.1, hT.2.2.2.2⟩
  have hl := lv_entry ([.ref a_this, .int p0, .int p1]) (n := 3) (Nat.le_of_ble_eq_true rfl)
  rw [show entryFrame m args 3 = entryFrame m ([.ref a_this, .int p0, .int p1] : List Value).toArray 3 by rw [hargs], lg_entry_eq]
  exact w_Mo_isTerm cx h _ _ hP hD va_S.rf _ hl
abbrev rm_Mo_area : Room := { frames := 0, cells := 0, slots := 0, locals := 0 }
abbrev wd_Mo_area : List Cond := .code y_Mo_area b_Mo_area 5 (some .int) :: ct_G
def f_Mo_area (p0 : Int32) (p1 : Int32) (p2 : Int32) (p3 : Int32) (v_first : Nat → Int32) (v_second : Nat → Int32) : Option (Int32) := (if p1 < 0 ∨ 15 ≤ p1.toNatClampNeg then none else (if p0 < 0 ∨ 15 ≤ p0.toNatClampNeg then none else (if p0 < 0 ∨ 15 ≤ p0.toNatClampNeg then none else (if p1 < 0 ∨ 15 ≤ p1.toNatClampNeg then none else (if p0 < 0 ∨ 15 ≤ p0.toNatClampNeg then none else (if p0 < 0 ∨ 15 ≤ p0.toNatClampNeg then none else some ((((v_first p1.toNatClampNeg) - (v_first p0.toNatClampNeg)) * (p3 - (v_second p0.toNatClampNeg))) - (((v_second p1.toNatClampNeg) - (v_second p0.toNatClampNeg)) * (p2 - (v_first p0.toNatClampNeg))))))))))
set_option maxHeartbeats 4000000 in
set_option maxRecDepth 100000 in
theorem w_Mo_area {p : Program} {l : Launch} {e : Env} {s : State} {m : MethodId} {args : Array Value} {below : List Frame} {meth : Method} {c : Code} {D : va_G} {cI cL cZ : ClassId} {tA tB : Nat} {A : Nat → Prop} {a_this a_first a_second a_numbers a_basis a_table a_weightAbove a_weightBelow a_rowAbove a_rowBelow a_left a_madeAbove a_madeBelow a_freeFirst a_freeSecond a_hangFirst a_hangSecond a_tried a_count : Nat} {p0 : Int32} {p1 : Int32} {p2 : Int32} {p3 : Int32} {v_thrown : Int32} {v_unknowns : Int32} {v_powers : Int32} {v_members : Int32} {v_isThere : Int32} {v_squares : Int32} {v_madeSquares : Int32} {v_frees : Int32} {v_first : Nat → Int32} {v_second : Nat → Int32} {o_r : Int32} (cx : ct_Cx p s m args meth c b_Mo_area 5 (some .int) R_Mo wd_Mo_area D (ct_tys cI cL cZ) tA tB A) (h : f_Mo_area p0 p1 p2 p3 v_first v_second = some o_r) : ∀ (H : Heap) (locs : List Loc), va_P D vwCl [(a_this, .inr (5, [.int v_thrown, .int v_unknowns, .int v_powers, .ref a_first, .ref a_second, .ref a_numbers, .int v_members, .ref a_basis, .ref a_table, .int v_isThere, .int v_squares, .ref a_weightAbove, .ref a_weightBelow, .ref a_rowAbove, .ref a_rowBelow, .ref a_left, .int v_madeSquares, .ref a_madeAbove, .ref a_madeBelow, .int v_frees, .ref a_freeFirst, .ref a_freeSecond, .ref a_hangFirst, .ref a_hangSecond, .ref a_tried, .ref a_count])), (a_first, .inl (cI, 15, .inl v_first)), (a_second, .inl (cI, 15, .inl v_second))] H → va_D A [(a_this, .inr (5, [.int v_thrown, .int v_unknowns, .int v_powers, .ref a_first, .ref a_second, .ref a_numbers, .int v_members, .ref a_basis, .ref a_table, .int v_isThere, .int v_squares, .ref a_weightAbove, .ref a_weightBelow, .ref a_rowAbove, .ref a_rowBelow, .ref a_left, .int v_madeSquares, .ref a_madeAbove, .ref a_madeBelow, .int v_frees, .ref a_freeFirst, .ref a_freeSecond, .ref a_hangFirst, .ref a_hangSecond, .ref a_tried, .ref a_count])), (a_first, .inl (cI, 15, .inl v_first)), (a_second, .inl (cI, 15, .inl v_second))] → va_S A s.heap H locs → ∀ ls : Array Slot, lv_has ls 5 [(0, .ref a_this), (1, .int p0), (2, .int p1), (3, .int p2), (4, .int p3)] → W p l e (headSpec wd_Mo_area rm_Mo_area).room s m args below meth c H locs 0 0 (MQ below (ct_Qi D [(a_this, .inr (5, [.int v_thrown, .int v_unknowns, .int v_powers, .ref a_first, .ref a_second, .ref a_numbers, .int v_members, .ref a_basis, .ref a_table, .int v_isThere, .int v_squares, .ref a_weightAbove, .ref a_weightBelow, .ref a_rowAbove, .ref a_rowBelow, .ref a_left, .int v_madeSquares, .ref a_madeAbove, .ref a_madeBelow, .int v_frees, .ref a_freeFirst, .ref a_freeSecond, .ref a_hangFirst, .ref a_hangSecond, .ref a_tried, .ref a_count])), (a_first, .inl (cI, 15, .inl v_first)), (a_second, .inl (cI, 15, .inl v_second))] A o_r) args s 0 0 A) (F0 m 0 ls []) := by
  obtain ⟨hx, hb, hr, hml, hown, hts, hK, hA, hT, hlocks, hZA, hZB, hTA, hTB, hnw⟩ := id cx
  intro H locs hP hD hS ls hl
  rw [f_Mo_area] at h
  refine lv_aload_n hx hb d_Mo_area_0 rfl (lv_at hl 0 rfl) ?_
  refine va_get (D := D) (ci := 5) (v := .ref a_first) (C := R_Mo) (T := T_Mo) (N := 26) hx hb hts (fun w h9 => ct_in (iw_Mo w h9)) hown hK hP 0 rfl rfl 3 (by decide) (hts _ (ct_in k_205)) (fun _ h9 => h9) rfl d_Mo_area_1 ?_
  refine lv_iload_n hx hb d_Mo_area_4 rfl (lv_at hl 2 rfl) ?_
  obtain ⟨hin, h⟩ := ct_chk h
  refine va_iald hx hb hK hP 1 0 rfl rfl hin d_Mo_area_5 ?_
  refine lv_aload_n hx hb d_Mo_area_6 rfl (lv_at hl 0 rfl) ?_
  refine va_get (D := D) (ci := 5) (v := .ref a_first) (C := R_Mo) (T := T_Mo) (N := 26) hx hb hts (fun w h9 => ct_in (iw_Mo w h9)) hown hK hP 0 rfl rfl 3 (by decide) (hts _ (ct_in k_205)) (fun _ h9 => h9) rfl d_Mo_area_7 ?_
  refine lv_iload_n hx hb d_Mo_area_10 rfl (lv_at hl 1 rfl) ?_
  obtain ⟨hin, h⟩ := ct_chk h
  refine va_iald hx hb hK hP 1 0 rfl rfl hin d_Mo_area_11 ?_
  refine lv_isub hx hb d_Mo_area_12 ?_
  refine lv_iload hx hb d_Mo_area_13 (lv_at hl 4 rfl) ?_
  refine lv_aload_n hx hb d_Mo_area_15 rfl (lv_at hl 0 rfl) ?_
  refine va_get (D := D) (ci := 5) (v := .ref a_second) (C := R_Mo) (T := T_Mo) (N := 26) hx hb hts (fun w h9 => ct_in (iw_Mo w h9)) hown hK hP 0 rfl rfl 4 (by decide) (hts _ (ct_in k_206)) (fun _ h9 => h9) rfl d_Mo_area_16 ?_
  refine lv_iload_n hx hb d_Mo_area_19 rfl (lv_at hl 1 rfl) ?_
  obtain ⟨hin, h⟩ := ct_chk h
  refine va_iald hx hb hK hP 2 0 rfl rfl hin d_Mo_area_20 ?_
  refine lv_isub hx hb d_Mo_area_21 ?_
  refine lv_imul hx hb d_Mo_area_22 ?_
  refine lv_aload_n hx hb d_Mo_area_23 rfl (lv_at hl 0 rfl) ?_
  refine va_get (D := D) (ci := 5) (v := .ref a_second) (C := R_Mo) (T := T_Mo) (N := 26) hx hb hts (fun w h9 => ct_in (iw_Mo w h9)) hown hK hP 0 rfl rfl 4 (by decide) (hts _ (ct_in k_206)) (fun _ h9 => h9) rfl d_Mo_area_24 ?_
  refine lv_iload_n hx hb d_Mo_area_27 rfl (lv_at hl 2 rfl) ?_
  obtain ⟨hin, h⟩ := ct_chk h
  refine va_iald hx hb hK hP 2 0 rfl rfl hin d_Mo_area_28 ?_
  refine lv_aload_n hx hb d_Mo_area_29 rfl (lv_at hl 0 rfl) ?_
  refine va_get (D := D) (ci := 5) (v := .ref a_second) (C := R_Mo) (T := T_Mo) (N := 26) hx hb hts (fun w h9 => ct_in (iw_Mo w h9)) hown hK hP 0 rfl rfl 4 (by decide) (hts _ (ct_in k_206)) (fun _ h9 => h9) rfl d_Mo_area_30 ?_
  refine lv_iload_n hx hb d_Mo_area_33 rfl (lv_at hl 1 rfl) ?_
  obtain ⟨hin, h⟩ := ct_chk h
  refine va_iald hx hb hK hP 2 0 rfl rfl hin d_Mo_area_34 ?_
  refine lv_isub hx hb d_Mo_area_35 ?_
  refine lv_iload_n hx hb d_Mo_area_36 rfl (lv_at hl 3 rfl) ?_
  refine lv_aload_n hx hb d_Mo_area_37 rfl (lv_at hl 0 rfl) ?_
  refine va_get (D := D) (ci := 5) (v := .ref a_first) (C := R_Mo) (T := T_Mo) (N := 26) hx hb hts (fun w h9 => ct_in (iw_Mo w h9)) hown hK hP 0 rfl rfl 3 (by decide) (hts _ (ct_in k_205)) (fun _ h9 => h9) rfl d_Mo_area_38 ?_
  refine lv_iload_n hx hb d_Mo_area_41 rfl (lv_at hl 1 rfl) ?_
  obtain ⟨hin, h⟩ := ct_chk h
  refine va_iald hx hb hK hP 1 0 rfl rfl hin d_Mo_area_42 ?_
  refine lv_isub hx hb d_Mo_area_43 ?_
  refine lv_imul hx hb d_Mo_area_44 ?_
  refine lv_isub hx hb d_Mo_area_45 ?_
  cases h
  exact W.iret hx hb hr (fun t ht hW => ⟨⟨_, (), rfl, rfl, by rw [ht]; exact hP, hD⟩, hS.F ht⟩) hS.2.2 d_Mo_area_46
set_option maxHeartbeats 4000000 in
set_option maxRecDepth 100000 in
theorem c_Mo_area (l : Launch) (D : va_G) (cI cL cZ : ClassId) (tA tB sz : Nat) (a_this a_first a_second a_numbers a_basis a_table a_weightAbove a_weightBelow a_rowAbove a_rowBelow a_left a_madeAbove a_madeBelow a_freeFirst a_freeSecond a_hangFirst a_hangSecond a_tried a_count : Nat) (p0 : Int32) (p1 : Int32) (p2 : Int32) (p3 : Int32) (v_thrown : Int32) (v_unknowns : Int32) (v_powers : Int32) (v_members : Int32) (v_isThere : Int32) (v_squares : Int32) (v_madeSquares : Int32) (v_frees : Int32) (v_first : Nat → Int32) (v_second : Nat → Int32) (o_r : Int32) (A : Nat → Prop) (hAe : A = va_A [(a_this, .inr (5, [.int v_thrown, .int v_unknowns, .int v_powers, .ref a_first, .ref a_second, .ref a_numbers, .int v_members, .ref a_basis, .ref a_table, .int v_isThere, .int v_squares, .ref a_weightAbove, .ref a_weightBelow, .ref a_rowAbove, .ref a_rowBelow, .ref a_left, .int v_madeSquares, .ref a_madeAbove, .ref a_madeBelow, .int v_frees, .ref a_freeFirst, .ref a_freeSecond, .ref a_hangFirst, .ref a_hangSecond, .ref a_tried, .ref a_count])), (a_first, .inl (cI, 15, .inl v_first)), (a_second, .inl (cI, 15, .inl v_second))] sz) (h : f_Mo_area p0 p1 p2 p3 v_first v_second = some o_r) : Met l y_Mo_area wd_Mo_area rm_Mo_area (ct_Pre D (ct_tys cI cL cZ) tA tB [(a_this, .inr (5, [.int v_thrown, .int v_unknowns, .int v_powers, .ref a_first, .ref a_second, .ref a_numbers, .int v_members, .ref a_basis, .ref a_table, .int v_isThere, .int v_squares, .ref a_weightAbove, .ref a_weightBelow, .ref a_rowAbove, .ref a_rowBelow, .ref a_left, .int v_madeSquares, .ref a_madeAbove, .ref a_madeBelow, .int v_frees, .ref a_freeFirst, .ref a_freeSecond, .ref a_hangFirst, .ref a_hangSecond, .ref a_tried, .ref a_count])), (a_first, .inl (cI, 15, .inl v_first)), (a_second, .inl (cI, 15, .inl v_second))] sz [.ref a_this, .int p0, .int p1, .int p2, .int p3]) (ct_Qi D [(a_this, .inr (5, [.int v_thrown, .int v_unknowns, .int v_powers, .ref a_first, .ref a_second, .ref a_numbers, .int v_members, .ref a_basis, .ref a_table, .int v_isThere, .int v_squares, .ref a_weightAbove, .ref a_weightBelow, .ref a_rowAbove, .ref a_rowBelow, .ref a_left, .int v_madeSquares, .ref a_madeAbove, .ref a_madeBelow, .int v_frees, .ref a_freeFirst, .ref a_freeSecond, .ref a_hangFirst, .ref a_hangSecond, .ref a_tried, .ref a_count])), (a_first, .inl (cI, 15, .inl v_first)), (a_second, .inl (cI, 15, .inl v_second))] A o_r) 0 0 A := by
  refine Met.ofW (cc := b_Mo_area) (maxL := 5) (ret := (some .int)) (by decide) rfl ?_
  intro p e s m args below meth c s₁ B hml hv
  obtain ⟨hargs, hsz, hP, hK, hD0, hT⟩ := hv
  subst hsz
  have hD := hD0.self (sz := s.heap.size)
  rw [← hAe] at hD hT
  have hA : ∀ q : Nat, s.heap.size ≤ q → A q := fun q h => by rw [hAe]; exact Or.inr h
  clear hAe
  have cx : ct_Cx p s m args meth c b_Mo_area 5 (some .int) R_Mo wd_Mo_area D (ct_tys cI cL cZ) tA tB A := ⟨B.exec, B.bytes, B.returns, hml, findClass_of_methodNamed B.named, atoms_spec (ws := wd_Mo_area) B.pre, hK, hA, hT, B.notSynchronized, hT.1, hT.2.1, hT.2.2.1, hT.2.2.2.1, hT.2.2.2.2⟩
  have hl := lv_entry ([.ref a_this, .int p0, .int p1, .int p2, .int p3]) (n := 5) (Nat.le_of_ble_eq_true rfl)
  rw [show entryFrame m args 5 = entryFrame m ([.ref a_this, .int p0, .int p1, .int p2, .int p3] : List Value).toArray 5 by rw [hargs], lg_entry_eq]
  exact w_Mo_area cx h _ _ hP hD va_S.rf _ hl
abbrev rm_Mo_isBetween : Room := { frames := 1, cells := 0, slots := 0, locals := 24 }
abbrev wd_Mo_isBetween : List Cond := .code y_Mo_isBetween b_Mo_isBetween 7 (some .boolean) :: ct_G
def f_Mo_isBetween (p0 : Int32) (p1 : Int32) (p2 : Int32) (p3 : Int32) (v_first : Nat → Int32) (v_second : Nat → Int32) : Option (Int32) := (if p0 < 0 ∨ 15 ≤ p0.toNatClampNeg then none else (ct_jn (fun (j2 : Int32 → Option (Int32)) => (if p2 < (v_first p0.toNatClampNeg) then (if p1 < 0 ∨ 15 ≤ p1.toNatClampNeg then none else (if p2 < (v_first p1.toNatClampNeg) then (j2 0) else (if p0 < 0 ∨ 15 ≤ p0.toNatClampNeg then none else (if (v_first p0.toNatClampNeg) < p2 then (j2 0) else (j2 1))))) else (if p1 < 0 ∨ 15 ≤ p1.toNatClampNeg then none else (if p2 ≤ (v_first p1.toNatClampNeg) then (j2 1) else (if p1 < 0 ∨ 15 ≤ p1.toNatClampNeg then none else (if p2 < (v_first p1.toNatClampNeg) then (j2 0) else (if p0 < 0 ∨ 15 ≤ p0.toNatClampNeg then none else (if (v_first p0.toNatClampNeg) < p2 then (j2 0) else (j2 1))))))))) (fun (s_1 : Int32) => (if p0 < 0 ∨ 15 ≤ p0.toNatClampNeg then none else (ct_jn (fun (j3 : Int32 → Option (Int32)) => (if p3 < (v_second p0.toNatClampNeg) then (if p1 < 0 ∨ 15 ≤ p1.toNatClampNeg then none else (if p3 < (v_second p1.toNatClampNeg) then (j3 0) else (if p0 < 0 ∨ 15 ≤ p0.toNatClampNeg then none else (if (v_second p0.toNatClampNeg) < p3 then (j3 0) else (j3 1))))) else (if p1 < 0 ∨ 15 ≤ p1.toNatClampNeg then none else (if p3 ≤ (v_second p1.toNatClampNeg) then (j3 1) else (if p1 < 0 ∨ 15 ≤ p1.toNatClampNeg then none else (if p3 < (v_second p1.toNatClampNeg) then (j3 0) else (if p0 < 0 ∨ 15 ≤ p0.toNatClampNeg then none else (if (v_second p0.toNatClampNeg) < p3 then (j3 0) else (j3 1))))))))) (fun (s_2 : Int32) => (if s_1 = 0 then some (0 : Int32) else (if s_2 = 0 then some (0 : Int32) else ((f_Mo_area p0 p1 p2 p3 v_first v_second).bind (fun r_3 => (if r_3 = 0 then some (1 : Int32) else some (0 : Int32))))))))))))
set_option maxHeartbeats 4000000 in
set_option maxRecDepth 100000 in
theorem w_Mo_isBetween {p : Program} {l : Launch} {e : Env} {s : State} {m : MethodId} {args : Array Value} {below : List Frame} {meth : Method} {c : Code} {D : va_G} {cI cL cZ : ClassId} {tA tB : Nat} {A : Nat → Prop} {a_this a_first a_second a_numbers a_basis a_table a_weightAbove a_weightBelow a_rowAbove a_rowBelow a_left a_madeAbove a_madeBelow a_freeFirst a_freeSecond a_hangFirst a_hangSecond a_tried a_count : Nat} {p0 : Int32} {p1 : Int32} {p2 : Int32} {p3 : Int32} {v_thrown : Int32} {v_unknowns : Int32} {v_powers : Int32} {v_members : Int32} {v_isThere : Int32} {v_squares : Int32} {v_madeSquares : Int32} {v_frees : Int32} {v_first : Nat → Int32} {v_second : Nat → Int32} {o_r : Int32} (cx : ct_Cx p s m args meth c b_Mo_isBetween 7 (some .boolean) R_Mo wd_Mo_isBetween D (ct_tys cI cL cZ) tA tB A) (h : f_Mo_isBetween p0 p1 p2 p3 v_first v_second = some o_r) : ∀ (H : Heap) (locs : List Loc), va_P D vwCl [(a_this, .inr (5, [.int v_thrown, .int v_unknowns, .int v_powers, .ref a_first, .ref a_second, .ref a_numbers, .int v_members, .ref a_basis, .ref a_table, .int v_isThere, .int v_squares, .ref a_weightAbove, .ref a_weightBelow, .ref a_rowAbove, .ref a_rowBelow, .ref a_left, .int v_madeSquares, .ref a_madeAbove, .ref a_madeBelow, .int v_frees, .ref a_freeFirst, .ref a_freeSecond, .ref a_hangFirst, .ref a_hangSecond, .ref a_tried, .ref a_count])), (a_first, .inl (cI, 15, .inl v_first)), (a_second, .inl (cI, 15, .inl v_second))] H → va_D A [(a_this, .inr (5, [.int v_thrown, .int v_unknowns, .int v_powers, .ref a_first, .ref a_second, .ref a_numbers, .int v_members, .ref a_basis, .ref a_table, .int v_isThere, .int v_squares, .ref a_weightAbove, .ref a_weightBelow, .ref a_rowAbove, .ref a_rowBelow, .ref a_left, .int v_madeSquares, .ref a_madeAbove, .ref a_madeBelow, .int v_frees, .ref a_freeFirst, .ref a_freeSecond, .ref a_hangFirst, .ref a_hangSecond, .ref a_tried, .ref a_count])), (a_first, .inl (cI, 15, .inl v_first)), (a_second, .inl (cI, 15, .inl v_second))] → va_S A s.heap H locs → ∀ ls : Array Slot, lv_has ls 7 [(0, .ref a_this), (1, .int p0), (2, .int p1), (3, .int p2), (4, .int p3)] → W p l e (headSpec wd_Mo_isBetween rm_Mo_isBetween).room s m args below meth c H locs 0 0 (MQ below (ct_Qi D [(a_this, .inr (5, [.int v_thrown, .int v_unknowns, .int v_powers, .ref a_first, .ref a_second, .ref a_numbers, .int v_members, .ref a_basis, .ref a_table, .int v_isThere, .int v_squares, .ref a_weightAbove, .ref a_weightBelow, .ref a_rowAbove, .ref a_rowBelow, .ref a_left, .int v_madeSquares, .ref a_madeAbove, .ref a_madeBelow, .int v_frees, .ref a_freeFirst, .ref a_freeSecond, .ref a_hangFirst, .ref a_hangSecond, .ref a_tried, .ref a_count])), (a_first, .inl (cI, 15, .inl v_first)), (a_second, .inl (cI, 15, .inl v_second))] A o_r) args s 0 0 A) (F0 m 0 ls []) := by
  obtain ⟨hx, hb, hr, hml, hown, hts, hK, hA, hT, hlocks, hZA, hZB, hTA, hTB, hnw⟩ := id cx
  intro H locs hP hD hS ls hl
  rw [f_Mo_isBetween] at h
  refine lv_iload_n hx hb d_Mo_isBetween_0 rfl (lv_at hl 3 rfl) ?_
  refine lv_aload_n hx hb d_Mo_isBetween_1 rfl (lv_at hl 0 rfl) ?_
  refine va_get (D := D) (ci := 5) (v := .ref a_first) (C := R_Mo) (T := T_Mo) (N := 26) hx hb hts (fun w h9 => ct_in (iw_Mo w h9)) hown hK hP 0 rfl rfl 3 (by decide) (hts _ (ct_in k_205)) (fun _ h9 => h9) rfl d_Mo_isBetween_2 ?_
  refine lv_iload_n hx hb d_Mo_isBetween_5 rfl (lv_at hl 1 rfl) ?_
  obtain ⟨hin, h⟩ := ct_chk h
  refine va_iald hx hb hK hP 1 0 rfl rfl hin d_Mo_isBetween_6 ?_
  obtain ⟨j2, hjd2, h⟩ := ct_jn_elim h
  try dsimp only at h
  have hj2 : ∀ (s_1 : Int32), j2 s_1 = some o_r → ∀ (H : Heap) (locs : List Loc), va_P D vwCl [(a_this, .inr (5, [.int v_thrown, .int v_unknowns, .int v_powers, .ref a_first, .ref a_second, .ref a_numbers, .int v_members, .ref a_basis, .ref a_table, .int v_isThere, .int v_squares, .ref a_weightAbove, .ref a_weightBelow, .ref a_rowAbove, .ref a_rowBelow, .ref a_left, .int v_madeSquares, .ref a_madeAbove, .ref a_madeBelow, .int v_frees, .ref a_freeFirst, .ref a_freeSecond, .ref a_hangFirst, .ref a_hangSecond, .ref a_tried, .ref a_count])), (a_first, .inl (cI, 15, .inl v_first)), (a_second, .inl (cI, 15, .inl v_second))] H → va_D A [(a_this, .inr (5, [.int v_thrown, .int v_unknowns, .int v_powers, .ref a_first, .ref a_second, .ref a_numbers, .int v_members, .ref a_basis, .ref a_table, .int v_isThere, .int v_squares, .ref a_weightAbove, .ref a_weightBelow, .ref a_rowAbove, .ref a_rowBelow, .ref a_left, .int v_madeSquares, .ref a_madeAbove, .ref a_madeBelow, .int v_frees, .ref a_freeFirst, .ref a_freeSecond, .ref a_hangFirst, .ref a_hangSecond, .ref a_tried, .ref a_count])), (a_first, .inl (cI, 15, .inl v_first)), (a_second, .inl (cI, 15, .inl v_second))] → va_S A s.heap H locs → ∀ ls : Array Slot, lv_has ls 7 [(0, .ref a_this), (1, .int p0), (2, .int p1), (3, .int p2), (4, .int p3)] → W p l e (headSpec wd_Mo_isBetween rm_Mo_isBetween).room s m args below meth c H locs 0 0 (MQ below (ct_Qi D [(a_this, .inr (5, [.int v_thrown, .int v_unknowns, .int v_powers, .ref a_first, .ref a_second, .ref a_numbers, .int v_members, .ref a_basis, .ref a_table, .int v_isThere, .int v_squares, .ref a_weightAbove, .ref a_weightBelow, .ref a_rowAbove, .ref a_rowBelow, .ref a_left, .int v_madeSquares, .ref a_madeAbove, .ref a_madeBelow, .int v_frees, .ref a_freeFirst, .ref a_freeSecond, .ref a_hangFirst, .ref a_hangSecond, .ref a_tried, .ref a_count])), (a_first, .inl (cI, 15, .inl v_first)), (a_second, .inl (cI, 15, .inl v_second))] A o_r) args s 0 0 A) (F0 m 45 ls [.int s_1]) := by
    intro s_1 h H locs hP hD hS ls hl
    rw [hjd2] at h
    try dsimp only at h
    refine lv_istore (lv' := [(5, .int s_1), (0, .ref a_this), (1, .int p0), (2, .int p1), (3, .int p2), (4, .int p3)]) hx hb d_Mo_isBetween_45 hl (by decide) rfl (fun ls hl => ?_)
    refine lv_iload hx hb d_Mo_isBetween_47 (lv_at hl 5 rfl) ?_
    refine lv_aload_n hx hb d_Mo_isBetween_49 rfl (lv_at hl 1 rfl) ?_
    refine va_get (D := D) (ci := 5) (v := .ref a_second) (C := R_Mo) (T := T_Mo) (N := 26) hx hb hts (fun w h9 => ct_in (iw_Mo w h9)) hown hK hP 0 rfl rfl 4 (by decide) (hts _ (ct_in k_206)) (fun _ h9 => h9) rfl d_Mo_isBetween_50 ?_
    refine lv_iload_n hx hb d_Mo_isBetween_53 rfl (lv_at hl 2 rfl) ?_
    obtain ⟨hin, h⟩ := ct_chk h
    refine va_iald hx hb hK hP 2 0 rfl rfl hin d_Mo_isBetween_54 ?_
    obtain ⟨j3, hjd3, h⟩ := ct_jn_elim h
    try dsimp only at h
    have hj3 : ∀ (s_2 : Int32), j3 s_2 = some o_r → ∀ (H : Heap) (locs : List Loc), va_P D vwCl [(a_this, .inr (5, [.int v_thrown, .int v_unknowns, .int v_powers, .ref a_first, .ref a_second, .ref a_numbers, .int v_members, .ref a_basis, .ref a_table, .int v_isThere, .int v_squares, .ref a_weightAbove, .ref a_weightBelow, .ref a_rowAbove, .ref a_rowBelow, .ref a_left, .int v_madeSquares, .ref a_madeAbove, .ref a_madeBelow, .int v_frees, .ref a_freeFirst, .ref a_freeSecond, .ref a_hangFirst, .ref a_hangSecond, .ref a_tried, .ref a_count])), (a_first, .inl (cI, 15, .inl v_first)), (a_second, .inl (cI, 15, .inl v_second))] H → va_D A [(a_this, .inr (5, [.int v_thrown, .int v_unknowns, .int v_powers, .ref a_first, .ref a_second, .ref a_numbers, .int v_members, .ref a_basis, .ref a_table, .int v_isThere, .int v_squares, .ref a_weightAbove, .ref a_weightBelow, .ref a_rowAbove, .ref a_rowBelow, .ref a_left, .int v_madeSquares, .ref a_madeAbove, .ref a_madeBelow, .int v_frees, .ref a_freeFirst, .ref a_freeSecond, .ref a_hangFirst, .ref a_hangSecond, .ref a_tried, .ref a_count])), (a_first, .inl (cI, 15, .inl v_first)), (a_second, .inl (cI, 15, .inl v_second))] → va_S A s.heap H locs → ∀ ls : Array Slot, lv_has ls 7 [(5, .int s_1), (0, .ref a_this), (1, .int p0), (2, .int p1), (3, .int p2), (4, .int p3)] → W p l e (headSpec wd_Mo_isBetween rm_Mo_isBetween).room s m args below meth c H locs 0 0 (MQ below (ct_Qi D [(a_this, .inr (5, [.int v_thrown, .int v_unknowns, .int v_powers, .ref a_first, .ref a_second, .ref a_numbers, .int v_members, .ref a_basis, .ref a_table, .int v_isThere, .int v_squares, .ref a_weightAbove, .ref a_weightBelow, .ref a_rowAbove, .ref a_rowBelow, .ref a_left, .int v_madeSquares, .ref a_madeAbove, .ref a_madeBelow, .int v_frees, .ref a_freeFirst, .ref a_freeSecond, .ref a_hangFirst, .ref a_hangSecond, .ref a_tried, .ref a_count])), (a_first, .inl (cI, 15, .inl v_first)), (a_second, .inl (cI, 15, .inl v_second))] A o_r) args s 0 0 A) (F0 m 96 ls [.int s_2]) := by
      intro s_2 h H locs hP hD hS ls hl
      rw [hjd3] at h
      try dsimp only at h
      refine lv_istore (lv' := [(6, .int s_2), (5, .int s_1), (0, .ref a_this), (1, .int p0), (2, .int p1), (3, .int p2), (4, .int p3)]) hx hb d_Mo_isBetween_96 hl (by decide) rfl (fun ls hl => ?_)
      refine lv_iload hx hb d_Mo_isBetween_98 (lv_at hl 1 rfl) ?_
      refine lv_if_eq (tgt := 124) hx hb d_Mo_isBetween_100 (by decide) (fun hc => ?_) (fun hc => ?_)
      · rw [if_pos hc] at h
        refine lv_iconst (v := 0) hx hb d_Mo_isBetween_124 (by decide) ?_
        cases h
        exact W.zret hx hb hr rfl (fun t ht hW => ⟨⟨_, (), rfl, rfl, by rw [ht]; exact hP, hD⟩, hS.F ht⟩) hS.2.2 d_Mo_isBetween_125
      · rw [if_neg hc] at h
        refine lv_iload hx hb d_Mo_isBetween_103 (lv_at hl 0 rfl) ?_
        refine lv_if_eq (tgt := 124) hx hb d_Mo_isBetween_105 (by decide) (fun hc => ?_) (fun hc => ?_)
        · rw [if_pos hc] at h
          refine lv_iconst (v := 0) hx hb d_Mo_isBetween_124 (by decide) ?_
          cases h
          exact W.zret hx hb hr rfl (fun t ht hW => ⟨⟨_, (), rfl, rfl, by rw [ht]; exact hP, hD⟩, hS.F ht⟩) hS.2.2 d_Mo_isBetween_125
        · rw [if_neg hc] at h
          refine lv_aload_n hx hb d_Mo_isBetween_108 rfl (lv_at hl 2 rfl) ?_
          refine lv_iload_n hx hb d_Mo_isBetween_109 rfl (lv_at hl 3 rfl) ?_
          refine lv_iload_n hx hb d_Mo_isBetween_110 rfl (lv_at hl 4 rfl) ?_
          refine lv_iload_n hx hb d_Mo_isBetween_111 rfl (lv_at hl 5 rfl) ?_
          refine lv_iload hx hb d_Mo_isBetween_112 (lv_at hl 6 rfl) ?_
          obtain ⟨r_3, ho, h⟩ := Option.bind_eq_some_iff.mp h
          refine ct_calli (wc := [(a_this, .inr (5, [.int v_thrown, .int v_unknowns, .int v_powers, .ref a_first, .ref a_second, .ref a_numbers, .int v_members, .ref a_basis, .ref a_table, .int v_isThere, .int v_squares, .ref a_weightAbove, .ref a_weightBelow, .ref a_rowAbove, .ref a_rowBelow, .ref a_left, .int v_madeSquares, .ref a_madeAbove, .ref a_madeBelow, .int v_frees, .ref a_freeFirst, .ref a_freeSecond, .ref a_hangFirst, .ref a_hangSecond, .ref a_tried, .ref a_count])), (a_first, .inl (cI, 15, .inl v_first)), (a_second, .inl (cI, 15, .inl v_second))]) (wr := []) (wc' := [(a_this, .inr (5, [.int v_thrown, .int v_unknowns, .int v_powers, .ref a_first, .ref a_second, .ref a_numbers, .int v_members, .ref a_basis, .ref a_table, .int v_isThere, .int v_squares, .ref a_weightAbove, .ref a_weightBelow, .ref a_rowAbove, .ref a_rowBelow, .ref a_left, .int v_madeSquares, .ref a_madeAbove, .ref a_madeBelow, .int v_frees, .ref a_freeFirst, .ref a_freeSecond, .ref a_hangFirst, .ref a_hangSecond, .ref a_tried, .ref a_count])), (a_first, .inl (cI, 15, .inl v_first)), (a_second, .inl (cI, 15, .inl v_second))]) (ws' := [(a_this, .inr (5, [.int v_thrown, .int v_unknowns, .int v_powers, .ref a_first, .ref a_second, .ref a_numbers, .int v_members, .ref a_basis, .ref a_table, .int v_isThere, .int v_squares, .ref a_weightAbove, .ref a_weightBelow, .ref a_rowAbove, .ref a_rowBelow, .ref a_left, .int v_madeSquares, .ref a_madeAbove, .ref a_madeBelow, .int v_frees, .ref a_freeFirst, .ref a_freeSecond, .ref a_hangFirst, .ref a_hangSecond, .ref a_tried, .ref a_count])), (a_first, .inl (cI, 15, .inl v_first)), (a_second, .inl (cI, 15, .inl v_second))]) (va_runV (As := [.int p0, .int p1, .int p2, .int p3]) (rest := []) ⟨hx, hb, hml, hown, hts⟩ (c_Mo_area l D cI cL cZ tA tB H.size a_this a_first a_second a_numbers a_basis a_table a_weightAbove a_weightBelow a_rowAbove a_rowBelow a_left a_madeAbove a_madeBelow a_freeFirst a_freeSecond a_hangFirst a_hangSecond a_tried a_count p0 p1 p2 p3 v_thrown v_unknowns v_powers v_members v_isThere v_squares v_madeSquares v_frees v_first v_second r_3 _ rfl ho) (cwV 4 hts (ct_goodV k_212 k_210 k_211 k_209 k_208) rfl rfl rfl (by decide +kernel) ⟨Nat.le_of_ble_eq_true rfl, Nat.le_of_ble_eq_true rfl⟩) (ct_preV (wc := [(a_this, .inr (5, [.int v_thrown, .int v_unknowns, .int v_powers, .ref a_first, .ref a_second, .ref a_numbers, .int v_members, .ref a_basis, .ref a_table, .int v_isThere, .int v_squares, .ref a_weightAbove, .ref a_weightBelow, .ref a_rowAbove, .ref a_rowBelow, .ref a_left, .int v_madeSquares, .ref a_madeAbove, .ref a_madeBelow, .int v_frees, .ref a_freeFirst, .ref a_freeSecond, .ref a_hangFirst, .ref a_hangSecond, .ref a_tried, .ref a_count])), (a_first, .inl (cI, 15, .inl v_first)), (a_second, .inl (cI, 15, .inl v_second))]) hP hD hK hS hA hT [0, 1, 2] rfl (by decide) (ci := 5) (q0 := 0) rfl rfl) rfl rfl hl.1 rfl (lv_room (Nat.le_of_ble_eq_true rfl)) d_Mo_isBetween_114 ⟨Nat.zero_le _, Nat.zero_le _⟩) hP hD hS hA [0, 1, 2] [] rfl rfl (by decide) (by decide) [0, 1, 2] rfl (by decide) (fun H locs hP hD hS => ?_)
          refine lv_if_ne (tgt := 124) hx hb d_Mo_isBetween_117 (by decide) (fun hc => ?_) (fun hc => ?_)
          · rw [if_neg hc] at h
            refine lv_iconst (v := 0) hx hb d_Mo_isBetween_124 (by decide) ?_
            cases h
            exact W.zret hx hb hr rfl (fun t ht hW => ⟨⟨_, (), rfl, rfl, by rw [ht]; exact hP, hD⟩, hS.F ht⟩) hS.2.2 d_Mo_isBetween_125
          · rw [if_pos hc] at h
            refine lv_iconst (v := 1) hx hb d_Mo_isBetween_120 (by decide) ?_
            refine lv_goto (tgt := 125) hx hb d_Mo_isBetween_121 (by decide) ?_
            cases h
            exact W.zret hx hb hr rfl (fun t ht hW => ⟨⟨_, (), rfl, rfl, by rw [ht]; exact hP, hD⟩, hS.F ht⟩) hS.2.2 d_Mo_isBetween_125
    clear hjd3
    refine lv_icmp_lt (tgt := 69) hx hb d_Mo_isBetween_55 (by decide) (fun hc => ?_) (fun hc => ?_)
    · rw [if_pos hc] at h
      refine lv_iload hx hb d_Mo_isBetween_69 (lv_at hl 5 rfl) ?_
      refine lv_aload_n hx hb d_Mo_isBetween_71 rfl (lv_at hl 1 rfl) ?_
      refine va_get (D := D) (ci := 5) (v := .ref a_second) (C := R_Mo) (T := T_Mo) (N := 26) hx hb hts (fun w h9 => ct_in (iw_Mo w h9)) hown hK hP 0 rfl rfl 4 (by decide) (hts _ (ct_in k_206)) (fun _ h9 => h9) rfl d_Mo_isBetween_72 ?_
      refine lv_iload_n hx hb d_Mo_isBetween_75 rfl (lv_at hl 3 rfl) ?_
      obtain ⟨hin, h⟩ := ct_chk h
      refine va_iald hx hb hK hP 2 0 rfl rfl hin d_Mo_isBetween_76 ?_
      refine lv_icmp_lt (tgt := 95) hx hb d_Mo_isBetween_77 (by decide) (fun hc => ?_) (fun hc => ?_)
      · rw [if_pos hc] at h
        refine lv_iconst (v := 0) hx hb d_Mo_isBetween_95 (by decide) ?_
        exact hj3 _ h _ _ hP hD hS ls (lv_sub hl [0, 1, 2, 3, 4, 5] rfl)
      · rw [if_neg hc] at h
        refine lv_iload hx hb d_Mo_isBetween_80 (lv_at hl 5 rfl) ?_
        refine lv_aload_n hx hb d_Mo_isBetween_82 rfl (lv_at hl 1 rfl) ?_
        refine va_get (D := D) (ci := 5) (v := .ref a_second) (C := R_Mo) (T := T_Mo) (N := 26) hx hb hts (fun w h9 => ct_in (iw_Mo w h9)) hown hK hP 0 rfl rfl 4 (by decide) (hts _ (ct_in k_206)) (fun _ h9 => h9) rfl d_Mo_isBetween_83 ?_
        refine lv_iload_n hx hb d_Mo_isBetween_86 rfl (lv_at hl 2 rfl) ?_
        obtain ⟨hin, h⟩ := ct_chk h
        refine va_iald hx hb hK hP 2 0 rfl rfl hin d_Mo_isBetween_87 ?_
        refine lv_icmp_gt (tgt := 95) hx hb d_Mo_isBetween_88 (by decide) (fun hc => ?_) (fun hc => ?_)
        · rw [if_pos hc] at h
          refine lv_iconst (v := 0) hx hb d_Mo_isBetween_95 (by decide) ?_
          exact hj3 _ h _ _ hP hD hS ls (lv_sub hl [0, 1, 2, 3, 4, 5] rfl)
        · rw [if_neg hc] at h
          refine lv_iconst (v := 1) hx hb d_Mo_isBetween_91 (by decide) ?_
          refine lv_goto (tgt := 96) hx hb d_Mo_isBetween_92 (by decide) ?_
          exact hj3 _ h _ _ hP hD hS ls (lv_sub hl [0, 1, 2, 3, 4, 5] rfl)
    · rw [if_neg hc] at h
      refine lv_iload hx hb d_Mo_isBetween_58 (lv_at hl 5 rfl) ?_
      refine lv_aload_n hx hb d_Mo_isBetween_60 rfl (lv_at hl 1 rfl) ?_
      refine va_get (D := D) (ci := 5) (v := .ref a_second) (C := R_Mo) (T := T_Mo) (N := 26) hx hb hts (fun w h9 => ct_in (iw_Mo w h9)) hown hK hP 0 rfl rfl 4 (by decide) (hts _ (ct_in k_206)) (fun _ h9 => h9) rfl d_Mo_isBetween_61 ?_
      refine lv_iload_n hx hb d_Mo_isBetween_64 rfl (lv_at hl 3 rfl) ?_
      obtain ⟨hin, h⟩ := ct_chk h
      refine va_iald hx hb hK hP 2 0 rfl rfl hin d_Mo_isBetween_65 ?_
      refine lv_icmp_le (tgt := 91) hx hb d_Mo_isBetween_66 (by decide) (fun hc => ?_) (fun hc => ?_)
      · rw [if_pos hc] at h
        refine lv_iconst (v := 1) hx hb d_Mo_isBetween_91 (by decide) ?_
        refine lv_goto (tgt := 96) hx hb d_Mo_isBetween_92 (by decide) ?_
        exact hj3 _ h _ _ hP hD hS ls (lv_sub hl [0, 1, 2, 3, 4, 5] rfl)
      · rw [if_neg hc] at h
        refine lv_iload hx hb d_Mo_isBetween_69 (lv_at hl 5 rfl) ?_
        refine lv_aload_n hx hb d_Mo_isBetween_71 rfl (lv_at hl 1 rfl) ?_
        refine va_get (D := D) (ci := 5) (v := .ref a_second) (C := R_Mo) (T := T_Mo) (N := 26) hx hb hts (fun w h9 => ct_in (iw_Mo w h9)) hown hK hP 0 rfl rfl 4 (by decide) (hts _ (ct_in k_206)) (fun _ h9 => h9) rfl d_Mo_isBetween_72 ?_
        refine lv_iload_n hx hb d_Mo_isBetween_75 rfl (lv_at hl 3 rfl) ?_
        obtain ⟨hin, h⟩ := ct_chk h
        refine va_iald hx hb hK hP 2 0 rfl rfl hin d_Mo_isBetween_76 ?_
        refine lv_icmp_lt (tgt := 95) hx hb d_Mo_isBetween_77 (by decide) (fun hc => ?_) (fun hc => ?_)
        · rw [if_pos hc] at h
          refine lv_iconst (v := 0) hx hb d_Mo_isBetween_95 (by decide) ?_
          exact hj3 _ h _ _ hP hD hS ls (lv_sub hl [0, 1, 2, 3, 4, 5] rfl)
        · rw [if_neg hc] at h
          refine lv_iload hx hb d_Mo_isBetween_80 (lv_at hl 5 rfl) ?_
          refine lv_aload_n hx hb d_Mo_isBetween_82 rfl (lv_at hl 1 rfl) ?_
          refine va_get (D := D) (ci := 5) (v := .ref a_second) (C := R_Mo) (T := T_Mo) (N := 26) hx hb hts (fun w h9 => ct_in (iw_Mo w h9)) hown hK hP 0 rfl rfl 4 (by decide) (hts _ (ct_in k_206)) (fun _ h9 => h9) rfl d_Mo_isBetween_83 ?_
          refine lv_iload_n hx hb d_Mo_isBetween_86 rfl (lv_at hl 2 rfl) ?_
          obtain ⟨hin, h⟩ := ct_chk h
          refine va_iald hx hb hK hP 2 0 rfl rfl hin d_Mo_isBetween_87 ?_
          refine lv_icmp_gt (tgt := 95) hx hb d_Mo_isBetween_88 (by decide) (fun hc => ?_) (fun hc => ?_)
          · rw [if_pos hc] at h
            refine lv_iconst (v := 0) hx hb d_Mo_isBetween_95 (by decide) ?_
            exact hj3 _ h _ _ hP hD hS ls (lv_sub hl [0, 1, 2, 3, 4, 5] rfl)
          · rw [if_neg hc] at h
            refine lv_iconst (v := 1) hx hb d_Mo_isBetween_91 (by decide) ?_
            refine lv_goto (tgt := 96) hx hb d_Mo_isBetween_92 (by decide) ?_
            exact hj3 _ h _ _ hP hD hS ls (lv_sub hl [0, 1, 2, 3, 4, 5] rfl)
  clear hjd2
  refine lv_icmp_lt (tgt := 20) hx hb d_Mo_isBetween_7 (by decide) (fun hc => ?_) (fun hc => ?_)
  · rw [if_pos hc] at h
    refine lv_iload_n hx hb d_Mo_isBetween_20 rfl (lv_at hl 3 rfl) ?_
    refine lv_aload_n hx hb d_Mo_isBetween_21 rfl (lv_at hl 0 rfl) ?_
    refine va_get (D := D) (ci := 5) (v := .ref a_first) (C := R_Mo) (T := T_Mo) (N := 26) hx hb hts (fun w h9 => ct_in (iw_Mo w h9)) hown hK hP 0 rfl rfl 3 (by decide) (hts _ (ct_in k_205)) (fun _ h9 => h9) rfl d_Mo_isBetween_22 ?_
    refine lv_iload_n hx hb d_Mo_isBetween_25 rfl (lv_at hl 2 rfl) ?_
    obtain ⟨hin, h⟩ := ct_chk h
    refine va_iald hx hb hK hP 1 0 rfl rfl hin d_Mo_isBetween_26 ?_
    refine lv_icmp_lt (tgt := 44) hx hb d_Mo_isBetween_27 (by decide) (fun hc => ?_) (fun hc => ?_)
    · rw [if_pos hc] at h
      refine lv_iconst (v := 0) hx hb d_Mo_isBetween_44 (by decide) ?_
      exact hj2 _ h _ _ hP hD hS ls (lv_sub hl [0, 1, 2, 3, 4] rfl)
    · rw [if_neg hc] at h
      refine lv_iload_n hx hb d_Mo_isBetween_30 rfl (lv_at hl 3 rfl) ?_
      refine lv_aload_n hx hb d_Mo_isBetween_31 rfl (lv_at hl 0 rfl) ?_
      refine va_get (D := D) (ci := 5) (v := .ref a_first) (C := R_Mo) (T := T_Mo) (N := 26) hx hb hts (fun w h9 => ct_in (iw_Mo w h9)) hown hK hP 0 rfl rfl 3 (by decide) (hts _ (ct_in k_205)) (fun _ h9 => h9) rfl d_Mo_isBetween_32 ?_
      refine lv_iload_n hx hb d_Mo_isBetween_35 rfl (lv_at hl 1 rfl) ?_
      obtain ⟨hin, h⟩ := ct_chk h
      refine va_iald hx hb hK hP 1 0 rfl rfl hin d_Mo_isBetween_36 ?_
      refine lv_icmp_gt (tgt := 44) hx hb d_Mo_isBetween_37 (by decide) (fun hc => ?_) (fun hc => ?_)
      · rw [if_pos hc] at h
        refine lv_iconst (v := 0) hx hb d_Mo_isBetween_44 (by decide) ?_
        exact hj2 _ h _ _ hP hD hS ls (lv_sub hl [0, 1, 2, 3, 4] rfl)
      · rw [if_neg hc] at h
        refine lv_iconst (v := 1) hx hb d_Mo_isBetween_40 (by decide) ?_
        refine lv_goto (tgt := 45) hx hb d_Mo_isBetween_41 (by decide) ?_
        exact hj2 _ h _ _ hP hD hS ls (lv_sub hl [0, 1, 2, 3, 4] rfl)
  · rw [if_neg hc] at h
    refine lv_iload_n hx hb d_Mo_isBetween_10 rfl (lv_at hl 3 rfl) ?_
    refine lv_aload_n hx hb d_Mo_isBetween_11 rfl (lv_at hl 0 rfl) ?_
    refine va_get (D := D) (ci := 5) (v := .ref a_first) (C := R_Mo) (T := T_Mo) (N := 26) hx hb hts (fun w h9 => ct_in (iw_Mo w h9)) hown hK hP 0 rfl rfl 3 (by decide) (hts _ (ct_in k_205)) (fun _ h9 => h9) rfl d_Mo_isBetween_12 ?_
    refine lv_iload_n hx hb d_Mo_isBetween_15 rfl (lv_at hl 2 rfl) ?_
    obtain ⟨hin, h⟩ := ct_chk h
    refine va_iald hx hb hK hP 1 0 rfl rfl hin d_Mo_isBetween_16 ?_
    refine lv_icmp_le (tgt := 40) hx hb d_Mo_isBetween_17 (by decide) (fun hc => ?_) (fun hc => ?_)
    · rw [if_pos hc] at h
      refine lv_iconst (v := 1) hx hb d_Mo_isBetween_40 (by decide) ?_
      refine lv_goto (tgt := 45) hx hb d_Mo_isBetween_41 (by decide) ?_
      exact hj2 _ h _ _ hP hD hS ls (lv_sub hl [0, 1, 2, 3, 4] rfl)
    · rw [if_neg hc] at h
      refine lv_iload_n hx hb d_Mo_isBetween_20 rfl (lv_at hl 3 rfl) ?_
      refine lv_aload_n hx hb d_Mo_isBetween_21 rfl (lv_at hl 0 rfl) ?_
      refine va_get (D := D) (ci := 5) (v := .ref a_first) (C := R_Mo) (T := T_Mo) (N := 26) hx hb hts (fun w h9 => ct_in (iw_Mo w h9)) hown hK hP 0 rfl rfl 3 (by decide) (hts _ (ct_in k_205)) (fun _ h9 => h9) rfl d_Mo_isBetween_22 ?_
      refine lv_iload_n hx hb d_Mo_isBetween_25 rfl (lv_at hl 2 rfl) ?_
      obtain ⟨hin, h⟩ := ct_chk h
      refine va_iald hx hb hK hP 1 0 rfl rfl hin d_Mo_isBetween_26 ?_
      refine lv_icmp_lt (tgt := 44) hx hb d_Mo_isBetween_27 (by decide) (fun hc => ?_) (fun hc => ?_)
      · rw [if_pos hc] at h
        refine lv_iconst (v := 0) hx hb d_Mo_isBetween_44 (by decide) ?_
        exact hj2 _ h _ _ hP hD hS ls (lv_sub hl [0, 1, 2, 3, 4] rfl)
      · rw [if_neg hc] at h
        refine lv_iload_n hx hb d_Mo_isBetween_30 rfl (lv_at hl 3 rfl) ?_
        refine lv_aload_n hx hb d_Mo_isBetween_31 rfl (lv_at hl 0 rfl) ?_
        refine va_get (D := D) (ci := 5) (v := .ref a_first) (C := R_Mo) (T := T_Mo) (N := 26) hx hb hts (fun w h9 => ct_in (iw_Mo w h9)) hown hK hP 0 rfl rfl 3 (by decide) (hts _ (ct_in k_205)) (fun _ h9 => h9) rfl d_Mo_isBetween_32 ?_
        refine lv_iload_n hx hb d_Mo_isBetween_35 rfl (lv_at hl 1 rfl) ?_
        obtain ⟨hin, h⟩ := ct_chk h
        refine va_iald hx hb hK hP 1 0 rfl rfl hin d_Mo_isBetween_36 ?_
        refine lv_icmp_gt (tgt := 44) hx hb d_Mo_isBetween_37 (by decide) (fun hc => ?_) (fun hc => ?_)
        · rw [if_pos hc] at h
          refine lv_iconst (v := 0) hx hb d_Mo_isBetween_44 (by decide) ?_
          exact hj2 _ h _ _ hP hD hS ls (lv_sub hl [0, 1, 2, 3, 4] rfl)
        · rw [if_neg hc] at h
          refine lv_iconst (v := 1) hx hb d_Mo_isBetween_40 (by decide) ?_
          refine lv_goto (tgt := 45) hx hb d_Mo_isBetween_41 (by decide) ?_
          exact hj2 _ h _ _ hP hD hS ls (lv_sub hl [0, 1, 2, 3, 4] rfl)
set_option maxHeartbeats 4000000 in
set_option maxRecDepth 100000 in
theorem c_Mo_isBetween (l : Launch) (D : va_G) (cI cL cZ : ClassId) (tA tB sz : Nat) (a_this a_first a_second a_numbers a_basis a_table a_weightAbove a_weightBelow a_rowAbove a_rowBelow a_left a_madeAbove a_madeBelow a_freeFirst a_freeSecond a_hangFirst a_hangSecond a_tried a_count : Nat) (p0 : Int32) (p1 : Int32) (p2 : Int32) (p3 : Int32) (v_thrown : Int32) (v_unknowns : Int32) (v_powers : Int32) (v_members : Int32) (v_isThere : Int32) (v_squares : Int32) (v_madeSquares : Int32) (v_frees : Int32) (v_first : Nat → Int32) (v_second : Nat → Int32) (o_r : Int32) (A : Nat → Prop) (hAe : A = va_A [(a_this, .inr (5, [.int v_thrown, .int v_unknowns, .int v_powers, .ref a_first, .ref a_second, .ref a_numbers, .int v_members, .ref a_basis, .ref a_table, .int v_isThere, .int v_squares, .ref a_weightAbove, .ref a_weightBelow, .ref a_rowAbove, .ref a_rowBelow, .ref a_left, .int v_madeSquares, .ref a_madeAbove, .ref a_madeBelow, .int v_frees, .ref a_freeFirst, .ref a_freeSecond, .ref a_hangFirst, .ref a_hangSecond, .ref a_tried, .ref a_count])), (a_first, .inl (cI, 15, .inl v_first)), (a_second, .inl (cI, 15, .inl v_second))] sz) (h : f_Mo_isBetween p0 p1 p2 p3 v_first v_second = some o_r) : Met l y_Mo_isBetween wd_Mo_isBetween rm_Mo_isBetween (ct_Pre D (ct_tys cI cL cZ) tA tB [(a_this, .inr (5, [.int v_thrown, .int v_unknowns, .int v_powers, .ref a_first, .ref a_second, .ref a_numbers, .int v_members, .ref a_basis, .ref a_table, .int v_isThere, .int v_squares, .ref a_weightAbove, .ref a_weightBelow, .ref a_rowAbove, .ref a_rowBelow, .ref a_left, .int v_madeSquares, .ref a_madeAbove, .ref a_madeBelow, .int v_frees, .ref a_freeFirst, .ref a_freeSecond, .ref a_hangFirst, .ref a_hangSecond, .ref a_tried, .ref a_count])), (a_first, .inl (cI, 15, .inl v_first)), (a_second, .inl (cI, 15, .inl v_second))] sz [.ref a_this, .int p0, .int p1, .int p2, .int p3]) (ct_Qi D [(a_this, .inr (5, [.int v_thrown, .int v_unknowns, .int v_powers, .ref a_first, .ref a_second, .ref a_numbers, .int v_members, .ref a_basis, .ref a_table, .int v_isThere, .int v_squares, .ref a_weightAbove, .ref a_weightBelow, .ref a_rowAbove, .ref a_rowBelow, .ref a_left, .int v_madeSquares, .ref a_madeAbove, .ref a_madeBelow, .int v_frees, .ref a_freeFirst, .ref a_freeSecond, .ref a_hangFirst, .ref a_hangSecond, .ref a_tried, .ref a_count])), (a_first, .inl (cI, 15, .inl v_first)), (a_second, .inl (cI, 15, .inl v_second))] A o_r) 0 0 A := by
  refine Met.ofW (cc := b_Mo_isBetween) (maxL := 7) (ret := (some .boolean)) (by decide) rfl ?_
  intro p e s m args below meth c s₁ B hml hv
  obtain ⟨hargs, hsz, hP, hK, hD0, hT⟩ := hv
  subst hsz
  have hD := hD0.self (sz := s.heap.size)
  rw [← hAe] at hD hT
  have hA : ∀ q : Nat, s.heap.size ≤ q → A q := fun q h => by rw [hAe]; exact Or.inr h
  clear hAe
  have cx : ct_Cx p s m args meth c b_Mo_isBetween 7 (some .boolean) R_Mo wd_Mo_isBetween D (ct_tys cI cL cZ) tA tB A := ⟨B.exec, B.bytes, B.returns, hml, findClass_of_methodNamed B.named, atoms_spec (ws := wd_Mo_isBetween) B.pre, hK, hA, hT, B.notSynchronized, hT.1, hT.2.1, hT.2.2.1, hT.2.2.2.1, hT.2.2.2.2⟩
  have hl := lv_entry ([.ref a_this, .int p0, .int p1, .int p2, .int p3]) (n := 7) (Nat.le_of_ble_eq_true rfl)
  rw [show entryFrame m args 7 = entryFrame m ([.ref a_this, .int p0, .int p1, .int p2, .int p3] : List Value).toArray 7 by rw [hargs], lg_entry_eq]
  exact w_Mo_isBetween cx h _ _ hP hD va_S.rf _ hl
abbrev rm_Mo_covers : Room := { frames := 2, cells := 0, slots := 0, locals := 50 }
abbrev wd_Mo_covers : List Cond := .code y_Mo_covers b_Mo_covers 9 (some .boolean) :: ct_G
def f_Mo_covers (p0 : Int32) (p1 : Int32) (p2 : Int32) (p3 : Int32) (p4 : Int32) (v_first : Nat → Int32) (v_second : Nat → Int32) : Option (Int32) := ((f_Mo_isBetween p0 p1 p3 p4 v_first v_second).bind (fun r_1 => (if r_1 = 0 then ((f_Mo_isBetween p1 p2 p3 p4 v_first v_second).bind (fun r_2 => (if r_2 = 0 then ((f_Mo_isBetween p0 p2 p3 p4 v_first v_second).bind (fun r_3 => (if r_3 = 0 then ((f_Mo_area p0 p1 p3 p4 v_first v_second).bind (fun r_4 => ((f_Mo_area p1 p2 p3 p4 v_first v_second).bind (fun r_5 => ((f_Mo_area p2 p0 p3 p4 v_first v_second).bind (fun r_6 => (if r_4 ≤ 0 then (if 0 ≤ r_4 then some (0 : Int32) else (if 0 ≤ r_5 then some (0 : Int32) else (if 0 ≤ r_6 then some (0 : Int32) else some (1 : Int32)))) else (if r_5 ≤ 0 then (if 0 ≤ r_4 then some (0 : Int32) else (if 0 ≤ r_5 then some (0 : Int32) else (if 0 ≤ r_6 then some (0 : Int32) else some (1 : Int32)))) else (if 0 < r_6 then some (1 : Int32) else (if 0 ≤ r_4 then some (0 : Int32) else (if 0 ≤ r_5 then some (0 : Int32) else (if 0 ≤ r_6 then some (0 : Int32) else some (1 : Int32))))))))))))) else some (1 : Int32)))) else some (1 : Int32)))) else some (1 : Int32))))
set_option maxHeartbeats 4000000 in
set_option maxRecDepth 100000 in
theorem w_Mo_covers {p : Program} {l : Launch} {e : Env} {s : State} {m : MethodId} {args : Array Value} {below : List Frame} {meth : Method} {c : Code} {D : va_G} {cI cL cZ : ClassId} {tA tB : Nat} {A : Nat → Prop} {a_this a_first a_second a_numbers a_basis a_table a_weightAbove a_weightBelow a_rowAbove a_rowBelow a_left a_madeAbove a_madeBelow a_freeFirst a_freeSecond a_hangFirst a_hangSecond a_tried a_count : Nat} {p0 : Int32} {p1 : Int32} {p2 : Int32} {p3 : Int32} {p4 : Int32} {v_thrown : Int32} {v_unknowns : Int32} {v_powers : Int32} {v_members : Int32} {v_isThere : Int32} {v_squares : Int32} {v_madeSquares : Int32} {v_frees : Int32} {v_first : Nat → Int32} {v_second : Nat → Int32} {o_r : Int32} (cx : ct_Cx p s m args meth c b_Mo_covers 9 (some .boolean) R_Mo wd_Mo_covers D (ct_tys cI cL cZ) tA tB A) (h : f_Mo_covers p0 p1 p2 p3 p4 v_first v_second = some o_r) : ∀ (H : Heap) (locs : List Loc), va_P D vwCl [(a_this, .inr (5, [.int v_thrown, .int v_unknowns, .int v_powers, .ref a_first, .ref a_second, .ref a_numbers, .int v_members, .ref a_basis, .ref a_table, .int v_isThere, .int v_squares, .ref a_weightAbove, .ref a_weightBelow, .ref a_rowAbove, .ref a_rowBelow, .ref a_left, .int v_madeSquares, .ref a_madeAbove, .ref a_madeBelow, .int v_frees, .ref a_freeFirst, .ref a_freeSecond, .ref a_hangFirst, .ref a_hangSecond, .ref a_tried, .ref a_count])), (a_first, .inl (cI, 15, .inl v_first)), (a_second, .inl (cI, 15, .inl v_second))] H → va_D A [(a_this, .inr (5, [.int v_thrown, .int v_unknowns, .int v_powers, .ref a_first, .ref a_second, .ref a_numbers, .int v_members, .ref a_basis, .ref a_table, .int v_isThere, .int v_squares, .ref a_weightAbove, .ref a_weightBelow, .ref a_rowAbove, .ref a_rowBelow, .ref a_left, .int v_madeSquares, .ref a_madeAbove, .ref a_madeBelow, .int v_frees, .ref a_freeFirst, .ref a_freeSecond, .ref a_hangFirst, .ref a_hangSecond, .ref a_tried, .ref a_count])), (a_first, .inl (cI, 15, .inl v_first)), (a_second, .inl (cI, 15, .inl v_second))] → va_S A s.heap H locs → ∀ ls : Array Slot, lv_has ls 9 [(0, .ref a_this), (1, .int p0), (2, .int p1), (3, .int p2), (4, .int p3), (5, .int p4)] → W p l e (headSpec wd_Mo_covers rm_Mo_covers).room s m args below meth c H locs 0 0 (MQ below (ct_Qi D [(a_this, .inr (5, [.int v_thrown, .int v_unknowns, .int v_powers, .ref a_first, .ref a_second, .ref a_numbers, .int v_members, .ref a_basis, .ref a_table, .int v_isThere, .int v_squares, .ref a_weightAbove, .ref a_weightBelow, .ref a_rowAbove, .ref a_rowBelow, .ref a_left, .int v_madeSquares, .ref a_madeAbove, .ref a_madeBelow, .int v_frees, .ref a_freeFirst, .ref a_freeSecond, .ref a_hangFirst, .ref a_hangSecond, .ref a_tried, .ref a_count])), (a_first, .inl (cI, 15, .inl v_first)), (a_second, .inl (cI, 15, .inl v_second))] A o_r) args s 0 0 A) (F0 m 0 ls []) := by
  obtain ⟨hx, hb, hr, hml, hown, hts, hK, hA, hT, hlocks, hZA, hZB, hTA, hTB, hnw⟩ := id cx
  intro H locs hP hD hS ls hl
  rw [f_Mo_covers] at h
  refine lv_aload_n hx hb d_Mo_covers_0 rfl (lv_at hl 0 rfl) ?_
  refine lv_iload_n hx hb d_Mo_covers_1 rfl (lv_at hl 1 rfl) ?_
  refine lv_iload_n hx hb d_Mo_covers_2 rfl (lv_at hl 2 rfl) ?_
  refine lv_iload hx hb d_Mo_covers_3 (lv_at hl 4 rfl) ?_
  refine lv_iload hx hb d_Mo_covers_5 (lv_at hl 5 rfl) ?_
  obtain ⟨r_1, ho, h⟩ := Option.bind_eq_some_iff.mp h
  refine ct_calli (wc := [(a_this, .inr (5, [.int v_thrown, .int v_unknowns, .int v_powers, .ref a_first, .ref a_second, .ref a_numbers, .int v_members, .ref a_basis, .ref a_table, .int v_isThere, .int v_squares, .ref a_weightAbove, .ref a_weightBelow, .ref a_rowAbove, .ref a_rowBelow, .ref a_left, .int v_madeSquares, .ref a_madeAbove, .ref a_madeBelow, .int v_frees, .ref a_freeFirst, .ref a_freeSecond, .ref a_hangFirst, .ref a_hangSecond, .ref a_tried, .ref a_count])), (a_first, .inl (cI, 15, .inl v_first)), (a_second, .inl (cI, 15, .inl v_second))]) (wr := []) (wc' := [(a_this, .inr (5, [.int v_thrown, .int v_unknowns, .int v_powers, .ref a_first, .ref a_second, .ref a_numbers, .int v_members, .ref a_basis, .ref a_table, .int v_isThere, .int v_squares, .ref a_weightAbove, .ref a_weightBelow, .ref a_rowAbove, .ref a_rowBelow, .ref a_left, .int v_madeSquares, .ref a_madeAbove, .ref a_madeBelow, .int v_frees, .ref a_freeFirst, .ref a_freeSecond, .ref a_hangFirst, .ref a_hangSecond, .ref a_tried, .ref a_count])), (a_first, .inl (cI, 15, .inl v_first)), (a_second, .inl (cI, 15, .inl v_second))]) (ws' := [(a_this, .inr (5, [.int v_thrown, .int v_unknowns, .int v_powers, .ref a_first, .ref a_second, .ref a_numbers, .int v_members, .ref a_basis, .ref a_table, .int v_isThere, .int v_squares, .ref a_weightAbove, .ref a_weightBelow, .ref a_rowAbove, .ref a_rowBelow, .ref a_left, .int v_madeSquares, .ref a_madeAbove, .ref a_madeBelow, .int v_frees, .ref a_freeFirst, .ref a_freeSecond, .ref a_hangFirst, .ref a_hangSecond, .ref a_tried, .ref a_count])), (a_first, .inl (cI, 15, .inl v_first)), (a_second, .inl (cI, 15, .inl v_second))]) (va_runV (As := [.int p0, .int p1, .int p3, .int p4]) (rest := []) ⟨hx, hb, hml, hown, hts⟩ (c_Mo_isBetween l D cI cL cZ tA tB H.size a_this a_first a_second a_numbers a_basis a_table a_weightAbove a_weightBelow a_rowAbove a_rowBelow a_left a_madeAbove a_madeBelow a_freeFirst a_freeSecond a_hangFirst a_hangSecond a_tried a_count p0 p1 p3 p4 v_thrown v_unknowns v_powers v_members v_isThere v_squares v_madeSquares v_frees v_first v_second r_1 _ rfl ho) (cwV 4 hts (ct_goodV k_216 k_214 k_215 k_209 k_213) rfl rfl rfl (by decide +kernel) ⟨Nat.le_of_ble_eq_true rfl, Nat.le_of_ble_eq_true rfl⟩) (ct_preV (wc := [(a_this, .inr (5, [.int v_thrown, .int v_unknowns, .int v_powers, .ref a_first, .ref a_second, .ref a_numbers, .int v_members, .ref a_basis, .ref a_table, .int v_isThere, .int v_squares, .ref a_weightAbove, .ref a_weightBelow, .ref a_rowAbove, .ref a_rowBelow, .ref a_left, .int v_madeSquares, .ref a_madeAbove, .ref a_madeBelow, .int v_frees, .ref a_freeFirst, .ref a_freeSecond, .ref a_hangFirst, .ref a_hangSecond, .ref a_tried, .ref a_count])), (a_first, .inl (cI, 15, .inl v_first)), (a_second, .inl (cI, 15, .inl v_second))]) hP hD hK hS hA hT [0, 1, 2] rfl (by decide) (ci := 5) (q0 := 0) rfl rfl) rfl rfl hl.1 rfl (lv_room (Nat.le_of_ble_eq_true rfl)) d_Mo_covers_7 ⟨Nat.zero_le _, Nat.zero_le _⟩) hP hD hS hA [0, 1, 2] [] rfl rfl (by decide) (by decide) [0, 1, 2] rfl (by decide) (fun H locs hP hD hS => ?_)
  refine lv_if_ne (tgt := 39) hx hb d_Mo_covers_10 (by decide) (fun hc => ?_) (fun hc => ?_)
  · rw [if_neg hc] at h
    refine lv_iconst (v := 1) hx hb d_Mo_covers_39 (by decide) ?_
    cases h
    exact W.zret hx hb hr rfl (fun t ht hW => ⟨⟨_, (), rfl, rfl, by rw [ht]; exact hP, hD⟩, hS.F ht⟩) hS.2.2 d_Mo_covers_40
  · rw [if_pos hc] at h
    refine lv_aload_n hx hb d_Mo_covers_13 rfl (lv_at hl 0 rfl) ?_
    refine lv_iload_n hx hb d_Mo_covers_14 rfl (lv_at hl 2 rfl) ?_
    refine lv_iload_n hx hb d_Mo_covers_15 rfl (lv_at hl 3 rfl) ?_
    refine lv_iload hx hb d_Mo_covers_16 (lv_at hl 4 rfl) ?_
    refine lv_iload hx hb d_Mo_covers_18 (lv_at hl 5 rfl) ?_
    obtain ⟨r_2, ho, h⟩ := Option.bind_eq_some_iff.mp h
    refine ct_calli (wc := [(a_this, .inr (5, [.int v_thrown, .int v_unknowns, .int v_powers, .ref a_first, .ref a_second, .ref a_numbers, .int v_members, .ref a_basis, .ref a_table, .int v_isThere, .int v_squares, .ref a_weightAbove, .ref a_weightBelow, .ref a_rowAbove, .ref a_rowBelow, .ref a_left, .int v_madeSquares, .ref a_madeAbove, .ref a_madeBelow, .int v_frees, .ref a_freeFirst, .ref a_freeSecond, .ref a_hangFirst, .ref a_hangSecond, .ref a_tried, .ref a_count])), (a_first, .inl (cI, 15, .inl v_first)), (a_second, .inl (cI, 15, .inl v_second))]) (wr := []) (wc' := [(a_this, .inr (5, [.int v_thrown, .int v_unknowns, .int v_powers, .ref a_first, .ref a_second, .ref a_numbers, .int v_members, .ref a_basis, .ref a_table, .int v_isThere, .int v_squares, .ref a_weightAbove, .ref a_weightBelow, .ref a_rowAbove, .ref a_rowBelow, .ref a_left, .int v_madeSquares, .ref a_madeAbove, .ref a_madeBelow, .int v_frees, .ref a_freeFirst, .ref a_freeSecond, .ref a_hangFirst, .ref a_hangSecond, .ref a_tried, .ref a_count])), (a_first, .inl (cI, 15, .inl v_first)), (a_second, .inl (cI, 15, .inl v_second))]) (ws' := [(a_this, .inr (5, [.int v_thrown, .int v_unknowns, .int v_powers, .ref a_first, .ref a_second, .ref a_numbers, .int v_members, .ref a_basis, .ref a_table, .int v_isThere, .int v_squares, .ref a_weightAbove, .ref a_weightBelow, .ref a_rowAbove, .ref a_rowBelow, .ref a_left, .int v_madeSquares, .ref a_madeAbove, .ref a_madeBelow, .int v_frees, .ref a_freeFirst, .ref a_freeSecond, .ref a_hangFirst, .ref a_hangSecond, .ref a_tried, .ref a_count])), (a_first, .inl (cI, 15, .inl v_first)), (a_second, .inl (cI, 15, .inl v_second))]) (va_runV (As := [.int p1, .int p2, .int p3, .int p4]) (rest := []) ⟨hx, hb, hml, hown, hts⟩ (c_Mo_isBetween l D cI cL cZ tA tB H.size a_this a_first a_second a_numbers a_basis a_table a_weightAbove a_weightBelow a_rowAbove a_rowBelow a_left a_madeAbove a_madeBelow a_freeFirst a_freeSecond a_hangFirst a_hangSecond a_tried a_count p1 p2 p3 p4 v_thrown v_unknowns v_powers v_members v_isThere v_squares v_madeSquares v_frees v_first v_second r_2 _ rfl ho) (cwV 4 hts (ct_goodV k_216 k_214 k_215 k_209 k_213) rfl rfl rfl (by decide +kernel) ⟨Nat.le_of_ble_eq_true rfl, Nat.le_of_ble_eq_true rfl⟩) (ct_preV (wc := [(a_this, .inr (5, [.int v_thrown, .int v_unknowns, .int v_powers, .ref a_first, .ref a_second, .ref a_numbers, .int v_members, .ref a_basis, .ref a_table, .int v_isThere, .int v_squares, .ref a_weightAbove, .ref a_weightBelow, .ref a_rowAbove, .ref a_rowBelow, .ref a_left, .int v_madeSquares, .ref a_madeAbove, .ref a_madeBelow, .int v_frees, .ref a_freeFirst, .ref a_freeSecond, .ref a_hangFirst, .ref a_hangSecond, .ref a_tried, .ref a_count])), (a_first, .inl (cI, 15, .inl v_first)), (a_second, .inl (cI, 15, .inl v_second))]) hP hD hK hS hA hT [0, 1, 2] rfl (by decide) (ci := 5) (q0 := 0) rfl rfl) rfl rfl hl.1 rfl (lv_room (Nat.le_of_ble_eq_true rfl)) d_Mo_covers_20 ⟨Nat.zero_le _, Nat.zero_le _⟩) hP hD hS hA [0, 1, 2] [] rfl rfl (by decide) (by decide) [0, 1, 2] rfl (by decide) (fun H locs hP hD hS => ?_)
    refine lv_if_ne (tgt := 39) hx hb d_Mo_covers_23 (by decide) (fun hc => ?_) (fun hc => ?_)
    · rw [if_neg hc] at h
      refine lv_iconst (v := 1) hx hb d_Mo_covers_39 (by decide) ?_
      cases h
      exact W.zret hx hb hr rfl (fun t ht hW => ⟨⟨_, (), rfl, rfl, by rw [ht]; exact hP, hD⟩, hS.F ht⟩) hS.2.2 d_Mo_covers_40
    · rw [if_pos hc] at h
      refine lv_aload_n hx hb d_Mo_covers_26 rfl (lv_at hl 0 rfl) ?_
      refine lv_iload_n hx hb d_Mo_covers_27 rfl (lv_at hl 1 rfl) ?_
      refine lv_iload_n hx hb d_Mo_covers_28 rfl (lv_at hl 3 rfl) ?_
      refine lv_iload hx hb d_Mo_covers_29 (lv_at hl 4 rfl) ?_
      refine lv_iload hx hb d_Mo_covers_31 (lv_at hl 5 rfl) ?_
      obtain ⟨r_3, ho, h⟩ := Option.bind_eq_some_iff.mp h
      refine ct_calli (wc := [(a_this, .inr (5, [.int v_thrown, .int v_unknowns, .int v_powers, .ref a_first, .ref a_second, .ref a_numbers, .int v_members, .ref a_basis, .ref a_table, .int v_isThere, .int v_squares, .ref a_weightAbove, .ref a_weightBelow, .ref a_rowAbove, .ref a_rowBelow, .ref a_left, .int v_madeSquares, .ref a_madeAbove, .ref a_madeBelow, .int v_frees, .ref a_freeFirst, .ref a_freeSecond, .ref a_hangFirst, .ref a_hangSecond, .ref a_tried, .ref a_count])), (a_first, .inl (cI, 15, .inl v_first)), (a_second, .inl (cI, 15, .inl v_second))]) (wr := []) (wc' := [(a_this, .inr (5, [.int v_thrown, .int v_unknowns, .int v_powers, .ref a_first, .ref a_second, .ref a_numbers, .int v_members, .ref a_basis, .ref a_table, .int v_isThere, .int v_squares, .ref a_weightAbove, .ref a_weightBelow, .ref a_rowAbove, .ref a_rowBelow, .ref a_left, .int v_madeSquares, .ref a_madeAbove, .ref a_madeBelow, .int v_frees, .ref a_freeFirst, .ref a_freeSecond, .ref a_hangFirst, .ref a_hangSecond, .ref a_tried, .ref a_count])), (a_first, .inl (cI, 15, .inl v_first)), (a_second, .inl (cI, 15, .inl v_second))]) (ws' := [(a_this, .inr (5, [.int v_thrown, .int v_unknowns, .int v_powers, .ref a_first, .ref a_second, .ref a_numbers, .int v_members, .ref a_basis, .ref a_table, .int v_isThere, .int v_squares, .ref a_weightAbove, .ref a_weightBelow, .ref a_rowAbove, .ref a_rowBelow, .ref a_left, .int v_madeSquares, .ref a_madeAbove, .ref a_madeBelow, .int v_frees, .ref a_freeFirst, .ref a_freeSecond, .ref a_hangFirst, .ref a_hangSecond, .ref a_tried, .ref a_count])), (a_first, .inl (cI, 15, .inl v_first)), (a_second, .inl (cI, 15, .inl v_second))]) (va_runV (As := [.int p0, .int p2, .int p3, .int p4]) (rest := []) ⟨hx, hb, hml, hown, hts⟩ (c_Mo_isBetween l D cI cL cZ tA tB H.size a_this a_first a_second a_numbers a_basis a_table a_weightAbove a_weightBelow a_rowAbove a_rowBelow a_left a_madeAbove a_madeBelow a_freeFirst a_freeSecond a_hangFirst a_hangSecond a_tried a_count p0 p2 p3 p4 v_thrown v_unknowns v_powers v_members v_isThere v_squares v_madeSquares v_frees v_first v_second r_3 _ rfl ho) (cwV 4 hts (ct_goodV k_216 k_214 k_215 k_209 k_213) rfl rfl rfl (by decide +kernel) ⟨Nat.le_of_ble_eq_true rfl, Nat.le_of_ble_eq_true rfl⟩) (ct_preV (wc := [(a_this, .inr (5, [.int v_thrown, .int v_unknowns, .int v_powers, .ref a_first, .ref a_second, .ref a_numbers, .int v_members, .ref a_basis, .ref a_table, .int v_isThere, .int v_squares, .ref a_weightAbove, .ref a_weightBelow, .ref a_rowAbove, .ref a_rowBelow, .ref a_left, .int v_madeSquares, .ref a_madeAbove, .ref a_madeBelow, .int v_frees, .ref a_freeFirst, .ref a_freeSecond, .ref a_hangFirst, .ref a_hangSecond, .ref a_tried, .ref a_count])), (a_first, .inl (cI, 15, .inl v_first)), (a_second, .inl (cI, 15, .inl v_second))]) hP hD hK hS hA hT [0, 1, 2] rfl (by decide) (ci := 5) (q0 := 0) rfl rfl) rfl rfl hl.1 rfl (lv_room (Nat.le_of_ble_eq_true rfl)) d_Mo_covers_33 ⟨Nat.zero_le _, Nat.zero_le _⟩) hP hD hS hA [0, 1, 2] [] rfl rfl (by decide) (by decide) [0, 1, 2] rfl (by decide) (fun H locs hP hD hS => ?_)
      refine lv_if_eq (tgt := 41) hx hb d_Mo_covers_36 (by decide) (fun hc => ?_) (fun hc => ?_)
      · rw [if_pos hc] at h
        refine lv_aload_n hx hb d_Mo_covers_41 rfl (lv_at hl 0 rfl) ?_
        refine lv_iload_n hx hb d_Mo_covers_42 rfl (lv_at hl 1 rfl) ?_
        refine lv_iload_n hx hb d_Mo_covers_43 rfl (lv_at hl 2 rfl) ?_
        refine lv_iload hx hb d_Mo_covers_44 (lv_at hl 4 rfl) ?_
        refine lv_iload hx hb d_Mo_covers_46 (lv_at hl 5 rfl) ?_
        obtain ⟨r_4, ho, h⟩ := Option.bind_eq_some_iff.mp h
        refine ct_calli (wc := [(a_this, .inr (5, [.int v_thrown, .int v_unknowns, .int v_powers, .ref a_first, .ref a_second, .ref a_numbers, .int v_members, .ref a_basis, .ref a_table, .int v_isThere, .int v_squares, .ref a_weightAbove, .ref a_weightBelow, .ref a_rowAbove, .ref a_rowBelow, .ref a_left, .int v_madeSquares, .ref a_madeAbove, .ref a_madeBelow, .int v_frees, .ref a_freeFirst, .ref a_freeSecond, .ref a_hangFirst, .ref a_hangSecond, .ref a_tried, .ref a_count])), (a_first, .inl (cI, 15, .inl v_first)), (a_second, .inl (cI, 15, .inl v_second))]) (wr := []) (wc' := [(a_this, .inr (5, [.int v_thrown, .int v_unknowns, .int v_powers, .ref a_first, .ref a_second, .ref a_numbers, .int v_members, .ref a_basis, .ref a_table, .int v_isThere, .int v_squares, .ref a_weightAbove, .ref a_weightBelow, .ref a_rowAbove, .ref a_rowBelow, .ref a_left, .int v_madeSquares, .ref a_madeAbove, .ref a_madeBelow, .int v_frees, .ref a_freeFirst, .ref a_freeSecond, .ref a_hangFirst, .ref a_hangSecond, .ref a_tried, .ref a_count])), (a_first, .inl (cI, 15, .inl v_first)), (a_second, .inl (cI, 15, .inl v_second))]) (ws' := [(a_this, .inr (5, [.int v_thrown, .int v_unknowns, .int v_powers, .ref a_first, .ref a_second, .ref a_numbers, .int v_members, .ref a_basis, .ref a_table, .int v_isThere, .int v_squares, .ref a_weightAbove, .ref a_weightBelow, .ref a_rowAbove, .ref a_rowBelow, .ref a_left, .int v_madeSquares, .ref a_madeAbove, .ref a_madeBelow, .int v_frees, .ref a_freeFirst, .ref a_freeSecond, .ref a_hangFirst, .ref a_hangSecond, .ref a_tried, .ref a_count])), (a_first, .inl (cI, 15, .inl v_first)), (a_second, .inl (cI, 15, .inl v_second))]) (va_runV (As := [.int p0, .int p1, .int p3, .int p4]) (rest := []) ⟨hx, hb, hml, hown, hts⟩ (c_Mo_area l D cI cL cZ tA tB H.size a_this a_first a_second a_numbers a_basis a_table a_weightAbove a_weightBelow a_rowAbove a_rowBelow a_left a_madeAbove a_madeBelow a_freeFirst a_freeSecond a_hangFirst a_hangSecond a_tried a_count p0 p1 p3 p4 v_thrown v_unknowns v_powers v_members v_isThere v_squares v_madeSquares v_frees v_first v_second r_4 _ rfl ho) (cwV 4 hts (ct_goodV k_212 k_210 k_211 k_209 k_208) rfl rfl rfl (by decide +kernel) ⟨Nat.le_of_ble_eq_true rfl, Nat.le_of_ble_eq_true rfl⟩) (ct_preV (wc := [(a_this, .inr (5, [.int v_thrown, .int v_unknowns, .int v_powers, .ref a_first, .ref a_second, .ref a_numbers, .int v_members, .ref a_basis, .ref a_table, .int v_isThere, .int v_squares, .ref a_weightAbove, .ref a_weightBelow, .ref a_rowAbove, .ref a_rowBelow, .ref a_left, .int v_madeSquares, .ref a_madeAbove, .ref a_madeBelow, .int v_frees, .ref a_freeFirst, .ref a_freeSecond, .ref a_hangFirst, .ref a_hangSecond, .ref a_tried, .ref a_count])), (a_first, .inl (cI, 15, .inl v_first)), (a_second, .inl (cI, 15, .inl v_second))]) hP hD hK hS hA hT [0, 1, 2] rfl (by decide) (ci := 5) (q0 := 0) rfl rfl) rfl rfl hl.1 rfl (lv_room (Nat.le_of_ble_eq_true rfl)) d_Mo_covers_48 ⟨Nat.zero_le _, Nat.zero_le _⟩) hP hD hS hA [0, 1, 2] [] rfl rfl (by decide) (by decide) [0, 1, 2] rfl (by decide) (fun H locs hP hD hS => ?_)
        refine lv_istore (lv' := [(6, .int r_4), (0, .ref a_this), (1, .int p0), (2, .int p1), (3, .int p2), (4, .int p3), (5, .int p4)]) hx hb d_Mo_covers_51 hl (by decide) rfl (fun ls hl => ?_)
        refine lv_aload_n hx hb d_Mo_covers_53 rfl (lv_at hl 1 rfl) ?_
        refine lv_iload_n hx hb d_Mo_covers_54 rfl (lv_at hl 3 rfl) ?_
        refine lv_iload_n hx hb d_Mo_covers_55 rfl (lv_at hl 4 rfl) ?_
        refine lv_iload hx hb d_Mo_covers_56 (lv_at hl 5 rfl) ?_
        refine lv_iload hx hb d_Mo_covers_58 (lv_at hl 6 rfl) ?_
        obtain ⟨r_5, ho, h⟩ := Option.bind_eq_some_iff.mp h
        refine ct_calli (wc := [(a_this, .inr (5, [.int v_thrown, .int v_unknowns, .int v_powers, .ref a_first, .ref a_second, .ref a_numbers, .int v_members, .ref a_basis, .ref a_table, .int v_isThere, .int v_squares, .ref a_weightAbove, .ref a_weightBelow, .ref a_rowAbove, .ref a_rowBelow, .ref a_left, .int v_madeSquares, .ref a_madeAbove, .ref a_madeBelow, .int v_frees, .ref a_freeFirst, .ref a_freeSecond, .ref a_hangFirst, .ref a_hangSecond, .ref a_tried, .ref a_count])), (a_first, .inl (cI, 15, .inl v_first)), (a_second, .inl (cI, 15, .inl v_second))]) (wr := []) (wc' := [(a_this, .inr (5, [.int v_thrown, .int v_unknowns, .int v_powers, .ref a_first, .ref a_second, .ref a_numbers, .int v_members, .ref a_basis, .ref a_table, .int v_isThere, .int v_squares, .ref a_weightAbove, .ref a_weightBelow, .ref a_rowAbove, .ref a_rowBelow, .ref a_left, .int v_madeSquares, .ref a_madeAbove, .ref a_madeBelow, .int v_frees, .ref a_freeFirst, .ref a_freeSecond, .ref a_hangFirst, .ref a_hangSecond, .ref a_tried, .ref a_count])), (a_first, .inl (cI, 15, .inl v_first)), (a_second, .inl (cI, 15, .inl v_second))]) (ws' := [(a_this, .inr (5, [.int v_thrown, .int v_unknowns, .int v_powers, .ref a_first, .ref a_second, .ref a_numbers, .int v_members, .ref a_basis, .ref a_table, .int v_isThere, .int v_squares, .ref a_weightAbove, .ref a_weightBelow, .ref a_rowAbove, .ref a_rowBelow, .ref a_left, .int v_madeSquares, .ref a_madeAbove, .ref a_madeBelow, .int v_frees, .ref a_freeFirst, .ref a_freeSecond, .ref a_hangFirst, .ref a_hangSecond, .ref a_tried, .ref a_count])), (a_first, .inl (cI, 15, .inl v_first)), (a_second, .inl (cI, 15, .inl v_second))]) (va_runV (As := [.int p1, .int p2, .int p3, .int p4]) (rest := []) ⟨hx, hb, hml, hown, hts⟩ (c_Mo_area l D cI cL cZ tA tB H.size a_this a_first a_second a_numbers a_basis a_table a_weightAbove a_weightBelow a_rowAbove a_rowBelow a_left a_madeAbove a_madeBelow a_freeFirst a_freeSecond a_hangFirst a_hangSecond a_tried a_count p1 p2 p3 p4 v_thrown v_unknowns v_powers v_members v_isThere v_squares v_madeSquares v_frees v_first v_second r_5 _ rfl ho) (cwV 4 hts (ct_goodV k_212 k_210 k_211 k_209 k_208) rfl rfl rfl (by decide +kernel) ⟨Nat.le_of_ble_eq_true rfl, Nat.le_of_ble_eq_true rfl⟩) (ct_preV (wc := [(a_this, .inr (5, [.int v_thrown, .int v_unknowns, .int v_powers, .ref a_first, .ref a_second, .ref a_numbers, .int v_members, .ref a_basis, .ref a_table, .int v_isThere, .int v_squares, .ref a_weightAbove, .ref a_weightBelow, .ref a_rowAbove, .ref a_rowBelow, .ref a_left, .int v_madeSquares, .ref a_madeAbove, .ref a_madeBelow, .int v_frees, .ref a_freeFirst, .ref a_freeSecond, .ref a_hangFirst, .ref a_hangSecond, .ref a_tried, .ref a_count])), (a_first, .inl (cI, 15, .inl v_first)), (a_second, .inl (cI, 15, .inl v_second))]) hP hD hK hS hA hT [0, 1, 2] rfl (by decide) (ci := 5) (q0 := 0) rfl rfl) rfl rfl hl.1 rfl (lv_room (Nat.le_of_ble_eq_true rfl)) d_Mo_covers_60 ⟨Nat.zero_le _, Nat.zero_le _⟩) hP hD hS hA [0, 1, 2] [] rfl rfl (by decide) (by decide) [0, 1, 2] rfl (by decide) (fun H locs hP hD hS => ?_)
        refine lv_istore (lv' := [(7, .int r_5), (6, .int r_4), (0, .ref a_this), (1, .int p0), (2, .int p1), (3, .int p2), (4, .int p3), (5, .int p4)]) hx hb d_Mo_covers_63 hl (by decide) rfl (fun ls hl => ?_)
        refine lv_aload_n hx hb d_Mo_covers_65 rfl (lv_at hl 2 rfl) ?_
        refine lv_iload_n hx hb d_Mo_covers_66 rfl (lv_at hl 5 rfl) ?_
        refine lv_iload_n hx hb d_Mo_covers_67 rfl (lv_at hl 3 rfl) ?_
        refine lv_iload hx hb d_Mo_covers_68 (lv_at hl 6 rfl) ?_
        refine lv_iload hx hb d_Mo_covers_70 (lv_at hl 7 rfl) ?_
        obtain ⟨r_6, ho, h⟩ := Option.bind_eq_some_iff.mp h
        refine ct_calli (wc := [(a_this, .inr (5, [.int v_thrown, .int v_unknowns, .int v_powers, .ref a_first, .ref a_second, .ref a_numbers, .int v_members, .ref a_basis, .ref a_table, .int v_isThere, .int v_squares, .ref a_weightAbove, .ref a_weightBelow, .ref a_rowAbove, .ref a_rowBelow, .ref a_left, .int v_madeSquares, .ref a_madeAbove, .ref a_madeBelow, .int v_frees, .ref a_freeFirst, .ref a_freeSecond, .ref a_hangFirst, .ref a_hangSecond, .ref a_tried, .ref a_count])), (a_first, .inl (cI, 15, .inl v_first)), (a_second, .inl (cI, 15, .inl v_second))]) (wr := []) (wc' := [(a_this, .inr (5, [.int v_thrown, .int v_unknowns, .int v_powers, .ref a_first, .ref a_second, .ref a_numbers, .int v_members, .ref a_basis, .ref a_table, .int v_isThere, .int v_squares, .ref a_weightAbove, .ref a_weightBelow, .ref a_rowAbove, .ref a_rowBelow, .ref a_left, .int v_madeSquares, .ref a_madeAbove, .ref a_madeBelow, .int v_frees, .ref a_freeFirst, .ref a_freeSecond, .ref a_hangFirst, .ref a_hangSecond, .ref a_tried, .ref a_count])), (a_first, .inl (cI, 15, .inl v_first)), (a_second, .inl (cI, 15, .inl v_second))]) (ws' := [(a_this, .inr (5, [.int v_thrown, .int v_unknowns, .int v_powers, .ref a_first, .ref a_second, .ref a_numbers, .int v_members, .ref a_basis, .ref a_table, .int v_isThere, .int v_squares, .ref a_weightAbove, .ref a_weightBelow, .ref a_rowAbove, .ref a_rowBelow, .ref a_left, .int v_madeSquares, .ref a_madeAbove, .ref a_madeBelow, .int v_frees, .ref a_freeFirst, .ref a_freeSecond, .ref a_hangFirst, .ref a_hangSecond, .ref a_tried, .ref a_count])), (a_first, .inl (cI, 15, .inl v_first)), (a_second, .inl (cI, 15, .inl v_second))]) (va_runV (As := [.int p2, .int p0, .int p3, .int p4]) (rest := []) ⟨hx, hb, hml, hown, hts⟩ (c_Mo_area l D cI cL cZ tA tB H.size a_this a_first a_second a_numbers a_basis a_table a_weightAbove a_weightBelow a_rowAbove a_rowBelow a_left a_madeAbove a_madeBelow a_freeFirst a_freeSecond a_hangFirst a_hangSecond a_tried a_count p2 p0 p3 p4 v_thrown v_unknowns v_powers v_members v_isThere v_squares v_madeSquares v_frees v_first v_second r_6 _ rfl ho) (cwV 4 hts (ct_goodV k_212 k_210 k_211 k_209 k_208) rfl rfl rfl (by decide +kernel) ⟨Nat.le_of_ble_eq_true rfl, Nat.le_of_ble_eq_true rfl⟩) (ct_preV (wc := [(a_this, .inr (5, [.int v_thrown, .int v_unknowns, .int v_powers, .ref a_first, .ref a_second, .ref a_numbers, .int v_members, .ref a_basis, .ref a_table, .int v_isThere, .int v_squares, .ref a_weightAbove, .ref a_weightBelow, .ref a_rowAbove, .ref a_rowBelow, .ref a_left, .int v_madeSquares, .ref a_madeAbove, .ref a_madeBelow, .int v_frees, .ref a_freeFirst, .ref a_freeSecond, .ref a_hangFirst, .ref a_hangSecond, .ref a_tried, .ref a_count])), (a_first, .inl (cI, 15, .inl v_first)), (a_second, .inl (cI, 15, .inl v_second))]) hP hD hK hS hA hT [0, 1, 2] rfl (by decide) (ci := 5) (q0 := 0) rfl rfl) rfl rfl hl.1 rfl (lv_room (Nat.le_of_ble_eq_true rfl)) d_Mo_covers_72 ⟨Nat.zero_le _, Nat.zero_le _⟩) hP hD hS hA [0, 1, 2] [] rfl rfl (by decide) (by decide) [0, 1, 2] rfl (by decide) (fun H locs hP hD hS => ?_)
        refine lv_istore (lv' := [(8, .int r_6), (7, .int r_5), (6, .int r_4), (0, .ref a_this), (1, .int p0), (2, .int p1), (3, .int p2), (4, .int p3), (5, .int p4)]) hx hb d_Mo_covers_75 hl (by decide) rfl (fun ls hl => ?_)
        refine lv_iload hx hb d_Mo_covers_77 (lv_at hl 2 rfl) ?_
        refine lv_if_le (tgt := 92) hx hb d_Mo_covers_79 (by decide) (fun hc => ?_) (fun hc => ?_)
        · rw [if_pos hc] at h
          refine lv_iload hx hb d_Mo_covers_92 (lv_at hl 2 rfl) ?_
          refine lv_if_ge (tgt := 111) hx hb d_Mo_covers_94 (by decide) (fun hc => ?_) (fun hc => ?_)
          · rw [if_pos hc] at h
            refine lv_iconst (v := 0) hx hb d_Mo_covers_111 (by decide) ?_
            cases h
            exact W.zret hx hb hr rfl (fun t ht hW => ⟨⟨_, (), rfl, rfl, by rw [ht]; exact hP, hD⟩, hS.F ht⟩) hS.2.2 d_Mo_covers_112
          · rw [if_neg hc] at h
            refine lv_iload hx hb d_Mo_covers_97 (lv_at hl 1 rfl) ?_
            refine lv_if_ge (tgt := 111) hx hb d_Mo_covers_99 (by decide) (fun hc => ?_) (fun hc => ?_)
            · rw [if_pos hc] at h
              refine lv_iconst (v := 0) hx hb d_Mo_covers_111 (by decide) ?_
              cases h
              exact W.zret hx hb hr rfl (fun t ht hW => ⟨⟨_, (), rfl, rfl, by rw [ht]; exact hP, hD⟩, hS.F ht⟩) hS.2.2 d_Mo_covers_112
            · rw [if_neg hc] at h
              refine lv_iload hx hb d_Mo_covers_102 (lv_at hl 0 rfl) ?_
              refine lv_if_ge (tgt := 111) hx hb d_Mo_covers_104 (by decide) (fun hc => ?_) (fun hc => ?_)
              · rw [if_pos hc] at h
                refine lv_iconst (v := 0) hx hb d_Mo_covers_111 (by decide) ?_
                cases h
                exact W.zret hx hb hr rfl (fun t ht hW => ⟨⟨_, (), rfl, rfl, by rw [ht]; exact hP, hD⟩, hS.F ht⟩) hS.2.2 d_Mo_covers_112
              · rw [if_neg hc] at h
                refine lv_iconst (v := 1) hx hb d_Mo_covers_107 (by decide) ?_
                refine lv_goto (tgt := 112) hx hb d_Mo_covers_108 (by decide) ?_
                cases h
                exact W.zret hx hb hr rfl (fun t ht hW => ⟨⟨_, (), rfl, rfl, by rw [ht]; exact hP, hD⟩, hS.F ht⟩) hS.2.2 d_Mo_covers_112
        · rw [if_neg hc] at h
          refine lv_iload hx hb d_Mo_covers_82 (lv_at hl 1 rfl) ?_
          refine lv_if_le (tgt := 92) hx hb d_Mo_covers_84 (by decide) (fun hc => ?_) (fun hc => ?_)
          · rw [if_pos hc] at h
            refine lv_iload hx hb d_Mo_covers_92 (lv_at hl 2 rfl) ?_
            refine lv_if_ge (tgt := 111) hx hb d_Mo_covers_94 (by decide) (fun hc => ?_) (fun hc => ?_)
            · rw [if_pos hc] at h
              refine lv_iconst (v := 0) hx hb d_Mo_covers_111 (by decide) ?_
              cases h
              exact W.zret hx hb hr rfl (fun t ht hW => ⟨⟨_, (), rfl, rfl, by rw [ht]; exact hP, hD⟩, hS.F ht⟩) hS.2.2 d_Mo_covers_112
            · rw [if_neg hc] at h
              refine lv_iload hx hb d_Mo_covers_97 (lv_at hl 1 rfl) ?_
              refine lv_if_ge (tgt := 111) hx hb d_Mo_covers_99 (by decide) (fun hc => ?_) (fun hc => ?_)
              · rw [if_pos hc] at h
                refine lv_iconst (v := 0) hx hb d_Mo_covers_111 (by decide) ?_
                cases h
                exact W.zret hx hb hr rfl (fun t ht hW => ⟨⟨_, (), rfl, rfl, by rw [ht]; exact hP, hD⟩, hS.F ht⟩) hS.2.2 d_Mo_covers_112
              · rw [if_neg hc] at h
                refine lv_iload hx hb d_Mo_covers_102 (lv_at hl 0 rfl) ?_
                refine lv_if_ge (tgt := 111) hx hb d_Mo_covers_104 (by decide) (fun hc => ?_) (fun hc => ?_)
                · rw [if_pos hc] at h
                  refine lv_iconst (v := 0) hx hb d_Mo_covers_111 (by decide) ?_
                  cases h
                  exact W.zret hx hb hr rfl (fun t ht hW => ⟨⟨_, (), rfl, rfl, by rw [ht]; exact hP, hD⟩, hS.F ht⟩) hS.2.2 d_Mo_covers_112
                · rw [if_neg hc] at h
                  refine lv_iconst (v := 1) hx hb d_Mo_covers_107 (by decide) ?_
                  refine lv_goto (tgt := 112) hx hb d_Mo_covers_108 (by decide) ?_
                  cases h
                  exact W.zret hx hb hr rfl (fun t ht hW => ⟨⟨_, (), rfl, rfl, by rw [ht]; exact hP, hD⟩, hS.F ht⟩) hS.2.2 d_Mo_covers_112
          · rw [if_neg hc] at h
            refine lv_iload hx hb d_Mo_covers_87 (lv_at hl 0 rfl) ?_
            refine lv_if_gt (tgt := 107) hx hb d_Mo_covers_89 (by decide) (fun hc => ?_) (fun hc => ?_)
            · rw [if_pos hc] at h
              refine lv_iconst (v := 1) hx hb d_Mo_covers_107 (by decide) ?_
              refine lv_goto (tgt := 112) hx hb d_Mo_covers_108 (by decide) ?_
              cases h
              exact W.zret hx hb hr rfl (fun t ht hW => ⟨⟨_, (), rfl, rfl, by rw [ht]; exact hP, hD⟩, hS.F ht⟩) hS.2.2 d_Mo_covers_112
            · rw [if_neg hc] at h
              refine lv_iload hx hb d_Mo_covers_92 (lv_at hl 2 rfl) ?_
              refine lv_if_ge (tgt := 111) hx hb d_Mo_covers_94 (by decide) (fun hc => ?_) (fun hc => ?_)
              · rw [if_pos hc] at h
                refine lv_iconst (v := 0) hx hb d_Mo_covers_111 (by decide) ?_
                cases h
                exact W.zret hx hb hr rfl (fun t ht hW => ⟨⟨_, (), rfl, rfl, by rw [ht]; exact hP, hD⟩, hS.F ht⟩) hS.2.2 d_Mo_covers_112
              · rw [if_neg hc] at h
                refine lv_iload hx hb d_Mo_covers_97 (lv_at hl 1 rfl) ?_
                refine lv_if_ge (tgt := 111) hx hb d_Mo_covers_99 (by decide) (fun hc => ?_) (fun hc => ?_)
                · rw [if_pos hc] at h
                  refine lv_iconst (v := 0) hx hb d_Mo_covers_111 (by decide) ?_
                  cases h
                  exact W.zret hx hb hr rfl (fun t ht hW => ⟨⟨_, (), rfl, rfl, by rw [ht]; exact hP, hD⟩, hS.F ht⟩) hS.2.2 d_Mo_covers_112
                · rw [if_neg hc] at h
                  refine lv_iload hx hb d_Mo_covers_102 (lv_at hl 0 rfl) ?_
                  refine lv_if_ge (tgt := 111) hx hb d_Mo_covers_104 (by decide) (fun hc => ?_) (fun hc => ?_)
                  · rw [if_pos hc] at h
                    refine lv_iconst (v := 0) hx hb d_Mo_covers_111 (by decide) ?_
                    cases h
                    exact W.zret hx hb hr rfl (fun t ht hW => ⟨⟨_, (), rfl, rfl, by rw [ht]; exact hP, hD⟩, hS.F ht⟩) hS.2.2 d_Mo_covers_112
                  · rw [if_neg hc] at h
                    refine lv_iconst (v := 1) hx hb d_Mo_covers_107 (by decide) ?_
                    refine lv_goto (tgt := 112) hx hb d_Mo_covers_108 (by decide) ?_
                    cases h
                    exact W.zret hx hb hr rfl (fun t ht hW => ⟨⟨_, (), rfl, rfl, by rw [ht]; exact hP, hD⟩, hS.F ht⟩) hS.2.2 d_Mo_covers_112
      · rw [if_neg hc] at h
        refine lv_iconst (v := 1) hx hb d_Mo_covers_39 (by decide) ?_
        cases h
        exact W.zret hx hb hr rfl (fun t ht hW => ⟨⟨_, (), rfl, rfl, by rw [ht]; exact hP, hD⟩, hS.F ht⟩) hS.2.2 d_Mo_covers_40
set_option maxHeartbeats 4000000 in
set_option maxRecDepth 100000 in
theorem c_Mo_covers (l : Launch) (D : va_G) (cI cL cZ : ClassId) (tA tB sz : Nat) (a_this a_first a_second a_numbers a_basis a_table a_weightAbove a_weightBelow a_rowAbove a_rowBelow a_left a_madeAbove a_madeBelow a_freeFirst a_freeSecond a_hangFirst a_hangSecond a_tried a_count : Nat) (p0 : Int32) (p1 : Int32) (p2 : Int32) (p3 : Int32) (p4 : Int32) (v_thrown : Int32) (v_unknowns : Int32) (v_powers : Int32) (v_members : Int32) (v_isThere : Int32) (v_squares : Int32) (v_madeSquares : Int32) (v_frees : Int32) (v_first : Nat → Int32) (v_second : Nat → Int32) (o_r : Int32) (A : Nat → Prop) (hAe : A = va_A [(a_this, .inr (5, [.int v_thrown, .int v_unknowns, .int v_powers, .ref a_first, .ref a_second, .ref a_numbers, .int v_members, .ref a_basis, .ref a_table, .int v_isThere, .int v_squares, .ref a_weightAbove, .ref a_weightBelow, .ref a_rowAbove, .ref a_rowBelow, .ref a_left, .int v_madeSquares, .ref a_madeAbove, .ref a_madeBelow, .int v_frees, .ref a_freeFirst, .ref a_freeSecond, .ref a_hangFirst, .ref a_hangSecond, .ref a_tried, .ref a_count])), (a_first, .inl (cI, 15, .inl v_first)), (a_second, .inl (cI, 15, .inl v_second))] sz) (h : f_Mo_covers p0 p1 p2 p3 p4 v_first v_second = some o_r) : Met l y_Mo_covers wd_Mo_covers rm_Mo_covers (ct_Pre D (ct_tys cI cL cZ) tA tB [(a_this, .inr (5, [.int v_thrown, .int v_unknowns, .int v_powers, .ref a_first, .ref a_second, .ref a_numbers, .int v_members, .ref a_basis, .ref a_table, .int v_isThere, .int v_squares, .ref a_weightAbove, .ref a_weightBelow, .ref a_rowAbove, .ref a_rowBelow, .ref a_left, .int v_madeSquares, .ref a_madeAbove, .ref a_madeBelow, .int v_frees, .ref a_freeFirst, .ref a_freeSecond, .ref a_hangFirst, .ref a_hangSecond, .ref a_tried, .ref a_count])), (a_first, .inl (cI, 15, .inl v_first)), (a_second, .inl (cI, 15, .inl v_second))] sz [.ref a_this, .int p0, .int p1, .int p2, .int p3, .int p4]) (ct_Qi D [(a_this, .inr (5, [.int v_thrown, .int v_unknowns, .int v_powers, .ref a_first, .ref a_second, .ref a_numbers, .int v_members, .ref a_basis, .ref a_table, .int v_isThere, .int v_squares, .ref a_weightAbove, .ref a_weightBelow, .ref a_rowAbove, .ref a_rowBelow, .ref a_left, .int v_madeSquares, .ref a_madeAbove, .ref a_madeBelow, .int v_frees, .ref a_freeFirst, .ref a_freeSecond, .ref a_hangFirst, .ref a_hangSecond, .ref a_tried, .ref a_count])), (a_first, .inl (cI, 15, .inl v_first)), (a_second, .inl (cI, 15, .inl v_second))] A o_r) 0 0 A := by
  refine Met.ofW (cc := b_Mo_covers) (maxL := 9) (ret := (some .boolean)) (by decide) rfl ?_
  intro p e s m args below meth c s₁ B hml hv
  obtain ⟨hargs, hsz, hP, hK, hD0, hT⟩ := hv
  subst hsz
  have hD := hD0.self (sz := s.heap.size)
  rw [← hAe] at hD hT
  have hA : ∀ q : Nat, s.heap.size ≤ q → A q := fun q h => by rw [hAe]; exact Or.inr h
  clear hAe
  have cx : ct_Cx p s m args meth c b_Mo_covers 9 (some .boolean) R_Mo wd_Mo_covers D (ct_tys cI cL cZ) tA tB A := ⟨B.exec, B.bytes, B.returns, hml, findClass_of_methodNamed B.named, atoms_spec (ws := wd_Mo_covers) B.pre, hK, hA, hT, B.notSynchronized, hT.1, hT.2.1, hT.2.2.1, hT.2.2.2.1, hT.2.2.2.2⟩
  have hl := lv_entry ([.ref a_this, .int p0, .int p1, .int p2, .int p3, .int p4]) (n := 9) (Nat.le_of_ble_eq_true rfl)
  rw [show entryFrame m args 9 = entryFrame m ([.ref a_this, .int p0, .int p1, .int p2, .int p3, .int p4] : List Value).toArray 9 by rw [hargs], lg_entry_eq]
  exact w_Mo_covers cx h _ _ hP hD va_S.rf _ hl
